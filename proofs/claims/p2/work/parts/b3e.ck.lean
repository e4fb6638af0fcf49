theorem ck_138_0 : tck 138 cT_138_0 cK_138_0 = true := by decide +kernel
theorem ck_139_0 : tck 139 cT_139_0 cK_139_0 = true := by decide +kernel
theorem ck_139_1 : tck 139 cT_139_1 cK_139_1 = true := by decide +kernel
theorem ck_139_2 : tck 139 cT_139_2 cK_139_2 = true := by decide +kernel
theorem ck_139_3 : tck 139 cT_139_3 cK_139_3 = true := by decide +kernel
theorem ck_140_0 : tck 140 cT_140_0 cK_140_0 = true := by decide +kernel
theorem ck_141_0 : tck 141 cT_141_0 cK_141_0 = true := by decide +kernel
