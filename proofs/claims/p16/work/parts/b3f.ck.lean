theorem ck_138_0 : tck 138 cT_138_0 cK_138_0 = true := by decide +kernel
theorem ck_139_0 : tck 139 cT_139_0 cK_139_0 = true := by decide +kernel
theorem ck_140_0 : tck 140 cT_140_0 cK_140_0 = true := by decide +kernel
