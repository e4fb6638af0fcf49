theorem ck_140_1 : tck 140 cT_140_1 cK_140_1 = true := by decide +kernel
theorem ck_140_2 : tck 140 cT_140_2 cK_140_2 = true := by decide +kernel
theorem ck_140_3 : tck 140 cT_140_3 cK_140_3 = true := by decide +kernel
