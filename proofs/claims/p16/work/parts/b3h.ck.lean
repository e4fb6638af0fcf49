theorem ck_141_0 : tck 141 cT_141_0 cK_141_0 = true := by decide +kernel
theorem ck_142_0 : tck 142 cT_142_0 cK_142_0 = true := by decide +kernel
