theorem ck_132_0 : tck 132 cT_132_0 cK_132_0 = true := by decide +kernel
theorem ck_133_0 : tck 133 cT_133_0 cK_133_0 = true := by decide +kernel
theorem ck_134_0 : tck 134 cT_134_0 cK_134_0 = true := by decide +kernel
theorem ck_135_0 : tck 135 cT_135_0 cK_135_0 = true := by decide +kernel
theorem ck_136_0 : tck 136 cT_136_0 cK_136_0 = true := by decide +kernel
theorem ck_137_0 : tck 137 cT_137_0 cK_137_0 = true := by decide +kernel
