/-! the check, 6 -/
theorem w2_212_0 : wc2 dc_12 [] [] 212 0 177 = true := by decide +kernel
theorem w2_212_1 : wc2 dc_12 [] [] 212 177 246 = true := by decide +kernel
theorem w2_212_2 : wc2 dc_12 [] [] 212 246 314 = true := by decide +kernel
theorem w2_212_3 : wc2 dc_12 [] [] 212 314 384 = true := by decide +kernel
theorem w2_212_4 : wc2 dc_12 [] [] 212 384 451 = true := by decide +kernel
