/-! the check, 6 -/
theorem w2_213_0 : wc2 dc_12 [] [] 213 0 177 = true := by decide +kernel
theorem w2_213_1 : wc2 dc_12 [] [] 213 177 246 = true := by decide +kernel
theorem w2_213_2 : wc2 dc_12 [] [] 213 246 314 = true := by decide +kernel
theorem w2_213_3 : wc2 dc_12 [] [] 213 314 384 = true := by decide +kernel
theorem w2_213_4 : wc2 dc_12 [] [] 213 384 451 = true := by decide +kernel
