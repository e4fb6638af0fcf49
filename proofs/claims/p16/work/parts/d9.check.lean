/-! the check, 9 -/
theorem w2_213_13 : wc2 dc_12 [] [] 213 1007 1086 = true := by decide +kernel
theorem w2_213_14 : wc2 dc_12 [] [] 213 1086 1153 = true := by decide +kernel
theorem w2_213_15 : wc2 dc_12 [] [] 213 1153 1219 = true := by decide +kernel
theorem w2_213_16 : wc2 dc_12 [] [] 213 1219 2048 = true := by decide +kernel
