/-! the check, 8 -/
theorem w2_213_9 : wc2 dc_12 [] [] 213 725 795 = true := by decide +kernel
theorem w2_213_10 : wc2 dc_12 [] [] 213 795 863 = true := by decide +kernel
theorem w2_213_11 : wc2 dc_12 [] [] 213 863 941 = true := by decide +kernel
theorem w2_213_12 : wc2 dc_12 [] [] 213 941 1007 = true := by decide +kernel
