/-! the check, 7 -/
theorem w2_213_5 : wc2 dc_12 [] [] 213 451 517 = true := by decide +kernel
theorem w2_213_6 : wc2 dc_12 [] [] 213 517 585 = true := by decide +kernel
theorem w2_213_7 : wc2 dc_12 [] [] 213 585 655 = true := by decide +kernel
theorem w2_213_8 : wc2 dc_12 [] [] 213 655 725 = true := by decide +kernel
