/-! the check, 7 -/
theorem w2_212_5 : wc2 dc_12 [] [] 212 451 517 = true := by decide +kernel
theorem w2_212_6 : wc2 dc_12 [] [] 212 517 585 = true := by decide +kernel
theorem w2_212_7 : wc2 dc_12 [] [] 212 585 655 = true := by decide +kernel
theorem w2_212_8 : wc2 dc_12 [] [] 212 655 725 = true := by decide +kernel
