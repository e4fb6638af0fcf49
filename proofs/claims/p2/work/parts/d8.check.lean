/-! the check, 8 -/
theorem w2_212_9 : wc2 dc_12 [] [] 212 725 795 = true := by decide +kernel
theorem w2_212_10 : wc2 dc_12 [] [] 212 795 863 = true := by decide +kernel
theorem w2_212_11 : wc2 dc_12 [] [] 212 863 941 = true := by decide +kernel
theorem w2_212_12 : wc2 dc_12 [] [] 212 941 1007 = true := by decide +kernel
