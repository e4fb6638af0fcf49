/-! the check, 9 -/
theorem w2_212_13 : wc2 dc_12 [] [] 212 1007 1086 = true := by decide +kernel
theorem w2_212_14 : wc2 dc_12 [] [] 212 1086 1153 = true := by decide +kernel
theorem w2_212_15 : wc2 dc_12 [] [] 212 1153 1219 = true := by decide +kernel
theorem w2_212_16 : wc2 dc_12 [] [] 212 1219 2048 = true := by decide +kernel
