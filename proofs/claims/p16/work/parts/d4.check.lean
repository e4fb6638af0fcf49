/-! the check, 4 -/
theorem w2_4 : wc2 dc_3 [] [] 4 0 2048 = true := by decide +kernel
theorem w2_6 : wc2 dc_3 [] [] 6 0 2048 = true := by decide +kernel
theorem w2_17 : wc2 dc_5 [] [(23, 74)] 17 0 2048 = true := by decide +kernel
theorem w2_23 : wc2 dc_7 [] [] 23 0 2048 = true := by decide +kernel
theorem w2_39 : wc2 dc_6 [] [] 39 0 2048 = true := by decide +kernel
theorem w2_43 : wc2 dc_6 [] [] 43 0 2048 = true := by decide +kernel
theorem w2_50 : wc2 dc_7 [] [] 50 0 2048 = true := by decide +kernel
theorem w2_56 : wc2 dc_7 [] [] 56 0 2048 = true := by decide +kernel
theorem w2_70 : wc2 dc_10 [] [] 70 0 2048 = true := by decide +kernel
theorem w2_71 : wc2 dc_10 [] [] 71 0 2048 = true := by decide +kernel
theorem w2_76 : wc2 dc_2 [] [] 76 0 2048 = true := by decide +kernel
theorem w2_80 : wc2 dc_2 [] [] 80 0 2048 = true := by decide +kernel
theorem w2_84 : wc2 dc_10 [(11, 0), (28, 1), (47, 2)] [] 84 0 2048 = true := by decide +kernel
theorem w2_91 : wc2 dc_13 [] [] 91 0 2048 = true := by decide +kernel
theorem w2_94 : wc2 dc_9 [] [] 94 0 2048 = true := by decide +kernel
theorem w2_96 : wc2 dc_9 [] [] 96 0 2048 = true := by decide +kernel
theorem w2_102 : wc2 dc_9 [] [] 102 0 2048 = true := by decide +kernel
theorem w2_107 : wc2 dc_9 [] [] 107 0 2048 = true := by decide +kernel
theorem w2_122 : wc2 dc_11 [] [] 122 0 2048 = true := by decide +kernel
theorem w2_130 : wc2 dc_11 [] [] 130 0 2048 = true := by decide +kernel
theorem w2_134 : wc2 dc_11 [] [] 134 0 2048 = true := by decide +kernel
theorem w2_138 : wc2 dc_11 [] [] 138 0 2048 = true := by decide +kernel
theorem w2_147 : wc2 dc_11 [] [] 147 0 2048 = true := by decide +kernel
theorem w2_153 : wc2 dc_11 [] [] 153 0 2048 = true := by decide +kernel
theorem w2_162 : wc2 dc_11 [] [] 162 0 2048 = true := by decide +kernel
theorem w2_170 : wc2 dc_11 [] [] 170 0 2048 = true := by decide +kernel
theorem w2_173 : wc2 dc_11 [] [] 173 0 2048 = true := by decide +kernel
theorem w2_180 : wc2 dc_11 [] [] 180 0 2048 = true := by decide +kernel
theorem w2_185 : wc2 dc_11 [] [] 185 0 2048 = true := by decide +kernel
theorem w2_187 : wc2 dc_11 [] [] 187 0 2048 = true := by decide +kernel
