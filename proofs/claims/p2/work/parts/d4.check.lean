/-! the check, 4 -/
theorem w2_4 : wc2 dc_3 [] [] 4 0 2048 = true := by decide +kernel
theorem w2_6 : wc2 dc_3 [] [] 6 0 2048 = true := by decide +kernel
theorem w2_17 : wc2 dc_5 [] [(23, 74)] 17 0 2048 = true := by decide +kernel
theorem w2_23 : wc2 dc_7 [] [] 23 0 2048 = true := by decide +kernel
theorem w2_39 : wc2 dc_6 [] [] 39 0 2048 = true := by decide +kernel
theorem w2_43 : wc2 dc_6 [] [] 43 0 2048 = true := by decide +kernel
theorem w2_50 : wc2 dc_7 [] [] 50 0 2048 = true := by decide +kernel
theorem w2_56 : wc2 dc_7 [] [] 56 0 2048 = true := by decide +kernel
theorem w2_70 : wc2 dc_10 [] [] 70 0 2048 = true := by decide +kernel
theorem w2_71 : wc2 dc_10 [] [] 71 0 2048 = true := by decide +kernel
theorem w2_76 : wc2 dc_2 [] [] 76 0 2048 = true := by decide +kernel
theorem w2_80 : wc2 dc_2 [] [] 80 0 2048 = true := by decide +kernel
theorem w2_84 : wc2 dc_10 [(11, 0), (28, 1), (47, 2)] [] 84 0 2048 = true := by decide +kernel
theorem w2_91 : wc2 dc_13 [] [] 91 0 2048 = true := by decide +kernel
theorem w2_94 : wc2 dc_9 [] [] 94 0 2048 = true := by decide +kernel
theorem w2_96 : wc2 dc_9 [] [] 96 0 2048 = true := by decide +kernel
theorem w2_103 : wc2 dc_9 [] [] 103 0 2048 = true := by decide +kernel
theorem w2_114 : wc2 dc_2 [] [] 114 0 2048 = true := by decide +kernel
theorem w2_119 : wc2 dc_11 [] [] 119 0 2048 = true := by decide +kernel
theorem w2_124 : wc2 dc_11 [] [] 124 0 2048 = true := by decide +kernel
theorem w2_127 : wc2 dc_11 [] [] 127 0 2048 = true := by decide +kernel
theorem w2_132 : wc2 dc_11 [] [] 132 0 2048 = true := by decide +kernel
theorem w2_137 : wc2 dc_11 [] [] 137 0 2048 = true := by decide +kernel
theorem w2_146 : wc2 dc_11 [] [] 146 0 2048 = true := by decide +kernel
theorem w2_152 : wc2 dc_11 [] [] 152 0 2048 = true := by decide +kernel
theorem w2_161 : wc2 dc_11 [] [] 161 0 2048 = true := by decide +kernel
theorem w2_169 : wc2 dc_11 [] [] 169 0 2048 = true := by decide +kernel
theorem w2_172 : wc2 dc_11 [] [] 172 0 2048 = true := by decide +kernel
theorem w2_179 : wc2 dc_11 [] [] 179 0 2048 = true := by decide +kernel
theorem w2_184 : wc2 dc_11 [] [] 184 0 2048 = true := by decide +kernel
theorem w2_186 : wc2 dc_11 [] [] 186 0 2048 = true := by decide +kernel
