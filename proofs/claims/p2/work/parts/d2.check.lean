/-! the check, 2 -/
theorem w2_2 : wc2 dc_2 [] [] 2 0 2048 = true := by decide +kernel
theorem w2_10 : wc2 dc_7 [] [] 10 0 2048 = true := by decide +kernel
theorem w2_15 : wc2 dc_2 [] [] 15 0 2048 = true := by decide +kernel
theorem w2_18 : wc2 dc_8 [] [(23, 74), (41, 74)] 18 0 2048 = true := by decide +kernel
theorem w2_27 : wc2 dc_10 [] [] 27 0 2048 = true := by decide +kernel
theorem w2_30 : wc2 dc_2 [] [] 30 0 2048 = true := by decide +kernel
theorem w2_32 : wc2 dc_2 [] [] 32 0 2048 = true := by decide +kernel
theorem w2_36 : wc2 dc_7 [] [] 36 0 2048 = true := by decide +kernel
theorem w2_41 : wc2 dc_10 [] [] 41 0 2048 = true := by decide +kernel
theorem w2_45 : wc2 dc_7 [] [(0, 76), (3, 76), (8, 75)] 45 0 2048 = true := by decide +kernel
theorem w2_61 : wc2 dc_13 [] [] 61 0 2048 = true := by decide +kernel
theorem w2_62 : wc2 dc_8 [] [] 62 0 2048 = true := by decide +kernel
theorem w2_72 : wc2 dc_3 [] [] 72 0 2048 = true := by decide +kernel
theorem w2_83 : wc2 dc_10 [(32, 0), (64, 1), (82, 2)] [] 83 0 2048 = true := by decide +kernel
theorem w2_97 : wc2 dc_1 [] [] 97 0 2048 = true := by decide +kernel
theorem w2_104 : wc2 dc_9 [] [] 104 0 2048 = true := by decide +kernel
theorem w2_108 : wc2 dc_10 [(4, 0)] [] 108 0 2048 = true := by decide +kernel
theorem w2_110 : wc2 dc_3 [] [] 110 0 2048 = true := by decide +kernel
theorem w2_115 : wc2 dc_10 [(11, 0)] [] 115 0 2048 = true := by decide +kernel
theorem w2_118 : wc2 dc_10 [] [] 118 0 2048 = true := by decide +kernel
theorem w2_122 : wc2 dc_11 [] [] 122 0 2048 = true := by decide +kernel
theorem w2_125 : wc2 dc_11 [] [] 125 0 2048 = true := by decide +kernel
theorem w2_143 : wc2 dc_11 [] [] 143 0 2048 = true := by decide +kernel
theorem w2_148 : wc2 dc_11 [] [] 148 0 2048 = true := by decide +kernel
theorem w2_150 : wc2 dc_11 [] [] 150 0 2048 = true := by decide +kernel
theorem w2_156 : wc2 dc_11 [] [] 156 0 2048 = true := by decide +kernel
theorem w2_162 : wc2 dc_11 [] [] 162 0 2048 = true := by decide +kernel
theorem w2_166 : wc2 dc_11 [] [] 166 0 2048 = true := by decide +kernel
theorem w2_170 : wc2 dc_11 [] [] 170 0 2048 = true := by decide +kernel
theorem w2_178 : wc2 dc_11 [] [] 178 0 2048 = true := by decide +kernel
theorem w2_180 : wc2 dc_11 [] [] 180 0 2048 = true := by decide +kernel
theorem w2_181 : wc2 dc_11 [] [] 181 0 2048 = true := by decide +kernel
theorem w2_182 : wc2 dc_11 [] [] 182 0 2048 = true := by decide +kernel
theorem w2_192 : wc2 dc_12 [] [] 192 0 2048 = true := by decide +kernel
theorem w2_194 : wc2 dc_12 [] [] 194 0 2048 = true := by decide +kernel
