/-! the check, 2 -/
theorem w2_2 : wc2 dc_2 [] [] 2 0 2048 = true := by decide +kernel
theorem w2_10 : wc2 dc_7 [] [] 10 0 2048 = true := by decide +kernel
theorem w2_15 : wc2 dc_2 [] [] 15 0 2048 = true := by decide +kernel
theorem w2_18 : wc2 dc_8 [] [(23, 74), (41, 74)] 18 0 2048 = true := by decide +kernel
theorem w2_27 : wc2 dc_10 [] [] 27 0 2048 = true := by decide +kernel
theorem w2_30 : wc2 dc_2 [] [] 30 0 2048 = true := by decide +kernel
theorem w2_32 : wc2 dc_2 [] [] 32 0 2048 = true := by decide +kernel
theorem w2_36 : wc2 dc_7 [] [] 36 0 2048 = true := by decide +kernel
theorem w2_41 : wc2 dc_10 [] [] 41 0 2048 = true := by decide +kernel
theorem w2_45 : wc2 dc_7 [] [(0, 76), (3, 76), (8, 75)] 45 0 2048 = true := by decide +kernel
theorem w2_61 : wc2 dc_13 [] [] 61 0 2048 = true := by decide +kernel
theorem w2_62 : wc2 dc_8 [] [] 62 0 2048 = true := by decide +kernel
theorem w2_72 : wc2 dc_3 [] [] 72 0 2048 = true := by decide +kernel
theorem w2_83 : wc2 dc_10 [(32, 0), (64, 1), (82, 2)] [] 83 0 2048 = true := by decide +kernel
theorem w2_97 : wc2 dc_1 [] [] 97 0 2048 = true := by decide +kernel
theorem w2_103 : wc2 dc_9 [] [] 103 0 2048 = true := by decide +kernel
theorem w2_114 : wc2 dc_2 [] [] 114 0 2048 = true := by decide +kernel
theorem w2_121 : wc2 dc_11 [] [] 121 0 2048 = true := by decide +kernel
theorem w2_133 : wc2 dc_11 [] [] 133 0 2048 = true := by decide +kernel
theorem w2_139 : wc2 dc_11 [] [] 139 0 2048 = true := by decide +kernel
theorem w2_141 : wc2 dc_11 [] [] 141 0 2048 = true := by decide +kernel
theorem w2_150 : wc2 dc_11 [] [] 150 0 2048 = true := by decide +kernel
theorem w2_159 : wc2 dc_11 [] [] 159 0 2048 = true := by decide +kernel
theorem w2_160 : wc2 dc_11 [] [] 160 0 2048 = true := by decide +kernel
theorem w2_165 : wc2 dc_11 [] [] 165 0 2048 = true := by decide +kernel
theorem w2_166 : wc2 dc_11 [] [] 166 0 2048 = true := by decide +kernel
theorem w2_169 : wc2 dc_11 [] [] 169 0 2048 = true := by decide +kernel
theorem w2_174 : wc2 dc_11 [] [] 174 0 2048 = true := by decide +kernel
theorem w2_184 : wc2 dc_11 [] [] 184 0 2048 = true := by decide +kernel
theorem w2_190 : wc2 dc_12 [] [] 190 0 2048 = true := by decide +kernel
theorem w2_191 : wc2 dc_12 [] [] 191 0 2048 = true := by decide +kernel
theorem w2_192 : wc2 dc_12 [] [] 192 0 2048 = true := by decide +kernel
theorem w2_194 : wc2 dc_12 [] [] 194 0 2048 = true := by decide +kernel
theorem w2_198 : wc2 dc_12 [] [] 198 0 2048 = true := by decide +kernel
