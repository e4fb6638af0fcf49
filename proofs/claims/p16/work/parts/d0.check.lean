/-! the check, 0 -/
theorem w2_0 : wc2 dc_7 [] [] 0 0 2048 = true := by decide +kernel
theorem w2_9 : wc2 dc_7 [] [] 9 0 2048 = true := by decide +kernel
theorem w2_14 : wc2 dc_7 [] [] 14 0 2048 = true := by decide +kernel
theorem w2_19 : wc2 dc_3 [] [] 19 0 2048 = true := by decide +kernel
theorem w2_37 : wc2 dc_1 [] [] 37 0 2048 = true := by decide +kernel
theorem w2_40 : wc2 dc_4 [] [] 40 0 2048 = true := by decide +kernel
theorem w2_46 : wc2 dc_6 [] [] 46 0 2048 = true := by decide +kernel
theorem w2_51 : wc2 dc_7 [] [] 51 0 2048 = true := by decide +kernel
theorem w2_54 : wc2 dc_2 [] [] 54 0 2048 = true := by decide +kernel
theorem w2_59 : wc2 dc_3 [] [] 59 0 2048 = true := by decide +kernel
theorem w2_68 : wc2 dc_10 [] [] 68 0 2048 = true := by decide +kernel
theorem w2_75 : wc2 dc_2 [] [] 75 0 2048 = true := by decide +kernel
theorem w2_87 : wc2 dc_10 [] [] 87 0 2048 = true := by decide +kernel
theorem w2_95 : wc2 dc_9 [] [] 95 0 2048 = true := by decide +kernel
theorem w2_109 : wc2 dc_8 [] [] 109 0 2048 = true := by decide +kernel
theorem w2_113 : wc2 dc_2 [] [] 113 0 2048 = true := by decide +kernel
theorem w2_129 : wc2 dc_11 [] [] 129 0 2048 = true := by decide +kernel
theorem w2_131 : wc2 dc_11 [] [] 131 0 2048 = true := by decide +kernel
theorem w2_136 : wc2 dc_11 [] [] 136 0 2048 = true := by decide +kernel
theorem w2_140 : wc2 dc_11 [] [] 140 0 2048 = true := by decide +kernel
theorem w2_143 : wc2 dc_11 [] [] 143 0 2048 = true := by decide +kernel
theorem w2_156 : wc2 dc_11 [] [] 156 0 2048 = true := by decide +kernel
theorem w2_164 : wc2 dc_11 [] [] 164 0 2048 = true := by decide +kernel
theorem w2_176 : wc2 dc_11 [] [] 176 0 2048 = true := by decide +kernel
theorem w2_178 : wc2 dc_11 [] [] 178 0 2048 = true := by decide +kernel
theorem w2_196 : wc2 dc_12 [] [] 196 0 2048 = true := by decide +kernel
theorem w2_199 : wc2 dc_12 [] [] 199 0 2048 = true := by decide +kernel
theorem w1_201 : wc1 dc_10 201 = true := by decide +kernel
theorem w1_202 : wc1 dc_11 202 = true := by decide +kernel
theorem w1_203 : wc1 dc_0 203 = true := by decide +kernel
theorem w1_204 : wc1 dc_1 204 = true := by decide +kernel
theorem w1_205 : wc1 dc_2 205 = true := by decide +kernel
theorem w1_206 : wc1 dc_3 206 = true := by decide +kernel
theorem w1_207 : wc1 dc_4 207 = true := by decide +kernel
theorem w1_208 : wc1 dc_5 208 = true := by decide +kernel
theorem w1_209 : wc1 dc_6 209 = true := by decide +kernel
theorem w1_210 : wc1 dc_7 210 = true := by decide +kernel
theorem w1_211 : wc1 dc_8 211 = true := by decide +kernel
theorem w1_212 : wc1 dc_9 212 = true := by decide +kernel
