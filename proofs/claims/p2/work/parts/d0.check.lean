/-! the check, 0 -/
theorem w2_0 : wc2 dc_7 [] [] 0 0 2048 = true := by decide +kernel
theorem w2_9 : wc2 dc_7 [] [] 9 0 2048 = true := by decide +kernel
theorem w2_14 : wc2 dc_7 [] [] 14 0 2048 = true := by decide +kernel
theorem w2_19 : wc2 dc_3 [] [] 19 0 2048 = true := by decide +kernel
theorem w2_37 : wc2 dc_1 [] [] 37 0 2048 = true := by decide +kernel
theorem w2_40 : wc2 dc_4 [] [] 40 0 2048 = true := by decide +kernel
theorem w2_46 : wc2 dc_6 [] [] 46 0 2048 = true := by decide +kernel
theorem w2_51 : wc2 dc_7 [] [] 51 0 2048 = true := by decide +kernel
theorem w2_54 : wc2 dc_2 [] [] 54 0 2048 = true := by decide +kernel
theorem w2_59 : wc2 dc_3 [] [] 59 0 2048 = true := by decide +kernel
theorem w2_68 : wc2 dc_10 [] [] 68 0 2048 = true := by decide +kernel
theorem w2_75 : wc2 dc_2 [] [] 75 0 2048 = true := by decide +kernel
theorem w2_87 : wc2 dc_10 [] [] 87 0 2048 = true := by decide +kernel
theorem w2_95 : wc2 dc_9 [] [] 95 0 2048 = true := by decide +kernel
theorem w2_109 : wc2 dc_8 [] [] 109 0 2048 = true := by decide +kernel
theorem w2_113 : wc2 dc_2 [] [] 113 0 2048 = true := by decide +kernel
theorem w2_128 : wc2 dc_11 [] [] 128 0 2048 = true := by decide +kernel
theorem w2_130 : wc2 dc_11 [] [] 130 0 2048 = true := by decide +kernel
theorem w2_135 : wc2 dc_11 [] [] 135 0 2048 = true := by decide +kernel
theorem w2_139 : wc2 dc_11 [] [] 139 0 2048 = true := by decide +kernel
theorem w2_142 : wc2 dc_11 [] [] 142 0 2048 = true := by decide +kernel
theorem w2_155 : wc2 dc_11 [] [] 155 0 2048 = true := by decide +kernel
theorem w2_163 : wc2 dc_11 [] [] 163 0 2048 = true := by decide +kernel
theorem w2_175 : wc2 dc_11 [] [] 175 0 2048 = true := by decide +kernel
theorem w2_177 : wc2 dc_11 [] [] 177 0 2048 = true := by decide +kernel
theorem w2_195 : wc2 dc_12 [] [] 195 0 2048 = true := by decide +kernel
theorem w2_198 : wc2 dc_12 [] [] 198 0 2048 = true := by decide +kernel
theorem w1_200 : wc1 dc_10 200 = true := by decide +kernel
theorem w1_201 : wc1 dc_11 201 = true := by decide +kernel
theorem w1_202 : wc1 dc_0 202 = true := by decide +kernel
theorem w1_203 : wc1 dc_1 203 = true := by decide +kernel
theorem w1_204 : wc1 dc_2 204 = true := by decide +kernel
theorem w1_205 : wc1 dc_3 205 = true := by decide +kernel
theorem w1_206 : wc1 dc_4 206 = true := by decide +kernel
theorem w1_207 : wc1 dc_5 207 = true := by decide +kernel
theorem w1_208 : wc1 dc_6 208 = true := by decide +kernel
theorem w1_209 : wc1 dc_7 209 = true := by decide +kernel
theorem w1_210 : wc1 dc_8 210 = true := by decide +kernel
theorem w1_211 : wc1 dc_9 211 = true := by decide +kernel
