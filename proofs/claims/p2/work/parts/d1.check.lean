/-! the check, 1 -/
theorem w2_1 : wc2 dc_10 [] [] 1 0 2048 = true := by decide +kernel
theorem w2_11 : wc2 dc_7 [] [(35, 76), (40, 76), (43, 75)] 11 0 2048 = true := by decide +kernel
theorem w2_21 : wc2 dc_7 [] [] 21 0 2048 = true := by decide +kernel
theorem w2_24 : wc2 dc_7 [] [] 24 0 2048 = true := by decide +kernel
theorem w2_25 : wc2 dc_7 [] [(7, 75)] 25 0 2048 = true := by decide +kernel
theorem w2_29 : wc2 dc_7 [] [] 29 0 2048 = true := by decide +kernel
theorem w2_34 : wc2 dc_7 [] [(33, 76)] 34 0 2048 = true := by decide +kernel
theorem w2_44 : wc2 dc_7 [] [] 44 0 2048 = true := by decide +kernel
theorem w2_47 : wc2 dc_4 [] [] 47 0 2048 = true := by decide +kernel
theorem w2_52 : wc2 dc_7 [] [] 52 0 2048 = true := by decide +kernel
theorem w2_55 : wc2 dc_7 [] [(6, 76), (9, 76), (14, 75)] 55 0 2048 = true := by decide +kernel
theorem w2_63 : wc2 dc_13 [] [] 63 0 2048 = true := by decide +kernel
theorem w2_64 : wc2 dc_13 [] [] 64 0 2048 = true := by decide +kernel
theorem w2_66 : wc2 dc_8 [] [] 66 0 2048 = true := by decide +kernel
theorem w2_85 : wc2 dc_10 [(11, 0), (28, 1), (57, 2), (78, 2)] [] 85 0 2048 = true := by decide +kernel
theorem w2_98 : wc2 dc_1 [] [] 98 0 2048 = true := by decide +kernel
theorem w2_100 : wc2 dc_5 [] [] 100 0 2048 = true := by decide +kernel
theorem w2_105 : wc2 dc_9 [] [] 105 0 2048 = true := by decide +kernel
theorem w2_111 : wc2 dc_6 [] [] 111 0 2048 = true := by decide +kernel
theorem w2_116 : wc2 dc_10 [(11, 0), (25, 0)] [] 116 0 2048 = true := by decide +kernel
theorem w2_120 : wc2 dc_11 [] [] 120 0 2048 = true := by decide +kernel
theorem w2_133 : wc2 dc_11 [] [] 133 0 2048 = true := by decide +kernel
theorem w2_138 : wc2 dc_11 [] [] 138 0 2048 = true := by decide +kernel
theorem w2_140 : wc2 dc_11 [] [] 140 0 2048 = true := by decide +kernel
theorem w2_149 : wc2 dc_11 [] [] 149 0 2048 = true := by decide +kernel
theorem w2_158 : wc2 dc_11 [] [] 158 0 2048 = true := by decide +kernel
theorem w2_159 : wc2 dc_11 [] [] 159 0 2048 = true := by decide +kernel
theorem w2_164 : wc2 dc_11 [] [] 164 0 2048 = true := by decide +kernel
theorem w2_165 : wc2 dc_11 [] [] 165 0 2048 = true := by decide +kernel
theorem w2_168 : wc2 dc_11 [] [] 168 0 2048 = true := by decide +kernel
theorem w2_173 : wc2 dc_11 [] [] 173 0 2048 = true := by decide +kernel
theorem w2_183 : wc2 dc_11 [] [] 183 0 2048 = true := by decide +kernel
theorem w2_189 : wc2 dc_12 [] [] 189 0 2048 = true := by decide +kernel
theorem w2_190 : wc2 dc_12 [] [] 190 0 2048 = true := by decide +kernel
theorem w2_191 : wc2 dc_12 [] [] 191 0 2048 = true := by decide +kernel
theorem w2_193 : wc2 dc_12 [] [] 193 0 2048 = true := by decide +kernel
theorem w2_197 : wc2 dc_12 [] [] 197 0 2048 = true := by decide +kernel
