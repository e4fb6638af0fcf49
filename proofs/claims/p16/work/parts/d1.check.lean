/-! the check, 1 -/
theorem w2_1 : wc2 dc_10 [] [] 1 0 2048 = true := by decide +kernel
theorem w2_11 : wc2 dc_7 [] [(35, 76), (40, 76), (43, 75)] 11 0 2048 = true := by decide +kernel
theorem w2_21 : wc2 dc_7 [] [] 21 0 2048 = true := by decide +kernel
theorem w2_24 : wc2 dc_7 [] [] 24 0 2048 = true := by decide +kernel
theorem w2_25 : wc2 dc_7 [] [(7, 75)] 25 0 2048 = true := by decide +kernel
theorem w2_29 : wc2 dc_7 [] [] 29 0 2048 = true := by decide +kernel
theorem w2_34 : wc2 dc_7 [] [(33, 76)] 34 0 2048 = true := by decide +kernel
theorem w2_44 : wc2 dc_7 [] [] 44 0 2048 = true := by decide +kernel
theorem w2_47 : wc2 dc_4 [] [] 47 0 2048 = true := by decide +kernel
theorem w2_52 : wc2 dc_7 [] [] 52 0 2048 = true := by decide +kernel
theorem w2_55 : wc2 dc_7 [] [(6, 76), (9, 76), (14, 75)] 55 0 2048 = true := by decide +kernel
theorem w2_63 : wc2 dc_13 [] [] 63 0 2048 = true := by decide +kernel
theorem w2_64 : wc2 dc_13 [] [] 64 0 2048 = true := by decide +kernel
theorem w2_66 : wc2 dc_8 [] [] 66 0 2048 = true := by decide +kernel
theorem w2_85 : wc2 dc_10 [(11, 0), (28, 1), (57, 2), (78, 2)] [] 85 0 2048 = true := by decide +kernel
theorem w2_98 : wc2 dc_1 [] [] 98 0 2048 = true := by decide +kernel
theorem w2_100 : wc2 dc_5 [] [] 100 0 2048 = true := by decide +kernel
theorem w2_105 : wc2 dc_9 [] [] 105 0 2048 = true := by decide +kernel
theorem w2_111 : wc2 dc_6 [] [] 111 0 2048 = true := by decide +kernel
theorem w2_116 : wc2 dc_10 [(11, 0), (25, 0)] [] 116 0 2048 = true := by decide +kernel
theorem w2_119 : wc2 dc_11 [] [] 119 0 2048 = true := by decide +kernel
theorem w2_120 : wc2 dc_11 [] [] 120 0 2048 = true := by decide +kernel
theorem w2_125 : wc2 dc_11 [] [] 125 0 2048 = true := by decide +kernel
theorem w2_127 : wc2 dc_11 [] [] 127 0 2048 = true := by decide +kernel
theorem w2_135 : wc2 dc_11 [] [] 135 0 2048 = true := by decide +kernel
theorem w2_137 : wc2 dc_11 [] [] 137 0 2048 = true := by decide +kernel
theorem w2_146 : wc2 dc_11 [] [] 146 0 2048 = true := by decide +kernel
theorem w2_154 : wc2 dc_11 [] [] 154 0 2048 = true := by decide +kernel
theorem w2_161 : wc2 dc_11 [] [] 161 0 2048 = true := by decide +kernel
theorem w2_168 : wc2 dc_11 [] [] 168 0 2048 = true := by decide +kernel
theorem w2_175 : wc2 dc_11 [] [] 175 0 2048 = true := by decide +kernel
theorem w2_186 : wc2 dc_11 [] [] 186 0 2048 = true := by decide +kernel
theorem w2_188 : wc2 dc_11 [] [] 188 0 2048 = true := by decide +kernel
