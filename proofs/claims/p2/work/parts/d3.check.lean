/-! the check, 3 -/
theorem w2_3 : wc2 dc_1 [] [] 3 0 2048 = true := by decide +kernel
theorem w2_8 : wc2 dc_7 [] [] 8 0 2048 = true := by decide +kernel
theorem w2_12 : wc2 dc_7 [] [] 12 0 2048 = true := by decide +kernel
theorem w2_13 : wc2 dc_7 [] [] 13 0 2048 = true := by decide +kernel
theorem w2_20 : wc2 dc_2 [] [] 20 0 2048 = true := by decide +kernel
theorem w2_26 : wc2 dc_10 [] [] 26 0 2048 = true := by decide +kernel
theorem w2_31 : wc2 dc_2 [] [] 31 0 2048 = true := by decide +kernel
theorem w2_33 : wc2 dc_7 [] [] 33 0 2048 = true := by decide +kernel
theorem w2_42 : wc2 dc_6 [] [] 42 0 2048 = true := by decide +kernel
theorem w2_48 : wc2 dc_2 [] [] 48 0 2048 = true := by decide +kernel
theorem w2_53 : wc2 dc_2 [] [] 53 0 2048 = true := by decide +kernel
theorem w2_57 : wc2 dc_10 [] [] 57 0 2048 = true := by decide +kernel
theorem w2_73 : wc2 dc_2 [] [] 73 0 2048 = true := by decide +kernel
theorem w2_74 : wc2 dc_4 [] [] 74 0 2048 = true := by decide +kernel
theorem w2_78 : wc2 dc_10 [] [] 78 0 2048 = true := by decide +kernel
theorem w2_79 : wc2 dc_10 [(13, 0)] [] 79 0 2048 = true := by decide +kernel
theorem w2_81 : wc2 dc_10 [(14, 2)] [] 81 0 2048 = true := by decide +kernel
theorem w2_86 : wc2 dc_10 [] [] 86 0 2048 = true := by decide +kernel
theorem w2_90 : wc2 dc_9 [] [] 90 0 2048 = true := by decide +kernel
theorem w2_93 : wc2 dc_9 [] [] 93 0 2048 = true := by decide +kernel
theorem w2_99 : wc2 dc_5 [] [] 99 0 2048 = true := by decide +kernel
theorem w2_101 : wc2 dc_9 [] [] 101 0 2048 = true := by decide +kernel
theorem w2_107 : wc2 dc_9 [] [] 107 0 2048 = true := by decide +kernel
theorem w2_121 : wc2 dc_11 [] [] 121 0 2048 = true := by decide +kernel
theorem w2_129 : wc2 dc_11 [] [] 129 0 2048 = true := by decide +kernel
theorem w2_131 : wc2 dc_11 [] [] 131 0 2048 = true := by decide +kernel
theorem w2_141 : wc2 dc_11 [] [] 141 0 2048 = true := by decide +kernel
theorem w2_144 : wc2 dc_11 [] [] 144 0 2048 = true := by decide +kernel
theorem w2_147 : wc2 dc_11 [] [] 147 0 2048 = true := by decide +kernel
theorem w2_151 : wc2 dc_11 [] [] 151 0 2048 = true := by decide +kernel
theorem w2_154 : wc2 dc_11 [] [] 154 0 2048 = true := by decide +kernel
theorem w2_157 : wc2 dc_11 [] [] 157 0 2048 = true := by decide +kernel
theorem w2_171 : wc2 dc_11 [] [] 171 0 2048 = true := by decide +kernel
theorem w2_176 : wc2 dc_11 [] [] 176 0 2048 = true := by decide +kernel
theorem w2_188 : wc2 dc_11 [] [] 188 0 2048 = true := by decide +kernel
theorem w2_196 : wc2 dc_12 [] [] 196 0 2048 = true := by decide +kernel
theorem w2_199 : wc2 dc_12 [] [] 199 0 2048 = true := by decide +kernel
