/-! the check, 3 -/
theorem w2_3 : wc2 dc_1 [] [] 3 0 2048 = true := by decide +kernel
theorem w2_8 : wc2 dc_7 [] [] 8 0 2048 = true := by decide +kernel
theorem w2_12 : wc2 dc_7 [] [] 12 0 2048 = true := by decide +kernel
theorem w2_13 : wc2 dc_7 [] [] 13 0 2048 = true := by decide +kernel
theorem w2_20 : wc2 dc_2 [] [] 20 0 2048 = true := by decide +kernel
theorem w2_26 : wc2 dc_10 [] [] 26 0 2048 = true := by decide +kernel
theorem w2_31 : wc2 dc_2 [] [] 31 0 2048 = true := by decide +kernel
theorem w2_33 : wc2 dc_7 [] [] 33 0 2048 = true := by decide +kernel
theorem w2_42 : wc2 dc_6 [] [] 42 0 2048 = true := by decide +kernel
theorem w2_48 : wc2 dc_2 [] [] 48 0 2048 = true := by decide +kernel
theorem w2_53 : wc2 dc_2 [] [] 53 0 2048 = true := by decide +kernel
theorem w2_57 : wc2 dc_10 [] [] 57 0 2048 = true := by decide +kernel
theorem w2_73 : wc2 dc_2 [] [] 73 0 2048 = true := by decide +kernel
theorem w2_74 : wc2 dc_4 [] [] 74 0 2048 = true := by decide +kernel
theorem w2_78 : wc2 dc_10 [] [] 78 0 2048 = true := by decide +kernel
theorem w2_79 : wc2 dc_10 [(13, 0)] [] 79 0 2048 = true := by decide +kernel
theorem w2_81 : wc2 dc_10 [(14, 2)] [] 81 0 2048 = true := by decide +kernel
theorem w2_86 : wc2 dc_10 [] [] 86 0 2048 = true := by decide +kernel
theorem w2_90 : wc2 dc_9 [] [] 90 0 2048 = true := by decide +kernel
theorem w2_93 : wc2 dc_9 [] [] 93 0 2048 = true := by decide +kernel
theorem w2_99 : wc2 dc_9 [] [] 99 0 2048 = true := by decide +kernel
theorem w2_104 : wc2 dc_9 [] [] 104 0 2048 = true := by decide +kernel
theorem w2_108 : wc2 dc_10 [(4, 0)] [] 108 0 2048 = true := by decide +kernel
theorem w2_110 : wc2 dc_3 [] [] 110 0 2048 = true := by decide +kernel
theorem w2_115 : wc2 dc_10 [(11, 0)] [] 115 0 2048 = true := by decide +kernel
theorem w2_118 : wc2 dc_10 [] [] 118 0 2048 = true := by decide +kernel
theorem w2_123 : wc2 dc_11 [] [] 123 0 2048 = true := by decide +kernel
theorem w2_126 : wc2 dc_11 [] [] 126 0 2048 = true := by decide +kernel
theorem w2_144 : wc2 dc_11 [] [] 144 0 2048 = true := by decide +kernel
theorem w2_149 : wc2 dc_11 [] [] 149 0 2048 = true := by decide +kernel
theorem w2_151 : wc2 dc_11 [] [] 151 0 2048 = true := by decide +kernel
theorem w2_157 : wc2 dc_11 [] [] 157 0 2048 = true := by decide +kernel
theorem w2_163 : wc2 dc_11 [] [] 163 0 2048 = true := by decide +kernel
theorem w2_167 : wc2 dc_11 [] [] 167 0 2048 = true := by decide +kernel
theorem w2_171 : wc2 dc_11 [] [] 171 0 2048 = true := by decide +kernel
theorem w2_179 : wc2 dc_11 [] [] 179 0 2048 = true := by decide +kernel
theorem w2_181 : wc2 dc_11 [] [] 181 0 2048 = true := by decide +kernel
theorem w2_182 : wc2 dc_11 [] [] 182 0 2048 = true := by decide +kernel
theorem w2_183 : wc2 dc_11 [] [] 183 0 2048 = true := by decide +kernel
theorem w2_193 : wc2 dc_12 [] [] 193 0 2048 = true := by decide +kernel
theorem w2_195 : wc2 dc_12 [] [] 195 0 2048 = true := by decide +kernel
