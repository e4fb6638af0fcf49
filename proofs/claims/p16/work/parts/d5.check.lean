/-! the check, 5 -/
theorem w2_5 : wc2 dc_3 [] [] 5 0 2048 = true := by decide +kernel
theorem w2_7 : wc2 dc_7 [] [] 7 0 2048 = true := by decide +kernel
theorem w2_16 : wc2 dc_1 [] [] 16 0 2048 = true := by decide +kernel
theorem w2_22 : wc2 dc_7 [] [] 22 0 2048 = true := by decide +kernel
theorem w2_28 : wc2 dc_8 [] [] 28 0 2048 = true := by decide +kernel
theorem w2_35 : wc2 dc_5 [] [] 35 0 2048 = true := by decide +kernel
theorem w2_38 : wc2 dc_7 [] [] 38 0 2048 = true := by decide +kernel
theorem w2_49 : wc2 dc_7 [] [] 49 0 2048 = true := by decide +kernel
theorem w2_58 : wc2 dc_2 [] [] 58 0 2048 = true := by decide +kernel
theorem w2_60 : wc2 dc_10 [(11, 0), (31, 0)] [] 60 0 2048 = true := by decide +kernel
theorem w2_65 : wc2 dc_8 [] [] 65 0 2048 = true := by decide +kernel
theorem w2_67 : wc2 dc_13 [] [] 67 0 2048 = true := by decide +kernel
theorem w2_69 : wc2 dc_10 [] [] 69 0 2048 = true := by decide +kernel
theorem w2_77 : wc2 dc_2 [] [] 77 0 2048 = true := by decide +kernel
theorem w2_82 : wc2 dc_2 [] [] 82 0 2048 = true := by decide +kernel
theorem w2_88 : wc2 dc_10 [] [] 88 0 2048 = true := by decide +kernel
theorem w2_89 : wc2 dc_10 [(7, 1), (25, 2)] [] 89 0 2048 = true := by decide +kernel
theorem w2_92 : wc2 dc_9 [] [] 92 0 2048 = true := by decide +kernel
theorem w2_101 : wc2 dc_5 [] [] 101 0 2048 = true := by decide +kernel
theorem w2_106 : wc2 dc_9 [] [] 106 0 2048 = true := by decide +kernel
theorem w2_112 : wc2 dc_4 [] [] 112 0 2048 = true := by decide +kernel
theorem w2_117 : wc2 dc_10 [(11, 2)] [] 117 0 2048 = true := by decide +kernel
theorem w2_124 : wc2 dc_11 [] [] 124 0 2048 = true := by decide +kernel
theorem w2_128 : wc2 dc_11 [] [] 128 0 2048 = true := by decide +kernel
theorem w2_132 : wc2 dc_11 [] [] 132 0 2048 = true := by decide +kernel
theorem w2_142 : wc2 dc_11 [] [] 142 0 2048 = true := by decide +kernel
theorem w2_145 : wc2 dc_11 [] [] 145 0 2048 = true := by decide +kernel
theorem w2_148 : wc2 dc_11 [] [] 148 0 2048 = true := by decide +kernel
theorem w2_152 : wc2 dc_11 [] [] 152 0 2048 = true := by decide +kernel
theorem w2_155 : wc2 dc_11 [] [] 155 0 2048 = true := by decide +kernel
theorem w2_158 : wc2 dc_11 [] [] 158 0 2048 = true := by decide +kernel
theorem w2_172 : wc2 dc_11 [] [] 172 0 2048 = true := by decide +kernel
theorem w2_177 : wc2 dc_11 [] [] 177 0 2048 = true := by decide +kernel
theorem w2_189 : wc2 dc_11 [] [] 189 0 2048 = true := by decide +kernel
theorem w2_197 : wc2 dc_12 [] [] 197 0 2048 = true := by decide +kernel
theorem w2_200 : wc2 dc_12 [] [] 200 0 2048 = true := by decide +kernel
