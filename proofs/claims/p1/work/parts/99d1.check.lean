/-! the check, 1 -/
theorem ck_2 : zck dc_1 [] 2 0 2048 = true := by decide +kernel
theorem ck_6 : zck dc_2 [] 6 0 2048 = true := by decide +kernel
theorem ck_17 : zck dc_3 [] 17 0 2048 = true := by decide +kernel
theorem ck_23 : zck dc_5 [] 23 0 2048 = true := by decide +kernel
theorem ck_27 : zck dc_7 [] 27 0 2048 = true := by decide +kernel
theorem ck_30 : zck dc_7 [] 30 0 2048 = true := by decide +kernel
theorem ck_32 : zck dc_9 [] 32 0 2048 = true := by decide +kernel
theorem ck_36 : zck dc_10 [(14, 2)] 36 0 2048 = true := by decide +kernel
theorem ck_39 : zck dc_10 [] 39 0 2048 = true := by decide +kernel
theorem ck_41 : zck dc_10 [(11, 0)] 41 0 2048 = true := by decide +kernel
theorem ck_43 : zck dc_10 [] 43 0 2048 = true := by decide +kernel
theorem ck_46 : zck dc_10 [(11, 0)] 46 0 2048 = true := by decide +kernel
theorem ck_49 : zck dc_10 [(13, 0)] 49 0 2048 = true := by decide +kernel
theorem ck_52 : zck dc_10 [] 52 0 2048 = true := by decide +kernel
theorem ck_54 : zck dc_10 [(11, 0)] 54 0 2048 = true := by decide +kernel
theorem ck_56 : zck dc_10 [(4, 0)] 56 0 2048 = true := by decide +kernel
theorem ck_58 : zck dc_11 [] 58 0 2048 = true := by decide +kernel
theorem ck_64 : zck dc_11 [] 64 0 2048 = true := by decide +kernel
theorem ck_66 : zck dc_11 [] 66 0 2048 = true := by decide +kernel
theorem ck_73 : zck dc_11 [] 73 0 2048 = true := by decide +kernel
theorem ck_76 : zck dc_11 [] 76 0 2048 = true := by decide +kernel
theorem ck_78 : zck dc_11 [] 78 0 2048 = true := by decide +kernel
theorem ck_92 : zck dc_12 [] 92 0 2048 = true := by decide +kernel
theorem ck_94 : zck dc_12 [] 94 0 2048 = true := by decide +kernel
