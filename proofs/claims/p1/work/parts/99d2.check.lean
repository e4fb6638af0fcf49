/-! the check, 2 -/
theorem ck_3 : zck dc_1 [] 3 0 2048 = true := by decide +kernel
theorem ck_7 : zck dc_2 [] 7 0 2048 = true := by decide +kernel
theorem ck_10 : zck dc_2 [] 10 0 2048 = true := by decide +kernel
theorem ck_11 : zck dc_2 [] 11 0 2048 = true := by decide +kernel
theorem ck_15 : zck dc_2 [] 15 0 2048 = true := by decide +kernel
theorem ck_18 : zck dc_3 [] 18 0 2048 = true := by decide +kernel
theorem ck_19 : zck dc_3 [] 19 0 2048 = true := by decide +kernel
theorem ck_22 : zck dc_4 [] 22 0 2048 = true := by decide +kernel
theorem ck_25 : zck dc_6 [] 25 0 2048 = true := by decide +kernel
theorem ck_28 : zck dc_7 [] 28 0 2048 = true := by decide +kernel
theorem ck_35 : zck dc_10 [] 35 0 2048 = true := by decide +kernel
theorem ck_40 : zck dc_10 [(7, 1)] 40 0 2048 = true := by decide +kernel
theorem ck_42 : zck dc_10 [] 42 0 2048 = true := by decide +kernel
theorem ck_44 : zck dc_10 [] 44 0 2048 = true := by decide +kernel
theorem ck_47 : zck dc_10 [(32, 0), (64, 1)] 47 0 2048 = true := by decide +kernel
theorem ck_53 : zck dc_10 [(11, 2)] 53 0 2048 = true := by decide +kernel
theorem ck_60 : zck dc_11 [] 60 0 2048 = true := by decide +kernel
theorem ck_67 : zck dc_11 [] 67 0 2048 = true := by decide +kernel
theorem ck_70 : zck dc_11 [] 70 0 2048 = true := by decide +kernel
theorem ck_74 : zck dc_11 [] 74 0 2048 = true := by decide +kernel
theorem ck_77 : zck dc_11 [] 77 0 2048 = true := by decide +kernel
theorem ck_79 : zck dc_11 [] 79 0 2048 = true := by decide +kernel
theorem ck_80 : zck dc_11 [] 80 0 2048 = true := by decide +kernel
theorem ck_82 : zck dc_11 [] 82 0 2048 = true := by decide +kernel
theorem ck_86 : zck dc_12 [] 86 0 2048 = true := by decide +kernel
theorem ck_89 : zck dc_12 [] 89 0 2048 = true := by decide +kernel
theorem ck_91 : zck dc_12 [] 91 0 2048 = true := by decide +kernel
theorem ck_96 : zck dc_12 [] 96 0 2048 = true := by decide +kernel
