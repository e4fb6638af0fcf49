/-! the check, 3 -/
theorem ck_4 : zck dc_1 [] 4 0 2048 = true := by decide +kernel
theorem ck_8 : zck dc_2 [] 8 0 2048 = true := by decide +kernel
theorem ck_13 : zck dc_2 [] 13 0 2048 = true := by decide +kernel
theorem ck_16 : zck dc_2 [] 16 0 2048 = true := by decide +kernel
theorem ck_21 : zck dc_4 [] 21 0 2048 = true := by decide +kernel
theorem ck_24 : zck dc_6 [] 24 0 2048 = true := by decide +kernel
theorem ck_29 : zck dc_7 [] 29 0 2048 = true := by decide +kernel
theorem ck_31 : zck dc_8 [] 31 0 2048 = true := by decide +kernel
theorem ck_33 : zck dc_9 [] 33 0 2048 = true := by decide +kernel
theorem ck_48 : zck dc_10 [(11, 0)] 48 0 2048 = true := by decide +kernel
theorem ck_50 : zck dc_10 [] 50 0 2048 = true := by decide +kernel
theorem ck_55 : zck dc_10 [] 55 0 2048 = true := by decide +kernel
theorem ck_59 : zck dc_11 [] 59 0 2048 = true := by decide +kernel
theorem ck_61 : zck dc_11 [] 61 0 2048 = true := by decide +kernel
theorem ck_62 : zck dc_11 [] 62 0 2048 = true := by decide +kernel
theorem ck_65 : zck dc_11 [] 65 0 2048 = true := by decide +kernel
theorem ck_68 : zck dc_11 [] 68 0 2048 = true := by decide +kernel
theorem ck_71 : zck dc_11 [] 71 0 2048 = true := by decide +kernel
theorem ck_75 : zck dc_11 [] 75 0 2048 = true := by decide +kernel
theorem ck_81 : zck dc_11 [] 81 0 2048 = true := by decide +kernel
theorem ck_83 : zck dc_11 [] 83 0 2048 = true := by decide +kernel
theorem ck_84 : zck dc_11 [] 84 0 2048 = true := by decide +kernel
theorem ck_87 : zck dc_12 [] 87 0 2048 = true := by decide +kernel
theorem ck_88 : zck dc_12 [] 88 0 2048 = true := by decide +kernel
theorem ck_90 : zck dc_12 [] 90 0 2048 = true := by decide +kernel
theorem ck_93 : zck dc_12 [] 93 0 2048 = true := by decide +kernel
