/-! the check, 0 -/
theorem ck_1 : zck dc_0 [] 1 0 2048 = true := by decide +kernel
theorem ck_5 : zck dc_1 [] 5 0 2048 = true := by decide +kernel
theorem ck_9 : zck dc_2 [] 9 0 2048 = true := by decide +kernel
theorem ck_12 : zck dc_2 [] 12 0 2048 = true := by decide +kernel
theorem ck_14 : zck dc_2 [] 14 0 2048 = true := by decide +kernel
theorem ck_20 : zck dc_3 [] 20 0 2048 = true := by decide +kernel
theorem ck_26 : zck dc_7 [] 26 0 2048 = true := by decide +kernel
theorem ck_34 : zck dc_9 [] 34 0 2048 = true := by decide +kernel
theorem ck_37 : zck dc_10 [(11, 0)] 37 0 2048 = true := by decide +kernel
theorem ck_38 : zck dc_10 [] 38 0 2048 = true := by decide +kernel
theorem ck_45 : zck dc_10 [] 45 0 2048 = true := by decide +kernel
theorem ck_51 : zck dc_10 [] 51 0 2048 = true := by decide +kernel
theorem ck_57 : zck dc_11 [] 57 0 2048 = true := by decide +kernel
theorem ck_63 : zck dc_11 [] 63 0 2048 = true := by decide +kernel
theorem ck_69 : zck dc_11 [] 69 0 2048 = true := by decide +kernel
theorem ck_72 : zck dc_11 [] 72 0 2048 = true := by decide +kernel
theorem ck_85 : zck dc_11 [] 85 0 2048 = true := by decide +kernel
theorem ck_95 : zck dc_12 [] 95 0 2048 = true := by decide +kernel
