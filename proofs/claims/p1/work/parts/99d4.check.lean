/-! the check, 4 -/
theorem ck_0_0 : zck dc_12 [] 0 0 164 = true := by decide +kernel
theorem ck_0_1 : zck dc_12 [] 0 164 253 = true := by decide +kernel
theorem ck_0_2 : zck dc_12 [] 0 253 319 = true := by decide +kernel
theorem ck_0_3 : zck dc_12 [] 0 319 404 = true := by decide +kernel
theorem ck_0_4 : zck dc_12 [] 0 404 470 = true := by decide +kernel
