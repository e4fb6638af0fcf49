/-! the check, 5 -/
theorem ck_0_5 : zck dc_12 [] 0 470 549 = true := by decide +kernel
theorem ck_0_6 : zck dc_12 [] 0 549 625 = true := by decide +kernel
theorem ck_0_7 : zck dc_12 [] 0 625 695 = true := by decide +kernel
theorem ck_0_8 : zck dc_12 [] 0 695 763 = true := by decide +kernel
theorem ck_0_9 : zck dc_12 [] 0 763 862 = true := by decide +kernel
