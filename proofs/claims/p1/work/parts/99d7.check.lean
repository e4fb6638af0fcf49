/-! the check, 7 -/
theorem ck_0_15 : zck dc_12 [] 0 1273 1383 = true := by decide +kernel
theorem ck_0_16 : zck dc_12 [] 0 1383 1470 = true := by decide +kernel
theorem ck_0_17 : zck dc_12 [] 0 1470 1537 = true := by decide +kernel
theorem ck_0_18 : zck dc_12 [] 0 1537 2048 = true := by decide +kernel
