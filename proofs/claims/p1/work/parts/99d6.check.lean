/-! the check, 6 -/
theorem ck_0_10 : zck dc_12 [] 0 862 932 = true := by decide +kernel
theorem ck_0_11 : zck dc_12 [] 0 932 999 = true := by decide +kernel
theorem ck_0_12 : zck dc_12 [] 0 999 1108 = true := by decide +kernel
theorem ck_0_13 : zck dc_12 [] 0 1108 1174 = true := by decide +kernel
theorem ck_0_14 : zck dc_12 [] 0 1174 1273 = true := by decide +kernel
