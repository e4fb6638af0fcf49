theorem ck_law : amck tM tsb (tcl 212) 212 cT_212_0 cK_212_0 400 23 (.ofNat 999, []) = true := by decide +kernel
