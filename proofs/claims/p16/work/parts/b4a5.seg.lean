theorem ck14_2 : aseg (fun q => achk (astp tM tsb (tcl 213) cT_213_0.2.1 213) (zn (tz cT_213_0.1)) cT_213_0.2.2 cK_213_0 (some ckk_1.2.2.1) q.1 false q.2) col14 24 12 = true := by decide +kernel
