noncomputable def ckk_1 : aK := match anth cK_213_0 1 with
  | some k => k
  | none => (0, cT_213_0.1, [], (0, []))
theorem ckl_1 : achk (astp tM tsb (tcl 213) cT_213_0.2.1 213) (zn (tz cT_213_0.1)) cT_213_0.2.2 cK_213_0 (some ckk_1.2.2.1) 400 true (ckk_1.1, tlv ckk_1.2.1, tst ckk_1.2.1, tz ckk_1.2.1, ckk_1.2.2.2, []) = true := by decide +kernel
