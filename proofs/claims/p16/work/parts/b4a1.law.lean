noncomputable def ckk_0 : aK := match anth cK_213_0 0 with
  | some k => k
  | none => (0, cT_213_0.1, [], (0, []))
theorem ckl_0 : achk (astp tM tsb (tcl 213) cT_213_0.2.1 213) (zn (tz cT_213_0.1)) cT_213_0.2.2 cK_213_0 (some ckk_0.2.2.1) 400 true (ckk_0.1, tlv ckk_0.2.1, tst ckk_0.2.1, tz ckk_0.2.1, ckk_0.2.2.2, []) = true := by decide +kernel
