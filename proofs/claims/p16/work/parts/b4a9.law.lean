theorem seg_all {p : Nat × aS → Bool} {l : List (Nat × aS)} (hn : l.length = 68) (h0 : aseg p l 0 12 = true) (h1 : aseg p l 12 12 = true) (h2 : aseg p l 24 12 = true) (h3 : aseg p l 36 12 = true) (h4 : aseg p l 48 10 = true) (h5 : aseg p l 58 10 = true) : ∀ q ∈ l, p q = true := by
  refine nth_all l (fun j hj => ?_)
  rw [hn] at hj
  by_cases g0 : j < 12
  · exact aseg_ok h0 (by omega) (by omega)
  by_cases g1 : j < 24
  · exact aseg_ok h1 (by omega) (by omega)
  by_cases g2 : j < 36
  · exact aseg_ok h2 (by omega) (by omega)
  by_cases g3 : j < 48
  · exact aseg_ok h3 (by omega) (by omega)
  by_cases g4 : j < 58
  · exact aseg_ok h4 (by omega) (by omega)
  exact aseg_ok h5 (by omega) (by omega)
theorem ckl_1 : achk (astp tM tsb (tcl 213) cT_213_0.2.1 213) (zn (tz cT_213_0.1)) cT_213_0.2.2 cK_213_0 (some ckk_1.2.2.1) 400 true (ckk_1.1, tlv ckk_1.2.1, tst ckk_1.2.1, tz ckk_1.2.1, ckk_1.2.2.2, []) = true := acol_ok 400 true (ckk_1.1, tlv ckk_1.2.1, tst ckk_1.2.1, tz ckk_1.2.1, ckk_1.2.2.2, []) col14 col14_e (seg_all col14_n ck14_0 ck14_1 ck14_2 ck14_3 ck14_4 ck14_5)
theorem ck_law : amck tM tsb (tcl 213) 213 cT_213_0 cK_213_0 400 23 (.ofNat 999, []) = true := (Bool.and_eq_true _ _).mpr ⟨ckl_s, (Bool.and_eq_true _ _).mpr ⟨ckl_0, (Bool.and_eq_true _ _).mpr ⟨ckl_1, rfl⟩⟩⟩
