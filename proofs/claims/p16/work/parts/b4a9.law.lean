theorem ck14_all : ∀ q ∈ col14, (fun q : Nat × aS => achk (astp tM tsb (tcl 213) cT_213_0.2.1 213) (zn (tz cT_213_0.1)) cT_213_0.2.2 cK_213_0 (some ckk_1.2.2.1) q.1 false q.2) q = true := by
  refine nth_all col14 (fun j hj => ?_)
  rw [col14_n] at hj
  by_cases g0 : j < 12
  · exact aseg_ok ck14_0 (by omega) (by omega)
  by_cases g1 : j < 24
  · exact aseg_ok ck14_1 (by omega) (by omega)
  by_cases g2 : j < 36
  · exact aseg_ok ck14_2 (by omega) (by omega)
  by_cases g3 : j < 48
  · exact aseg_ok ck14_3 (by omega) (by omega)
  by_cases g4 : j < 58
  · exact aseg_ok ck14_4 (by omega) (by omega)
  exact aseg_ok ck14_5 (by omega) (by omega)
theorem ckl_1 : achk (astp tM tsb (tcl 213) cT_213_0.2.1 213) (zn (tz cT_213_0.1)) cT_213_0.2.2 cK_213_0 (some ckk_1.2.2.1) 400 true (ckk_1.1, tlv ckk_1.2.1, tst ckk_1.2.1, tz ckk_1.2.1, ckk_1.2.2.2, []) = true := acol_ok 400 true (ckk_1.1, tlv ckk_1.2.1, tst ckk_1.2.1, tz ckk_1.2.1, ckk_1.2.2.2, []) col14 col14_e ck14_all
theorem ck_law : amck tM tsb (tcl 213) 213 cT_213_0 cK_213_0 400 23 (.ofNat 999, []) = true := (Bool.and_eq_true _ _).mpr ⟨ckl_s, (Bool.and_eq_true _ _).mpr ⟨ckl_0, (Bool.and_eq_true _ _).mpr ⟨ckl_1, rfl⟩⟩⟩
