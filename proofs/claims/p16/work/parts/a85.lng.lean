/-! a long out of two ints, as a form; a comparison in three ways -/
theorem shl32 (a : Int) : Int64.ofInt a <<< ((Int32.ofInt 32).toInt64 &&& 63) = Int64.ofInt (a * 4294967296) := by
  have e : ((Int32.ofInt 32).toInt64 &&& 63) = (32 : Int64) := by decide
  rw [e]
  apply Int64.toBitVec_inj.mp
  rw [Int64.toBitVec_shiftLeft, Int64.toBitVec_ofInt, Int64.toBitVec_ofInt, show ((32 : Int64).toBitVec.smod 64) = 32#64 from by decide, BitVec.shiftLeft_eq', show (32#64).toNat = 32 from rfl, BitVec.shiftLeft_eq_mul_twoPow, BitVec.ofInt_mul]
  congr 1
theorem and32 {a c : Int} (h1 : -2147483648 ≤ a) (h2 : a ≤ 2147483647) (hc : (0 ≤ a ∧ c = a) ∨ (a < 0 ∧ c = a + 4294967296)) : Int64.ofInt a &&& Int64.ofInt 4294967295 = Int64.ofInt c := by
  apply Int64.toBitVec_inj.mp
  rw [Int64.toBitVec_and, Int64.toBitVec_ofInt, Int64.toBitVec_ofInt, Int64.toBitVec_ofInt]
  apply BitVec.eq_of_toNat_eq
  rw [BitVec.toNat_and, BitVec.toNat_ofInt, BitVec.toNat_ofInt, BitVec.toNat_ofInt, show ((4294967295 : Int) % ((2 ^ 64 : Nat) : Int)).toNat = 2 ^ 32 - 1 from by decide, Nat.and_two_pow_sub_one_eq_mod]
  have e1 : ((2 ^ 64 : Nat) : Int) = 18446744073709551616 := by decide
  have e2 : (2 ^ 32 : Nat) = 4294967296 := by decide
  rw [e1, e2]
  omega
theorem or32 {h c : Int} (h1 : 0 ≤ c) (h2 : c ≤ 4294967295) : Int64.ofInt (4294967296 * h) ||| Int64.ofInt c = Int64.ofInt (4294967296 * h + c) := by
  apply Int64.toBitVec_inj.mp
  rw [Int64.toBitVec_or, Int64.toBitVec_ofInt, Int64.toBitVec_ofInt, Int64.toBitVec_ofInt]
  apply BitVec.eq_of_toNat_eq
  rw [BitVec.toNat_or, BitVec.toNat_ofInt, BitVec.toNat_ofInt, BitVec.toNat_ofInt]
  have e1 : ((2 ^ 64 : Nat) : Int) = 18446744073709551616 := by decide
  have e2 : (2 ^ 32 : Nat) = 4294967296 := by decide
  rw [e1]
  have hb : (c % 18446744073709551616).toNat < 2 ^ 32 := by omega
  have ha : (4294967296 * h % 18446744073709551616).toNat = 2 ^ 32 * (h % 4294967296).toNat := by
    rw [e2]
    omega
  rw [ha, ← Nat.two_pow_add_eq_or_of_lt hb, e2]
  omega
noncomputable def alsh (S : aS) : Option aR := match S.2.2.1 with
  | y :: x :: r => bif aKJ x && aKI y && feq y.2.2 (32, []) && awit S.2.2.2.1 x.2.2 (-2147483648) 2147483647 then aon S (S.1 + 1) ((1, 0, fsc x.2.2 4294967296) :: r) S.2.2.2.1 else none
  | _ => none
noncomputable def alor (S : aS) : Option aR := match S.2.2.1 with
  | y :: x :: r => bif aKJ x && aKJ y && awit S.2.2.2.1 y.2.2 0 4294967295 && (match adiv 4294967296 x.2.2 with
      | some _ => true
      | none => false) then aon S (S.1 + 1) ((1, 0, fadd x.2.2 y.2.2) :: r) S.2.2.2.1 else none
  | _ => none
noncomputable def alan (S : aS) : Option aR := match S.2.2.1 with
  | y :: x :: r => bif aKJ x && aKJ y && feq y.2.2 (4294967295, []) && awit S.2.2.2.1 x.2.2 (-2147483648) 2147483647 then some (0, abr1 (acnd 3 S.2.2.2.1 x.2.2) S (S.1 + 1) ((1, 0, x.2.2) :: r) ++ abr1 (acnd 2 S.2.2.2.1 x.2.2) S (S.1 + 1) ((1, 0, fk x.2.2 4294967296) :: r), none, 0) else none
  | _ => none
noncomputable def aif3 (n : Nat) (off : Int) (S : aS) : Option aR := match S.2.2.1 with
  | v :: r => bif aKI v || Nat.beq v.1 2 then abr3 n off v.2.2 r S else none
  | [] => none
section GS2
variable {M : xM} {Y : Nat → MethodName} {Bt : Nat → ByteArray} {Hh : Nat → List (Nat × Nat × Nat × Nat)} {Rt : Nat → Option FieldType} {Rm : Nat → Room} {Ex : Nat → String}
variable {l : Launch} {s0 : State} {D : va_G} {ca : Nat → ClassId} {sb : Nat → Nat} {b0 L : Nat} {grp : Nat → Nat} {lit : Value → Prop} {xs : Nat → Int32} {ty : Nat → Nat → FieldType}
variable {mi : Nat} {P : cP} {md : List (Nat × Int)} {u0 : zW} {ν0 : List Int}

theorem alsh_ok {S : aS} {R : aR} (hd : decode (Bt mi) S.1 = .ok (.lshl, 1)) (h : alsh S = some R) : R.1 = 0 ∧ ((∀ S' ∈ R.2.1, aGd M Y Bt Hh Rt Rm Ex l s0 D ca sb b0 L xs grp lit mi P md u0 ν0 S') → aGd M Y Bt Hh Rt Rm Ex l s0 D ca sb b0 L xs grp lit mi P md u0 ν0 S) := by
  unfold alsh at h
  match hst : S.2.2.1 with
  | [] => rw [hst] at h; cases h
  | [_] => rw [hst] at h; cases h
  | y :: x :: r =>
    simp only [hst] at h
    obtain ⟨hk, h⟩ := cnd_t h
    simp only [Bool.and_eq_true] at hk
    cases h
    refine ⟨rfl, fun hs => agd_on (S' := (S.1 + 1, S.2.1, (1, 0, fsc x.2.2 4294967296) :: r, S.2.2.2.1, S.2.2.2.2)) rfl rfl ?_ (hs _ List.mem_cons_self)⟩
    intro ν sc u hγ hS
    rw [hst] at hS
    obtain ⟨vy, us1, rfl, hy, hS1⟩ := dS_c hS
    obtain ⟨vx, us, rfl, hx, hS2⟩ := dS_c hS1
    obtain ⟨c, c1, rfl, c3⟩ := dV_0 hy (aKI_k hk.1.1.2)
    obtain ⟨a, a1, rfl, a3⟩ := dV_1 hx (aKJ_k hk.1.1.1)
    have hr := awit_at hγ hk.2 a1
    rw [feq_eq hk.1.2, ev_c] at c1
    have c2 : (32 : Int) = c := Option.some.inj c1
    subst c2
    refine ⟨ν, .long (Int64.ofInt (a * 4294967296)) :: us, aext_r ν, hγ, ⟨⟨a * 4294967296, ev_sc _ a1, rfl, by omega, by omega⟩, hS2⟩, ?_⟩
    rw [← shl32 a]
    exact zw_lshl hd
theorem alor_ok {S : aS} {R : aR} (hd : decode (Bt mi) S.1 = .ok (.lor, 1)) (h : alor S = some R) : R.1 = 0 ∧ ((∀ S' ∈ R.2.1, aGd M Y Bt Hh Rt Rm Ex l s0 D ca sb b0 L xs grp lit mi P md u0 ν0 S') → aGd M Y Bt Hh Rt Rm Ex l s0 D ca sb b0 L xs grp lit mi P md u0 ν0 S) := by
  unfold alor at h
  match hst : S.2.2.1 with
  | [] => rw [hst] at h; cases h
  | [_] => rw [hst] at h; cases h
  | y :: x :: r =>
    simp only [hst] at h
    obtain ⟨hk, h⟩ := cnd_t h
    rw [Bool.and_eq_true, Bool.and_eq_true, Bool.and_eq_true] at hk
    cases h
    refine ⟨rfl, fun hs => agd_on (S' := (S.1 + 1, S.2.1, (1, 0, fadd x.2.2 y.2.2) :: r, S.2.2.2.1, S.2.2.2.2)) rfl rfl ?_ (hs _ List.mem_cons_self)⟩
    intro ν sc u hγ hS
    rw [hst] at hS
    obtain ⟨vy, us1, rfl, hy, hS1⟩ := dS_c hS
    obtain ⟨vx, us, rfl, hx, hS2⟩ := dS_c hS1
    obtain ⟨c, c1, rfl, c3⟩ := dV_1 hy (aKJ_k hk.1.1.2)
    obtain ⟨a, a1, rfl, a3⟩ := dV_1 hx (aKJ_k hk.1.1.1)
    have hr := awit_at hγ hk.1.2 c1
    cases hq : adiv 4294967296 x.2.2 with
    | none => rw [hq] at hk; exact absurd hk.2 (by decide)
    | some t =>
      obtain ⟨b, b1, b2⟩ := adiv_ok hq a1
      subst b2
      refine ⟨ν, .long (Int64.ofInt (4294967296 * b + c)) :: us, aext_r ν, hγ, ⟨⟨4294967296 * b + c, ev_add a1 c1, rfl, by omega, by omega⟩, hS2⟩, ?_⟩
      rw [← or32 hr.1 hr.2]
      exact zw_lor hd
theorem alan_ok {S : aS} {R : aR} (hd : decode (Bt mi) S.1 = .ok (.land, 1)) (h : alan S = some R) : R.1 = 0 ∧ ((∀ S' ∈ R.2.1, aGd M Y Bt Hh Rt Rm Ex l s0 D ca sb b0 L xs grp lit mi P md u0 ν0 S') → aGd M Y Bt Hh Rt Rm Ex l s0 D ca sb b0 L xs grp lit mi P md u0 ν0 S) := by
  unfold alan at h
  match hst : S.2.2.1 with
  | [] => rw [hst] at h; cases h
  | [_] => rw [hst] at h; cases h
  | y :: x :: r =>
    simp only [hst] at h
    obtain ⟨hk, h⟩ := cnd_t h
    simp only [Bool.and_eq_true] at hk
    cases h
    refine ⟨rfl, fun hs => ?_⟩
    intro ν lc sc u k h0 hγ hL hS hF hn
    rw [hst] at hS
    obtain ⟨vy, us1, rfl, hy, hS1⟩ := dS_c hS
    obtain ⟨vx, us, rfl, hx, hS2⟩ := dS_c hS1
    obtain ⟨c, c1, rfl, c3⟩ := dV_1 hy (aKJ_k hk.1.1.2)
    obtain ⟨a, a1, rfl, a3⟩ := dV_1 hx (aKJ_k hk.1.1.1)
    have hr := awit_at hγ hk.2 a1
    rw [feq_eq hk.1.2, ev_c] at c1
    have c2 : (4294967295 : Int) = c := Option.some.inj c1
    subst c2
    by_cases hz : 0 ≤ a
    · obtain ⟨z', e1, e2⟩ := acnd_ok (n := 3) hγ a1 (show zcc (xco 3) a 0 from hz)
      have hw := zw_land (x := Int64.ofInt a) (y := Int64.ofInt 4294967295) (r := us) hd
      rw [and32 hr.1 hr.2 (Or.inl ⟨hz, rfl⟩)] at hw
      refine cG_w hw (hs (S.1 + 1, S.2.1, (1, 0, x.2.2) :: r, z', S.2.2.2.2) ?_ ν lc _ u k h0 e2 hL ⟨⟨a, a1, rfl, a3⟩, hS2⟩ hF hn)
      rw [e1]
      exact List.mem_append_left _ List.mem_cons_self
    · obtain ⟨z', e1, e2⟩ := acnd_ok (n := 2) hγ a1 (show zcc (xco 2) a 0 from (show a < 0 by omega))
      have hw := zw_land (x := Int64.ofInt a) (y := Int64.ofInt 4294967295) (r := us) hd
      rw [and32 hr.1 hr.2 (Or.inr ⟨by omega, rfl⟩)] at hw
      refine cG_w hw (hs (S.1 + 1, S.2.1, (1, 0, fk x.2.2 4294967296) :: r, z', S.2.2.2.2) ?_ ν lc _ u k h0 e2 hL ⟨⟨a + 4294967296, ev_k _ a1, rfl, by omega, by omega⟩, hS2⟩ hF hn)
      rw [e1]
      exact List.mem_append_right _ List.mem_cons_self
theorem aif3_ok {n : Nat} {off : Int} {S : aS} {R : aR} (hd : decode (Bt mi) S.1 = .ok (.ifCond (xco n) off, 3)) (h : aif3 n off S = some R) : R.1 = 0 ∧ ((∀ S' ∈ R.2.1, aGd M Y Bt Hh Rt Rm Ex l s0 D ca sb b0 L xs grp lit mi P md u0 ν0 S') → aGd M Y Bt Hh Rt Rm Ex l s0 D ca sb b0 L xs grp lit mi P md u0 ν0 S) := by
  unfold aif3 at h
  match hst : S.2.2.1 with
  | [] => rw [hst] at h; cases h
  | v :: r =>
    simp only [hst] at h
    obtain ⟨hk, h⟩ := cnd_t h
    rw [Bool.or_eq_true] at hk
    unfold abr3 at h
    cases ht : xtgt S.1 off with
    | none => rw [ht] at h; cases h
    | some t =>
      simp only [ht] at h
      have way : ∀ (ν : List Int) (sc : List Value) (u : zW), aγ s0.heap.size b0 L grp lit ν S.2.2.2.1 u → dS s0.heap.size b0 L grp lit ν S.2.2.1 sc → ∃ a us, dS s0.heap.size b0 L grp lit ν r us ∧ (zcc (xco n) a 0 → zW1 (Bt mi) S.1 sc t us) ∧ (¬ zcc (xco n) a 0 → zW1 (Bt mi) S.1 sc (S.1 + 3) us) ∧ (a = 0 → ∃ z', acnd 0 S.2.2.2.1 v.2.2 = some z' ∧ aγ s0.heap.size b0 L grp lit ν z' u) ∧ (a < 0 → ∃ z', acnd 2 S.2.2.2.1 v.2.2 = some z' ∧ aγ s0.heap.size b0 L grp lit ν z' u) ∧ (0 < a → ∃ z', acnd 4 S.2.2.2.1 v.2.2 = some z' ∧ aγ s0.heap.size b0 L grp lit ν z' u) := by
        intro ν sc u hγ hS
        rw [hst] at hS
        obtain ⟨w, us, rfl, hv, hS1⟩ := dS_c hS
        rcases hk with hk | hk
        · obtain ⟨a, a1, rfl, a3⟩ := dV_0 hv (aKI_k hk)
          obtain ⟨g1, g2⟩ := zw_if (x := Int32.ofInt a) (r := us) (xtgt_ok ht) hd
          have hi : zci (xco n) (Int32.ofInt a) 0 ↔ zcc (xco n) a 0 := by
            rw [zci_iff, toI a3]; exact Iff.rfl
          exact ⟨a, us, hS1, fun g => g1 (hi.mpr g), fun g => g2 (fun q => g (hi.mp q)), fun g => acnd_ok (n := 0) hγ a1 g, fun g => acnd_ok (n := 2) hγ a1 g, fun g => acnd_ok (n := 4) hγ a1 g⟩
        · obtain ⟨a, x, y, a1, rfl, a3⟩ := dV_2 hv (Nat.beq_eq.mp hk)
          obtain ⟨g1, g2⟩ := zw_if (x := lg_cmp x y) (r := us) (xtgt_ok ht) hd
          have hi : zci (xco n) (lg_cmp x y) 0 ↔ zcc (xco n) a 0 := by
            rw [lgc_iff, zcc_sub, a3]
          exact ⟨a, us, hS1, fun g => g1 (hi.mpr g), fun g => g2 (fun q => g (hi.mp q)), fun g => acnd_ok (n := 0) hγ a1 g, fun g => acnd_ok (n := 2) hγ a1 g, fun g => acnd_ok (n := 4) hγ a1 g⟩
      rcases cnd_some h with ⟨h0, h⟩ | ⟨-, h⟩
      · have e0 := Nat.beq_eq.mp h0
        subst e0
        cases h
        refine ⟨rfl, fun hs => ?_⟩
        intro ν lc sc u k h0 hγ hL hS hF hn
        obtain ⟨a, us, hS1, w1, w2, e1, e2, e3⟩ := way ν sc u hγ hS
        by_cases g1 : a = 0
        · obtain ⟨z', f1, f2⟩ := e1 g1
          refine cG_w (w1 g1) (hs (t, S.2.1, r, z', S.2.2.2.2) ?_ ν lc us u k h0 f2 hL hS1 hF hn)
          rw [f1]
          exact List.mem_append_left _ List.mem_cons_self
        · by_cases g2 : a < 0
          · obtain ⟨z', f1, f2⟩ := e2 g2
            refine cG_w (w2 g1) (hs (S.1 + 3, S.2.1, r, z', S.2.2.2.2) ?_ ν lc us u k h0 f2 hL hS1 hF hn)
            rw [f1]
            exact List.mem_append_right _ (List.mem_append_left _ List.mem_cons_self)
          · obtain ⟨z', f1, f2⟩ := e3 (by omega)
            refine cG_w (w2 g1) (hs (S.1 + 3, S.2.1, r, z', S.2.2.2.2) ?_ ν lc us u k h0 f2 hL hS1 hF hn)
            rw [f1]
            exact List.mem_append_right _ (List.mem_append_right _ List.mem_cons_self)
      · obtain ⟨h1, h⟩ := cnd_t h
        have e0 := Nat.beq_eq.mp h1
        subst e0
        cases h
        refine ⟨rfl, fun hs => ?_⟩
        intro ν lc sc u k h0 hγ hL hS hF hn
        obtain ⟨a, us, hS1, w1, w2, e1, e2, e3⟩ := way ν sc u hγ hS
        by_cases g1 : a = 0
        · obtain ⟨z', f1, f2⟩ := e1 g1
          refine cG_w (w2 (fun q => q g1)) (hs (S.1 + 3, S.2.1, r, z', S.2.2.2.2) ?_ ν lc us u k h0 f2 hL hS1 hF hn)
          rw [f1]
          exact List.mem_append_left _ List.mem_cons_self
        · by_cases g2 : a < 0
          · obtain ⟨z', f1, f2⟩ := e2 g2
            refine cG_w (w1 g1) (hs (t, S.2.1, r, z', S.2.2.2.2) ?_ ν lc us u k h0 f2 hL hS1 hF hn)
            rw [f1]
            exact List.mem_append_right _ (List.mem_append_left _ List.mem_cons_self)
          · obtain ⟨z', f1, f2⟩ := e3 (by omega)
            refine cG_w (w1 g1) (hs (t, S.2.1, r, z', S.2.2.2.2) ?_ ν lc us u k h0 f2 hL hS1 hF hn)
            rw [f1]
            exact List.mem_append_right _ (List.mem_append_right _ List.mem_cons_self)
end GS2
