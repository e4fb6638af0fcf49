/-! the heap's instructions on forms -/
section GH
variable {M : xM} {Y : Nat → MethodName} {Bt : Nat → ByteArray} {Hh : Nat → List (Nat × Nat × Nat × Nat)} {Rt : Nat → Option FieldType} {Rm : Nat → Room} {Ex : Nat → String}
variable {l : Launch} {s0 : State} {D : va_G} {ca : Nat → ClassId} {sb : Nat → Nat} {b0 L : Nat} {grp : Nat → Nat} {lit : Value → Prop} {xs : Nat → Int32} {ty : Nat → Nat → FieldType}
variable {mi : Nat} {P : cP} {md : List (Nat × Int)} {u0 : zW} {ν0 : List Int}

theorem aways_mem {S : aS} {pc : Nat} {r : List aV} {q : aV × aZ} : ∀ {l : List (aV × aZ)}, q ∈ l → (pc, S.2.1, q.1 :: r, q.2, S.2.2.2.2) ∈ aways S pc r l
  | [], h => by cases h
  | p :: t, h => by
    rcases List.mem_cons.mp h with rfl | h
    · exact List.mem_cons_self
    · exact List.mem_cons_of_mem _ (aways_mem h)
theorem aFr_set {B : Nat} {u v : zW} {a k : Nat} {w : Value} (h : aFr B grp md u v) (hm : amem md (grp a) (k : Int)) : aFr B grp md u (zset v (B + a) k w) := by
  intro a' k' h1 h2 hn
  rw [avl_ne]
  · exact h a' k' h1 h2 hn
  · by_cases e : a' = a
    · right
      intro e2
      subst e e2
      exact hn hm
    · exact Or.inl e
/-- where an object of a group lies -/
theorem dI_cell {B : Nat} {u : zW} (h : dI B grp u) {a : Nat} (ha : a < aN0) : B + a < u.1 ∧ (u.2 (B + a)).1 = aTG (grp a) ∧ (u.2 (B + a)).2.1 = aLN (grp a) := ⟨by have := h.1; omega, (h.2 a ha).1, (h.2 a ha).2.1⟩
theorem agf_ok (hg : aok grp) (hl9 : ∀ v, lit v → ∃ q : Nat, v = .ref q) {ci k N ix : Nat} {C0 : String} {T : u_T} {S : aS} {R : aR} (hd : decode (Bt mi) S.1 = .ok (.getfield ix, 3)) (hz : zclo s0 D ty ci C0 T N) (hlk : zlw s0 (Y mi).cls ix C0 (T k).2.1 (T k).2.2.1) (h : agf ci k N S = some R) : R.1 = 0 ∧ ((∀ S' ∈ R.2.1, aGd M Y Bt Hh Rt Rm Ex l s0 D ca sb b0 L xs grp lit mi P md u0 ν0 S') → aGd M Y Bt Hh Rt Rm Ex l s0 D ca sb b0 L xs grp lit mi P md u0 ν0 S) := by
  unfold agf at h
  cases hst : S.2.2.1 with
  | nil => rw [hst] at h; cases h
  | cons x r =>
    simp only [hst] at h
    obtain ⟨hk, h⟩ := cnd_t h
    simp only [Bool.and_eq_true, Nat.beq_eq, Nat.ble_eq] at hk
    obtain ⟨⟨⟨k1, k2⟩, k3⟩, k4⟩ := hk
    cases hr : ard S.2.2.2.1 x.2.1 x.2.2 (Int.ofNat k, []) with
    | none => rw [hr] at h; cases h
    | some w =>
      rw [hr] at h
      cases h
      refine ⟨rfl, fun hs => ?_⟩
      intro ν lc sc u n h0 hγ hL hS hF hn
      rw [hst] at hS
      obtain ⟨v, us, rfl, hv, hS1⟩ := dS_c hS
      obtain ⟨a, a1, rfl, a3, a4⟩ := dV_3 hv k1
      have hp : apl grp ν x.2.1 x.2.2 (Int.ofNat k, []) a k := ⟨a1, ev_c ν _, a3, a4, by omega⟩
      obtain ⟨q, q1, ν', f1, f2, f3⟩ := ard_ok hg hl9 hγ hp hr
      obtain ⟨c1, c2, c3⟩ := dI_cell hγ.2.2.2.2.1 a3
      rw [a4] at c2 c3
      exact cg_get hd hz (by omega) hlk c1 (c2.trans k2) (c3.trans k3) (hs _ (aways_mem q1) ν' lc _ u n (aext_t h0 f1) f2 (dL_ext f1 hL) ⟨f3, dS_ext f1 hS1⟩ hF (aCl_ext f1 hn))
theorem aft_ok (hl9 : ∀ v, lit v → ∃ q : Nat, v = .ref q) {ν : List Int} {z : aZ} {u : zW} (hγ : aγ s0.heap.size b0 L grp lit ν z u) {ft : Nat} {v : aV} {w : Value} {t : FieldType} (h : aft ft z v = true) (hv : dV s0.heap.size b0 L grp lit ν v w) (ht : zft ft t) : narrow t w = w ∧ fits t w = true := by
  rcases ht with ⟨rfl, rfl⟩ | ⟨rfl, rfl⟩ | ⟨rfl, rfl⟩ | ⟨rfl, ht⟩
  · have h : aKI v = true := h
    obtain ⟨a, a1, rfl, a3⟩ := dV_0 hv (aKI_k h)
    exact ⟨rfl, rfl⟩
  · have h : (aKI v && awit z v.2.2 0 1) = true := h
    rw [Bool.and_eq_true] at h
    obtain ⟨a, a1, rfl, a3⟩ := dV_0 hv (aKI_k h.1)
    have := awit_at hγ h.2 a1
    have : a = 0 ∨ a = 1 := by omega
    rcases this with rfl | rfl <;> exact ⟨by decide, by decide⟩
  · have h : aKJ v = true := h
    obtain ⟨a, a1, rfl, a3⟩ := dV_1 hv (aKJ_k h)
    exact ⟨rfl, rfl⟩
  · have h : aKR v = true := h
    obtain ⟨q, rfl⟩ := dV_R hl9 hv h
    rcases ht with ⟨C, rfl⟩ | ⟨u, rfl⟩ <;> exact ⟨rfl, rfl⟩
theorem apf_ok (hg : aok grp) (hl9 : ∀ v, lit v → ∃ q : Nat, v = .ref q) {ci k N ft ix : Nat} {C0 : String} {T : u_T} {S : aS} {R : aR} (hd : decode (Bt mi) S.1 = .ok (.putfield ix, 3)) (hz : zclo s0 D ty ci C0 T N) (hlk : zlw s0 (Y mi).cls ix C0 (T k).2.1 (T k).2.2.1) (hft : zft ft (ty ci k))
    (hfin : (T k).2.2.2 = false ∨ (zh s0 (.fieldLink (Y mi).cls ix C0 (T k).2.1 (T k).2.2.1) ∧ (T k).2.2.2 = true ∧ (Y mi).name = "<init>" ∧ C0 = (Y mi).cls)) (h : apf md ci k N ft S = some R) : R.1 = 0 ∧ ((∀ S' ∈ R.2.1, aGd M Y Bt Hh Rt Rm Ex l s0 D ca sb b0 L xs grp lit mi P md u0 ν0 S') → aGd M Y Bt Hh Rt Rm Ex l s0 D ca sb b0 L xs grp lit mi P md u0 ν0 S) := by
  unfold apf at h
  match hst : S.2.2.1 with
  | [] => rw [hst] at h; cases h
  | [_] => rw [hst] at h; cases h
  | v :: x :: r =>
    simp only [hst] at h
    obtain ⟨hk, h⟩ := cnd_t h
    simp only [Bool.and_eq_true, Nat.beq_eq, Nat.ble_eq] at hk
    obtain ⟨⟨⟨⟨⟨k1, k2⟩, k3⟩, k4⟩, k5⟩, k6⟩ := hk
    cases hr : awr S.2.2.2.1 x.2.1 x.2.2 (Int.ofNat k, []) v with
    | none => rw [hr] at h; cases h
    | some z =>
      rw [hr] at h
      cases h
      refine ⟨rfl, fun hs => ?_⟩
      intro ν lc sc u n h0 hγ hL hS hF hn
      rw [hst] at hS
      obtain ⟨w, us1, rfl, hw, hS1⟩ := dS_c hS
      obtain ⟨xv, us, rfl, hv, hS2⟩ := dS_c hS1
      obtain ⟨a, a1, rfl, a3, a4⟩ := dV_3 hv k1
      have hp : apl grp ν x.2.1 x.2.2 (Int.ofNat k, []) a k := ⟨a1, ev_c ν _, a3, a4, by omega⟩
      obtain ⟨c1, c2, c3⟩ := dI_cell hγ.2.2.2.2.1 a3
      rw [a4] at c2 c3
      obtain ⟨n1, n2⟩ := aft_ok hl9 hγ k5 hw hft
      have hm : amem md (grp a) (k : Int) := by rw [a4]; exact amd_t (ν := ν) (k := (k : Int)) (ev_c ν _) k6
      exact cg_put hd hz (by omega) hlk hfin n1 n2 c1 (c2.trans k2) (c3.trans k3) (hs _ List.mem_cons_self ν lc us _ n h0 (awr_ok hg hl9 hγ hp hw hr) hL hS2 (aFr_set hF hm) hn)
theorem aLN_r (g : Nat) : aLN g ≤ 2147483647 := by
  unfold aLN
  repeat' apply cond_P (P := fun n : Nat => n ≤ 2147483647)
  all_goals decide
theorem aaln_ok (hLm : L ≤ 2147483647) (hX : va_X b0 L xs s0 s0.heap) (hL0 : b0 < s0.heap.size) (hT : ∀ tag, 64 ≤ tag → tag ≤ 127 → ∃ t, ztg s0 ca tag t) {S : aS} {R : aR} (hd : decode (Bt mi) S.1 = .ok (.arraylength, 1)) (h : aaln S = some R) : R.1 = 0 ∧ ((∀ S' ∈ R.2.1, aGd M Y Bt Hh Rt Rm Ex l s0 D ca sb b0 L xs grp lit mi P md u0 ν0 S') → aGd M Y Bt Hh Rt Rm Ex l s0 D ca sb b0 L xs grp lit mi P md u0 ν0 S) := by
  unfold aaln at h
  cases hst : S.2.2.1 with
  | nil => rw [hst] at h; cases h
  | cons x r =>
    simp only [hst] at h
    rcases cnd_some h with ⟨hk, h⟩ | ⟨-, h⟩
    · cases h
      refine ⟨rfl, fun hs => ?_⟩
      intro ν lc sc u n h0 hγ hL hS hF hn
      rw [hst] at hS
      obtain ⟨v, us, rfl, hv, hS1⟩ := dS_c hS
      obtain ⟨v1, rfl⟩ := dV_6 hv (Nat.beq_eq.mp hk)
      exact cg_slen hd hX hL0 (hs _ List.mem_cons_self ν lc _ u n h0 hγ hL ⟨⟨(L : Int), v1, rfl, by omega, by omega⟩, hS1⟩ hF hn)
    · obtain ⟨hk, h⟩ := cnd_t h
      simp only [Bool.and_eq_true, Nat.beq_eq, Nat.ble_eq] at hk
      cases h
      refine ⟨rfl, fun hs => ?_⟩
      intro ν lc sc u n h0 hγ hL hS hF hn
      rw [hst] at hS
      obtain ⟨v, us, rfl, hv, hS1⟩ := dS_c hS
      obtain ⟨a, a1, rfl, a3, a4⟩ := dV_3 hv hk.1.1.1
      obtain ⟨c1, c2, c3⟩ := dI_cell hγ.2.2.2.2.1 a3
      rw [a4] at c2 c3
      obtain ⟨t, ht⟩ := hT _ hk.1.1.2 hk.1.2
      have hle := aLN_r x.2.1
      exact cg_alen hd c1 (by rw [c2]; exact hk.1.1.2) (by rw [c2]; exact hk.1.2) (by rw [c2]; exact ht) c3 (hs _ List.mem_cons_self ν lc _ u n h0 hγ hL ⟨⟨((aLN x.2.1 : Nat) : Int), ev_c ν _, rfl, by omega, by omega⟩, hS1⟩ hF hn)
theorem aal_ok (hg : aok grp) (hl9 : ∀ v, lit v → ∃ q : Nat, v = .ref q) {lo hi : Nat} {S : aS} {R : aR}
    (hrow : ∀ (lc : List (Nat × Value)) (us : List Value) (u : zW) (n a j : Nat), s0.heap.size + a < u.1 → lo ≤ (u.2 (s0.heap.size + a)).1 → (u.2 (s0.heap.size + a)).1 ≤ hi → j < (u.2 (s0.heap.size + a)).2.1 → j ≤ 2147483647 → cG M Y Bt Hh Rt Rm Ex l s0 D ca sb mi (S.1 + 1) lc (avl s0.heap.size u a j :: us) u n P → cG M Y Bt Hh Rt Rm Ex l s0 D ca sb mi S.1 lc (.int (Int32.ofInt (j : Int)) :: .ref (s0.heap.size + a) :: us) u n P)
    (h : aal lo hi S = some R) : R.1 = 0 ∧ ((∀ S' ∈ R.2.1, aGd M Y Bt Hh Rt Rm Ex l s0 D ca sb b0 L xs grp lit mi P md u0 ν0 S') → aGd M Y Bt Hh Rt Rm Ex l s0 D ca sb b0 L xs grp lit mi P md u0 ν0 S) := by
  unfold aal at h
  match hst : S.2.2.1 with
  | [] => rw [hst] at h; cases h
  | [_] => rw [hst] at h; cases h
  | i :: x :: r =>
    simp only [hst] at h
    obtain ⟨hk, h⟩ := cnd_t h
    simp only [Bool.and_eq_true, Nat.beq_eq, Nat.ble_eq] at hk
    obtain ⟨⟨⟨⟨k1, k2⟩, k3⟩, k4⟩, k5⟩ := hk
    cases hr : ard S.2.2.2.1 x.2.1 x.2.2 i.2.2 with
    | none => rw [hr] at h; cases h
    | some w =>
      rw [hr] at h
      cases h
      refine ⟨rfl, fun hs => ?_⟩
      intro ν lc sc u n h0 hγ hL hS hF hn
      rw [hst] at hS
      obtain ⟨iv, us1, rfl, hi9, hS1⟩ := dS_c hS
      obtain ⟨v, us, rfl, hv, hS2⟩ := dS_c hS1
      obtain ⟨a, a1, rfl, a3, a4⟩ := dV_3 hv k1
      obtain ⟨j0, j1, rfl, j3⟩ := dV_0 hi9 (aKI_k k4)
      obtain ⟨j, e1, e2⟩ := ainb_ok hγ k5
      rw [j1] at e1
      cases e1
      have hp : apl grp ν x.2.1 x.2.2 i.2.2 a j := ⟨a1, j1, a3, a4, e2⟩
      obtain ⟨q, q1, ν', f1, f2, f3⟩ := ard_ok hg hl9 hγ hp hr
      obtain ⟨c1, c2, c3⟩ := dI_cell hγ.2.2.2.2.1 a3
      rw [a4] at c2 c3
      exact hrow lc us u n a j c1 (by rw [c2]; exact k2) (by rw [c2]; exact k3) (by rw [c3]; exact e2) (by omega) (hs _ (aways_mem q1) ν' lc _ u n (aext_t h0 f1) f2 (dL_ext f1 hL) ⟨f3, dS_ext f1 hS2⟩ hF (aCl_ext f1 hn))
theorem asmk_mem {i f : aF} : ∀ {q : List (aF × aF)}, asmk q i = some f → (i, f) ∈ q
  | [], h => by cases h
  | p :: r, h => by
    unfold asmk at h
    rcases cnd_some h with ⟨hc, h⟩ | ⟨-, h⟩
    · cases h
      rw [← feq_eq hc]
      exact List.mem_cons_self
    · exact List.mem_cons_of_mem _ (asmk_mem h)
theorem aalI_ok (hg : aok grp) (hl9 : ∀ v, lit v → ∃ q : Nat, v = .ref q) (hLm : L ≤ 2147483647) (hX : va_X b0 L xs s0 s0.heap) (hL0 : b0 < s0.heap.size) (hT : ztg s0 ca 64 .int) {S : aS} {R : aR} (hd : decode (Bt mi) S.1 = .ok (.iaload, 1)) (h : aalI S = some R) : R.1 = 0 ∧ ((∀ S' ∈ R.2.1, aGd M Y Bt Hh Rt Rm Ex l s0 D ca sb b0 L xs grp lit mi P md u0 ν0 S') → aGd M Y Bt Hh Rt Rm Ex l s0 D ca sb b0 L xs grp lit mi P md u0 ν0 S) := by
  unfold aalI at h
  match hst : S.2.2.1 with
  | [] => rw [hst] at h; cases h
  | [_] => rw [hst] at h; cases h
  | i :: x :: r =>
    simp only [hst] at h
    rcases cnd_some h with ⟨hk, h⟩ | ⟨-, h⟩
    · obtain ⟨hc, h⟩ := cnd_t h
      simp only [Bool.and_eq_true] at hc
      have pre : ∀ (ν : List Int) (sc : List Value) (u : zW), aγ s0.heap.size b0 L grp lit ν S.2.2.2.1 u → dS s0.heap.size b0 L grp lit ν S.2.2.1 sc → ∃ (j : Nat) (us : List Value), sc = .int (Int32.ofInt (j : Int)) :: .ref b0 :: us ∧ dS s0.heap.size b0 L grp lit ν r us ∧ ev ν i.2.2 = some (j : Int) ∧ j < L ∧ j ≤ 2147483647 := by
        intro ν sc u hγ hS
        rw [hst] at hS
        obtain ⟨iv, us1, rfl, hi9, hS1⟩ := dS_c hS
        obtain ⟨v, us, rfl, hv, hS2⟩ := dS_c hS1
        obtain ⟨v1, rfl⟩ := dV_6 hv (Nat.beq_eq.mp hk)
        obtain ⟨j0, j1, rfl, j3⟩ := dV_0 hi9 (aKI_k hc.1.1)
        have p1 := prov_ok hγ.2.1 hγ.2.2.1 (ev_sc (-1) j1) hc.1.2
        have p2 := prov_ok hγ.2.1 hγ.2.2.1 (ev_k 1 (ev_sub j1 v1)) hc.2
        obtain ⟨j, rfl⟩ := Int.eq_ofNat_of_zero_le (show 0 ≤ j0 by omega)
        exact ⟨j, us, rfl, hS2, j1, by omega, by omega⟩
      cases hmk : asmk S.2.2.2.2.2 i.2.2 with
      | some f =>
        rw [hmk] at h
        cases h
        refine ⟨rfl, fun hs => ?_⟩
        intro ν lc sc u n h0 hγ hL hS hF hn
        obtain ⟨j, us, rfl, hS2, j1, j2, j3⟩ := pre ν sc u hγ hS
        obtain ⟨k, k1, k2⟩ := hn.2 _ (asmk_mem hmk)
        rw [j1] at k1
        have := natE k1
        subst this
        have hr := rI (xs j)
        exact cg_sld hd hX hL0 j2 j3 (hs _ List.mem_cons_self ν lc _ u n h0 hγ hL ⟨⟨(xs j).toInt, k2, by rw [ofI], hr.1, hr.2⟩, hS2⟩ hF hn)
      | none =>
        rw [hmk] at h
        cases h
        refine ⟨rfl, fun hs => ?_⟩
        intro ν lc sc u n h0 hγ hL hS hF hn
        obtain ⟨j, us, rfl, hS2, j1, j2, j3⟩ := pre ν sc u hγ hS
        obtain ⟨ν', f1, f2, f3⟩ := anyI_ok hγ (xs j)
        have f4 := dV_int f3 rfl
        refine cg_sld hd hX hL0 j2 j3 (hs _ List.mem_cons_self ν' lc _ u n (aext_t h0 f1) f2 (dL_ext f1 hL) ⟨f3, dS_ext f1 hS2⟩ hF ⟨ev_ext f1 hn.1, fun p hp => ?_⟩)
        rcases List.mem_cons.mp hp with rfl | hp
        · exact ⟨j, ev_ext f1 j1, f4⟩
        · obtain ⟨k, k1, k2⟩ := hn.2 p hp
          exact ⟨k, ev_ext f1 k1, ev_ext f1 k2⟩
    · refine aal_ok hg hl9 (fun lc us u n a j h1 h2 h3 h4 h5 g => ?_) h
      exact cg_iald hd h1 (by rw [show (u.2 (s0.heap.size + a)).1 = 64 by omega]; exact hT) h4 h5 g
theorem aas_ok (hg : aok grp) (hl9 : ∀ v, lit v → ∃ q : Nat, v = .ref q) {tag ft : Nat} {S : aS} {R : aR}
    (hrow : ∀ (ν : List Int) (v : aV) (w : Value) (lc : List (Nat × Value)) (us : List Value) (u : zW) (n a j : Nat), aγ s0.heap.size b0 L grp lit ν S.2.2.2.1 u → (bif Nat.beq ft 4 then aKI v && awit S.2.2.2.1 v.2.2 0 65535 else aft ft S.2.2.2.1 v) = true → dV s0.heap.size b0 L grp lit ν v w → s0.heap.size + a < u.1 → (u.2 (s0.heap.size + a)).1 = tag → j < (u.2 (s0.heap.size + a)).2.1 → j ≤ 2147483647 →
      cG M Y Bt Hh Rt Rm Ex l s0 D ca sb mi (S.1 + 1) lc us (zset u (s0.heap.size + a) j w) n P → cG M Y Bt Hh Rt Rm Ex l s0 D ca sb mi S.1 lc (w :: .int (Int32.ofInt (j : Int)) :: .ref (s0.heap.size + a) :: us) u n P)
    (h : aas md tag ft S = some R) : R.1 = 0 ∧ ((∀ S' ∈ R.2.1, aGd M Y Bt Hh Rt Rm Ex l s0 D ca sb b0 L xs grp lit mi P md u0 ν0 S') → aGd M Y Bt Hh Rt Rm Ex l s0 D ca sb b0 L xs grp lit mi P md u0 ν0 S) := by
  unfold aas at h
  match hst : S.2.2.1 with
  | [] => rw [hst] at h; cases h
  | [_] => rw [hst] at h; cases h
  | [_, _] => rw [hst] at h; cases h
  | v :: i :: x :: r =>
    simp only [hst] at h
    obtain ⟨hk, h⟩ := cnd_t h
    rw [Bool.and_eq_true, Bool.and_eq_true] at hk
    obtain ⟨⟨hk, k5⟩, k6⟩ := hk
    simp only [Bool.and_eq_true, Nat.beq_eq] at hk
    obtain ⟨⟨⟨k1, k2⟩, k3⟩, k4⟩ := hk
    cases hr : awr S.2.2.2.1 x.2.1 x.2.2 i.2.2 v with
    | none => rw [hr] at h; cases h
    | some z =>
      rw [hr] at h
      cases h
      refine ⟨rfl, fun hs => ?_⟩
      intro ν lc sc u n h0 hγ hL hS hF hn
      rw [hst] at hS
      obtain ⟨w, us0, rfl, hw, hS0⟩ := dS_c hS
      obtain ⟨iv, us1, rfl, hi9, hS1⟩ := dS_c hS0
      obtain ⟨xv, us, rfl, hv, hS2⟩ := dS_c hS1
      obtain ⟨a, a1, rfl, a3, a4⟩ := dV_3 hv k1
      obtain ⟨j0, j1, rfl, j3⟩ := dV_0 hi9 (aKI_k k3)
      obtain ⟨j, e1, e2⟩ := ainb_ok hγ k4
      rw [j1] at e1
      cases e1
      have hp : apl grp ν x.2.1 x.2.2 i.2.2 a j := ⟨a1, j1, a3, a4, e2⟩
      obtain ⟨c1, c2, c3⟩ := dI_cell hγ.2.2.2.2.1 a3
      rw [a4] at c2 c3
      have hm : amem md (grp a) (j : Int) := by rw [a4]; exact amd_t j1 k6
      exact hrow ν v w lc us u n a j hγ k5 hw c1 (c2.trans k2) (by rw [c3]; exact e2) (by omega) (hs _ List.mem_cons_self ν lc us _ n h0 (awr_ok hg hl9 hγ hp hw hr) hL hS2 (aFr_set hF hm) hn)
end GH
