section AL
variable {B b0 L : Nat} {grp : Nat → Nat} {lit : Value → Prop}
theorem adead_ok (hg : aok grp) {ν : List Int} {z : aZ} {u : zW} (hγ : aγ B b0 L grp lit ν z u) {i : aF} {k : Nat} (hi : ev ν i = some (k : Int)) {c : Nat} (h : adead z i (c : Int) = true) {j r : Nat} (hj : j < 2) {n : Int32} (hn : avl B u oC j = .int n) (hr : (r : Int) < n.toInt) (hr6 : r < 60) : k ≠ 45 * (60 * j + r) + c := by
  intro he
  unfold adead at h
  cases hd : adiv 45 (fk i (-(c : Int))) with
  | none => rw [hd] at h; cases h
  | some kf =>
    simp only [hd] at h
    obtain ⟨y, y1, y2⟩ := adiv_ok hd (ev_k (-(c : Int)) hi)
    have hy : y = ((60 * j + r : Nat) : Int) := by omega
    cases h0 : awit z kf 0 59 with
    | true =>
      rw [h0] at h
      have hw := awit_at hγ h0 y1
      have hj0 : j = 0 := by omega
      subst hj0
      cases hc : acnt z 0 with
      | none => simp only [hc, cond_true] at h; cases h
      | some o =>
        simp only [hc, cond_true] at h
        obtain ⟨c', e1, e2⟩ := acnt_ok hg hγ hc
        rw [hn] at e1
        cases e1
        have := prov_ok hγ.2.1 hγ.2.2.1 (ev_sub e2 y1) h
        omega
    | false =>
      rw [h0] at h
      cases h1 : awit z kf 60 119 with
      | false => rw [h1] at h; cases h
      | true =>
        rw [h1] at h
        have hw := awit_at hγ h1 y1
        have hj1 : j = 1 := by omega
        subst hj1
        cases hc : acnt z 1 with
        | none => simp only [hc, cond_true, cond_false] at h; cases h
        | some o =>
          simp only [hc, cond_true, cond_false] at h
          obtain ⟨c', e1, e2⟩ := acnt_ok hg hγ hc
          rw [hn] at e1
          cases e1
          have := prov_ok hγ.2.1 hγ.2.2.1 (ev_sub (ev_k 60 e2) y1) h
          omega
theorem awOok_ok (hg : aok grp) {ν : List Int} {z : aZ} {u : zW} (hγ : aγ B b0 L grp lit ν z u) {i : aF} {k : Nat} (hi : ev ν i = some (k : Int)) (h : awOok z i = true) {j r : Nat} (hj : j < 2) (h4 : j = 0 → z4 z = false) {n : Int32} (hn : avl B u oC j = .int n) (hr : (r : Int) < n.toInt) (hr6 : r < 60) : k ≠ 45 * (60 * j + r) ∧ k ≠ 45 * (60 * j + r) + 2 := by
  have low : (z4 z && awit z i 0 2699) = true → k ≠ 45 * (60 * j + r) ∧ k ≠ 45 * (60 * j + r) + 2 := by
    intro h
    rw [Bool.and_eq_true] at h
    have := awit_at hγ h.2 hi
    have hj1 : j ≠ 0 := fun e => by rw [h4 e] at h; cases h.1
    omega
  unfold awOok at h
  cases hr9 : ares (zb z) i 45 with
  | none => rw [hr9] at h; exact low h
  | some p =>
    simp only [hr9, Bool.or_eq_true] at h
    rcases h with ((h | h) | h) | h
    · have hp := ares_ok hγ.2.1 (m := 45) (by decide) hr9 hi
      simp only [Bool.and_eq_true, Bool.not_eq_true', Bool.and_eq_false_iff] at h
      have n0 : ¬ p.1 = 0 := fun e => by have := h.1; rw [ieq_iff.mpr e] at this; cases this
      have n2 : ¬ (p.1 ≤ 2 ∧ 2 ≤ p.2) := by
        rintro ⟨a1, a2⟩
        rcases h.2 with g | g
        · rw [ile_iff.mpr a1] at g; cases g
        · rw [ile_iff.mpr a2] at g; cases g
      have p0 : 0 ≤ p.1 := by
        unfold ares at hr9
        cases hq : rng (zb z) (i.1, aresL 45 i.2) with
        | none => rw [hq] at hr9; cases hr9
        | some t =>
          rw [hq] at hr9
          obtain ⟨-, hr9⟩ := cnd_t hr9
          cases hr9
          exact Int.emod_nonneg _ (by decide)
      constructor <;> omega
    · exact low h
    · have := adead_ok hg hγ hi (c := 0) h hj hn hr hr6
      refine ⟨by omega, ?_⟩
      intro e
      unfold adead at h
      cases hd : adiv 45 (fk i (-(0 : Int))) with
      | none => rw [hd] at h; cases h
      | some kf =>
        obtain ⟨y, y1, y2⟩ := adiv_ok hd (ev_k (-(0 : Int)) hi)
        omega
    · have := adead_ok hg hγ hi (c := 2) h hj hn hr hr6
      refine ⟨?_, this⟩
      intro e
      unfold adead at h
      cases hd : adiv 45 (fk i (-(2 : Int))) with
      | none => rw [hd] at h; cases h
      | some kf =>
        obtain ⟨y, y1, y2⟩ := adiv_ok hd (ev_k (-(2 : Int)) hi)
        omega
theorem acopy_ok (hg : aok grp) (hl9 : ∀ v, lit v → ∃ q : Nat, v = .ref q) {ν : List Int} {z : aZ} {u : zW} (hγ : aγ B b0 L grp lit ν z u) {g : Nat} {i : aF} {k : Nat} (hi : ev ν i = some (k : Int)) {v : aV} {w : Value} (hv : dV B b0 L grp lit ν v w) (h : acopy z g i v = true) : g = gO ∧ k < 2700 ∧ w = avl B u oO (2700 + k) := by
  simp only [acopy, Bool.and_eq_true, Nat.beq_eq] at h
  obtain ⟨⟨h1, h2⟩, h3⟩ := h
  have hk := awit_at hγ h3 hi
  refine ⟨h1, by omega, ?_⟩
  unfold aIsV at h2
  cases hl : alk z gO (Int.ofNat oO, []) (fk i 2700) with
  | none => rw [hl] at h2; cases h2
  | some x =>
    rw [hl] at h2
    simp only [aveqs, Bool.and_eq_true, Nat.beq_eq] at h2
    have e27 : ev ν (fk i 2700) = some ((2700 + k : Nat) : Int) := by rw [ev_k 2700 hi]; congr 1; omega
    have hx := alk_at hγ hl (a := oO) (ev_c ν _) e27
    have l2 : 2700 + k < aLN gO := by rw [show aLN gO = 5400 from rfl]; omega
    obtain ⟨c, c1, -⟩ := valAt hg hγ.2.2.2.2.1 sgO l2 spO (by show 0 ≤ (2700 + k) % 1; omega) (by show (2700 + k) % 1 ≤ 0; omega)
    rw [c1] at hx ⊢
    obtain ⟨x1, x2⟩ := dV_long hl9 hx
    obtain ⟨a, a1, a2, a3, a4⟩ := dV_1 hv (h2.1.1.symm.trans x1)
    rw [feq_eq h2.2] at x2
    rw [a1] at x2
    cases x2
    rw [a2, ofJ]
theorem awOb_ok (hg : aok grp) (hl9 : ∀ v, lit v → ∃ q : Nat, v = .ref q) {ν : List Int} {z z' : aZ} {u : zW} (hγ : aγ B b0 L grp lit ν z u) {fa fi : aF} {a k : Nat} (hp : apl grp ν gO fa fi a k) {v : aV} {w : Value} (hv : dV B b0 L grp lit ν v w)
    (hsp : ∀ e ∈ aSP gO, e.2.1 ≤ k % e.1 → k % e.1 ≤ e.2.2.1 → dP B grp e.2.2.2 w) (h : awOb z fa fi v = some z') : aγ B b0 L grp lit ν z' (zset u (B + a) k w) := by
  have ha := at_o hg sgO hp
  subst ha
  obtain ⟨m1, m2, m3, m4, m5, x, m6, m7⟩ := hγ.2.2.2.2.2
  have hM : ∀ i, avl B (zset u (B + oO) k w) oM i = avl B u oM i := fun i => avl_ne (Or.inl (by decide))
  have hC : ∀ i, avl B (zset u (B + oO) k w) oC i = avl B u oC i := fun i => avl_ne (Or.inl (by decide))
  have hS : ∀ i, avl B (zset u (B + oO) k w) oS i = avl B u oS i := fun i => avl_ne (Or.inl (by decide))
  have hZ : ∀ i, avl B (zset u (B + oO) k w) oZ i = avl B u oZ i := fun i => avl_ne (Or.inl (by decide))
  unfold awOb at h
  obtain ⟨hok, h⟩ := cnd_t h
  cases h
  have rows : ∀ j, j < 2 → (j = 0 → z4 z = false) → dRows B u j → dRows B (zset u (B + oO) k w) j := by
    intro j hj h4 hd c hc r hr hr6
    rw [hC] at hc
    obtain ⟨e1, e2⟩ := awOok_ok hg hγ hp.2.1 hok hj h4 hc hr hr6
    exact dRow_c (avl_ne (Or.inr (Ne.symm e1))) (avl_ne (Or.inr (Ne.symm e2))) (hd c hc r hr hr6)
  refine awr_base hγ hp hv hsp ⟨rfl, rfl, rfl, rfl⟩ ⟨fun e => dFree_c (hM _) (hC _) (m1 e), fun e => dFree_c (hM _) (hC _) (m2 e), dM3_c hS (fun j => hZ _) m3, fun e => rows 0 (by decide) (fun _ => e) (m4 e), rows 1 (by decide) (fun e => by cases e) m5, ?_⟩
  show ∃ x, ev ν (bif acopy z gO fi v && feq (zf z) fi then fk fi 1 else (0, [])) = some x ∧ _
  cases hc : (acopy z gO fi v && feq (zf z) fi) with
  | false => exact ⟨0, ev_c ν 0, fun i hi _ => by omega⟩
  | true =>
    rw [Bool.and_eq_true] at hc
    obtain ⟨-, h27, hw⟩ := acopy_ok hg hl9 hγ hp.2.1 hv hc.1
    rw [feq_eq hc.2, hp.2.1] at m6
    cases m6
    refine ⟨(k : Int) + 1, ev_k 1 hp.2.1, fun i hi hi27 => ?_⟩
    by_cases e : i = k
    · subst e
      rw [avl_eq, avl_ne (Or.inr (by omega))]
      exact hw
    · rw [avl_ne (Or.inr e), avl_ne (Or.inr (by omega))]
      exact m7 i (by omega) hi27
theorem afit_k0 {z : aZ} {v : aV} {p : aP} (h : afit z v p = true) (hp : p.1 = 0) : v.1 = 0 := by
  unfold afit at h
  rw [hp] at h
  simp only [show Nat.beq 0 3 = false from rfl, cond_false, Bool.and_eq_true, Nat.beq_eq] at h
  exact h.1
theorem fcon_ok {ν : List Int} {i : aF} {k : Nat} (hi : ev ν i = some (k : Int)) (h : fcon i = true) : i = ((k : Int), []) := by
  obtain ⟨c, l⟩ := i
  match l, h with
  | [], _ =>
    rw [ev_c] at hi
    cases hi
    rfl
  | _ :: _, h => cases h
theorem awr_ok (hg : aok grp) (hl9 : ∀ v, lit v → ∃ q : Nat, v = .ref q) {ν : List Int} {z z' : aZ} {u : zW} (hγ : aγ B b0 L grp lit ν z u) {g : Nat} {fa fi : aF} {a k : Nat} (hp : apl grp ν g fa fi a k) {v : aV} {w : Value} (hv : dV B b0 L grp lit ν v w) (h : awr z g fa fi v = some z') : aγ B b0 L grp lit ν z' (zset u (B + a) k w) := by
  unfold awr at h
  obtain ⟨hs, h⟩ := cnd_t h
  rw [Bool.or_eq_true] at hs
  have hsp : ∀ e ∈ aSP g, e.2.1 ≤ k % e.1 → k % e.1 ≤ e.2.2.1 → dP B grp e.2.2.2 w := by
    rcases hs with hs | hs
    · obtain ⟨rfl, h27, hw⟩ := acopy_ok hg hl9 hγ hp.2.1 hv hs
      intro e he h1 h2
      rw [hw]
      have h0 := spO2700 e he
      have hm : (2700 + k) % e.1 = k % e.1 := by
        rw [Nat.add_mod, h0, Nat.zero_add, Nat.mod_mod]
      exact valAt hg hγ.2.2.2.2.1 sgO (by rw [show aLN gO = 5400 from rfl]; omega) he (by rw [hm]; exact h1) (by rw [hm]; exact h2)
    · exact awsp_ok hγ hp.2.1 hv (aSP_k g) hs
  have fit : g ≠ gO → awsp z fi v (aSP g) = true := by
    intro hne
    rcases hs with hs | hs
    · exact absurd (acopy_ok hg hl9 hγ hp.2.1 hv hs).1 hne
    · exact hs
  rcases cnd_some h with ⟨hc, h⟩ | ⟨hc, h⟩
  · have e := Nat.beq_eq.mp hc
    subst e
    have ha := at_o hg sgM hp
    subst ha
    have hC : ∀ i, avl B (zset u (B + oM) k w) oC i = avl B u oC i := fun i => avl_ne (Or.inl (by decide))
    have hS : ∀ i, avl B (zset u (B + oM) k w) oS i = avl B u oS i := fun i => avl_ne (Or.inl (by decide))
    have hZ : ∀ i, avl B (zset u (B + oM) k w) oZ i = avl B u oZ i := fun i => avl_ne (Or.inl (by decide))
    have hO : ∀ i, avl B (zset u (B + oM) k w) oO i = avl B u oO i := fun i => avl_ne (Or.inl (by decide))
    obtain ⟨m1, m2, m3, m4, m5, x, m6, m7⟩ := hγ.2.2.2.2.2
    have mk : ∀ z'', z3 z'' = z3 z → z4 z'' = z4 z → zf z'' = zf z → (z1 z'' = false → dFree B (zset u (B + oM) k w) kOpen 0) → (z2 z'' = false → dFree B (zset u (B + oM) k w) kIn 1) → dM B ν z'' (zset u (B + oM) k w) := by
      intro z'' e3 e4 e5 f1 f2
      refine ⟨f1, f2, by rw [e3]; exact dM3_c hS (fun j => hZ _) m3, fun e => dRows_c (hC _) hO (m4 (e4 ▸ e)), dRows_c (hC _) hO m5, x, by rw [e5]; exact m6, fun i hi h27 => by rw [hO, hO]; exact m7 i hi h27⟩
    rcases cnd_some h with ⟨hi, h⟩ | ⟨hi, h⟩
    · obtain ⟨hw, h⟩ := cnd_t h
      cases h
      have hk : k = kOpen := by
        have : (k : Int) = Int.ofNat kOpen := feq_ev hi hp.2.1
        have h2 : Int.ofNat kOpen = ((kOpen : Nat) : Int) := rfl
        omega
      subst hk
      have h0 := afit_k0 (awsp_fit hγ hp.2.1 (aSP_k gM) (fit (by decide)) _ spOpen (by decide) (by decide)) rfl
      exact awr_base hγ hp hv hsp ⟨rfl, rfl, rfl, rfl⟩ (mk _ rfl rfl rfl (fun _ => awO_ok hg hγ hv h0 hw) (fun e => dFree_c (avl_ne (Or.inr (by decide))) (hC _) (m2 e)))
    · rcases cnd_some h with ⟨hi2, h⟩ | ⟨hi2, h⟩
      · obtain ⟨hw, h⟩ := cnd_t h
        cases h
        have hk : k = kIn := by
          have : (k : Int) = Int.ofNat kIn := feq_ev hi2 hp.2.1
          have h2 : Int.ofNat kIn = ((kIn : Nat) : Int) := rfl
          omega
        subst hk
        have h0 := afit_k0 (awsp_fit hγ hp.2.1 (aSP_k gM) (fit (by decide)) _ spIn (by decide) (by decide)) rfl
        exact awr_base hγ hp hv hsp ⟨rfl, rfl, rfl, rfl⟩ (mk _ rfl rfl rfl (fun e => dFree_c (avl_ne (Or.inr (by decide))) (hC _) (m1 e)) (fun _ => awO_ok hg hγ hv h0 hw))
      · obtain ⟨hcn, h⟩ := cnd_t h
        cases h
        have hik := fcon_ok hp.2.1 hcn
        have feqs : ∀ n : Nat, feq ((n : Int), []) (Int.ofNat n, []) = true := fun n => by
          unfold feq
          rw [Bool.and_eq_true]
          exact ⟨ieq_iff.mpr rfl, rfl⟩
        have n1 : kOpen ≠ k := by
          intro e
          rw [hik, ← e, feqs] at hi
          cases hi
        have n2 : kIn ≠ k := by
          intro e
          rw [hik, ← e, feqs] at hi2
          cases hi2
        exact awr_base hγ hp hv hsp ⟨rfl, rfl, rfl, rfl⟩ (mk _ rfl rfl rfl (fun e => dFree_c (avl_ne (Or.inr n1)) (hC _) (m1 e)) (fun e => dFree_c (avl_ne (Or.inr n2)) (hC _) (m2 e)))
  · have nM : g ≠ gM := fun e => by rw [Nat.beq_eq.mpr e] at hc; cases hc
    rcases cnd_some h with ⟨hc, h⟩ | ⟨hc, h⟩
    · have e := Nat.beq_eq.mp hc
      subst e
      exact awC_ok hg hl9 hγ hp hv hsp (afit_k0 (awsp_fit hγ hp.2.1 (aSP_k gC) (fit (by decide)) _ spC (by show 0 ≤ k % 1; omega) (by show k % 1 ≤ 0; omega)) rfl) h
    · have nC : g ≠ gC := fun e => by rw [Nat.beq_eq.mpr e] at hc; cases hc
      rcases cnd_some h with ⟨hc, h⟩ | ⟨hc, h⟩
      · have e := Nat.beq_eq.mp hc
        subst e
        exact awS_ok hg hl9 hγ hp hv hsp (afit_k0 (awsp_fit hγ hp.2.1 (aSP_k gS) (fit (by decide)) _ spS (by show 0 ≤ k % 1; omega) (by show k % 1 ≤ 0; omega)) rfl) h
      · have nS : g ≠ gS := fun e => by rw [Nat.beq_eq.mpr e] at hc; cases hc
        rcases cnd_some h with ⟨hc, h⟩ | ⟨hc, h⟩
        · have e := Nat.beq_eq.mp hc
          subst e
          exact awZ_ok hg hl9 hγ hp hv hsp h
        · have nZ : g ≠ gZ := fun e => by rw [Nat.beq_eq.mpr e] at hc; cases hc
          rcases cnd_some h with ⟨hc, h⟩ | ⟨hc, h⟩
          · have e := Nat.beq_eq.mp hc
            subst e
            exact awOb_ok hg hl9 hγ hp hv hsp h
          · have nO : g ≠ gO := fun e => by rw [Nat.beq_eq.mpr e] at hc; cases hc
            cases h
            have no : ∀ {g' o : Nat}, aSG g' = some o → g ≠ g' → ∀ i, avl B (zset u (B + a) k w) o i = avl B u o i := fun hs hne i => avl_ne (Or.inl (notat hg hs hp.2.2.2.1 hne))
            exact awr_base hγ hp hv hsp ⟨rfl, rfl, rfl, rfl⟩ (dM_same (z := aset z g fa fi v) hγ.2.2.2.2.2 ⟨no sgM nM _, no sgM nM _, no sgC nC, no sgS nS, fun j => no sgZ nZ _, no sgO nO⟩)
end AL
