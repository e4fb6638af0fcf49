section AL
variable {B b0 L : Nat} {grp : Nat → Nat} {lit : Value → Prop}
theorem aivs_ok {ν μ : List Int} {z : aZ} {u : zW} (hγ : aγ B b0 L grp lit ν z u) {σ : List aF} (hσ : evs ν σ μ) : ∀ {l : aB}, aivs z σ l = true → bx μ l
  | [], _, q, hq => by cases hq
  | p :: r, h, q, hq => by
    unfold aivs at h
    rw [Bool.and_eq_true] at h
    rcases List.mem_cons.mp hq with rfl | hq
    · cases ha : anth σ q.1 with
      | none => rw [ha] at h; cases h.1
      | some f =>
        rw [ha] at h
        obtain ⟨x, x1, x2⟩ := evs_get hσ ha
        exact ⟨x, x2, awit_at hγ h.1 x1⟩
    · exact aivs_ok hγ hσ h.2 q hq
theorem alvs_ok {ν μ : List Int} {z : aZ} {u : zW} (hγ : aγ B b0 L grp lit ν z u) {σ : List aF} (hσ : evs ν σ μ) {lv : List (Nat × aV)} {lc : List (Nat × Value)} (hL : dL B b0 L grp lit ν lv lc) : ∀ {l : List (Nat × aV)}, alvs z σ lv l = true → ∃ lc', dL B b0 L grp lit μ l lc' ∧ ∀ p ∈ lc', p ∈ lc
  | [], _ => ⟨[], trivial, fun p hp => by cases hp⟩
  | q :: r, h => by
    unfold alvs at h
    rw [Bool.and_eq_true] at h
    obtain ⟨lc', g1, g2⟩ := alvs_ok hγ hσ hL h.2
    have h := h.1
    cases h1 : alkv lv q.1 with
    | none => simp only [h1] at h; cases h
    | some v =>
      cases h2 : asubv σ q.2 with
      | none => simp only [h1, h2] at h; cases h
      | some w =>
        simp only [h1, h2] at h
        obtain ⟨k, val, e1, e2⟩ := alkv_ok h1 hL
        obtain ⟨⟨y, y1, y2⟩, hiff⟩ := asubv_ok (B := B) (b0 := b0) (L := L) (grp := grp) (lit := lit) hσ h2
        refine ⟨(q.1, val) :: lc', ⟨⟨rfl, (hiff _).mp (aveq_ok hγ.2.1 h e2 y2)⟩, g1⟩, fun p hp => ?_⟩
        rcases List.mem_cons.mp hp with rfl | hp
        · exact List.mem_of_getElem? e1
        · exact g2 p hp
theorem asts_ok {ν μ : List Int} {z : aZ} {u : zW} (hγ : aγ B b0 L grp lit ν z u) {σ : List aF} (hσ : evs ν σ μ) : ∀ {l st : List aV} {sc : List Value}, dS B b0 L grp lit ν st sc → asts z σ st l = true → dS B b0 L grp lit μ l sc
  | [], [], [], _, _ => trivial
  | [], [], _ :: _, hS, _ => hS.elim
  | [], _ :: _, _, _, h => by cases h
  | _ :: _, [], _, _, h => by cases h
  | q :: r, v :: s, [], hS, _ => hS.elim
  | q :: r, v :: s, x :: t, hS, h => by
    unfold asts at h
    rw [Bool.and_eq_true] at h
    refine ⟨?_, asts_ok hγ hσ hS.2 h.2⟩
    have h := h.1
    cases h2 : asubv σ q with
    | none => simp only [h2] at h; cases h
    | some w =>
      simp only [h2] at h
      obtain ⟨⟨y, y1, y2⟩, hiff⟩ := asubv_ok (B := B) (b0 := b0) (L := L) (grp := grp) (lit := lit) hσ h2
      exact (hiff _).mp (aveq_ok hγ.2.1 h hS.1 y2)
theorem acss_ok {ν μ : List Int} {z : aZ} {u : zW} (hγ : aγ B b0 L grp lit ν z u) {σ : List aF} (hσ : evs ν σ μ) : ∀ {l : List aF}, acss z σ l = true → cx μ l
  | [], _, q, hq => by cases hq
  | p :: r, h, q, hq => by
    unfold acss at h
    rw [Bool.and_eq_true] at h
    rcases List.mem_cons.mp hq with rfl | hq
    · cases ha : asub σ q with
      | none => rw [ha] at h; cases h.1
      | some f =>
        rw [ha] at h
        obtain ⟨x, x1, x2⟩ := asub_ok hσ ha
        exact ⟨x, x1, prov2_ok hγ.2.1 hγ.2.2.1 x2 h.1⟩
    · exact acss_ok hγ hσ h.2 q hq
theorem afl4_ok (hg : aok grp) {ν : List Int} {z : aZ} {u : zW} (hγ : aγ B b0 L grp lit ν z u) (h : afl4 z = true) : dRows B u 0 := by
  unfold afl4 at h
  cases h0 : acnt z 0 with
  | none => simp only [h0] at h; cases h
  | some c =>
    cases h1 : acnt z 1 with
    | none => simp only [h0, h1] at h; cases h
    | some d =>
      simp only [h0, h1, Bool.and_eq_true] at h
      obtain ⟨c', c1, c2⟩ := acnt_ok hg hγ h0
      obtain ⟨d', d1, d2⟩ := acnt_ok hg hγ h1
      rw [feq_eq h.1, d2] at c2
      have hcd : d'.toInt = c'.toInt := Option.some.inj c2
      obtain ⟨m1, m2, m3, m4, m5, x, m6, m7⟩ := hγ.2.2.2.2.2
      have hx := prov_ok hγ.2.1 hγ.2.2.1 (ev_k 2700 (ev_sc (-1) m6)) h.2
      intro n hn r hr hr6
      rw [c1] at hn
      cases hn
      have hrow := m5 d' d1 r (by omega) hr6
      have e1 : avl B u oO (45 * (60 * 0 + r)) = avl B u oO (45 * (60 * 1 + r)) := by
        rw [m7 (45 * (60 * 0 + r)) (by omega) (by omega)]
        congr 1; omega
      have e2 : avl B u oO (45 * (60 * 0 + r) + 2) = avl B u oO (45 * (60 * 1 + r) + 2) := by
        rw [m7 (45 * (60 * 0 + r) + 2) (by omega) (by omega)]
        congr 1; omega
      unfold dRow at hrow ⊢
      rw [e1, e2]
      exact hrow
theorem afls_ok (hg : aok grp) {ν μ : List Int} {z : aZ} {u : zW} (hγ : aγ B b0 L grp lit ν z u) {σ : List aF} (hσ : evs ν σ μ) {t : aZ} (h : afls z σ t = true) : dM B μ t u := by
  unfold afls at h
  simp only [Bool.and_eq_true, Bool.or_eq_true, Bool.not_eq_true'] at h
  obtain ⟨⟨⟨⟨h1, h2⟩, h3⟩, h4⟩, h5⟩ := h
  obtain ⟨m1, m2, m3, m4, m5, x, m6, m7⟩ := hγ.2.2.2.2.2
  refine ⟨fun e => ?_, fun e => ?_, ?_, fun e => ?_, m5, ?_⟩
  · rcases h1 with h1 | h1
    · exact m1 h1
    · rw [e] at h1; cases h1
  · rcases h2 with h2 | h2
    · exact m2 h2
    · rw [e] at h2; cases h2
  · unfold dM3 at m3 ⊢
    cases hz : z3 z with
    | none =>
      simp only [hz] at h3 m3
      cases ht : z3 t with
      | none => exact m3
      | some f =>
        simp only [ht] at h3
        have h3 : (match asub σ f with
          | some _ => true
          | none => false) = true := h3
        cases hs : asub σ f with
        | none => rw [hs] at h3; cases h3
        | some g =>
          obtain ⟨y, y1, y2⟩ := asub_ok hσ hs
          exact ⟨y, y1, fun i hi _ => m3 i hi⟩
    | some g0 =>
      simp only [hz] at h3 m3
      cases ht : z3 t with
      | none => simp only [ht] at h3; cases h3
      | some f =>
        simp only [ht] at h3
        have h3 : (match asub σ f with
          | some h => feq h g0
          | none => false) = true := h3
        cases hs : asub σ f with
        | none => rw [hs] at h3; cases h3
        | some g =>
          rw [hs] at h3
          obtain ⟨y, y1, y2⟩ := asub_ok hσ hs
          obtain ⟨x', x1, x2⟩ := m3
          rw [feq_eq h3, x1] at y2
          cases y2
          exact ⟨_, y1, x2⟩
  · rcases h4 with (h4 | h4) | h4
    · exact m4 h4
    · rw [e] at h4; cases h4
    · exact afl4_ok hg hγ h4
  · unfold aflc at h5
    cases hs : asub σ (zf t) with
    | none => rw [hs] at h5; cases h5
    | some g =>
      rw [hs] at h5
      obtain ⟨y, y1, y2⟩ := asub_ok hσ hs
      refine ⟨y, y1, fun i hi h27 => ?_⟩
      have h5 : (aprv z g || feq g (zf z)) = true := h5
      rw [Bool.or_eq_true] at h5
      rcases h5 with h5 | h5
      · have := prov_ok hγ.2.1 hγ.2.2.1 y2 h5
        omega
      · rw [feq_eq h5, m6] at y2
        cases y2
        exact m7 i hi h27
theorem aent_ok (hg : aok grp) {ν : List Int} {z : aZ} {u : zW} (hγ : aγ B b0 L grp lit ν z u) {lv : List (Nat × aV)} {lc : List (Nat × Value)} (hL : dL B b0 L grp lit ν lv lc) {st : List aV} {sc : List Value} (hS : dS B b0 L grp lit ν st sc) {t : aT} {q : List aF × aZ} (h : aent z lv st t = some q) :
    ∃ ν' μ lc', aext ν ν' ∧ aγ B b0 L grp lit ν' q.2 u ∧ evs ν' q.1 μ ∧ (∀ j, j < tnp t → μ[j]? = ν[j]?) ∧ aγ B b0 L grp lit μ (tz t) u ∧ dL B b0 L grp lit μ (tlv t) lc' ∧ (∀ p ∈ lc', p ∈ lc) ∧ dS B b0 L grp lit μ (tst t) sc ∧ tnp t ≤ ν.length := by
  unfold aent at h
  cases h1 : asrs lv st (zfx (tz t)) (tsr t) (aids (tnp t)) z with
  | none => rw [h1] at h; cases h
  | some p =>
    simp only [h1] at h
    cases h2 : afxs lv p.1 (zfx (tz t)) p.2 with
    | none => simp only [h2] at h; cases h
    | some w =>
      simp only [h2] at h
      obtain ⟨hc, h⟩ := cnd_t h
      cases h
      simp only [Bool.and_eq_true, Nat.beq_eq, Nat.ble_eq] at hc
      obtain ⟨⟨⟨⟨⟨⟨c1, c2⟩, c3⟩, c4⟩, c5⟩, c6⟩, c7⟩ := hc
      have hnp : tnp t ≤ ν.length := by rw [hγ.1]; exact c2
      obtain ⟨ν1, μ, e1, e2, e3, e4⟩ := asrs_ok hg hγ hL hS (aids_ok hnp) h1
      obtain ⟨ν2, f1, f2, f3⟩ := afxs_ok hg e3 (dL_ext e1 hL) e4 h2
      have hσ := evs_ext f1 e4
      have e12 := aext_t e1 f1
      obtain ⟨lc', g1, g2⟩ := alvs_ok f2 hσ (dL_ext e12 hL) c4
      refine ⟨ν2, μ, lc', e12, f2, hσ, fun j hj => ?_, ⟨?_, aivs_ok f2 hσ c3, acss_ok f2 hσ c6, f3, hγ.2.2.2.2.1, afls_ok hg f2 hσ c7⟩, g1, g2, asts_ok f2 hσ (dS_ext e12 hS) c5, hnp⟩
      · have hj2 : (ν.take (tnp t))[j]? = ν[j]? := by rw [List.getElem?_take, if_pos hj]
        have hj3 : (ν.take (tnp t))[j]? = some ν[j] := by rw [hj2, List.getElem?_eq_getElem (by omega)]
        rw [get_ext e2 hj3, ← hj3, hj2]
      · rw [evs_len e4]; exact c1
end AL
