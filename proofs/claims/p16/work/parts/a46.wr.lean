/-! the writes -/
theorem avl_set (B : Nat) (u : zW) (a k a' k' : Nat) (w : Value) : avl B (zset u (B + a) k w) a' k' = if a' = a ∧ k' = k then w else avl B u a' k' := by
  unfold avl zset
  show (if B + a' = B + a then _ else _ : zC).2.2 k' = _
  by_cases h : a' = a
  · subst h
    rw [if_pos rfl]
    show updV _ k w k' = _
    unfold updV
    by_cases hk : k' = k
    · rw [if_pos hk, if_pos ⟨rfl, hk⟩]
    · rw [if_neg hk, if_neg (fun g => hk g.2)]
  · rw [if_neg (by omega), if_neg (fun g => h g.1)]
theorem avl_ne {B : Nat} {u : zW} {a k a' k' : Nat} {w : Value} (h : a' ≠ a ∨ k' ≠ k) : avl B (zset u (B + a) k w) a' k' = avl B u a' k' := by
  rw [avl_set, if_neg]
  rintro ⟨h1, h2⟩
  rcases h with h | h
  · exact h h1
  · exact h h2
theorem avl_eq (B : Nat) (u : zW) (a k : Nat) (w : Value) : avl B (zset u (B + a) k w) a k = w := by
  rw [avl_set, if_pos ⟨rfl, rfl⟩]
theorem spO2700 : ∀ e ∈ aSP gO, 2700 % e.1 = 0 := by decide
section AL
variable {B b0 L : Nat} {grp : Nat → Nat} {lit : Value → Prop}
theorem dI_set {u : zW} (h : dI B grp u) {a k : Nat} {w : Value} (ha : a < aN0) (hw : ∀ e ∈ aSP (grp a), e.2.1 ≤ k % e.1 → k % e.1 ≤ e.2.2.1 → dP B grp e.2.2.2 w) : dI B grp (zset u (B + a) k w) := by
  refine ⟨h.1, fun a' ha' => ?_⟩
  obtain ⟨h1, h2, h3⟩ := h.2 a' ha'
  have ht : ((zset u (B + a) k w).2 (B + a')).1 = (u.2 (B + a')).1 ∧ ((zset u (B + a) k w).2 (B + a')).2.1 = (u.2 (B + a')).2.1 := by
    unfold zset
    show (if B + a' = B + a then _ else _ : zC).1 = _ ∧ (if B + a' = B + a then _ else _ : zC).2.1 = _
    by_cases h : a' = a
    · subst h
      rw [if_pos rfl]
      exact ⟨rfl, rfl⟩
    · rw [if_neg (by omega)]
      exact ⟨rfl, rfl⟩
  refine ⟨ht.1.trans h1, ht.2.trans h2, fun k' hk' e he e1 e2 => ?_⟩
  rw [avl_set]
  by_cases hc : a' = a ∧ k' = k
  · rw [if_pos hc]
    obtain ⟨rfl, rfl⟩ := hc
    exact hw e he e1 e2
  · rw [if_neg hc]
    exact h3 k' hk' e he e1 e2
theorem adrop_ok {ν : List Int} {b : aB} (hb : bx ν b) {g : Nat} {i : aF} {q : aX} : ∀ {l : List aX}, q ∈ adrop b g i l → q ∈ l ∧ (q.1 ≠ g ∨ apart b q.2.2.1 i = true)
  | [], h => by cases h
  | p :: r, h => by
    unfold adrop at h
    cases hc : (Nat.beq p.1 g && !(apart b p.2.2.1 i)) with
    | true =>
      rw [hc] at h
      obtain ⟨h1, h2⟩ := adrop_ok hb h
      exact ⟨List.mem_cons_of_mem _ h1, h2⟩
    | false =>
      rw [hc] at h
      rcases List.mem_cons.mp h with rfl | h
      · refine ⟨List.mem_cons_self, ?_⟩
        by_cases hg : q.1 = g
        · right
          rw [Nat.beq_eq.mpr hg] at hc
          simpa using hc
        · exact Or.inl hg
      · obtain ⟨h1, h2⟩ := adrop_ok hb h
        exact ⟨List.mem_cons_of_mem _ h1, h2⟩
/-- facts after a write -/
theorem afx_set {ν : List Int} {z : aZ} {u : zW} (hγ : aγ B b0 L grp lit ν z u) {g : Nat} {fa fi : aF} {a k : Nat} (hp : apl grp ν g fa fi a k) {v : aV} {w : Value} (hv : dV B b0 L grp lit ν v w) : ∀ q ∈ zfx (aset z g fa fi v), dX B b0 L grp lit ν (zset u (B + a) k w) q := by
  intro q hq
  rcases List.mem_cons.mp hq with rfl | hq
  · exact ⟨a, k, hp.1, hp.2.1, hp.2.2.1, hp.2.2.2.1, hp.2.2.2.2, by rw [avl_eq]; exact hv⟩
  · obtain ⟨h1, h2⟩ := adrop_ok hγ.2.1 hq
    obtain ⟨a', k', e1, e2, e3, e4, e5, e6⟩ := hγ.2.2.2.1 q h1
    refine ⟨a', k', e1, e2, e3, e4, e5, ?_⟩
    rw [avl_ne]
    · exact e6
    · rcases h2 with h2 | h2
      · left
        intro h
        subst h
        exact h2 (e4.symm.trans hp.2.2.2.1)
      · right
        have := apart_ok hγ.2.1 e2 hp.2.1 h2
        omega
/-- the marks' places -/
def dMs (B : Nat) (u u' : zW) : Prop := avl B u' oM kOpen = avl B u oM kOpen ∧ avl B u' oM kIn = avl B u oM kIn ∧ (∀ j, avl B u' oC j = avl B u oC j) ∧ (∀ j, avl B u' oS j = avl B u oS j) ∧ (∀ j, avl B u' oZ (2 * j) = avl B u oZ (2 * j)) ∧ ∀ j, avl B u' oO j = avl B u oO j
theorem dRow_c {u u' : zW} {r : Nat} (h1 : avl B u' oO (45 * r) = avl B u oO (45 * r)) (h2 : avl B u' oO (45 * r + 2) = avl B u oO (45 * r + 2)) (h : dRow B u r) : dRow B u' r := by
  unfold dRow at h ⊢
  rw [h1, h2]
  exact h
theorem dFree_c {u u' : zW} {kf j : Nat} (h1 : avl B u' oM kf = avl B u oM kf) (h2 : avl B u' oC j = avl B u oC j) (h : dFree B u kf j) : dFree B u' kf j := by
  unfold dFree at h ⊢
  rw [h1, h2]
  exact h
theorem dShp_c {u u' : zW} {j : Nat} (h1 : avl B u' oS j = avl B u oS j) (h2 : avl B u' oZ (2 * j) = avl B u oZ (2 * j)) (h : dShp B u j) : dShp B u' j := by
  unfold dShp at h ⊢
  rw [h1, h2]
  exact h
theorem dRows_c {u u' : zW} {j : Nat} (h1 : avl B u' oC j = avl B u oC j) (h2 : ∀ i, avl B u' oO i = avl B u oO i) (h : dRows B u j) : dRows B u' j := by
  intro c hc r hr hr6
  rw [h1] at hc
  exact dRow_c (h2 _) (h2 _) (h c hc r hr hr6)
theorem dM3_c {ν : List Int} {o : Option aF} {u u' : zW} (h1 : ∀ j, avl B u' oS j = avl B u oS j) (h2 : ∀ j, avl B u' oZ (2 * j) = avl B u oZ (2 * j)) (h : dM3 B ν o u) : dM3 B ν o u' := by
  unfold dM3 at h ⊢
  cases o with
  | none => exact fun i hi => dShp_c (h1 i) (h2 i) (h i hi)
  | some f =>
    obtain ⟨x, e1, e2⟩ := h
    exact ⟨x, e1, fun i hi hx => dShp_c (h1 i) (h2 i) (e2 i hi hx)⟩
theorem dM_same {ν : List Int} {z : aZ} {u u' : zW} (h : dM B ν z u) (hs : dMs B u u') : dM B ν z u' := by
  obtain ⟨s1, s2, s3, s4, s5, s6⟩ := hs
  obtain ⟨h1, h2, h3, h4, h5, x, h6, h7⟩ := h
  exact ⟨fun e => dFree_c s1 (s3 _) (h1 e), fun e => dFree_c s2 (s3 _) (h2 e), dM3_c s4 s5 h3, fun e => dRows_c (s3 _) s6 (h4 e), dRows_c (s3 _) s6 h5, x, h6, fun i hi h27 => by rw [s6, s6]; exact h7 i hi h27⟩
/-- a write: what is left to show -/
theorem awr_base {ν : List Int} {z z' : aZ} {u : zW} (hγ : aγ B b0 L grp lit ν z u) {g : Nat} {fa fi : aF} {a k : Nat} (hp : apl grp ν g fa fi a k) {v : aV} {w : Value} (hv : dV B b0 L grp lit ν v w)
    (hsp : ∀ e ∈ aSP g, e.2.1 ≤ k % e.1 → k % e.1 ≤ e.2.2.1 → dP B grp e.2.2.2 w) (hz : zfx z' = zfx (aset z g fa fi v) ∧ zb z' = zb z ∧ zn z' = zn z ∧ zc z' = zc z) (hm : dM B ν z' (zset u (B + a) k w)) : aγ B b0 L grp lit ν z' (zset u (B + a) k w) := by
  obtain ⟨g1, g2, g3, g4, g5, g6⟩ := hγ
  refine ⟨by rw [hz.2.2.1]; exact g1, by rw [hz.2.1]; exact g2, by rw [hz.2.2.2]; exact g3, ?_, dI_set g5 hp.2.2.1 (by rw [hp.2.2.2.1]; exact hsp), hm⟩
  rw [hz.1]
  exact afx_set ⟨g1, g2, g3, g4, g5, g6⟩ hp hv
theorem notat (hg : aok grp) {g g' o a : Nat} (hs : aSG g' = some o) (ha : grp a = g) (hne : g ≠ g') : o ≠ a := by
  intro h
  subst h
  exact hne (ha.symm.trans (hg.2 g' o hs).2)
/-- the first and the second mark's fields -/
theorem awO_ok (hg : aok grp) {ν : List Int} {z : aZ} {u : zW} (hγ : aγ B b0 L grp lit ν z u) {k j : Nat} {v : aV} {w : Value} (hv : dV B b0 L grp lit ν v w) (h0 : v.1 = 0) (h : awO z v j = true) : dFree B (zset u (B + oM) k w) k j := by
  intro h1
  rw [avl_eq] at h1
  subst h1
  simp only [awO, Bool.or_eq_true] at h
  have hC : avl B (zset u (B + oM) k (.int 1)) oC j = avl B u oC j := avl_ne (Or.inl (by decide))
  rcases h with h | h
  · have e1 := dV_int hv h0
    have := feq_ev h e1
    exact absurd this (by decide)
  · unfold afree at h
    cases hc : acnt z j with
    | none => rw [hc] at h; cases h
    | some c =>
      rw [hc] at h
      obtain ⟨c', e1, e2⟩ := acnt_ok hg hγ hc
      exact ⟨c', by rw [hC]; exact e1, (awit_at hγ h e2).2⟩
theorem awC1_ok (hg : aok grp) {ν : List Int} {z : aZ} {u : zW} (hγ : aγ B b0 L grp lit ν z u) {k j : Nat} (hj : (j = 0 ∧ k = kOpen) ∨ (j = 1 ∧ k = kIn)) {v : aV} {w : Int32} (hv : dV B b0 L grp lit ν v (.int w)) (h0 : v.1 = 0) (h : awC1 z v j = true) : dFree B (zset u (B + oC) j (.int w)) k j := by
  have hM : avl B (zset u (B + oC) j (.int w)) oM k = avl B u oM k := avl_ne (Or.inl (by decide))
  simp only [awC1, Bool.or_eq_true] at h
  rcases h with h | h
  · intro _
    rw [avl_eq]
    exact ⟨w, rfl, (awit_at hγ h (dV_int hv h0)).2⟩
  · intro h1
    rw [hM] at h1
    have hk : (bif Nat.beq j 0 then kOpen else kIn) = k := by
      rcases hj with ⟨rfl, rfl⟩ | ⟨rfl, rfl⟩ <;> rfl
    rw [hk] at h
    unfold aIsV at h
    cases hl : alk z gM (Int.ofNat oM, []) (Int.ofNat k, []) with
    | none => rw [hl] at h; cases h
    | some x =>
      rw [hl] at h
      simp only [aveqs, Bool.and_eq_true, Nat.beq_eq] at h
      have hx := alk_at hγ hl (a := oM) (k := k) (ev_c ν _) (ev_c ν _)
      rw [h1] at hx
      have := feq_ev h.2 (dV_int hx h.1.1)
      exact absurd this (by decide)
theorem arow_ok (hl9 : ∀ v, lit v → ∃ q : Nat, v = .ref q) (hg : aok grp) {ν : List Int} {z : aZ} {u : zW} (hγ : aγ B b0 L grp lit ν z u) {k : aF} {r : Nat} (hk : ev ν k = some (r : Int)) (h : arow z k = true) : dRow B u r := by
  unfold arow at h
  cases h1 : alk z gO (Int.ofNat oO, []) (fsc k 45) with
  | none => rw [h1] at h; cases h
  | some d =>
    cases h2 : alk z gO (Int.ofNat oO, []) (fk (fsc k 45) 2) with
    | none => rw [h1, h2] at h; cases h
    | some p =>
      simp only [h1, h2, Bool.or_eq_true, Bool.and_eq_true] at h
      have e45 : ev ν (fsc k 45) = some ((45 * r : Nat) : Int) := by rw [ev_sc 45 hk]; congr 1; omega
      have e47 : ev ν (fk (fsc k 45) 2) = some ((45 * r + 2 : Nat) : Int) := by rw [ev_k 2 e45]; congr 1
      have f1 := alk_at hγ h1 (a := oO) (ev_c ν _) e45
      have f2 := alk_at hγ h2 (a := oO) (ev_c ν _) e47
      obtain ⟨-, -, -, -, hb1, -⟩ := alk_ok hγ h1 |>.choose_spec.choose_spec
      have hlen : ∀ kk, kk < aLN gO → ∃ c : Int64, avl B u oO kk = .long c := by
        intro kk hkk
        obtain ⟨c, c1, -⟩ := valAt hg hγ.2.2.2.2.1 sgO hkk spO (by show 0 ≤ kk % 1; omega) (by show kk % 1 ≤ 0; omega)
        exact ⟨c, c1⟩
      have l1 : 45 * r < aLN gO := by
        obtain ⟨a', k', -, q2, -, -, q5, -⟩ := alk_ok hγ h1
        rw [e45] at q2
        rw [natE q2]; exact q5
      have l2 : 45 * r + 2 < aLN gO := by
        obtain ⟨a', k', -, q2, -, -, q5, -⟩ := alk_ok hγ h2
        rw [e47] at q2
        rw [natE q2]; exact q5
      obtain ⟨kd, k1⟩ := hlen _ l1
      obtain ⟨ap, k2⟩ := hlen _ l2
      rw [k1] at f1
      rw [k2] at f2
      have g1 := (dV_long hl9 f1).2
      have g2 := (dV_long hl9 f2).2
      refine ⟨kd, ap, k1, k2, ?_⟩
      rcases h with h | h
      · have a1 := awit_at hγ h.1 g1
        have a2 := awit_at hγ h.2 g2
        exact Or.inl ⟨a1.2, a2.1, a2.2⟩
      · have a1 := awit_at hγ h.1 g1
        have a2 := awit_at hγ h.2 g2
        exact Or.inr ⟨by omega, by omega⟩
theorem awC2_ok (hl9 : ∀ v, lit v → ∃ q : Nat, v = .ref q) (hg : aok grp) {ν : List Int} {z : aZ} {u : zW} (hγ : aγ B b0 L grp lit ν z u) {j : Nat} {v : aV} {w : Int32} (hv : dV B b0 L grp lit ν v (.int w)) (h0 : v.1 = 0) (h : awC2 z v j = true) (hold : feq v.2.2 (0, []) = true ∨ dRows B u j) : dRows B (zset u (B + oC) j (.int w)) j := by
  intro c hc r hr hr6
  rw [avl_eq] at hc
  cases hc
  have hOO : ∀ i, avl B (zset u (B + oC) j (.int w)) oO i = avl B u oO i := fun i => avl_ne (Or.inl (by decide))
  have hw := dV_int hv h0
  simp only [awC2, Bool.or_eq_true] at h
  have zero : feq v.2.2 (0, []) = true → dRow B (zset u (B + oC) j (.int w)) (60 * j + r) := fun h => by
    have := feq_ev h hw
    omega
  rcases h with h | h
  · exact zero h
  · rcases hold with ho | ho
    · exact zero ho
    · cases hcn : acnt z j with
      | none => rw [hcn] at h; cases h
      | some cf =>
        simp only [hcn, Bool.and_eq_true] at h
        obtain ⟨c', e1, e2⟩ := acnt_ok hg hγ hcn
        have h1 := feq_ev h.1 (ev_sub hw e2)
        refine dRow_c (hOO _) (hOO _) ?_
        by_cases hlt : (r : Int) < c'.toInt
        · exact ho c' e1 r hlt hr6
        · have hrc : (r : Int) = c'.toInt := by omega
          refine arow_ok hl9 hg hγ ?_ h.2
          rw [ev_k _ e2, ← hrc]
          congr 1
          show (r : Int) + ((60 * j : Nat) : Int) = ((60 * j + r : Nat) : Int)
          omega
end AL
