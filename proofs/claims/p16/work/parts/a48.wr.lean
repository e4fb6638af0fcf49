section AL
variable {B b0 L : Nat} {grp : Nat → Nat} {lit : Value → Prop}
theorem af3c_ok {ν : List Int} {z : aZ} {u u' : zW} {i : aF} {k : Nat} (h : dM3 B ν (z3 z) u) (hi : ev ν i = some (k : Int)) (hk : k < 40 → dShp B u' k) (hn : ∀ j, j ≠ k → dShp B u j → dShp B u' j) : dM3 B ν (af3c (z3 z) i) u' := by
  unfold dM3 at h
  cases hz : z3 z with
  | none =>
    rw [hz] at h
    show ∀ i, i < 40 → dShp B u' i
    intro j hj
    by_cases e : j = k
    · subst e; exact hk hj
    · exact hn j e (h j hj)
  | some f =>
    rw [hz] at h
    obtain ⟨x, h1, h2⟩ := h
    show dM3 B ν (bif feq f i then none else some f) u'
    cases he : feq f i with
    | true =>
      rw [feq_eq he, hi] at h1
      cases h1
      show ∀ i, i < 40 → dShp B u' i
      intro j hj
      by_cases e : j = k
      · subst e; exact hk hj
      · exact hn j e (h2 j hj (by omega))
    | false =>
      refine ⟨x, h1, fun j hj hx => ?_⟩
      by_cases e : j = k
      · subst e; exact hk hj
      · exact hn j e (h2 j hj hx)
theorem af3_ok {ν : List Int} {z : aZ} {u u' : zW} {i : aF} {k : Nat} (h : dM3 B ν (z3 z) u) (hi : ev ν i = some (k : Int)) (hc : af3 (z3 z) i = true) (hn : ∀ j, j ≠ k → dShp B u j → dShp B u' j) : dM3 B ν (some i) u' := by
  refine ⟨(k : Int), hi, fun j hj hx => hn j (by omega) ?_⟩
  unfold dM3 at h
  cases hz : z3 z with
  | none => rw [hz] at h; exact h j hj
  | some f =>
    rw [hz] at h hc
    obtain ⟨x, h1, h2⟩ := h
    have hc : feq f i = true := hc
    rw [feq_eq hc, hi] at h1
    cases h1
    exact h2 j hj hx
theorem awS_ok (hg : aok grp) (hl9 : ∀ v, lit v → ∃ q : Nat, v = .ref q) {ν : List Int} {z z' : aZ} {u : zW} (hγ : aγ B b0 L grp lit ν z u) {fa fi : aF} {a k : Nat} (hp : apl grp ν gS fa fi a k) {v : aV} {w : Value} (hv : dV B b0 L grp lit ν v w)
    (hsp : ∀ e ∈ aSP gS, e.2.1 ≤ k % e.1 → k % e.1 ≤ e.2.2.1 → dP B grp e.2.2.2 w) (h0 : v.1 = 0) (h : awS z fa fi v = some z') : aγ B b0 L grp lit ν z' (zset u (B + a) k w) := by
  have ha := at_o hg sgS hp
  subst ha
  obtain ⟨m1, m2, m3, m4, m5, x, m6, m7⟩ := hγ.2.2.2.2.2
  have hM : ∀ i, avl B (zset u (B + oS) k w) oM i = avl B u oM i := fun i => avl_ne (Or.inl (by decide))
  have hC : ∀ i, avl B (zset u (B + oS) k w) oC i = avl B u oC i := fun i => avl_ne (Or.inl (by decide))
  have hZ : ∀ i, avl B (zset u (B + oS) k w) oZ i = avl B u oZ i := fun i => avl_ne (Or.inl (by decide))
  have hO : ∀ i, avl B (zset u (B + oS) k w) oO i = avl B u oO i := fun i => avl_ne (Or.inl (by decide))
  have hn : ∀ j, j ≠ k → dShp B u j → dShp B (zset u (B + oS) k w) j := fun j hj hd => dShp_c (avl_ne (Or.inr hj)) (hZ _) hd
  have mk : ∀ o, dM3 B ν o (zset u (B + oS) k w) → dM B ν (zs3 (aset z gS fa fi v) o) (zset u (B + oS) k w) := fun o ho =>
    ⟨fun e => dFree_c (hM _) (hC _) (m1 e), fun e => dFree_c (hM _) (hC _) (m2 e), ho, fun e => dRows_c (hC _) hO (m4 e), dRows_c (hC _) hO m5, x, m6, fun i hi h27 => by rw [hO, hO]; exact m7 i hi h27⟩
  unfold awS at h
  rcases cnd_some h with ⟨hc, h⟩ | ⟨-, h⟩
  · cases h
    refine awr_base hγ hp hv hsp ⟨rfl, rfl, rfl, rfl⟩ (mk _ (af3c_ok m3 hp.2.1 ?_ hn))
    intro hk4 h2
    rw [avl_eq] at h2
    subst h2
    rw [Bool.or_eq_true] at hc
    rcases hc with hc | hc
    · have := awit_at hγ hc (dV_int hv h0)
      have e : (2 : Int32).toInt = 2 := rfl
      omega
    · cases hl : alk z gZ (Int.ofNat oZ, []) (fsc fi 2) with
      | none => rw [hl] at hc; cases hc
      | some y =>
        rw [hl] at hc
        have e2 : ev ν (fsc fi 2) = some ((2 * k : Nat) : Int) := by rw [ev_sc 2 hp.2.1]; congr 1; omega
        have hy := alk_at hγ hl (a := oZ) (ev_c ν _) e2
        have l2 : 2 * k < aLN gZ := by rw [show aLN gZ = 80 from rfl]; omega
        obtain ⟨c, c1, -⟩ := valAt hg hγ.2.2.2.2.1 sgZ l2 spZ (by show 0 ≤ (2 * k) % 1; omega) (by show (2 * k) % 1 ≤ 0; omega)
        rw [c1] at hy
        have := awit_at hγ hc (dV_long hl9 hy).2
        rw [hZ]
        exact ⟨c, c1, this.1, this.2⟩
  · obtain ⟨hc, h⟩ := cnd_t h
    cases h
    exact awr_base hγ hp hv hsp ⟨rfl, rfl, rfl, rfl⟩ (mk _ (af3_ok m3 hp.2.1 hc hn))
theorem aodd_ok {ν : List Int} {i : aF} {k : Nat} (hi : ev ν i = some (k : Int)) (h : aodd i = true) : k % 2 = 1 := by
  unfold aodd at h
  rw [Bool.and_eq_true, ieq_iff] at h
  obtain ⟨y, e1, e2⟩ := ev_iff.mp hi
  cases hd : adiL 2 i.2 with
  | none => rw [hd] at h; cases h.2
  | some t =>
    obtain ⟨x, f1, f2⟩ := evL_di hd e1
    omega
theorem awZ_ok (hg : aok grp) (hl9 : ∀ v, lit v → ∃ q : Nat, v = .ref q) {ν : List Int} {z z' : aZ} {u : zW} (hγ : aγ B b0 L grp lit ν z u) {fa fi : aF} {a k : Nat} (hp : apl grp ν gZ fa fi a k) {v : aV} {w : Value} (hv : dV B b0 L grp lit ν v w)
    (hsp : ∀ e ∈ aSP gZ, e.2.1 ≤ k % e.1 → k % e.1 ≤ e.2.2.1 → dP B grp e.2.2.2 w) (h : awZ z fa fi v = some z') : aγ B b0 L grp lit ν z' (zset u (B + a) k w) := by
  have ha := at_o hg sgZ hp
  subst ha
  obtain ⟨m1, m2, m3, m4, m5, x, m6, m7⟩ := hγ.2.2.2.2.2
  have hM : ∀ i, avl B (zset u (B + oZ) k w) oM i = avl B u oM i := fun i => avl_ne (Or.inl (by decide))
  have hC : ∀ i, avl B (zset u (B + oZ) k w) oC i = avl B u oC i := fun i => avl_ne (Or.inl (by decide))
  have hS : ∀ i, avl B (zset u (B + oZ) k w) oS i = avl B u oS i := fun i => avl_ne (Or.inl (by decide))
  have hO : ∀ i, avl B (zset u (B + oZ) k w) oO i = avl B u oO i := fun i => avl_ne (Or.inl (by decide))
  have mk : ∀ o, dM3 B ν o (zset u (B + oZ) k w) → dM B ν (zs3 (aset z gZ fa fi v) o) (zset u (B + oZ) k w) := fun o ho =>
    ⟨fun e => dFree_c (hM _) (hC _) (m1 e), fun e => dFree_c (hM _) (hC _) (m2 e), ho, fun e => dRows_c (hC _) hO (m4 e), dRows_c (hC _) hO m5, x, m6, fun i hi h27 => by rw [hO, hO]; exact m7 i hi h27⟩
  obtain ⟨wl, hw, -⟩ := hsp _ spZ (by show 0 ≤ k % 1; omega) (by show k % 1 ≤ 0; omega)
  subst hw
  unfold awZ at h
  cases hd : adiv 2 fi with
  | none =>
    rw [hd] at h
    obtain ⟨hc, h⟩ := cnd_t h
    cases h
    have hodd := aodd_ok hp.2.1 hc
    refine awr_base hγ hp hv hsp ⟨rfl, rfl, rfl, rfl⟩ ?_
    have := mk (z3 z) (dM3_c hS (fun j => avl_ne (Or.inr (by omega))) m3)
    exact this
  | some hf =>
    simp only [hd] at h
    obtain ⟨y, y1, y2⟩ := adiv_ok hd hp.2.1
    have hy0 : 0 ≤ y := by omega
    obtain ⟨i, rfl⟩ := Int.eq_ofNat_of_zero_le hy0
    have hi : k = 2 * i := by omega
    subst hi
    have hn : ∀ j, j ≠ i → dShp B u j → dShp B (zset u (B + oZ) (2 * i) (.long wl)) j := fun j hj hd => dShp_c (hS _) (avl_ne (Or.inr (by omega))) hd
    rcases cnd_some h with ⟨hc, h⟩ | ⟨-, h⟩
    · cases h
      refine awr_base hγ hp hv hsp ⟨rfl, rfl, rfl, rfl⟩ (mk _ (af3c_ok m3 y1 ?_ hn))
      intro hk4 h2
      rw [hS] at h2
      rw [Bool.or_eq_true] at hc
      rcases hc with hc | hc
      · have := awit_at hγ hc (dV_long hl9 hv).2
        rw [avl_eq]
        exact ⟨wl, rfl, this.1, this.2⟩
      · cases hl : alk z gS (Int.ofNat oS, []) hf with
        | none => rw [hl] at hc; cases hc
        | some y =>
          simp only [hl, Bool.and_eq_true, Nat.beq_eq] at hc
          have hy := alk_at hγ hl (a := oS) (k := i) (ev_c ν _) y1
          rw [h2] at hy
          have := awit_at hγ hc.2 (dV_int hy hc.1)
          have e : (2 : Int32).toInt = 2 := rfl
          omega
    · obtain ⟨hc, h⟩ := cnd_t h
      cases h
      exact awr_base hγ hp hv hsp ⟨rfl, rfl, rfl, rfl⟩ (mk _ (af3_ok m3 y1 hc hn))
theorem awC_ok (hg : aok grp) (hl9 : ∀ v, lit v → ∃ q : Nat, v = .ref q) {ν : List Int} {z z' : aZ} {u : zW} (hγ : aγ B b0 L grp lit ν z u) {fa fi : aF} {a k : Nat} (hp : apl grp ν gC fa fi a k) {v : aV} {w : Value} (hv : dV B b0 L grp lit ν v w)
    (hsp : ∀ e ∈ aSP gC, e.2.1 ≤ k % e.1 → k % e.1 ≤ e.2.2.1 → dP B grp e.2.2.2 w) (h0 : v.1 = 0) (h : awC z fa fi v = some z') : aγ B b0 L grp lit ν z' (zset u (B + a) k w) := by
  have ha := at_o hg sgC hp
  subst ha
  obtain ⟨m1, m2, m3, m4, m5, x, m6, m7⟩ := hγ.2.2.2.2.2
  have hM : ∀ i, avl B (zset u (B + oC) k w) oM i = avl B u oM i := fun i => avl_ne (Or.inl (by decide))
  have hS : ∀ i, avl B (zset u (B + oC) k w) oS i = avl B u oS i := fun i => avl_ne (Or.inl (by decide))
  have hZ : ∀ i, avl B (zset u (B + oC) k w) oZ i = avl B u oZ i := fun i => avl_ne (Or.inl (by decide))
  have hO : ∀ i, avl B (zset u (B + oC) k w) oO i = avl B u oO i := fun i => avl_ne (Or.inl (by decide))
  obtain ⟨wi, hw, -⟩ := hsp _ spC (by show 0 ≤ k % 1; omega) (by show k % 1 ≤ 0; omega)
  subst hw
  have m3' := dM3_c (u' := zset u (B + oC) k (.int wi)) hS (fun j => hZ _) m3
  have m7' : ∀ i : Nat, (i : Int) < x → i < 2700 → avl B (zset u (B + oC) k (.int wi)) oO i = avl B (zset u (B + oC) k (.int wi)) oO (2700 + i) := fun i hi h27 => by rw [hO, hO]; exact m7 i hi h27
  unfold awC at h
  rcases cnd_some h with ⟨hi, h⟩ | ⟨-, h⟩
  · have hk : k = 0 := by
      have := feq_ev hi hp.2.1
      omega
    subst hk
    have f2 : z2 z = false → dFree B (zset u (B + oC) 0 (.int wi)) kIn 1 := fun e => dFree_c (hM _) (avl_ne (Or.inr (by decide))) (m2 e)
    have f5 : dRows B (zset u (B + oC) 0 (.int wi)) 1 := dRows_c (avl_ne (Or.inr (by decide))) hO m5
    have f1 : (z1 z || !(awC1 z v 0)) = false → dFree B (zset u (B + oC) 0 (.int wi)) kOpen 0 := by
      intro e
      simp only [Bool.or_eq_false_iff, Bool.not_eq_false'] at e
      exact awC1_ok hg hγ (Or.inl ⟨rfl, rfl⟩) hv h0 e.2
    rcases cnd_some h with ⟨hc, h⟩ | ⟨-, h⟩
    · cases h
      rw [Bool.and_eq_true] at hc
      refine awr_base hγ hp hv hsp ⟨rfl, rfl, rfl, rfl⟩ ⟨f1, f2, m3', fun e => ?_, f5, x, m6, m7'⟩
      have e : (z4 z && !(feq v.2.2 (0, []))) = false := e
      refine awC2_ok hl9 hg hγ hv h0 hc.1 ?_
      cases h4 : z4 z with
      | false => exact Or.inr (m4 h4)
      | true =>
        rw [h4] at e
        left
        simpa using e
    · cases h
      exact awr_base hγ hp hv hsp ⟨rfl, rfl, rfl, rfl⟩ ⟨f1, f2, m3', fun e => (by cases e), f5, 0, ev_c ν 0, fun i hi _ => by omega⟩
  · obtain ⟨hi, h⟩ := cnd_t h
    have hk : k = 1 := by
      have := feq_ev hi hp.2.1
      omega
    subst hk
    obtain ⟨hc, h⟩ := cnd_t h
    cases h
    refine awr_base hγ hp hv hsp ⟨rfl, rfl, rfl, rfl⟩ ⟨fun e => dFree_c (hM _) (avl_ne (Or.inr (by decide))) (m1 e), ?_, m3', fun e => dRows_c (avl_ne (Or.inr (by decide))) hO (m4 e), awC2_ok hl9 hg hγ hv h0 hc (Or.inr m5), x, m6, m7'⟩
    intro e
    have e : (z2 z || !(awC1 z v 1)) = false := e
    simp only [Bool.or_eq_false_iff, Bool.not_eq_false'] at e
    exact awC1_ok hg hγ (Or.inr ⟨rfl, rfl⟩) hv h0 e.2
end AL
