/-! the reads that know more -/
theorem sgM : aSG gM = some oM := rfl
theorem sgO : aSG gO = some oO := rfl
theorem sgC : aSG gC = some oC := rfl
theorem sgS : aSG gS = some oS := rfl
theorem sgZ : aSG gZ = some oZ := rfl
theorem spOpen : (64, kOpen, kOpen, (0, 0, 0, 1)) ∈ aSP gM := by decide
theorem spIn : (64, kIn, kIn, (0, 0, 0, 1)) ∈ aSP gM := by decide
theorem spC : (1, 0, 0, (0, 0, 0, 60)) ∈ aSP gC := by decide
theorem spS : (1, 0, 0, (0, 0, 0, 2)) ∈ aSP gS := by decide
theorem spZ : (1, 0, 0, (1, 0, -9223372036854775808, 9223372036854775807)) ∈ aSP gZ := by decide
theorem spO : (1, 0, 0, (1, 0, -9223372036854775808, 9223372036854775807)) ∈ aSP gO := by decide
theorem spO0 : (45, 0, 0, (1, 0, 0, 2)) ∈ aSP gO := by decide
section AL
variable {B b0 L : Nat} {grp : Nat → Nat} {lit : Value → Prop}
theorem plc (hg : aok grp) {g o : Nat} (hs : aSG g = some o) {ν : List Int} {j : Nat} (hj : j < aLN g) : apl grp ν g (Int.ofNat o, []) (Int.ofNat j, []) o j := ⟨ev_c ν _, ev_c ν _, (hg.2 g o hs).1, (hg.2 g o hs).2, hj⟩
theorem at_o (hg : aok grp) {ν : List Int} {g o : Nat} (hs : aSG g = some o) {fa fi : aF} {a k : Nat} (hp : apl grp ν g fa fi a k) : a = o := hg.1 a hp.2.2.1 o (by rw [hp.2.2.2.1]; exact hs)
theorem valAt (hg : aok grp) {u : zW} (h : dI B grp u) {g o k : Nat} (hs : aSG g = some o) (hk : k < aLN g) {e : aE} (he : e ∈ aSP g) (h1 : e.2.1 ≤ k % e.1) (h2 : k % e.1 ≤ e.2.2.1) : dP B grp e.2.2.2 (avl B u o k) := by
  obtain ⟨g1, g2⟩ := hg.2 g o hs
  exact dI_at h g1 (by rw [g2]; exact hk) (by rw [g2]; exact he) h1 h2
theorem bitAt (hg : aok grp) {u : zW} (h : dI B grp u) {k : Nat} (hk : k < aLN gM) (h64 : k % 64 = k) (he : (64, k, k, (0, 0, 0, 1)) ∈ aSP gM) : avl B u oM k = .int 0 ∨ avl B u oM k = .int 1 := by
  obtain ⟨z, e1, e2, e3⟩ := valAt hg h sgM hk he (by show k ≤ k % 64; omega) (by show k % 64 ≤ k; omega)
  have e2 : 0 ≤ z.toInt := e2
  have e3 : z.toInt ≤ 1 := e3
  have : z.toInt = 0 ∨ z.toInt = 1 := by omega
  rcases this with h0 | h0
  · left
    rw [e1, ← ofI z, h0]; rfl
  · right
    rw [e1, ← ofI z, h0]; rfl
theorem feq_ev {ν : List Int} {i : aF} {n : Int} {x : Int} (h : feq i (n, []) = true) (hx : ev ν i = some x) : x = n := by
  rw [feq_eq h, ev_c] at hx
  exact (Option.some.inj hx).symm
theorem ardO_ok (hg : aok grp) {ν : List Int} {z : aZ} {u : zW} (hγ : aγ B b0 L grp lit ν z u) {fa fi : aF} {a k : Nat} (hp : apl grp ν gM fa fi a k) {j : Nat} (hj : j < 2) (hbit : avl B u oM k = .int 0 ∨ avl B u oM k = .int 1) (hfree : dFree B u k j) {l : List (aV × aZ)} (h : ardO z fa fi j = some l) : away B b0 L grp lit ν u (avl B u a k) l := by
  have ha := at_o hg sgM hp
  subst ha
  have hz0 : avl B u oM k = .int 0 → away B b0 L grp lit ν u (avl B u oM k) [((0, 0, (0, [])), afact z (gM, fa, fi, (0, 0, (0, []))))] := by
    intro h0
    have hv : dV B b0 L grp lit ν (0, 0, (0, [])) (avl B u oM k) := by rw [h0]; exact dV_i ν 0 (by decide) (by decide)
    exact ⟨_, List.mem_cons_self, ν, aext_r ν, afact_ok hγ hp hv, hv⟩
  unfold ardO at h
  cases hr : ard0 (afact z (gM, fa, fi, (0, 0, (1, [])))) gC (Int.ofNat oC, []) (Int.ofNat j, []) with
  | none => rw [hr] at h; cases h
  | some q =>
    simp only [hr] at h
    obtain ⟨hk0, h⟩ := cnd_t h
    rw [Nat.beq_eq] at hk0
    have key : avl B u oM k = .int 1 → ∃ z2 ν', aass q.2 (fk q.1.2.2 (-59)) = some z2 ∧ aext ν ν' ∧ aγ B b0 L grp lit ν' z2 u ∧ dV B b0 L grp lit ν' (0, 0, (1, [])) (avl B u oM k) := by
      intro h1
      have hv : dV B b0 L grp lit ν (0, 0, (1, [])) (avl B u oM k) := by rw [h1]; exact dV_i ν 1 (by decide) (by decide)
      obtain ⟨ν', e1, e2, e3⟩ := ard0_ok hg (afact_ok hγ hp hv) (plc hg sgC (ν := ν) (j := j) (by rw [show aLN gC = 2 from rfl]; exact hj)) hr
      obtain ⟨c, c1, c2⟩ := hfree h1
      rw [c1] at e3
      obtain ⟨x, x1, x2, x3, x4⟩ := dV_0 e3 hk0
      have hx : x = c.toInt := by
        cases x2
        rw [toI ⟨x3, x4⟩]
      obtain ⟨z2, y1, y2⟩ := aass_ok e2 (ev_k (-59) x1) (by omega)
      exact ⟨z2, ν', y1, e1, y2, dV_ext e1 hv⟩
    cases hA : aass q.2 (fk q.1.2.2 (-59)) with
    | none =>
      simp only [hA] at h
      cases h
      rcases hbit with h0 | h1
      · exact hz0 h0
      · obtain ⟨z2, ν', y1, -⟩ := key h1
        rw [hA] at y1
        cases y1
    | some z2 =>
      simp only [hA] at h
      cases h
      rcases hbit with h0 | h1
      · obtain ⟨q', f1, f2⟩ := hz0 h0
        rcases List.mem_cons.mp f1 with rfl | f1
        · exact ⟨_, List.mem_cons_self, f2⟩
        · cases f1
      · obtain ⟨z3, ν', y1, y2, y3, y4⟩ := key h1
        rw [hA] at y1
        cases y1
        exact ⟨_, List.mem_cons_of_mem _ List.mem_cons_self, ν', y2, y3, y4⟩
theorem ardS_ok (hg : aok grp) {ν : List Int} {z : aZ} {u : zW} (hγ : aγ B b0 L grp lit ν z u) {fa fi : aF} {a k : Nat} (hp : apl grp ν gS fa fi a k) {l : List (aV × aZ)} (h : ardS z fa fi = some l) : away B b0 L grp lit ν u (avl B u a k) l := by
  have ha := at_o hg sgS hp
  subst ha
  unfold ardS at h
  cases h
  obtain ⟨x, e1, e2, e3⟩ := valAt hg hγ.2.2.2.2.1 sgS hp.2.2.2.2 spS (by show 0 ≤ k % 1; omega) (by show k % 1 ≤ 0; omega)
  have e2 : 0 ≤ x.toInt := e2
  have e3 : x.toInt ≤ 2 := e3
  by_cases h2 : x.toInt = 2
  · have hv : dV B b0 L grp lit ν (0, 0, (2, [])) (avl B u oS k) := by
      rw [e1, ← ofI x, h2]
      exact dV_i ν 2 (by decide) (by decide)
    exact ⟨_, List.mem_cons_of_mem _ List.mem_cons_self, ν, aext_r ν, afact_ok hγ hp hv, hv⟩
  · obtain ⟨ν', f1, f2, f3⟩ := afr_ok hγ (lo := 0) (hi := 1) (x := x.toInt) e2 (by omega)
    have hv : dV B b0 L grp lit ν' (0, 0, (afr z 0 1).1) (avl B u oS k) := ⟨x.toInt, f2, by rw [ofI]; exact e1, by omega, by omega⟩
    exact ⟨_, List.mem_cons_self, ν', f1, afact_ok f3 (apl_ext f1 hp) hv, hv⟩
theorem evL_di {ν : List Int} {m : Int} : ∀ {l t : List (Nat × Int)} {x : Int}, adiL m l = some t → evL ν l = some x → ∃ y, evL ν t = some y ∧ x = m * y
  | [], t, x, h, hx => by
    cases h
    cases hx
    exact ⟨0, rfl, by omega⟩
  | q :: r, t, x, h, hx => by
    obtain ⟨v, w, e1, e2, e3⟩ := evL_c.mp hx
    unfold adiL at h
    obtain ⟨hc, h⟩ := cnd_t h
    cases hr : adiL m r with
    | none => rw [hr] at h; cases h
    | some t' =>
      rw [hr] at h
      cases h
      obtain ⟨y, g1, g2⟩ := evL_di hr e2
      have k0 := ieq_iff.mp hc
      have k1 : q.2 = m * (q.2 / m) := by
        have := Int.emod_add_mul_ediv q.2 m
        omega
      refine ⟨(q.2 / m) * v + y, evL_c.mpr ⟨v, y, e1, g1, rfl⟩, ?_⟩
      rw [e3, g2, Int.mul_add, ← Int.mul_assoc, ← k1]
theorem adiv_ok {ν : List Int} {m : Int} {f t : aF} {x : Int} (h : adiv m f = some t) (hx : ev ν f = some x) : ∃ y, ev ν t = some y ∧ x = m * y := by
  unfold adiv at h
  obtain ⟨hc, h⟩ := cnd_t h
  cases hr : adiL m f.2 with
  | none => rw [hr] at h; cases h
  | some t' =>
    rw [hr] at h
    cases h
    obtain ⟨a, e1, e2⟩ := ev_iff.mp hx
    obtain ⟨y, g1, g2⟩ := evL_di hr e1
    have k0 := ieq_iff.mp hc
    have k1 : f.1 = m * (f.1 / m) := by
      have := Int.emod_add_mul_ediv f.1 m
      omega
    refine ⟨f.1 / m + y, ev_iff.mpr ⟨y, g1, rfl⟩, ?_⟩
    rw [e2, g2, Int.mul_add, ← k1]
theorem ardZ_ok (hg : aok grp) {ν : List Int} {z : aZ} {u : zW} (hγ : aγ B b0 L grp lit ν z u) {fa fi : aF} {a k : Nat} (hp : apl grp ν gZ fa fi a k) (h : ardZ z fi = true) : ∃ c : Int64, avl B u a k = .long c ∧ 0 ≤ c.toInt ∧ c.toInt ≤ 4 := by
  have ha := at_o hg sgZ hp
  subst ha
  unfold ardZ at h
  cases hd : adiv 2 fi with
  | none => rw [hd] at h; cases h
  | some hf =>
    simp only [hd, Bool.and_eq_true] at h
    obtain ⟨y, y1, y2⟩ := adiv_ok hd hp.2.1
    have hk80 : k < 80 := hp.2.2.2.2
    have hy0 : 0 ≤ y := by omega
    obtain ⟨i, rfl⟩ := Int.eq_ofNat_of_zero_le hy0
    have hi : k = 2 * i := by omega
    subst hi
    have h2 : avl B u oS i = .int 2 := by
      have h2 := h.2
      unfold aIs2 at h2
      cases hl : alk z gS (Int.ofNat oS, []) hf with
      | none => rw [hl] at h2; cases h2
      | some v =>
        rw [hl] at h2
        simp only [Bool.and_eq_true, Nat.beq_eq] at h2
        obtain ⟨x, x1, x2, -⟩ := dV_0 (alk_at hγ hl (a := oS) (k := i) (ev_c ν _) y1) h2.1
        rw [x2, feq_ev h2.2 x1]
        rfl
    have h3 := hγ.2.2.2.2.2.2.2.1
    have h1 := h.1
    unfold dM3 at h3
    cases hz : z3 z with
    | none =>
      simp only [hz] at h3
      exact h3 i (by omega) h2
    | some f =>
      simp only [hz] at h3 h1
      obtain ⟨x, x1, x2⟩ := h3
      exact x2 i (by omega) (apart_ok hγ.2.1 y1 x1 h1) h2
end AL
