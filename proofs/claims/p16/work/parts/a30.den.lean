/-! WHAT THE RUN ON FORMS SAYS -/
def aext (ν ν' : List Int) : Prop := ∃ μ, ν' = ν ++ μ
theorem aext_r (ν : List Int) : aext ν ν := ⟨[], by simp⟩
theorem aext_t {a b c : List Int} (h : aext a b) (g : aext b c) : aext a c := by
  obtain ⟨μ, rfl⟩ := h
  obtain ⟨μ', rfl⟩ := g
  exact ⟨μ ++ μ', by simp⟩
theorem ev_ext {ν ν' : List Int} {f : aF} {x : Int} (e : aext ν ν') (h : ev ν f = some x) : ev ν' f = some x := by
  obtain ⟨μ, rfl⟩ := e
  exact ev_mono h
theorem get_ext {ν ν' : List Int} {i : Nat} {x : Int} (e : aext ν ν') (h : ν[i]? = some x) : ν'[i]? = some x := by
  obtain ⟨μ, rfl⟩ := e
  rw [List.getElem?_append_left (List.getElem?_eq_some_iff.mp h).1]
  exact h
section AD
variable (B b0 L : Nat) (grp : Nat → Nat) (lit : Value → Prop)
def avl (u : zW) (a k : Nat) : Value := (u.2 (B + a)).2.2 k
def dV (ν : List Int) (x : aV) (v : Value) : Prop := match x.1 with
  | 0 => ∃ a, ev ν x.2.2 = some a ∧ v = .int (Int32.ofInt a) ∧ -2147483648 ≤ a ∧ a ≤ 2147483647
  | 1 => ∃ a, ev ν x.2.2 = some a ∧ v = .long (Int64.ofInt a) ∧ -9223372036854775808 ≤ a ∧ a ≤ 9223372036854775807
  | 2 => ∃ (a : Int) (s t : Int64), ev ν x.2.2 = some a ∧ v = .int (lg_cmp s t) ∧ s.toInt - t.toInt = a
  | 3 => ∃ i : Nat, ev ν x.2.2 = some (i : Int) ∧ v = .ref (B + i) ∧ i < aN0 ∧ grp i = x.2.1
  | 4 => lit v
  | 5 => ∃ q : Nat, v = .ref q
  | 6 => ev ν x.2.2 = some (L : Int) ∧ v = .ref b0
  | _ => False
def dP (p : aP) (v : Value) : Prop := match p.1 with
  | 0 => ∃ z : Int32, v = .int z ∧ p.2.2.1 ≤ z.toInt ∧ z.toInt ≤ p.2.2.2
  | 1 => ∃ z : Int64, v = .long z ∧ p.2.2.1 ≤ z.toInt ∧ z.toInt ≤ p.2.2.2
  | 3 => ∃ i : Nat, v = .ref (B + i) ∧ i < aN0 ∧ grp i = p.2.1
  | _ => False
def dI (u : zW) : Prop := B + aN0 ≤ u.1 ∧ ∀ a, a < aN0 → (u.2 (B + a)).1 = aTG (grp a) ∧ (u.2 (B + a)).2.1 = aLN (grp a) ∧ ∀ k, k < aLN (grp a) → ∀ e ∈ aSP (grp a), e.2.1 ≤ k % e.1 → k % e.1 ≤ e.2.2.1 → dP B grp e.2.2.2 (avl B u a k)
def dX (ν : List Int) (u : zW) (q : aX) : Prop := ∃ a k : Nat, ev ν q.2.1 = some (a : Int) ∧ ev ν q.2.2.1 = some (k : Int) ∧ a < aN0 ∧ grp a = q.1 ∧ k < aLN q.1 ∧ dV B b0 L grp lit ν q.2.2.2 (avl B u a k)
/-- a row of objects is sound -/
def dRow (u : zW) (r : Nat) : Prop := ∃ kd ap : Int64, avl B u oO (45 * r) = .long kd ∧ avl B u oO (45 * r + 2) = .long ap ∧ ((kd.toInt ≤ 1 ∧ 10 ≤ ap.toInt ∧ ap.toInt ≤ 29) ∨ (kd.toInt = 2 ∧ ap.toInt = -1))
def dFree (u : zW) (kf j : Nat) : Prop := avl B u oM kf = .int 1 → ∃ c : Int32, avl B u oC j = .int c ∧ c.toInt ≤ 59
def dShp (u : zW) (i : Nat) : Prop := avl B u oS i = .int 2 → ∃ c : Int64, avl B u oZ (2 * i) = .long c ∧ 0 ≤ c.toInt ∧ c.toInt ≤ 4
def dRows (u : zW) (j : Nat) : Prop := ∀ c : Int32, avl B u oC j = .int c → ∀ r : Nat, (r : Int) < c.toInt → r < 60 → dRow B u (60 * j + r)
def dM3 (ν : List Int) (o : Option aF) (u : zW) : Prop := match o with
  | none => ∀ i, i < 40 → dShp B u i
  | some f => ∃ x, ev ν f = some x ∧ ∀ i : Nat, i < 40 → (i : Int) ≠ x → dShp B u i
def dM (ν : List Int) (z : aZ) (u : zW) : Prop :=
  (z1 z = false → dFree B u kOpen 0) ∧ (z2 z = false → dFree B u kIn 1) ∧ dM3 B ν (z3 z) u ∧ (z4 z = false → dRows B u 0) ∧ dRows B u 1 ∧
  ∃ x, ev ν (zf z) = some x ∧ ∀ i : Nat, (i : Int) < x → i < 2700 → avl B u oO i = avl B u oO (2700 + i)
def aγ (ν : List Int) (z : aZ) (u : zW) : Prop := ν.length = zn z ∧ bx ν (zb z) ∧ cx ν (zc z) ∧ (∀ q ∈ zfx z, dX B b0 L grp lit ν u q) ∧ dI B grp u ∧ dM B ν z u
end AD
/-- what is asked of the groups -/
def aok (grp : Nat → Nat) : Prop := (∀ a, a < aN0 → ∀ s, aSG (grp a) = some s → a = s) ∧ (∀ g s, aSG g = some s → s < aN0 ∧ grp s = g)
section AL
variable {B b0 L : Nat} {grp : Nat → Nat} {lit : Value → Prop}
theorem dV_ext {ν ν' : List Int} {x : aV} {v : Value} (e : aext ν ν') (h : dV B b0 L grp lit ν x v) : dV B b0 L grp lit ν' x v := by
  obtain ⟨k, g, f⟩ := x
  unfold dV at h ⊢
  match k, h with
  | 0, ⟨a, h1, h2⟩ => exact ⟨a, ev_ext e h1, h2⟩
  | 1, ⟨a, h1, h2⟩ => exact ⟨a, ev_ext e h1, h2⟩
  | 2, ⟨a, s, t, h1, h2⟩ => exact ⟨a, s, t, ev_ext e h1, h2⟩
  | 3, ⟨i, h1, h2⟩ => exact ⟨i, ev_ext e h1, h2⟩
  | 4, h => exact h
  | 5, h => exact h
  | 6, ⟨h1, h2⟩ => exact ⟨ev_ext e h1, h2⟩
  | k + 7, h => exact h.elim
theorem dX_ext {ν ν' : List Int} {u : zW} {q : aX} (e : aext ν ν') (h : dX B b0 L grp lit ν u q) : dX B b0 L grp lit ν' u q := by
  obtain ⟨a, k, h1, h2, h3, h4, h5, h6⟩ := h
  exact ⟨a, k, ev_ext e h1, ev_ext e h2, h3, h4, h5, dV_ext e h6⟩
theorem dM_ext {ν ν' : List Int} {z : aZ} {u : zW} (e : aext ν ν') (h : dM B ν z u) : dM B ν' z u := by
  obtain ⟨h1, h2, h3, h4, h5, x, h6, h7⟩ := h
  refine ⟨h1, h2, ?_, h4, h5, x, ev_ext e h6, h7⟩
  unfold dM3 at h3 ⊢
  cases hz : z3 z with
  | none => rw [hz] at h3; exact h3
  | some f =>
    rw [hz] at h3
    obtain ⟨y, g1, g2⟩ := h3
    exact ⟨y, ev_ext e g1, g2⟩
theorem cx_ext {ν ν' : List Int} {cs : List aF} (e : aext ν ν') (h : cx ν cs) : cx ν' cs := by
  obtain ⟨μ, rfl⟩ := e
  exact cx_mono h
theorem bx_ext {ν ν' : List Int} {b : aB} (e : aext ν ν') (h : bx ν b) : bx ν' b := by
  obtain ⟨μ, rfl⟩ := e
  exact bx_mono h
/-- a new atom -/
theorem afr_ok {ν : List Int} {z : aZ} {u : zW} {lo hi x : Int} (h : aγ B b0 L grp lit ν z u) (h1 : lo ≤ x) (h2 : x ≤ hi) :
    ∃ ν', aext ν ν' ∧ ev ν' (afr z lo hi).1 = some x ∧ aγ B b0 L grp lit ν' (afr z lo hi).2 u := by
  unfold afr
  cases hc : ieq lo hi with
  | true =>
    have := ieq_iff.mp hc
    have e : x = lo := by omega
    subst e
    exact ⟨ν, aext_r ν, ev_c ν x, h⟩
  | false =>
    obtain ⟨g1, g2, g3, g4, g5, g6⟩ := h
    have e : aext ν (ν ++ [x]) := ⟨[x], rfl⟩
    have hx : (ν ++ [x])[zn z]? = some x := by rw [← g1]; simp
    refine ⟨ν ++ [x], e, ev_a hx, ?_, ?_, cx_ext e g3, fun q hq => dX_ext e (g4 q hq), g5, dM_ext e g6⟩
    · show (ν ++ [x]).length = zn z + 1
      simp [g1]
    · intro q hq
      rcases List.mem_cons.mp hq with rfl | hq
      · exact ⟨x, hx, h1, h2⟩
      · exact bx_ext e g2 q hq
theorem aass_ok {ν : List Int} {z : aZ} {u : zW} {f : aF} {x : Int} (h : aγ B b0 L grp lit ν z u) (hx : ev ν f = some x) (h0 : x ≤ 0) : ∃ z', aass z f = some z' ∧ aγ B b0 L grp lit ν z' u := by
  obtain ⟨g1, g2, g3, g4, g5, g6⟩ := h
  obtain ⟨b', e1, e2⟩ := leR_ok g2 hx h0
  unfold aass
  rw [e1]
  have one : aγ B b0 L grp lit ν (zsB z b') u := ⟨g1, e2, g3, g4, g5, g6⟩
  obtain ⟨c, l⟩ := f
  match l with
  | [] => exact ⟨_, rfl, one⟩
  | [_] => exact ⟨_, rfl, one⟩
  | q1 :: q2 :: r =>
    show ∃ z', (bif aprv z (fk (fsc (c, q1 :: q2 :: r) (-1)) 1) then none else some (zsC z b' ((c, q1 :: q2 :: r) :: zc z))) = some z' ∧ _
    cases hp : aprv z (fk (fsc (c, q1 :: q2 :: r) (-1)) 1) with
    | true =>
      have := prov_ok g2 g3 (ev_k 1 (ev_sc (-1) hx)) hp
      omega
    | false =>
      refine ⟨_, rfl, g1, e2, ?_, g4, g5, g6⟩
      intro f hf
      rcases List.mem_cons.mp hf with rfl | hf
      · exact ⟨x, hx, h0⟩
      · exact g3 f hf
theorem acnd_ok {ν : List Int} {z : aZ} {u : zW} {n : Nat} {l : aF} {x : Int} (h : aγ B b0 L grp lit ν z u) (hx : ev ν l = some x) (h0 : zcc (xco n) x 0) : ∃ z', acnd n z l = some z' ∧ aγ B b0 L grp lit ν z' u := by
  unfold acnd
  unfold xco at h0
  cases e0 : Nat.beq n 0 with
  | true =>
    rw [e0] at h0
    have h0 : x = 0 := h0
    obtain ⟨z', e1, e2⟩ := aass_ok h hx (by omega)
    obtain ⟨z'', e3, e4⟩ := aass_ok e2 (ev_sc (-1) hx) (by omega)
    refine ⟨z'', ?_, e4⟩
    show aass2 z l (fsc l (-1)) = _
    unfold aass2
    rw [e1]
    exact e3
  | false =>
    rw [e0] at h0
    cases e1 : Nat.beq n 1 with
    | true =>
      rw [e1] at h0
      have h0 : ¬ x = 0 := h0
      show ∃ z', acne z l = some z' ∧ _
      unfold acne
      cases hr : rng (zb z) l with
      | none => exact ⟨z, rfl, h⟩
      | some p =>
        obtain ⟨y, f1, f2, f3⟩ := rng_ok h.2.1 hr
        rw [hx] at f1
        cases f1
        cases c1 : ieq p.1 0 with
        | true =>
          have k1 := ieq_iff.mp c1
          cases c2 : ieq p.2 0 with
          | true => have k2 := ieq_iff.mp c2; omega
          | false =>
            obtain ⟨z', g1, g2⟩ := aass_ok h (ev_k 1 (ev_sc (-1) hx)) (by omega)
            exact ⟨z', by simp only [c1, c2, cond_true, cond_false]; exact g1, g2⟩
        | false =>
          cases c2 : ieq p.2 0 with
          | true =>
            have k2 := ieq_iff.mp c2
            obtain ⟨z', g1, g2⟩ := aass_ok h (ev_k 1 hx) (by omega)
            exact ⟨z', by simp only [c1, c2, cond_true, cond_false]; exact g1, g2⟩
          | false => exact ⟨z, by simp only [c1, c2, cond_false], h⟩
    | false =>
      rw [e1] at h0
      cases e2 : Nat.beq n 2 with
      | true =>
        rw [e2] at h0
        have h0 : x < 0 := h0
        exact aass_ok h (ev_k 1 hx) (by omega)
      | false =>
        rw [e2] at h0
        cases e3 : Nat.beq n 3 with
        | true =>
          rw [e3] at h0
          have h0 : 0 ≤ x := h0
          exact aass_ok h (ev_sc (-1) hx) (by omega)
        | false =>
          rw [e3] at h0
          cases e4 : Nat.beq n 4 with
          | true =>
            rw [e4] at h0
            have h0 : 0 < x := h0
            exact aass_ok h (ev_k 1 (ev_sc (-1) hx)) (by omega)
          | false =>
            rw [e4] at h0
            have h0 : x ≤ 0 := h0
            exact aass_ok h hx h0
theorem aneg_ok {n : Nat} {x : Int} (h : ¬ zcc (xco n) x 0) : zcc (xco (aneg n)) x 0 := by
  unfold aneg
  unfold xco at h
  cases e0 : Nat.beq n 0 with
  | true => rw [e0] at h; exact h
  | false =>
    rw [e0] at h
    cases e1 : Nat.beq n 1 with
    | true =>
      rw [e1] at h
      have h : ¬ ¬ x = 0 := h
      show x = 0
      omega
    | false =>
      rw [e1] at h
      cases e2 : Nat.beq n 2 with
      | true => rw [e2] at h; have h : ¬ x < 0 := h; show 0 ≤ x; omega
      | false =>
        rw [e2] at h
        cases e3 : Nat.beq n 3 with
        | true => rw [e3] at h; have h : ¬ 0 ≤ x := h; show x < 0; omega
        | false =>
          rw [e3] at h
          cases e4 : Nat.beq n 4 with
          | true => rw [e4] at h; have h : ¬ 0 < x := h; show x ≤ 0; omega
          | false => rw [e4] at h; have h : ¬ x ≤ 0 := h; show 0 < x; omega
/-! specs -/
theorem awit_ok {ν : List Int} {z : aZ} {u : zW} {f : aF} {lo hi : Int} (h : aγ B b0 L grp lit ν z u) (hw : awit z f lo hi = true) : ∃ x, ev ν f = some x ∧ lo ≤ x ∧ x ≤ hi := awithin_ok h.2.1 h.2.2.1 hw
theorem awit_at {ν : List Int} {z : aZ} {u : zW} {f : aF} {lo hi x : Int} (h : aγ B b0 L grp lit ν z u) (hw : awit z f lo hi = true) (hx : ev ν f = some x) : lo ≤ x ∧ x ≤ hi := by
  obtain ⟨y, e1, e2⟩ := awit_ok h hw
  rw [hx] at e1
  cases e1
  exact e2
theorem dV_0 {ν : List Int} {x : aV} {v : Value} (h : dV B b0 L grp lit ν x v) (hk : x.1 = 0) : ∃ a, ev ν x.2.2 = some a ∧ v = .int (Int32.ofInt a) ∧ -2147483648 ≤ a ∧ a ≤ 2147483647 := by
  obtain ⟨k, g, f⟩ := x
  cases hk
  exact h
theorem dV_1 {ν : List Int} {x : aV} {v : Value} (h : dV B b0 L grp lit ν x v) (hk : x.1 = 1) : ∃ a, ev ν x.2.2 = some a ∧ v = .long (Int64.ofInt a) ∧ -9223372036854775808 ≤ a ∧ a ≤ 9223372036854775807 := by
  obtain ⟨k, g, f⟩ := x
  cases hk
  exact h
theorem dV_2 {ν : List Int} {x : aV} {v : Value} (h : dV B b0 L grp lit ν x v) (hk : x.1 = 2) : ∃ (a : Int) (s t : Int64), ev ν x.2.2 = some a ∧ v = .int (lg_cmp s t) ∧ s.toInt - t.toInt = a := by
  obtain ⟨k, g, f⟩ := x
  cases hk
  exact h
theorem dV_3 {ν : List Int} {x : aV} {v : Value} (h : dV B b0 L grp lit ν x v) (hk : x.1 = 3) : ∃ i : Nat, ev ν x.2.2 = some (i : Int) ∧ v = .ref (B + i) ∧ i < aN0 ∧ grp i = x.2.1 := by
  obtain ⟨k, g, f⟩ := x
  cases hk
  exact h
theorem dV_6 {ν : List Int} {x : aV} {v : Value} (h : dV B b0 L grp lit ν x v) (hk : x.1 = 6) : ev ν x.2.2 = some (L : Int) ∧ v = .ref b0 := by
  obtain ⟨k, g, f⟩ := x
  cases hk
  exact h
theorem afit_ok {ν : List Int} {z : aZ} {u : zW} {v : aV} {p : aP} {w : Value} (h : aγ B b0 L grp lit ν z u) (hf : afit z v p = true) (hd : dV B b0 L grp lit ν v w) (hp : p.1 = 0 ∨ p.1 = 1 ∨ p.1 = 3) : dP B grp p w := by
  obtain ⟨k, g, lo, hi⟩ := p
  unfold afit at hf
  rcases hp with hp | hp | hp
  · cases hp
    simp only [show Nat.beq 0 3 = false from rfl, cond_false, Bool.and_eq_true, Nat.beq_eq] at hf
    obtain ⟨a, e1, e2, e3, e4⟩ := dV_0 hd hf.1
    have := awit_at h hf.2 e1
    exact ⟨_, e2, by rw [toI ⟨e3, e4⟩]; exact this.1, by rw [toI ⟨e3, e4⟩]; exact this.2⟩
  · cases hp
    simp only [show Nat.beq 1 3 = false from rfl, cond_false, Bool.and_eq_true, Nat.beq_eq] at hf
    obtain ⟨a, e1, e2, e3, e4⟩ := dV_1 hd hf.1
    have := awit_at h hf.2 e1
    exact ⟨_, e2, by rw [toJ ⟨e3, e4⟩]; exact this.1, by rw [toJ ⟨e3, e4⟩]; exact this.2⟩
  · cases hp
    simp only [show Nat.beq 3 3 = true from rfl, cond_true, Bool.and_eq_true, Nat.beq_eq] at hf
    obtain ⟨i, e1, e2, e3, e4⟩ := dV_3 hd hf.1
    exact ⟨i, e2, e3, by rw [e4]; exact hf.2⟩
theorem ofI (z : Int32) : Int32.ofInt z.toInt = z := by
  apply Int32.toInt_inj.mp
  have h1 := Int32.le_toInt z
  have h2 := Int32.toInt_lt z
  rw [toI ⟨by omega, by omega⟩]
theorem ofJ (z : Int64) : Int64.ofInt z.toInt = z := by
  apply Int64.toInt_inj.mp
  have h1 := Int64.le_toInt z
  have h2 := Int64.toInt_lt z
  rw [toJ ⟨by omega, by omega⟩]
theorem amk_ok (hg : aok grp) {ν : List Int} {z : aZ} {u : zW} {p : aP} {w : Value} (h : aγ B b0 L grp lit ν z u) (hp : dP B grp p w) : ∃ ν', aext ν ν' ∧ aγ B b0 L grp lit ν' (amk z p).2 u ∧ dV B b0 L grp lit ν' (amk z p).1 w := by
  obtain ⟨k, g, lo, hi⟩ := p
  unfold dP at hp
  unfold amk
  match k, hp with
  | 0, ⟨x, e1, e2, e3⟩ =>
    obtain ⟨ν', f1, f2, f3⟩ := afr_ok h e2 e3
    have h1 := Int32.le_toInt x
    have h2 := Int32.toInt_lt x
    exact ⟨ν', f1, f3, _, f2, by rw [ofI]; exact e1, by omega, by omega⟩
  | 1, ⟨x, e1, e2, e3⟩ =>
    obtain ⟨ν', f1, f2, f3⟩ := afr_ok h e2 e3
    have h1 := Int64.le_toInt x
    have h2 := Int64.toInt_lt x
    exact ⟨ν', f1, f3, _, f2, by rw [ofJ]; exact e1, by omega, by omega⟩
  | 2, hp => exact hp.elim
  | 3, ⟨i, e1, e2, e3⟩ =>
    show ∃ ν', aext ν ν' ∧ aγ B b0 L grp lit ν' (match aSG g with
      | some a => ((3, g, ((Int.ofNat a), [])), z)
      | none => ((3, g, (afr z 0 (Int.ofNat aN0 - 1)).1), (afr z 0 (Int.ofNat aN0 - 1)).2) : aV × aZ).2 u ∧ _
    have e3 : grp i = g := e3
    cases hs : aSG g with
    | some a =>
      rw [← e3] at hs
      have := hg.1 i e2 a hs
      subst this
      exact ⟨ν, aext_r ν, h, i, ev_c ν _, e1, e2, e3⟩
    | none =>
      have hN : Int.ofNat aN0 = (aN0 : Int) := rfl
      obtain ⟨ν', f1, f2, f3⟩ := afr_ok h (lo := 0) (hi := Int.ofNat aN0 - 1) (x := (i : Int)) (by omega) (by rw [hN]; omega)
      exact ⟨ν', f1, f3, i, f2, e1, e2, e3⟩
  | k + 4, hp => exact hp.elim
theorem evL_res {ν : List Int} {m : Int} (hm : 0 < m) : ∀ {l : List (Nat × Int)} {x : Int}, evL ν l = some x → ∃ y t, evL ν (aresL m l) = some y ∧ x = y + m * t
  | [], x, h => ⟨0, 0, rfl, by cases h; omega⟩
  | q :: r, x, h => by
    obtain ⟨v, w, e1, e2, e3⟩ := evL_c.mp h
    obtain ⟨y, t, g1, g2⟩ := evL_res hm e2
    unfold aresL
    cases hq : ieq (q.2 % m) 0 with
    | true =>
      have k0 := ieq_iff.mp hq
      have k1 : q.2 = m * (q.2 / m) := by
        have := Int.emod_add_mul_ediv q.2 m
        omega
      refine ⟨y, (q.2 / m) * v + t, g1, ?_⟩
      rw [Int.mul_add, ← Int.mul_assoc, ← k1]
      omega
    | false => exact ⟨q.2 * v + y, t, evL_c.mpr ⟨v, y, e1, g1, rfl⟩, by omega⟩
theorem ares_ok {ν : List Int} {b : aB} (hb : bx ν b) {f : aF} {m : Int} (hm : 0 < m) {p : Int × Int} (h : ares b f m = some p) {x : Int} (hx : ev ν f = some x) : p.1 ≤ x % m ∧ x % m ≤ p.2 := by
  unfold ares at h
  cases hr : rng b (f.1, aresL m f.2) with
  | none => rw [hr] at h; cases h
  | some q =>
    rw [hr] at h
    obtain ⟨hq, h⟩ := cnd_t h
    cases h
    have hq := ieq_iff.mp hq
    obtain ⟨y0, e1, e2⟩ := ev_iff.mp hx
    obtain ⟨y, t, g1, g2⟩ := evL_res hm e1
    obtain ⟨w, f1, f2, f3⟩ := rng_ok hb hr
    obtain ⟨y', f4, f5⟩ := ev_iff.mp f1
    rw [g1] at f4
    cases f4
    have hw : x = w + m * t := by
      rw [e2, g2, f5]; omega
    have hwm : x % m = w % m := by rw [hw, Int.add_mul_emod_self_left]
    rw [hwm]
    have k1 := Int.emod_add_mul_ediv q.1 m
    have k2 := Int.emod_add_mul_ediv q.2 m
    have k3 := Int.emod_add_mul_ediv w m
    have d1 : q.1 / m ≤ w / m := Int.ediv_le_ediv hm f2
    have d2 : w / m ≤ q.2 / m := Int.ediv_le_ediv hm f3
    have d3 : w / m = q.1 / m := by omega
    rw [d3] at k3
    rw [← hq] at k2
    exact ⟨by show q.1 % m ≤ _; omega, by show _ ≤ q.2 % m; omega⟩
end AL
