/-! READING AND WRITING -/
theorem cond_P {α : Type} {P : α → Prop} {c : Bool} {a b : α} (ha : P a) (hb : P b) : P (bif c then a else b) := by
  cases c
  · exact hb
  · exact ha
def aEk (e : aE) : Prop := 0 < e.1 ∧ (e.2.2.2.1 = 0 ∨ e.2.2.2.1 = 1 ∨ e.2.2.2.1 = 3)
theorem aSP_k (g : Nat) : ∀ e ∈ aSP g, aEk e := by
  unfold aSP
  repeat' apply cond_P (P := fun l : List aE => ∀ e ∈ l, aEk e)
  all_goals (unfold aEk; decide)
theorem modc (k m : Nat) : ((k : Int) % (Int.ofNat m)) = ((k % m : Nat) : Int) := by
  show ((k : Int) % (m : Int)) = _
  omega
section AL
variable {B b0 L : Nat} {grp : Nat → Nat} {lit : Value → Prop}
theorem arsp_ok {ν : List Int} {b : aB} (hb : bx ν b) {i : aF} {k : Nat} (hk : ev ν i = some (k : Int)) {p : aP} : ∀ {l : List aE}, (∀ e ∈ l, aEk e) → arsp b i l = some p → ∃ e ∈ l, e.2.2.2 = p ∧ e.2.1 ≤ k % e.1 ∧ k % e.1 ≤ e.2.2.1
  | [], _, h => by cases h
  | e :: r, hl, h => by
    unfold arsp at h
    have rest : arsp b i r = some p → ∃ e' ∈ e :: r, e'.2.2.2 = p ∧ e'.2.1 ≤ k % e'.1 ∧ k % e'.1 ≤ e'.2.2.1 := by
      intro h
      obtain ⟨e', g1, g2⟩ := arsp_ok hb hk (fun z hz => hl z (List.mem_cons_of_mem _ hz)) h
      exact ⟨e', List.mem_cons_of_mem _ g1, g2⟩
    cases hr : ares b i (Int.ofNat e.1) with
    | none => simp only [hr] at h; exact rest h
    | some q =>
      simp only [hr] at h
      rcases cnd_some h with ⟨hc, h⟩ | ⟨-, h⟩
      · simp only [Bool.and_eq_true, ile_iff] at hc
        have e0 := (hl e List.mem_cons_self).1
        have := ares_ok hb (m := Int.ofNat e.1) (by show (0 : Int) < (e.1 : Int); omega) hr hk
        rw [modc] at this
        have c1 : (e.2.1 : Int) ≤ q.1 := hc.1
        have c2 : q.2 ≤ (e.2.2.1 : Int) := hc.2
        cases h
        exact ⟨e, List.mem_cons_self, rfl, by omega, by omega⟩
      · exact rest h
theorem awsp_fit {ν : List Int} {z : aZ} {u : zW} (hγ : aγ B b0 L grp lit ν z u) {i : aF} {k : Nat} (hk : ev ν i = some (k : Int)) {v : aV} : ∀ {l : List aE}, (∀ e ∈ l, aEk e) → awsp z i v l = true → ∀ e ∈ l, e.2.1 ≤ k % e.1 → k % e.1 ≤ e.2.2.1 → afit z v e.2.2.2 = true
  | [], _, _, e, he, _, _ => by cases he
  | e0 :: r, hl, h, e, he, h1, h2 => by
    unfold awsp at h
    rw [Bool.and_eq_true] at h
    rcases List.mem_cons.mp he with rfl | he
    · have hp := hl e List.mem_cons_self
      cases hr : ares (zb z) i (Int.ofNat e.1) with
      | none =>
        simp only [hr] at h
        exact h.1
      | some q =>
        simp only [hr] at h
        have := ares_ok hγ.2.1 (m := Int.ofNat e.1) (by show (0 : Int) < (e.1 : Int); have := hp.1; omega) hr hk
        rw [modc] at this
        have hc : (ile q.1 (Int.ofNat e.2.2.1) && ile (Int.ofNat e.2.1) q.2) = true := by
          simp only [Bool.and_eq_true, ile_iff]
          exact ⟨by show q.1 ≤ (e.2.2.1 : Int); omega, by show (e.2.1 : Int) ≤ q.2; omega⟩
        rw [hc] at h
        exact h.1
    · exact awsp_fit hγ hk (fun z hz => hl z (List.mem_cons_of_mem _ hz)) h.2 e he h1 h2
theorem awsp_ok {ν : List Int} {z : aZ} {u : zW} (hγ : aγ B b0 L grp lit ν z u) {i : aF} {k : Nat} (hk : ev ν i = some (k : Int)) {v : aV} {w : Value} (hv : dV B b0 L grp lit ν v w) : ∀ {l : List aE}, (∀ e ∈ l, aEk e) → awsp z i v l = true → ∀ e ∈ l, e.2.1 ≤ k % e.1 → k % e.1 ≤ e.2.2.1 → dP B grp e.2.2.2 w
  | [], _, _, e, he, _, _ => by cases he
  | e0 :: r, hl, h, e, he, h1, h2 => by
    unfold awsp at h
    rw [Bool.and_eq_true] at h
    rcases List.mem_cons.mp he with rfl | he
    · have hp := hl e List.mem_cons_self
      cases hr : ares (zb z) i (Int.ofNat e.1) with
      | none =>
        simp only [hr] at h
        exact afit_ok hγ h.1 hv hp.2
      | some q =>
        simp only [hr] at h
        have := ares_ok hγ.2.1 (m := Int.ofNat e.1) (by show (0 : Int) < (e.1 : Int); have := hp.1; omega) hr hk
        rw [modc] at this
        have hc : (ile q.1 (Int.ofNat e.2.2.1) && ile (Int.ofNat e.2.1) q.2) = true := by
          simp only [Bool.and_eq_true, ile_iff]
          exact ⟨by show q.1 ≤ (e.2.2.1 : Int); omega, by show (e.2.1 : Int) ≤ q.2; omega⟩
        rw [hc] at h
        exact afit_ok hγ h.1 hv hp.2
    · exact awsp_ok hγ hk hv (fun z hz => hl z (List.mem_cons_of_mem _ hz)) h.2 e he h1 h2
theorem alkL_mem {g : Nat} {a i : aF} {v : aV} : ∀ {l : List aX}, alkL l g a i = some v → (g, a, i, v) ∈ l
  | [], h => by cases h
  | q :: r, h => by
    unfold alkL at h
    rcases cnd_some h with ⟨hc, h⟩ | ⟨-, h⟩
    · simp only [Bool.and_eq_true, Nat.beq_eq] at hc
      cases h
      obtain ⟨⟨h1, h2⟩, h3⟩ := hc
      have e : q = (g, a, i, q.2.2.2) := by
        rw [← h1, ← feq_eq h2, ← feq_eq h3]
      rw [← e]
      exact List.mem_cons_self
    · exact List.mem_cons_of_mem _ (alkL_mem h)
theorem natE {a c : Nat} (h : (some (a : Int) : Option Int) = some (c : Int)) : a = c := by
  have := Option.some.inj h
  omega
/-- a fact that is found speaks of the place -/
theorem alk_ok {ν : List Int} {z : aZ} {u : zW} (hγ : aγ B b0 L grp lit ν z u) {g : Nat} {fa fi : aF} {v : aV} (h : alk z g fa fi = some v) : ∃ a k : Nat, ev ν fa = some (a : Int) ∧ ev ν fi = some (k : Int) ∧ a < aN0 ∧ grp a = g ∧ k < aLN g ∧ dV B b0 L grp lit ν v (avl B u a k) := hγ.2.2.2.1 _ (alkL_mem h)
theorem alk_at {ν : List Int} {z : aZ} {u : zW} (hγ : aγ B b0 L grp lit ν z u) {g : Nat} {fa fi : aF} {v : aV} (h : alk z g fa fi = some v) {a k : Nat} (ha : ev ν fa = some (a : Int)) (hk : ev ν fi = some (k : Int)) : dV B b0 L grp lit ν v (avl B u a k) := by
  obtain ⟨a', k', e1, e2, -, -, -, e3⟩ := alk_ok hγ h
  rw [ha] at e1
  rw [hk] at e2
  rw [natE e1, natE e2]
  exact e3
/-- a place of the world -/
def apl (grp : Nat → Nat) (ν : List Int) (g : Nat) (fa fi : aF) (a k : Nat) : Prop := ev ν fa = some (a : Int) ∧ ev ν fi = some (k : Int) ∧ a < aN0 ∧ grp a = g ∧ k < aLN g
theorem apl_ext {ν ν' : List Int} {g : Nat} {fa fi : aF} {a k : Nat} (e : aext ν ν') (h : apl grp ν g fa fi a k) : apl grp ν' g fa fi a k := ⟨ev_ext e h.1, ev_ext e h.2.1, h.2.2⟩
theorem afact_ok {ν : List Int} {z : aZ} {u : zW} (hγ : aγ B b0 L grp lit ν z u) {g : Nat} {fa fi : aF} {a k : Nat} (hp : apl grp ν g fa fi a k) {v : aV} (hv : dV B b0 L grp lit ν v (avl B u a k)) : aγ B b0 L grp lit ν (afact z (g, fa, fi, v)) u := by
  obtain ⟨g1, g2, g3, g4, g5, g6⟩ := hγ
  refine ⟨g1, g2, g3, fun q hq => ?_, g5, g6⟩
  rcases List.mem_cons.mp hq with rfl | hq
  · exact ⟨a, k, hp.1, hp.2.1, hp.2.2.1, hp.2.2.2.1, hp.2.2.2.2, hv⟩
  · exact g4 q hq
theorem dI_at {u : zW} (h : dI B grp u) {a k : Nat} (ha : a < aN0) (hk : k < aLN (grp a)) {e : aE} (he : e ∈ aSP (grp a)) (h1 : e.2.1 ≤ k % e.1) (h2 : k % e.1 ≤ e.2.2.1) : dP B grp e.2.2.2 (avl B u a k) := (h.2 a ha).2.2 k hk e he h1 h2
theorem ard0_ok (hg : aok grp) {ν : List Int} {z : aZ} {u : zW} (hγ : aγ B b0 L grp lit ν z u) {g : Nat} {fa fi : aF} {a k : Nat} (hp : apl grp ν g fa fi a k) {q : aV × aZ} (h : ard0 z g fa fi = some q) : ∃ ν', aext ν ν' ∧ aγ B b0 L grp lit ν' q.2 u ∧ dV B b0 L grp lit ν' q.1 (avl B u a k) := by
  unfold ard0 at h
  cases hl : alk z g fa fi with
  | some v =>
    rw [hl] at h
    cases h
    exact ⟨ν, aext_r ν, hγ, alk_at hγ hl hp.1 hp.2.1⟩
  | none =>
    rw [hl] at h
    cases hs : arsp (zb z) fi (aSP g) with
    | none => simp only [hs] at h; cases h
    | some p =>
      simp only [hs] at h
      cases h
      obtain ⟨e, e1, e2, e3, e4⟩ := arsp_ok hγ.2.1 hp.2.1 (aSP_k g) hs
      have hd : dP B grp p (avl B u a k) := by
        rw [← e2]
        exact dI_at hγ.2.2.2.2.1 hp.2.2.1 (by rw [hp.2.2.2.1]; exact hp.2.2.2.2) (by rw [hp.2.2.2.1]; exact e1) e3 e4
      obtain ⟨ν', f1, f2, f3⟩ := amk_ok hg hγ hd
      exact ⟨ν', f1, afact_ok f2 (apl_ext f1 hp) f3, f3⟩
/-- one of the ways of a list -/
def away (B b0 L : Nat) (grp : Nat → Nat) (lit : Value → Prop) (ν : List Int) (u : zW) (w : Value) (l : List (aV × aZ)) : Prop := ∃ q ∈ l, ∃ ν', aext ν ν' ∧ aγ B b0 L grp lit ν' q.2 u ∧ dV B b0 L grp lit ν' q.1 w
theorem ard1_ok (hg : aok grp) {ν : List Int} {z : aZ} {u : zW} (hγ : aγ B b0 L grp lit ν z u) {g : Nat} {fa fi : aF} {a k : Nat} (hp : apl grp ν g fa fi a k) {l : List (aV × aZ)} (h : ard1 z g fa fi = some l) : away B b0 L grp lit ν u (avl B u a k) l := by
  unfold ard1 at h
  cases hr : ard0 z g fa fi with
  | none => rw [hr] at h; cases h
  | some q =>
    rw [hr] at h
    cases h
    obtain ⟨ν', e⟩ := ard0_ok hg hγ hp hr
    exact ⟨q, List.mem_cons_self, ν', e⟩
theorem dV_i (ν : List Int) (n : Int) (h1 : -2147483648 ≤ n) (h2 : n ≤ 2147483647) : dV B b0 L grp lit ν (0, 0, (n, [])) (.int (Int32.ofInt n)) := ⟨n, ev_c ν n, rfl, h1, h2⟩
theorem dV_j (ν : List Int) (n : Int) (h1 : -9223372036854775808 ≤ n) (h2 : n ≤ 9223372036854775807) : dV B b0 L grp lit ν (1, 0, (n, [])) (.long (Int64.ofInt n)) := ⟨n, ev_c ν n, rfl, h1, h2⟩
end AL
