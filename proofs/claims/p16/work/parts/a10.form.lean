/-! LINEAR FORMS over atoms; boxes of atoms -/
abbrev aF : Type := Int × List (Nat × Int)
abbrev aB : Type := List (Nat × Int × Int)
noncomputable def ile (a b : Int) : Bool := !(ilt b a)
theorem ile_iff {a b : Int} : ile a b = true ↔ a ≤ b := by
  unfold ile
  cases h : ilt b a
  · have : ¬ b < a := fun g => by rw [ilt_iff.mpr g] at h; cases h
    simp; omega
  · have : b < a := ilt_iff.mp h
    simp; omega
noncomputable def fins (l : List (Nat × Int)) (x : Nat) (k : Int) : List (Nat × Int) := match l with
  | [] => [(x, k)]
  | q :: r => bif Nat.beq q.1 x then (bif ieq (q.2 + k) 0 then r else (x, q.2 + k) :: r) else bif Nat.ble x q.1 then (x, k) :: q :: r else q :: fins r x k
noncomputable def faddL (l : List (Nat × Int)) (m : List (Nat × Int)) : List (Nat × Int) := match m with
  | [] => l
  | q :: r => faddL (fins l q.1 q.2) r
noncomputable def fscL (n : Int) (l : List (Nat × Int)) : List (Nat × Int) := match l with
  | [] => []
  | q :: r => (q.1, q.2 * n) :: fscL n r
noncomputable def fadd (f g : aF) : aF := (f.1 + g.1, faddL f.2 g.2)
noncomputable def fsc (f : aF) (n : Int) : aF := bif ieq n 0 then (0, []) else (f.1 * n, fscL n f.2)
noncomputable def fsub (f g : aF) : aF := fadd f (fsc g (-1))
noncomputable def fk (f : aF) (n : Int) : aF := (f.1 + n, f.2)
noncomputable def feqL (l m : List (Nat × Int)) : Bool := match l, m with
  | [], [] => true
  | q :: r, p :: t => Nat.beq q.1 p.1 && ieq q.2 p.2 && feqL r t
  | _, _ => false
noncomputable def feq (f g : aF) : Bool := ieq f.1 g.1 && feqL f.2 g.2
noncomputable def bnd (b : aB) (x : Nat) : Option (Int × Int) := match b with
  | [] => none
  | q :: r => bif Nat.beq q.1 x then some q.2 else bnd r x
noncomputable def rngL (b : aB) (l : List (Nat × Int)) (lo hi : Int) : Option (Int × Int) := match l with
  | [] => some (lo, hi)
  | q :: r => (match bnd b q.1 with
    | none => none
    | some p => bif ilt q.2 0 then rngL b r (lo + q.2 * p.2) (hi + q.2 * p.1) else rngL b r (lo + q.2 * p.1) (hi + q.2 * p.2))
noncomputable def rng (b : aB) (f : aF) : Option (Int × Int) := rngL b f.2 f.1 f.1
/-- the form is at most 0: the box after it (lo: the form's lower bound) -/
noncomputable def leRx (b : aB) (x : Nat) (k v : Int) (p : Int × Int) : aB :=
  bif ilt 0 k then (bif ilt (v / k) p.2 then (x, p.1, v / k) :: b else b) else bif ilt k 0 then (bif ilt p.1 (-(v / (-k))) then (x, -(v / (-k)), p.2) :: b else b) else b
noncomputable def leRL (lo : Int) (l : List (Nat × Int)) (b : aB) : aB := match l with
  | [] => b
  | q :: r => (match bnd b q.1 with
    | none => b
    | some p => leRL lo r (leRx b q.1 q.2 ((bif ilt q.2 0 then q.2 * p.2 else q.2 * p.1) - lo) p))
noncomputable def leR (b : aB) (f : aF) : Option aB := match rng b f with
  | none => some b
  | some p => bif ilt 0 p.1 then none else bif ile p.2 0 then some b else some (leRL p.1 f.2 b)
noncomputable def hi0 (b : aB) (f : aF) : Bool := match rng b f with
  | none => false
  | some p => ile p.2 0
noncomputable def provL (b : aB) (f : aF) (cs : List aF) : Bool := match cs with
  | [] => false
  | h :: t => hi0 b (fsub f h) || provL b f t
noncomputable def prov (b : aB) (cs : List aF) (f : aF) : Bool := hi0 b f || provL b f cs
noncomputable def prov2L (b : aB) (cs : List aF) (f : aF) (t : List aF) : Bool := match t with
  | [] => false
  | h :: t => provL b (fsub f h) cs || prov2L b cs f t
noncomputable def prov2 (b : aB) (cs : List aF) (f : aF) : Bool := prov b cs f || prov2L b cs f cs
noncomputable def awithin (b : aB) (cs : List aF) (f : aF) (lo hi : Int) : Bool := match rng b f with
  | none => false
  | some p => (ile lo p.1 || prov b cs (fk (fsc f (-1)) lo)) && (ile p.2 hi || prov b cs (fk f (-hi)))
noncomputable def same0 (b : aB) (f g : aF) : Bool := feq f g || (match rng b (fsub f g) with
  | none => false
  | some p => ieq p.1 0 && ieq p.2 0)
noncomputable def apart (b : aB) (f g : aF) : Bool := match rng b (fsub f g) with
  | none => false
  | some p => ilt 0 p.1 || ilt p.2 0
/-! what they say: ν has the atoms' values -/
def evL (ν : List Int) : List (Nat × Int) → Option Int
  | [] => some 0
  | q :: r => match ν[q.1]?, evL ν r with
    | some v, some y => some (q.2 * v + y)
    | _, _ => none
def ev (ν : List Int) (f : aF) : Option Int := match evL ν f.2 with
  | some y => some (f.1 + y)
  | none => none
theorem evL_c {ν : List Int} {q : Nat × Int} {r : List (Nat × Int)} {x : Int} : evL ν (q :: r) = some x ↔ ∃ v y, ν[q.1]? = some v ∧ evL ν r = some y ∧ x = q.2 * v + y := by
  show (match ν[q.1]?, evL ν r with
    | some v, some y => some (q.2 * v + y)
    | _, _ => none) = some x ↔ _
  cases h1 : ν[q.1]? with
  | none => simp
  | some v =>
    cases h2 : evL ν r with
    | none => simp
    | some y =>
      simp only [Option.some.injEq]
      constructor
      · intro h; exact ⟨v, y, rfl, rfl, h.symm⟩
      · rintro ⟨v', y', e1, e2, e3⟩; cases e1; cases e2; exact e3.symm
theorem ev_iff {ν : List Int} {f : aF} {x : Int} : ev ν f = some x ↔ ∃ y, evL ν f.2 = some y ∧ x = f.1 + y := by
  unfold ev
  cases h : evL ν f.2 with
  | none => simp
  | some y =>
    simp only [Option.some.injEq]
    constructor
    · intro h; exact ⟨y, rfl, h.symm⟩
    · rintro ⟨y', e1, e2⟩; cases e1; exact e2.symm
theorem evL_mono {ν μ : List Int} : ∀ {l : List (Nat × Int)} {x : Int}, evL ν l = some x → evL (ν ++ μ) l = some x
  | [], _, h => h
  | q :: r, x, h => by
    obtain ⟨v, y, h1, h2, h3⟩ := evL_c.mp h
    refine evL_c.mpr ⟨v, y, ?_, evL_mono h2, h3⟩
    rw [List.getElem?_append_left (List.getElem?_eq_some_iff.mp h1).1]
    exact h1
theorem ev_mono {ν μ : List Int} {f : aF} {x : Int} (h : ev ν f = some x) : ev (ν ++ μ) f = some x := by
  obtain ⟨y, h1, h2⟩ := ev_iff.mp h
  exact ev_iff.mpr ⟨y, evL_mono h1, h2⟩
theorem evL_ins {ν : List Int} {x : Nat} {k v : Int} (hv : ν[x]? = some v) : ∀ {l : List (Nat × Int)} {y : Int}, evL ν l = some y → evL ν (fins l x k) = some (y + k * v)
  | [], y, h => by
    cases h
    exact evL_c.mpr ⟨v, 0, hv, rfl, by show 0 + k * v = k * v + 0; omega⟩
  | q :: r, y, h => by
    obtain ⟨w, z, h1, h2, h3⟩ := evL_c.mp h
    unfold fins
    cases hb : Nat.beq q.1 x with
    | true =>
      have e : q.1 = x := Nat.beq_eq.mp hb
      rw [e, hv] at h1
      cases h1
      cases h0 : ieq (q.2 + k) 0 with
      | true =>
        have e0 := ieq_iff.mp h0
        have : y + k * v = z := by
          have e1 : (q.2 + k) * v = 0 := by rw [e0]; omega
          rw [Int.add_mul] at e1
          omega
        rw [this]
        exact h2
      | false =>
        refine evL_c.mpr ⟨v, z, hv, h2, ?_⟩
        show y + k * v = (q.2 + k) * v + z
        rw [Int.add_mul]; omega
    | false =>
      cases hl : Nat.ble x q.1 with
      | true => exact evL_c.mpr ⟨v, y, hv, h, by show y + k * v = k * v + y; omega⟩
      | false => exact evL_c.mpr ⟨w, z + k * v, h1, evL_ins hv h2, by omega⟩
theorem evL_add {ν : List Int} : ∀ {m l : List (Nat × Int)} {x y : Int}, evL ν l = some x → evL ν m = some y → evL ν (faddL l m) = some (x + y)
  | [], l, x, y, h1, h2 => by
    cases h2
    have : x + 0 = x := by omega
    rw [this]
    exact h1
  | q :: r, l, x, y, h1, h2 => by
    obtain ⟨w, z, g1, g2, g3⟩ := evL_c.mp h2
    have := evL_add (evL_ins (k := q.2) g1 h1) g2
    rw [show x + q.2 * w + z = x + y by omega] at this
    exact this
theorem evL_sc {ν : List Int} {n : Int} : ∀ {l : List (Nat × Int)} {x : Int}, evL ν l = some x → evL ν (fscL n l) = some (x * n)
  | [], x, h => by cases h; simp [fscL, evL]
  | q :: r, x, h => by
    obtain ⟨w, z, g1, g2, g3⟩ := evL_c.mp h
    refine evL_c.mpr ⟨w, z * n, g1, evL_sc g2, ?_⟩
    show x * n = q.2 * n * w + z * n
    rw [g3, Int.add_mul, Int.mul_right_comm]
theorem ev_add {ν : List Int} {f g : aF} {x y : Int} (h1 : ev ν f = some x) (h2 : ev ν g = some y) : ev ν (fadd f g) = some (x + y) := by
  obtain ⟨a, e1, e2⟩ := ev_iff.mp h1
  obtain ⟨c, e3, e4⟩ := ev_iff.mp h2
  exact ev_iff.mpr ⟨a + c, evL_add e1 e3, by show x + y = f.1 + g.1 + (a + c); omega⟩
theorem ev_sc {ν : List Int} {f : aF} {x : Int} (n : Int) (h1 : ev ν f = some x) : ev ν (fsc f n) = some (x * n) := by
  obtain ⟨a, e1, e2⟩ := ev_iff.mp h1
  unfold fsc
  cases h0 : ieq n 0 with
  | true =>
    have := ieq_iff.mp h0
    subst this
    exact ev_iff.mpr ⟨0, rfl, by show x * 0 = 0 + 0; omega⟩
  | false => exact ev_iff.mpr ⟨a * n, evL_sc e1, by show x * n = f.1 * n + a * n; rw [e2, Int.add_mul]⟩
theorem ev_sub {ν : List Int} {f g : aF} {x y : Int} (h1 : ev ν f = some x) (h2 : ev ν g = some y) : ev ν (fsub f g) = some (x - y) := by
  have := ev_add h1 (ev_sc (-1) h2)
  rw [show x + y * -1 = x - y by omega] at this
  exact this
theorem ev_k {ν : List Int} {f : aF} {x : Int} (n : Int) (h1 : ev ν f = some x) : ev ν (fk f n) = some (x + n) := by
  obtain ⟨a, e1, e2⟩ := ev_iff.mp h1
  exact ev_iff.mpr ⟨a, e1, by show x + n = f.1 + n + a; omega⟩
theorem ev_c (ν : List Int) (n : Int) : ev ν (n, []) = some n := ev_iff.mpr ⟨0, rfl, by show n = n + 0; omega⟩
theorem ev_a {ν : List Int} {i : Nat} {v : Int} (h : ν[i]? = some v) : ev ν (0, [(i, 1)]) = some v := ev_iff.mpr ⟨v, evL_c.mpr ⟨v, 0, h, rfl, by show v = 1 * v + 0; omega⟩, by show v = 0 + v; omega⟩
theorem feqL_eq : ∀ {l m : List (Nat × Int)}, feqL l m = true → l = m
  | [], [], _ => rfl
  | [], _ :: _, h => by simp [feqL] at h
  | _ :: _, [], h => by simp [feqL] at h
  | q :: r, p :: t, h => by
    simp only [feqL, Bool.and_eq_true, Nat.beq_eq, ieq_iff] at h
    obtain ⟨⟨h1, h2⟩, h3⟩ := h
    rw [feqL_eq h3, show q = p from Prod.ext h1 h2]
theorem feq_eq {f g : aF} (h : feq f g = true) : f = g := by
  simp only [feq, Bool.and_eq_true, ieq_iff] at h
  exact Prod.ext h.1 (feqL_eq h.2)
/-- the atoms are awithin the box -/
def bx (ν : List Int) (b : aB) : Prop := ∀ q ∈ b, ∃ v, ν[q.1]? = some v ∧ q.2.1 ≤ v ∧ v ≤ q.2.2
theorem bx_mono {ν μ : List Int} {b : aB} (h : bx ν b) : bx (ν ++ μ) b := by
  intro q hq
  obtain ⟨v, h1, h2⟩ := h q hq
  refine ⟨v, ?_, h2⟩
  rw [List.getElem?_append_left (List.getElem?_eq_some_iff.mp h1).1]
  exact h1
theorem bnd_ok {ν : List Int} {x : Nat} {p : Int × Int} : ∀ {b : aB}, bx ν b → bnd b x = some p → ∃ v, ν[x]? = some v ∧ p.1 ≤ v ∧ v ≤ p.2
  | [], _, h => by cases h
  | q :: r, hb, h => by
    unfold bnd at h
    cases hq : Nat.beq q.1 x with
    | true =>
      rw [hq] at h
      cases h
      have := hb q List.mem_cons_self
      rw [Nat.beq_eq.mp hq] at this
      exact this
    | false =>
      rw [hq] at h
      exact bnd_ok (fun z hz => hb z (List.mem_cons_of_mem _ hz)) h
theorem mul_mono {k a c : Int} (hk : ¬ k < 0) (h : a ≤ c) : k * a ≤ k * c := Int.mul_le_mul_of_nonneg_left h (by omega)
theorem mul_anti {k a c : Int} (hk : k < 0) (h : a ≤ c) : k * c ≤ k * a := Int.mul_le_mul_of_nonpos_left (by omega) h
theorem rngL_ok {ν : List Int} {b : aB} (hb : bx ν b) : ∀ {l : List (Nat × Int)} {lo hi : Int} {p : Int × Int}, rngL b l lo hi = some p → ∃ y, evL ν l = some y ∧ p.1 ≤ lo + y ∧ hi + y ≤ p.2
  | [], lo, hi, p, h => by
    cases h
    exact ⟨0, rfl, by show lo ≤ lo + 0; omega, by show hi + 0 ≤ hi; omega⟩
  | q :: r, lo, hi, p, h => by
    unfold rngL at h
    cases hq : bnd b q.1 with
    | none => rw [hq] at h; cases h
    | some t =>
      simp only [hq] at h
      obtain ⟨v, h1, h2, h3⟩ := bnd_ok hb hq
      cases hs : ilt q.2 0 with
      | true =>
        rw [hs] at h
        obtain ⟨y, g1, g2, g3⟩ := rngL_ok hb h
        have k0 := ilt_iff.mp hs
        have := mul_anti k0 h2
        have := mul_anti k0 h3
        exact ⟨q.2 * v + y, evL_c.mpr ⟨v, y, h1, g1, rfl⟩, by omega, by omega⟩
      | false =>
        rw [hs] at h
        obtain ⟨y, g1, g2, g3⟩ := rngL_ok hb h
        have k0 : ¬ q.2 < 0 := fun g => by rw [ilt_iff.mpr g] at hs; cases hs
        have := mul_mono k0 h2
        have := mul_mono k0 h3
        exact ⟨q.2 * v + y, evL_c.mpr ⟨v, y, h1, g1, rfl⟩, by omega, by omega⟩
theorem rng_ok {ν : List Int} {b : aB} (hb : bx ν b) {f : aF} {p : Int × Int} (h : rng b f = some p) : ∃ x, ev ν f = some x ∧ p.1 ≤ x ∧ x ≤ p.2 := by
  obtain ⟨y, h1, h2, h3⟩ := rngL_ok hb h
  exact ⟨f.1 + y, ev_iff.mpr ⟨y, h1, rfl⟩, h2, h3⟩
theorem hi0_ok {ν : List Int} {b : aB} (hb : bx ν b) {f : aF} (h : hi0 b f = true) : ∃ x, ev ν f = some x ∧ x ≤ 0 := by
  unfold hi0 at h
  cases hr : rng b f with
  | none => rw [hr] at h; cases h
  | some p =>
    rw [hr] at h
    obtain ⟨x, h1, h2, h3⟩ := rng_ok hb hr
    have := ile_iff.mp h
    exact ⟨x, h1, by omega⟩
/-- what holds among atoms -/
def cx (ν : List Int) (cs : List aF) : Prop := ∀ f ∈ cs, ∃ x, ev ν f = some x ∧ x ≤ 0
theorem cx_mono {ν μ : List Int} {cs : List aF} (h : cx ν cs) : cx (ν ++ μ) cs := fun f hf => by
  obtain ⟨x, h1, h2⟩ := h f hf
  exact ⟨x, ev_mono h1, h2⟩
theorem provL_ok {ν : List Int} {b : aB} (hb : bx ν b) {f : aF} {x : Int} (hx : ev ν f = some x) : ∀ {cs : List aF}, cx ν cs → provL b f cs = true → x ≤ 0
  | [], _, h => by cases h
  | g :: t, hc, h => by
    simp only [provL, Bool.or_eq_true] at h
    rcases h with h | h
    · obtain ⟨y, h1, h2⟩ := hc g List.mem_cons_self
      obtain ⟨z, h3, h4⟩ := hi0_ok hb h
      rw [ev_sub hx h1] at h3
      cases h3
      omega
    · exact provL_ok hb hx (fun q hq => hc q (List.mem_cons_of_mem _ hq)) h
theorem prov_ok {ν : List Int} {b : aB} {cs : List aF} (hb : bx ν b) (hc : cx ν cs) {f : aF} {x : Int} (hx : ev ν f = some x) (h : prov b cs f = true) : x ≤ 0 := by
  simp only [prov, Bool.or_eq_true] at h
  rcases h with h | h
  · obtain ⟨z, h3, h4⟩ := hi0_ok hb h
    rw [hx] at h3
    cases h3
    exact h4
  · exact provL_ok hb hx hc h
theorem prov2L_ok {ν : List Int} {b : aB} {cs : List aF} (hb : bx ν b) (hcs : cx ν cs) {f : aF} {x : Int} (hx : ev ν f = some x) : ∀ {t : List aF}, cx ν t → prov2L b cs f t = true → x ≤ 0
  | [], _, h => by cases h
  | g :: t, hc, h => by
    simp only [prov2L, Bool.or_eq_true] at h
    rcases h with h | h
    · obtain ⟨y, h1, h2⟩ := hc g List.mem_cons_self
      have := provL_ok hb (ev_sub hx h1) hcs h
      omega
    · exact prov2L_ok hb hcs hx (fun q hq => hc q (List.mem_cons_of_mem _ hq)) h
theorem prov2_ok {ν : List Int} {b : aB} {cs : List aF} (hb : bx ν b) (hc : cx ν cs) {f : aF} {x : Int} (hx : ev ν f = some x) (h : prov2 b cs f = true) : x ≤ 0 := by
  simp only [prov2, Bool.or_eq_true] at h
  rcases h with h | h
  · exact prov_ok hb hc hx h
  · exact prov2L_ok hb hc hx hc h
theorem awithin_ok {ν : List Int} {b : aB} {cs : List aF} (hb : bx ν b) (hc : cx ν cs) {f : aF} {lo hi : Int} (h : awithin b cs f lo hi = true) : ∃ x, ev ν f = some x ∧ lo ≤ x ∧ x ≤ hi := by
  unfold awithin at h
  cases hr : rng b f with
  | none => rw [hr] at h; cases h
  | some p =>
    rw [hr] at h
    simp only [Bool.and_eq_true, Bool.or_eq_true, ile_iff] at h
    obtain ⟨x, h1, h2, h3⟩ := rng_ok hb hr
    refine ⟨x, h1, ?_, ?_⟩
    · rcases h.1 with g | g
      · omega
      · have := prov_ok hb hc (ev_k lo (ev_sc (-1) h1)) g
        omega
    · rcases h.2 with g | g
      · omega
      · have := prov_ok hb hc (ev_k (-hi) h1) g
        omega
theorem same0_ok {ν : List Int} {b : aB} (hb : bx ν b) {f g : aF} {y : Int} (hg : ev ν g = some y) (h : same0 b f g = true) {x : Int} (hx : ev ν f = some x) : x = y := by
  simp only [same0, Bool.or_eq_true] at h
  rcases h with h | h
  · rw [feq_eq h, hg] at hx
    cases hx
    rfl
  · cases hr : rng b (fsub f g) with
    | none => rw [hr] at h; cases h
    | some p =>
      simp only [hr, Bool.and_eq_true, ieq_iff] at h
      obtain ⟨z, h1, h2, h3⟩ := rng_ok hb hr
      rw [ev_sub hx hg] at h1
      cases h1
      omega
theorem apart_ok {ν : List Int} {b : aB} (hb : bx ν b) {f g : aF} {x y : Int} (hx : ev ν f = some x) (hg : ev ν g = some y) (h : apart b f g = true) : x ≠ y := by
  unfold apart at h
  cases hr : rng b (fsub f g) with
  | none => rw [hr] at h; cases h
  | some p =>
    simp only [hr, Bool.or_eq_true, ilt_iff] at h
    obtain ⟨z, h1, h2, h3⟩ := rng_ok hb hr
    rw [ev_sub hx hg] at h1
    cases h1
    omega
/-! a form that is at most 0 narrows the box -/
theorem evL_mem {ν : List Int} {b : aB} (hb : bx ν b) : ∀ {l : List (Nat × Int)} {lo hi : Int} {p : Int × Int}, rngL b l lo hi = some p → ∀ {y : Int}, evL ν l = some y → ∀ q ∈ l, ∀ t, bnd b q.1 = some t → ∀ v, ν[q.1]? = some v →
    p.1 - (if q.2 < 0 then q.2 * t.2 else q.2 * t.1) + q.2 * v ≤ lo + y
  | [], _, _, _, _, _, _, q, hq, _, _, _, _ => by cases hq
  | q0 :: r, lo, hi, p, h, y, hy, q, hq, t, ht, v, hv => by
    obtain ⟨w, z, e1, e2, e3⟩ := evL_c.mp hy
    unfold rngL at h
    cases hq0 : bnd b q0.1 with
    | none => rw [hq0] at h; cases h
    | some t0 =>
      simp only [hq0] at h
      obtain ⟨v0, h1, h2, h3⟩ := bnd_ok hb hq0
      rw [e1] at h1
      cases h1
      have key : ∃ lo' hi', rngL b r lo' hi' = some p ∧ lo' = lo + (if q0.2 < 0 then q0.2 * t0.2 else q0.2 * t0.1) ∧ (if q0.2 < 0 then q0.2 * t0.2 else q0.2 * t0.1) ≤ q0.2 * w := by
        cases hs : ilt q0.2 0 with
        | true =>
          rw [hs] at h
          have k0 := ilt_iff.mp hs
          exact ⟨_, _, h, by rw [if_pos k0], by rw [if_pos k0]; exact mul_anti k0 h3⟩
        | false =>
          rw [hs] at h
          have k0 : ¬ q0.2 < 0 := fun g => by rw [ilt_iff.mpr g] at hs; cases hs
          exact ⟨_, _, h, by rw [if_neg k0], by rw [if_neg k0]; exact mul_mono k0 h2⟩
      obtain ⟨lo', hi', g1, g2, g3⟩ := key
      rcases List.mem_cons.mp hq with rfl | hq
      · obtain ⟨y', f1, f2, f3⟩ := rngL_ok hb g1
        rw [e2] at f1
        cases f1
        rw [hq0] at ht
        cases ht
        rw [e1] at hv
        cases hv
        omega
      · have := evL_mem hb g1 e2 q hq t ht v hv
        omega
theorem leRx_ok {ν : List Int} {b : aB} (hb : bx ν b) {x : Nat} {k v : Int} {p : Int × Int} {w : Int} (hw : ν[x]? = some w) (h1 : p.1 ≤ w) (h2 : w ≤ p.2) (h : k * w ≤ v) : bx ν (leRx b x k v p) := by
  unfold leRx
  cases hk : ilt 0 k with
  | true =>
    have k0 := ilt_iff.mp hk
    cases hc : ilt (v / k) p.2 with
    | false => exact hb
    | true =>
      intro q hq
      rcases List.mem_cons.mp hq with rfl | hq
      · exact ⟨w, hw, h1, (Int.le_ediv_iff_mul_le k0).mpr (by rw [Int.mul_comm]; exact h)⟩
      · exact hb q hq
  | false =>
    cases hk2 : ilt k 0 with
    | false => exact hb
    | true =>
      have k0 := ilt_iff.mp hk2
      cases hc : ilt p.1 (-(v / (-k))) with
      | false => exact hb
      | true =>
        intro q hq
        rcases List.mem_cons.mp hq with rfl | hq
        · refine ⟨w, hw, ?_, h2⟩
          have : -w ≤ v / (-k) := (Int.le_ediv_iff_mul_le (by omega)).mpr (by rw [Int.neg_mul_neg, Int.mul_comm]; exact h)
          show -(v / (-k)) ≤ w
          omega
        · exact hb q hq
theorem leRL_ok {ν : List Int} {b0 : aB} (hb0 : bx ν b0) {l0 : List (Nat × Int)} {c hi : Int} {p : Int × Int} (hr : rngL b0 l0 c hi = some p) {y : Int} (hy : evL ν l0 = some y) (h0 : c + y ≤ 0) :
    ∀ {l : List (Nat × Int)} {b : aB}, bx ν b → (∀ q ∈ l, q ∈ l0) → (∀ q ∈ l, ∀ t, bnd b q.1 = some t → bnd b0 q.1 = some t ∨ ∃ t0, bnd b0 q.1 = some t0 ∧ t0.1 ≤ t.1 ∧ t.2 ≤ t0.2) → bx ν (leRL p.1 l b)
  | [], b, hb, _, _ => hb
  | q :: r, b, hb, hm, hs => by
    unfold leRL
    cases hq : bnd b q.1 with
    | none => exact hb
    | some t =>
      obtain ⟨v, h1, h2, h3⟩ := bnd_ok hb hq
      have key : q.2 * v ≤ (if q.2 < 0 then q.2 * t.2 else q.2 * t.1) - p.1 := by
        rcases hs q List.mem_cons_self t hq with g | ⟨t0, g, g1, g2⟩
        · have := evL_mem hb0 hr hy q (hm q List.mem_cons_self) t g v h1
          omega
        · have := evL_mem hb0 hr hy q (hm q List.mem_cons_self) t0 g v h1
          have e : (if q.2 < 0 then q.2 * t0.2 else q.2 * t0.1) ≤ (if q.2 < 0 then q.2 * t.2 else q.2 * t.1) := by
            split
            · rename_i k0
              exact mul_anti k0 g2
            · rename_i k0
              exact mul_mono k0 g1
          omega
      have hcond : (bif ilt q.2 0 then q.2 * t.2 else q.2 * t.1) = (if q.2 < 0 then q.2 * t.2 else q.2 * t.1) := by
        cases hc : ilt q.2 0 with
        | true => rw [if_pos (ilt_iff.mp hc)]; rfl
        | false => rw [if_neg (fun g => by rw [ilt_iff.mpr g] at hc; cases hc)]; rfl
      show bx ν (leRL p.1 r (leRx b q.1 q.2 ((bif ilt q.2 0 then q.2 * t.2 else q.2 * t.1) - p.1) t))
      rw [hcond]
      have hb' := leRx_ok hb (k := q.2) (v := (if q.2 < 0 then q.2 * t.2 else q.2 * t.1) - p.1) h1 h2 h3 key
      refine leRL_ok hb0 hr hy h0 hb' (fun z hz => hm z (List.mem_cons_of_mem _ hz)) (fun z hz t' ht' => ?_)
      have look : bnd b z.1 = some t' ∨ (z.1 = q.1 ∧ t.1 ≤ t'.1 ∧ t'.2 ≤ t.2) := by
        revert ht'
        unfold leRx
        cases ilt 0 q.2 with
        | true =>
          cases hc : ilt (((if q.2 < 0 then q.2 * t.2 else q.2 * t.1) - p.1) / q.2) t.2 with
          | false => exact fun h => Or.inl h
          | true =>
            intro h
            have h : bnd ((q.1, t.1, ((if q.2 < 0 then q.2 * t.2 else q.2 * t.1) - p.1) / q.2) :: b) z.1 = some t' := h
            unfold bnd at h
            cases he : Nat.beq q.1 z.1 with
            | true =>
              rw [he] at h
              cases h
              have := ilt_iff.mp hc
              exact Or.inr ⟨(Nat.beq_eq.mp he).symm, Int.le_refl _, Int.le_of_lt this⟩
            | false => rw [he] at h; exact Or.inl h
        | false =>
          cases ilt q.2 0 with
          | false => exact fun h => Or.inl h
          | true =>
            cases hc : ilt t.1 (-(((if q.2 < 0 then q.2 * t.2 else q.2 * t.1) - p.1) / (-q.2))) with
            | false => exact fun h => Or.inl h
            | true =>
              intro h
              have h : bnd ((q.1, -(((if q.2 < 0 then q.2 * t.2 else q.2 * t.1) - p.1) / (-q.2)), t.2) :: b) z.1 = some t' := h
              unfold bnd at h
              cases he : Nat.beq q.1 z.1 with
              | true =>
                rw [he] at h
                cases h
                have := ilt_iff.mp hc
                exact Or.inr ⟨(Nat.beq_eq.mp he).symm, Int.le_of_lt this, Int.le_refl _⟩
              | false => rw [he] at h; exact Or.inl h
      rcases look with g | ⟨g0, g1, g2⟩
      · exact hs z (List.mem_cons_of_mem _ hz) t' g
      · rw [g0]
        rcases hs q List.mem_cons_self t hq with g | ⟨t0, g, g3, g4⟩
        · exact Or.inr ⟨t, g, g1, g2⟩
        · exact Or.inr ⟨t0, g, by omega, by omega⟩
theorem leR_ok {ν : List Int} {b : aB} (hb : bx ν b) {f : aF} {x : Int} (hx : ev ν f = some x) (h0 : x ≤ 0) : ∃ b', leR b f = some b' ∧ bx ν b' := by
  unfold leR
  cases hr : rng b f with
  | none => exact ⟨b, rfl, hb⟩
  | some p =>
    obtain ⟨z, h1, h2, h3⟩ := rng_ok hb hr
    rw [hx] at h1
    cases h1
    cases hc : ilt 0 p.1 with
    | true => have := ilt_iff.mp hc; omega
    | false =>
      cases hd : ile p.2 0 with
      | true => exact ⟨b, by simp only [hc, hd, cond_false, cond_true], hb⟩
      | false =>
        obtain ⟨y, e1, e2⟩ := ev_iff.mp hx
        exact ⟨_, by simp only [hc, hd, cond_false], leRL_ok hb hr e1 (by omega) hb (fun q hq => hq) (fun q _ t ht => Or.inl ht)⟩
