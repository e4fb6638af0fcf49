/-! ends, cuts, and the run of a whole method -/
noncomputable def asome {α : Type} (o : Option α) : Bool := match o with
  | some _ => true
  | none => false
noncomputable def alf (np kd k : Nat) (z : aZ) (st : List aV) (cl : aF) (q : List (Nat × Nat × Nat × aT)) : Bool := match q with
  | [] => false
  | p :: r => (Nat.beq p.1 kd && (Nat.beq kd 0 || Nat.beq p.2.1 k) && Nat.beq (tnp p.2.2.2) np && awit z cl 0 (Int.ofNat p.2.2.1) && asome (aent z [] st p.2.2.2)) || alf np kd k z st cl r
/-- a cut: pc, state, measure, cells -/
abbrev aK : Type := Nat × aT × List aF × aF
noncomputable def asubs (σ : List aF) (q : List aF) : Option (List aF) := match q with
  | [] => some []
  | f :: r => (match asub σ f, asubs σ r with
    | some g, some t => some (g :: t)
    | _, _ => none)
noncomputable def alex (z : aZ) (a b : List aF) : Bool := match a, b with
  | x :: r, y :: t => (prov2 (zb z) (zc z) (fk (fsub x y) 1) && prov2 (zb z) (zc z) (fsc x (-1)) && Nat.beq (alen r) (alen t)) || (same0 (zb z) x y && alex z r t)
  | _, _ => false
noncomputable def acu1 (np : Nat) (mu : Option (List aF)) (S : aS) (k : aK) : Bool := Nat.beq k.1 S.1 && Nat.beq (tnp k.2.1) np && (match aent S.2.2.2.1 S.2.1 S.2.2.1 k.2.1 with
  | none => false
  | some q => (match asub q.1 k.2.2.2, asubs q.1 k.2.2.1 with
    | some g, some m => prov2 (zb q.2) (zc q.2) (fsub S.2.2.2.2.1 g) && awit q.2 g 0 1000000000 && (match mu with
      | none => true
      | some b => alex q.2 m b)
    | _, _ => false))
noncomputable def acus (np : Nat) (mu : Option (List aF)) (S : aS) (q : List aK) : Bool := match q with
  | [] => false
  | k :: r => acu1 np mu S k || acus np mu S r
noncomputable def aisc (q : List aK) (pc : Nat) : Bool := match q with
  | [] => false
  | k :: r => Nat.beq k.1 pc || aisc r pc
noncomputable def aall (g : aS → Bool) (q : List aS) : Bool := match q with
  | [] => true
  | S :: r => g S && aall g r
noncomputable def achk (stp : aS → Option aR) (np : Nat) (po : List (Nat × Nat × Nat × aT)) (cu : List aK) (mu : Option (List aF)) (n : Nat) : Bool → aS → Bool := Nat.rec (motive := fun _ => Bool → aS → Bool) (fun _ _ => false) (fun _ ih fi S => bif !fi && aisc cu S.1 then acus np mu S cu else (match stp S with
  | none => false
  | some R => bif Nat.beq R.1 0 then aall (ih false) R.2.1 else bif Nat.beq R.1 1 then alf np 0 0 S.2.2.2.1 S.2.2.1 S.2.2.2.2.1 po else alf np 1 R.2.2.2 S.2.2.2.1 [] (fk S.2.2.2.2.1 1) po)) n
/-- the order of measures -/
def lxx : List Int → List Int → Prop
  | x :: r, y :: t => (x < y ∧ 0 ≤ x ∧ r.length = t.length) ∨ (x = y ∧ lxx r t)
  | _, _ => False
theorem lxx_len : ∀ {a b : List Int}, lxx a b → a.length = b.length
  | x :: r, y :: t, h => by
    rcases h with ⟨-, -, h⟩ | ⟨-, h⟩
    · rw [List.length_cons, List.length_cons, h]
    · rw [List.length_cons, List.length_cons, lxx_len h]
  | [], _, h => h.elim
  | _ :: _, [], h => h.elim
theorem lxx_acc : ∀ (n : Nat) (b : List Int), b.length = n → Acc lxx b
  | 0, b, hb => by
    refine ⟨_, fun a ha => ?_⟩
    have := List.eq_nil_of_length_eq_zero hb
    subst this
    cases a with
    | nil => exact ha.elim
    | cons _ _ => exact ha.elim
  | n + 1, b, hb => by
    have key : ∀ (m : Nat) (y : Int), y.toNat = m → ∀ t : List Int, t.length = n → Acc lxx (y :: t) := by
      intro m
      induction m using Nat.strongRecOn with
      | ind m ih =>
        intro y hy t ht
        have inner : ∀ t : List Int, Acc lxx t → t.length = n → Acc lxx (y :: t) := by
          intro t hacc
          induction hacc with
          | intro t _ iht =>
            intro htn
            refine ⟨_, fun a ha => ?_⟩
            cases a with
            | nil => exact ha.elim
            | cons x r =>
              rcases ha with ⟨h1, h2, h3⟩ | ⟨h1, h2⟩
              · exact ih x.toNat (by omega) x rfl r (h3.trans htn)
              · subst h1
                exact iht r h2 ((lxx_len h2).trans htn)
        exact inner t (lxx_acc n t ht) ht
    cases b with
    | nil => cases hb
    | cons y t => exact key y.toNat y rfl t (Nat.succ.inj hb)
theorem asubs_ok {ν μ : List Int} {σ : List aF} (hs : evs ν σ μ) : ∀ {q m : List aF}, asubs σ q = some m → ∃ vs, evs μ q vs ∧ evs ν m vs
  | [], m, h => by
    cases h
    exact ⟨[], trivial, trivial⟩
  | f :: r, m, h => by
    unfold asubs at h
    cases h1 : asub σ f with
    | none => simp only [h1] at h; cases h
    | some g =>
      cases h2 : asubs σ r with
      | none => simp only [h1, h2] at h; cases h
      | some t =>
        simp only [h1, h2] at h
        cases h
        obtain ⟨y, y1, y2⟩ := asub_ok hs h1
        obtain ⟨vs, e1, e2⟩ := asubs_ok hs h2
        exact ⟨y :: vs, ⟨y1, e1⟩, ⟨y2, e2⟩⟩
section GE
variable {M : xM} {Y : Nat → MethodName} {Bt : Nat → ByteArray} {Hh : Nat → List (Nat × Nat × Nat × Nat)} {Rt : Nat → Option FieldType} {Rm : Nat → Room} {Ex : Nat → String}
variable {l : Launch} {s0 : State} {D : va_G} {ca : Nat → ClassId} {sb : Nat → Nat} {b0 L : Nat} {grp : Nat → Nat} {lit : Value → Prop} {xs : Nat → Int32} {ty : Nat → Nat → FieldType}
variable {mi : Nat} {P : cP} {md : List (Nat × Int)} {u0 : zW} {ν0 : List Int}

theorem alex_ok {ν : List Int} {z : aZ} {u : zW} (hγ : aγ s0.heap.size b0 L grp lit ν z u) : ∀ {a b : List aF} {va vb : List Int}, evs ν a va → evs ν b vb → alex z a b = true → lxx va vb
  | [], _, _, _, _, _, h => by cases h
  | _ :: _, [], _, _, _, _, h => by cases h
  | x :: r, y :: t, [], _, ha, _, _ => ha.elim
  | x :: r, y :: t, _ :: _, [], _, hb, _ => hb.elim
  | x :: r, y :: t, vx :: vr, vy :: vt, ha, hb, h => by
    unfold alex at h
    rw [Bool.or_eq_true] at h
    rcases h with h | h
    · simp only [Bool.and_eq_true, Nat.beq_eq] at h
      have p1 := prov2_ok hγ.2.1 hγ.2.2.1 (ev_k 1 (ev_sub ha.1 hb.1)) h.1.1
      have p2 := prov2_ok hγ.2.1 hγ.2.2.1 (ev_sc (-1) ha.1) h.1.2
      exact Or.inl ⟨by omega, by omega, by rw [evs_len ha.2, evs_len hb.2]; exact h.2⟩
    · rw [Bool.and_eq_true] at h
      exact Or.inr ⟨same0_ok hγ.2.1 hb.1 h.1 ha.1, alex_ok hγ ha.2 hb.2 h.2⟩
theorem avl_new {B : Nat} {u : zW} (h : dI B grp u) {c : zC} {a k : Nat} (ha : a < aN0) : avl B (znew u c) a k = avl B u a k := by
  unfold avl znew
  show (if B + a = u.1 then c else u.2 (B + a)).2.2 k = _
  rw [if_neg (by have := h.1; omega)]
theorem γ_new (hg : aok grp) {ν : List Int} {z : aZ} {u : zW} (hγ : aγ s0.heap.size b0 L grp lit ν z u) (c : zC) : aγ s0.heap.size b0 L grp lit ν z (znew u c) := by
  obtain ⟨g1, g2, g3, g4, g5, g6⟩ := hγ
  have o : ∀ {g o : Nat}, aSG g = some o → ∀ k, avl s0.heap.size (znew u c) o k = avl s0.heap.size u o k := fun hs k => avl_new g5 (hg.2 _ _ hs).1
  refine ⟨g1, g2, g3, fun q hq => ?_, ⟨by have := g5.1; show s0.heap.size + aN0 ≤ u.1 + 1; omega, fun a ha => ?_⟩, dM_same g6 ⟨o sgM _, o sgM _, o sgC, o sgS, fun j => o sgZ _, o sgO⟩⟩
  · obtain ⟨a, k, e1, e2, e3, e4, e5, e6⟩ := g4 q hq
    exact ⟨a, k, e1, e2, e3, e4, e5, by rw [avl_new g5 e3]; exact e6⟩
  · have hne : (znew u c).2 (s0.heap.size + a) = u.2 (s0.heap.size + a) := by
      unfold znew
      show (if s0.heap.size + a = u.1 then c else u.2 (s0.heap.size + a)) = _
      rw [if_neg (by have := g5.1; omega)]
    have := g5.2 a ha
    refine ⟨by rw [hne]; exact this.1, by rw [hne]; exact this.2.1, fun k hk e he e1 e2 => ?_⟩
    rw [avl_new g5 ha]
    exact this.2.2 k hk e he e1 e2
theorem alf_some {np kd k : Nat} {z : aZ} {st : List aV} {cl : aF} : ∀ {q : List (Nat × Nat × Nat × aT)}, alf np kd k z st cl q = true → ∃ p ∈ q, p.1 = kd ∧ (kd = 0 ∨ p.2.1 = k) ∧ tnp p.2.2.2 = np ∧ awit z cl 0 (Int.ofNat p.2.2.1) = true ∧ ∃ w, aent z [] st p.2.2.2 = some w
  | [], h => by cases h
  | p :: r, h => by
    unfold alf at h
    rw [Bool.or_eq_true] at h
    rcases h with h | h
    · simp only [Bool.and_eq_true, Bool.or_eq_true, Nat.beq_eq] at h
      obtain ⟨⟨⟨⟨h1, h2⟩, h3⟩, h4⟩, h5⟩ := h
      refine ⟨p, List.mem_cons_self, h1, h2, h3, h4, ?_⟩
      cases he : aent z [] st p.2.2.2 with
      | none => rw [he] at h5; cases h5
      | some w => exact ⟨w, rfl⟩
    · obtain ⟨p', h1, h2⟩ := alf_some h
      exact ⟨p', List.mem_cons_of_mem _ h1, h2⟩
/-- an end comes under one of the ends that the method's word has -/
theorem alf_ok (hg : aok grp) {c : aC} {νc : List Int} {u1 : zW} (hnp : νc.length = zn (tz c.1)) (hb : ∀ j, j < νc.length → ν0[j]? = νc[j]?) {kd k n : Nat} {z : aZ} {st : List aV} {sc : List Value} {cl : aF} {ν : List Int} {u : zW} (h0 : aext ν0 ν) (hγ : aγ s0.heap.size b0 L grp lit ν z u) (hS : dS s0.heap.size b0 L grp lit ν st sc) (hF : aFr s0.heap.size grp c.2.1 u1 u) (hn : ev ν cl = some (n : Int)) (h : alf (zn (tz c.1)) kd k z st cl c.2.2 = true) :
    ∃ p ∈ c.2.2, p.1 = kd ∧ (kd = 0 ∨ p.2.1 = k) ∧ ∃ μ, (∀ j, j < νc.length → μ[j]? = νc[j]?) ∧ aγ s0.heap.size b0 L grp lit μ (tz p.2.2.2) u ∧ aFr s0.heap.size grp c.2.1 u1 u ∧ n ≤ p.2.2.1 ∧ dS s0.heap.size b0 L grp lit μ (tst p.2.2.2) sc := by
  obtain ⟨p, p1, p2, p3, p4, p5, w, p6⟩ := alf_some h
  obtain ⟨ν', μ, lc', e1, e2, e3, e4, e5, e6, e7, e8, e9⟩ := aent_ok hg hγ (show dL s0.heap.size b0 L grp lit ν [] [] from trivial) hS p6
  refine ⟨p, p1, p2, p3, μ, fun j hj => ?_, e5, hF, ?_, e8⟩
  · rw [e4 j (by rw [p4, ← hnp]; exact hj), ← hb j hj]
    have hj0 := hb j hj
    rw [List.getElem?_eq_getElem hj] at hj0
    rw [hj0]
    exact get_ext h0 hj0
  · have := (awit_at hγ p5 hn).2
    simp only [Int.ofNat_eq_natCast] at this
    omega
theorem cg_ret {pc n : Nat} {lc : List (Nat × Value)} {v : Option Value} {u : zW} (hp : P (.inl v) u n) (hi : (∃ z : Int32, v = some (.int z) ∧ decode (Bt mi) pc = .ok (.ireturn, 1) ∧ (Rt mi = some .int ∨ (Rt mi = some .boolean ∧ (z = 0 ∨ z = 1)) ∨ (∃ ty, Rt mi = some ty ∧ narrow ty (.int z) = .int z))) ∨ (∃ z : Int64, v = some (.long z) ∧ decode (Bt mi) pc = .ok (.lreturn, 1) ∧ Rt mi = some .long) ∨ (v = none ∧ decode (Bt mi) pc = .ok (.return_, 1) ∧ Rt mi = none)) : cG M Y Bt Hh Rt Rm Ex l s0 D ca sb mi pc lc v.toList u n P :=
  fun p e s m args below meth c Q C hx H locs ls hP hS hL => hx.1 v u n hp H locs ls pc hP hS hi
theorem cg_thr {pc n k : Nat} {lc : List (Nat × Value)} {sc : List Value} {u : zW} (hp : P (.inr k) (znew u (200, 0, fun _ => .null)) (n + 1)) (h1 : n + 1 ≤ (Rm mi).cells) (h2 : sb mi + 6 * (n + 1) ≤ (Rm mi).slots) (hz : zthr s0 (Y mi).cls (Bt mi) pc (Ex k)) (hf : 8 ≤ (Rm mi).frames) (hlo : 128 ≤ (Rm mi).locals) (hH : Hh mi = []) (hc : (sc.map fun v => v.category).sum ≤ 8) : cG M Y Bt Hh Rt Rm Ex l s0 D ca sb mi pc lc sc u n P :=
  fun p e s m args below meth c Q C hx H locs ls hP hS hL => hx.2 k _ (n + 1) hp u H locs ls pc n sc rfl (Nat.le_refl _) h1 h2 hP hS hL.1 hz hf hlo hH hc
end GE
