/-! the state behind a call -/
def amem (md : List (Nat × Int)) (g : Nat) (k : Int) : Prop := ∃ q ∈ md, q.1 = g ∧ (q.2 = -1 ∨ q.2 = k)
def aFr (B : Nat) (grp : Nat → Nat) (md : List (Nat × Int)) (u u' : zW) : Prop := ∀ a k : Nat, a < aN0 → k < aLN (grp a) → ¬ amem md (grp a) (k : Int) → avl B u' a k = avl B u a k
theorem aFr_r (B : Nat) (grp : Nat → Nat) (md : List (Nat × Int)) (u : zW) : aFr B grp md u u := fun _ _ _ _ _ => rfl
theorem aFr_t {B : Nat} {grp : Nat → Nat} {md : List (Nat × Int)} {u v w : zW} (h1 : aFr B grp md u v) (h2 : aFr B grp md v w) : aFr B grp md u w := fun a k ha hk hn => (h2 a k ha hk hn).trans (h1 a k ha hk hn)
theorem amd_f {g : Nat} {k : Int} : ∀ {md : List (Nat × Int)}, amd md g (k, []) = false → ¬ amem md g k
  | [], _, ⟨q, hq, _⟩ => by cases hq
  | p :: r, h, ⟨q, hq, h1, h2⟩ => by
    unfold amd at h
    rw [Bool.or_eq_false_iff] at h
    rcases List.mem_cons.mp hq with rfl | hq
    · have h := h.1
      rw [Nat.beq_eq.mpr h1] at h
      simp only [Bool.true_and, Bool.or_eq_false_iff] at h
      rcases h2 with h2 | h2
      · rw [ieq_iff.mpr h2] at h; cases h.1
      · have : feq (k, []) (q.2, []) = true := by
          unfold feq
          rw [Bool.and_eq_true]
          exact ⟨ieq_iff.mpr h2.symm, rfl⟩
        rw [this] at h; cases h.2
    · exact amd_f h.2 ⟨q, hq, h1, h2⟩
theorem amd_t {g : Nat} {i : aF} {ν : List Int} {k : Int} (hi : ev ν i = some k) : ∀ {md : List (Nat × Int)}, amd md g i = true → amem md g k
  | [], h => by cases h
  | p :: r, h => by
    unfold amd at h
    rw [Bool.or_eq_true] at h
    rcases h with h | h
    · simp only [Bool.and_eq_true, Bool.or_eq_true, Nat.beq_eq, ieq_iff] at h
      refine ⟨p, List.mem_cons_self, h.1, ?_⟩
      rcases h.2 with g | g
      · exact Or.inl g
      · exact Or.inr (feq_ev g hi).symm
    · obtain ⟨q, h1, h2⟩ := amd_t hi h
      exact ⟨q, List.mem_cons_of_mem _ h1, h2⟩
theorem amdg_f {g : Nat} {k : Int} : ∀ {md : List (Nat × Int)}, amdg md g = false → ¬ amem md g k
  | [], _, ⟨q, hq, _⟩ => by cases hq
  | p :: r, h, ⟨q, hq, h1, h2⟩ => by
    unfold amdg at h
    rw [Bool.or_eq_false_iff] at h
    rcases List.mem_cons.mp hq with rfl | hq
    · have h := h.1
      rw [Nat.beq_eq.mpr h1] at h; cases h
    · exact amdg_f h.2 ⟨q, hq, h1, h2⟩
theorem amds_ok {md : List (Nat × Int)} {g : Nat} {k : Int} : ∀ {l : List (Nat × Int)}, amds md l = true → amem l g k → amem md g k
  | [], _, ⟨q, hq, _⟩ => by cases hq
  | p :: r, h, ⟨q, hq, h1, h2⟩ => by
    unfold amds at h
    rw [Bool.and_eq_true] at h
    rcases List.mem_cons.mp hq with rfl | hq
    · have h := h.1
      rw [Bool.or_eq_true, h1] at h
      rcases h with h | h
      · obtain ⟨x, x1, x2, x3⟩ := amd_t (ν := []) (ev_c [] q.2) h
        refine ⟨x, x1, x2, ?_⟩
        rcases h2 with h2 | h2
        · rcases x3 with x3 | x3
          · exact Or.inl x3
          · exact Or.inl (x3.trans h2)
        · rw [h2] at x3; exact x3
      · obtain ⟨x, x1, x2, x3⟩ := amd_t (ν := []) (ev_c [] (-1)) h
        exact ⟨x, x1, x2, Or.inl (by rcases x3 with x3 | x3 <;> exact x3)⟩
    · exact amds_ok h.2 ⟨q, hq, h1, h2⟩
theorem aFr_m {B : Nat} {grp : Nat → Nat} {md l : List (Nat × Int)} {u v : zW} (h : amds md l = true) (h1 : aFr B grp l u v) : aFr B grp md u v := fun a k ha hk hn => h1 a k ha hk (fun g => hn (amds_ok h g))
theorem afil_ok {md : List (Nat × Int)} {q : aX} : ∀ {l : List aX}, q ∈ afil md l → q ∈ l ∧ (amdg md q.1 = false ∨ (fcon q.2.2.1 = true ∧ amd md q.1 q.2.2.1 = false))
  | [], h => by cases h
  | p :: r, h => by
    unfold afil at h
    cases hc : (!(amdg md p.1) || (fcon p.2.2.1 && !(amd md p.1 p.2.2.1))) with
    | false =>
      rw [hc] at h
      obtain ⟨h1, h2⟩ := afil_ok h
      exact ⟨List.mem_cons_of_mem _ h1, h2⟩
    | true =>
      rw [hc] at h
      rcases List.mem_cons.mp h with rfl | h
      · refine ⟨List.mem_cons_self, ?_⟩
        simpa using hc
      · obtain ⟨h1, h2⟩ := afil_ok h
        exact ⟨List.mem_cons_of_mem _ h1, h2⟩
section AL
variable {B b0 L : Nat} {grp : Nat → Nat} {lit : Value → Prop}
theorem fr_at (hg : aok grp) {md : List (Nat × Int)} {u u' : zW} (hf : aFr B grp md u u') {g o k : Nat} (hs : aSG g = some o) (hk : k < aLN g) (hn : ¬ amem md g (k : Int)) : avl B u' o k = avl B u o k := by
  obtain ⟨h1, h2⟩ := hg.2 g o hs
  exact hf o k h1 (by rw [h2]; exact hk) (by rw [h2]; exact hn)
theorem acal0_ok (hg : aok grp) {ν μ : List Int} {z z0 t : aZ} {u u' : zW} {md : List (Nat × Int)} (hγ : aγ B b0 L grp lit ν z u) (ht : aγ B b0 L grp lit μ t u') (hf : aFr B grp md u u') (h : acal0 z md t = some z0) : aγ B b0 L grp lit ν z0 u' := by
  unfold acal0 at h
  obtain ⟨hc, h⟩ := cnd_t h
  cases h
  rw [Bool.and_eq_true] at hc
  obtain ⟨g1, g2, g3, g4, g5, m1, m2, m3, m4, m5, x, m6, m7⟩ := hγ
  obtain ⟨-, -, -, -, t5, n1, n2, n3, n4, n5, y, n6, n7⟩ := ht
  refine ⟨g1, g2, g3, fun q hq => ?_, t5, fun e => ?_, fun e => ?_, ?_, fun e => ?_, n5, ?_⟩
  · obtain ⟨h1, h2⟩ := afil_ok hq
    obtain ⟨a, k, e1, e2, e3, e4, e5, e6⟩ := g4 q h1
    refine ⟨a, k, e1, e2, e3, e4, e5, ?_⟩
    rw [hf a k e3 (by rw [e4]; exact e5) (by
      rw [e4]
      rcases h2 with h2 | ⟨h2, h3⟩
      · exact amdg_f h2
      · rw [fcon_ok e2 h2] at h3
        exact amd_f h3)]
    exact e6
  · have e : (bif amd md gM (Int.ofNat kOpen, []) || amd md gC (0, []) then z1 t else z1 z) = false := e
    cases hh : (amd md gM (Int.ofNat kOpen, []) || amd md gC (0, [])) with
    | true => rw [hh] at e; exact n1 e
    | false =>
      rw [hh] at e
      rw [Bool.or_eq_false_iff] at hh
      exact dFree_c (fr_at hg hf sgM (by decide) (amd_f (k := ((kOpen : Nat) : Int)) hh.1)) (fr_at hg hf sgC (by decide) (amd_f (k := ((0 : Nat) : Int)) hh.2)) (m1 e)
  · have e : (bif amd md gM (Int.ofNat kIn, []) || amd md gC (1, []) then z2 t else z2 z) = false := e
    cases hh : (amd md gM (Int.ofNat kIn, []) || amd md gC (1, [])) with
    | true => rw [hh] at e; exact n2 e
    | false =>
      rw [hh] at e
      rw [Bool.or_eq_false_iff] at hh
      exact dFree_c (fr_at hg hf sgM (by decide) (amd_f (k := ((kIn : Nat) : Int)) hh.1)) (fr_at hg hf sgC (by decide) (amd_f (k := ((1 : Nat) : Int)) hh.2)) (m2 e)
  · show dM3 B ν (bif amdg md gS || amdg md gZ then none else z3 z) u'
    have hc1 := hc.1
    cases hh : (amdg md gS || amdg md gZ) with
    | true =>
      rw [hh] at hc1
      have hc1 : (match z3 t with
        | none => true
        | some _ => false) = true := hc1
      cases hz : z3 t with
      | none => rw [hz] at n3; exact n3
      | some f => rw [hz] at hc1; cases hc1
    | false =>
      rw [Bool.or_eq_false_iff] at hh
      have hS : ∀ j, j < 40 → avl B u' oS j = avl B u oS j := fun j hj => fr_at hg hf sgS (by rw [show aLN gS = 40 from rfl]; exact hj) (amdg_f hh.1)
      have hZ : ∀ j, j < 40 → avl B u' oZ (2 * j) = avl B u oZ (2 * j) := fun j hj => fr_at hg hf sgZ (by rw [show aLN gZ = 80 from rfl]; omega) (amdg_f hh.2)
      show dM3 B ν (z3 z) u'
      unfold dM3 at m3 ⊢
      cases hz : z3 z with
      | none =>
        rw [hz] at m3
        exact fun i hi => dShp_c (hS i hi) (hZ i hi) (m3 i hi)
      | some f =>
        rw [hz] at m3
        obtain ⟨x', x1, x2⟩ := m3
        exact ⟨x', x1, fun i hi hx => dShp_c (hS i hi) (hZ i hi) (x2 i hi hx)⟩
  · have e : (bif amdg md gO || amdg md gC then z4 t else z4 z) = false := e
    cases hh : (amdg md gO || amdg md gC) with
    | true => rw [hh] at e; exact n4 e
    | false =>
      rw [hh] at e
      rw [Bool.or_eq_false_iff] at hh
      intro c hc r hr hr6
      rw [fr_at hg hf sgC (by decide) (amdg_f hh.2)] at hc
      exact dRow_c (fr_at hg hf sgO (by rw [show aLN gO = 5400 from rfl]; omega) (amdg_f hh.1)) (fr_at hg hf sgO (by rw [show aLN gO = 5400 from rfl]; omega) (amdg_f hh.1)) (m4 e c hc r hr hr6)
  · show ∃ x, ev ν (bif amdg md gO then (0, []) else zf z) = some x ∧ _
    cases hh : amdg md gO with
    | true => exact ⟨0, ev_c ν 0, fun i hi _ => by omega⟩
    | false =>
      refine ⟨x, m6, fun i hi h27 => ?_⟩
      rw [fr_at hg hf sgO (by rw [show aLN gO = 5400 from rfl]; omega) (amdg_f hh), fr_at hg hf sgO (by rw [show aLN gO = 5400 from rfl]; omega) (amdg_f hh)]
      exact m7 i hi h27
theorem acalN_ok {b : aB} {μ : List Int} (hb : bx μ b) {u : zW} : ∀ {k x : Nat} {ν : List Int} {σ : List aF} {z : aZ} {q : List aF × aZ}, x + k = μ.length → aγ B b0 L grp lit ν z u → evs ν σ (μ.take x) → acalN b k x σ z = some q → ∃ ν', aext ν ν' ∧ aγ B b0 L grp lit ν' q.2 u ∧ evs ν' q.1 μ
  | 0, x, ν, σ, z, q, hx, hγ, hσ, h => by
    cases h
    rw [List.take_of_length_le (by omega)] at hσ
    exact ⟨ν, aext_r ν, hγ, hσ⟩
  | k + 1, x, ν, σ, z, q, hx, hγ, hσ, h => by
    replace h : (match bnd b x with
      | none => none
      | some p => acalN b k (x + 1) (σ ++ [(afr z p.1 p.2).1]) (afr z p.1 p.2).2) = some q := h
    cases hp : bnd b x with
    | none => rw [hp] at h; cases h
    | some p =>
      simp only [hp] at h
      obtain ⟨v, v1, v2, v3⟩ := bnd_ok hb hp
      obtain ⟨ν', f1, f2, f3⟩ := afr_ok hγ v2 v3
      have hs : evs ν' (σ ++ [(afr z p.1 p.2).1]) (μ.take (x + 1)) := by
        rw [List.take_succ, v1]
        exact evs_snoc f2 (evs_ext f1 hσ)
      obtain ⟨ν'', g1, g2⟩ := acalN_ok hb (by omega) f3 hs h
      exact ⟨ν'', aext_t f1 g1, g2⟩
theorem anar_ok {ν : List Int} {z : aZ} {u : zW} {f : aF} {x : Int} (h : aγ B b0 L grp lit ν z u) (hx : ev ν f = some x) (h0 : x ≤ 0) : ∃ z', anar z f = some z' ∧ aγ B b0 L grp lit ν z' u := by
  unfold anar
  cases hi0 (zb z) f with
  | true => exact ⟨z, rfl, h⟩
  | false => exact aass_ok h hx h0
theorem acalI_ok {μ : List Int} {np : Nat} {σ : List aF} {u : zW} {ν : List Int} (hσ : evs ν σ μ) : ∀ {l : aB} {z : aZ} {r : List aZ}, bx μ l → aγ B b0 L grp lit ν z u → acalI np σ l z = some r → ∃ w, r = [w] ∧ aγ B b0 L grp lit ν w u
  | [], z, r, _, hγ, h => by
    cases h
    exact ⟨z, rfl, hγ⟩
  | q :: t, z, r, hb, hγ, h => by
    have hb' : bx μ t := fun p hp => hb p (List.mem_cons_of_mem _ hp)
    unfold acalI at h
    rcases cnd_some h with ⟨-, h⟩ | ⟨-, h⟩
    · exact acalI_ok hσ hb' hγ h
    · cases ha : anth σ q.1 with
      | none => rw [ha] at h; cases h
      | some f =>
        simp only [ha] at h
        obtain ⟨x, x1, x2⟩ := evs_get hσ ha
        obtain ⟨v, v1, v2, v3⟩ := hb q List.mem_cons_self
        rw [x2] at v1
        cases v1
        obtain ⟨w, w1, w2⟩ := anar_ok hγ (ev_k (-q.2.2) x1) (by omega)
        obtain ⟨y, y1, y2⟩ := anar_ok w2 (ev_k q.2.1 (ev_sc (-1) x1)) (by omega)
        simp only [w1, y1] at h
        exact acalI_ok hσ hb' y2 h
theorem acalC_ok {μ : List Int} {σ : List aF} {u : zW} {ν : List Int} (hσ : evs ν σ μ) : ∀ {l : List aF} {z : aZ} {r : List aZ}, cx μ l → aγ B b0 L grp lit ν z u → acalC σ l z = some r → ∃ w, r = [w] ∧ aγ B b0 L grp lit ν w u
  | [], z, r, _, hγ, h => by
    cases h
    exact ⟨z, rfl, hγ⟩
  | f :: t, z, r, hb, hγ, h => by
    unfold acalC at h
    cases ha : asub σ f with
    | none => rw [ha] at h; cases h
    | some g =>
      simp only [ha] at h
      obtain ⟨x, x1, x2⟩ := asub_ok hσ ha
      obtain ⟨y, y1, y2⟩ := hb f List.mem_cons_self
      rw [x1] at y1
      cases y1
      obtain ⟨w, w1, w2⟩ := aass_ok hγ x2 y2
      simp only [w1] at h
      exact acalC_ok hσ (fun p hp => hb p (List.mem_cons_of_mem _ hp)) w2 h
theorem arem_ok {g : Nat} {a i : aF} {q : aX} : ∀ {l : List aX}, q ∈ arem g a i l → q ∈ l
  | [], h => by cases h
  | p :: r, h => by
    unfold arem at h
    cases hc : (Nat.beq p.1 g && feq p.2.1 a && feq p.2.2.1 i) with
    | true => rw [hc] at h; exact List.mem_cons_of_mem _ (arem_ok h)
    | false =>
      rw [hc] at h
      rcases List.mem_cons.mp h with rfl | h
      · exact List.mem_cons_self
      · exact List.mem_cons_of_mem _ (arem_ok h)
theorem acalX_ok {μ : List Int} {σ : List aF} {u : zW} {ν : List Int} (hσ : evs ν σ μ) : ∀ {l : List aX} {z w : aZ}, (∀ q ∈ l, dX B b0 L grp lit μ u q) → aγ B b0 L grp lit ν z u → acalX σ l z = some w → aγ B b0 L grp lit ν w u
  | [], z, w, _, hγ, h => by
    cases h
    exact hγ
  | q :: r, z, w, hb, hγ, h => by
    unfold acalX at h
    cases h1 : asub σ q.2.1 with
    | none => simp only [h1] at h; cases h
    | some a =>
      cases h2 : asub σ q.2.2.1 with
      | none => simp only [h1, h2] at h; cases h
      | some i =>
        cases h3 : asubv σ q.2.2.2 with
        | none => simp only [h1, h2, h3] at h; cases h
        | some v =>
          simp only [h1, h2, h3] at h
          obtain ⟨ca, ck, e1, e2, e3, e4, e5, e6⟩ := hb q List.mem_cons_self
          obtain ⟨⟨y, y1, y2⟩, hiff⟩ := asubv_ok (B := B) (b0 := b0) (L := L) (grp := grp) (lit := lit) hσ h3
          obtain ⟨xa, a1, a2⟩ := asub_ok hσ h1
          obtain ⟨xi, i1, i2⟩ := asub_ok hσ h2
          rw [e1] at a1
          cases a1
          rw [e2] at i1
          cases i1
          refine acalX_ok hσ (fun p hp => hb p (List.mem_cons_of_mem _ hp)) ?_ h
          obtain ⟨g1, g2, g3, g4, g5, g6⟩ := hγ
          refine ⟨g1, g2, g3, fun p hp => ?_, g5, g6⟩
          rcases List.mem_cons.mp hp with rfl | hp
          · exact ⟨ca, ck, a2, i2, e3, e4, e5, (hiff _).mpr e6⟩
          · exact g4 p (arem_ok hp)
theorem acal_ok (hg : aok grp) {ν μ μ0 : List Int} {z : aZ} {t : aT} {u u' : zW} {md : List (Nat × Int)} {σ : List aF} (hγ : aγ B b0 L grp lit ν z u) (hσ : evs ν σ μ0) (ht : aγ B b0 L grp lit μ (tz t) u') (hf : aFr B grp md u u') (hpre : ∀ j, j < μ0.length → μ[j]? = μ0[j]?) {r : List (List aF × aZ)} (h : acal z md σ t = some r) :
    ∃ q ∈ r, ∃ ν', aext ν ν' ∧ aγ B b0 L grp lit ν' q.2 u' ∧ evs ν' q.1 μ := by
  unfold acal at h
  cases h0 : acal0 z md (tz t) with
  | none => rw [h0] at h; cases h
  | some z0 =>
    simp only [h0] at h
    have γ0 := acal0_ok hg hγ ht hf h0
    cases h1 : acalN (zb (tz t)) (zn (tz t) - alen σ) (alen σ) σ z0 with
    | none => simp only [h1] at h; cases h
    | some q =>
      simp only [h1] at h
      have hlen := evs_len hσ
      have hle : μ0.length ≤ μ.length := by
        by_cases hz : μ0.length = 0
        · omega
        · have := hpre (μ0.length - 1) (by omega)
          rw [List.getElem?_eq_getElem (l := μ0) (by omega)] at this
          have := (List.getElem?_eq_some_iff.mp this).1
          omega
      have htake : μ.take (alen σ) = μ0 := by
        rw [← hlen]
        apply List.ext_getElem?
        intro j
        rw [List.getElem?_take]
        by_cases hj : j < μ0.length
        · rw [if_pos hj]; exact hpre j hj
        · rw [if_neg hj, List.getElem?_eq_none (by omega)]
      obtain ⟨ν', f1, f2, f3⟩ := acalN_ok ht.2.1 (by rw [← hlen, ht.1.symm]; omega) γ0 (by rw [htake]; exact hσ) h1
      cases h2 : acalI (alen σ) q.1 (zb (tz t)) q.2 with
      | none => simp only [h2] at h; cases h
      | some lw =>
        obtain ⟨w, rfl, w2⟩ := acalI_ok f3 ht.2.1 f2 h2
        simp only [h2] at h
        cases h3 : acalC q.1 (zc (tz t)) w with
        | none => simp only [h3] at h; cases h
        | some ly =>
          obtain ⟨y, rfl, y2⟩ := acalC_ok f3 ht.2.2.1 w2 h3
          simp only [h3] at h
          cases h4 : acalX q.1 (zfx (tz t)) y with
          | none => simp only [h4] at h; cases h
          | some x =>
            simp only [h4] at h
            cases h
            exact ⟨_, List.mem_cons_self, ν', f1, acalX_ok f3 ht.2.2.2.1 y2 h4, f3⟩
end AL
