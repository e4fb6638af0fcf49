/-! a state that comes under a template -/
def evs (ν : List Int) : List aF → List Int → Prop
  | [], [] => True
  | h :: r, x :: t => ev ν h = some x ∧ evs ν r t
  | _, _ => False
theorem evs_ext {ν ν' : List Int} (e : aext ν ν') : ∀ {σ : List aF} {μ : List Int}, evs ν σ μ → evs ν' σ μ
  | [], [], _ => trivial
  | [], _ :: _, h => h.elim
  | _ :: _, [], h => h.elim
  | _ :: _, _ :: _, h => ⟨ev_ext e h.1, evs_ext e h.2⟩
theorem evs_get {ν : List Int} : ∀ {σ : List aF} {μ : List Int}, evs ν σ μ → ∀ {j : Nat} {h : aF}, anth σ j = some h → ∃ x, ev ν h = some x ∧ μ[j]? = some x
  | [], _, _, j, h, hj => by cases hj
  | f :: r, [], he, _, _, _ => he.elim
  | f :: r, x :: t, he, j, h, hj => by
    unfold anth at hj
    rcases cnd_some hj with ⟨h0, hj⟩ | ⟨h0, hj⟩
    · cases hj
      rw [Nat.beq_eq.mp h0]
      exact ⟨x, he.1, rfl⟩
    · obtain ⟨y, y1, y2⟩ := evs_get he.2 hj
      have hne : j ≠ 0 := fun e => by rw [Nat.beq_eq.mpr e] at h0; cases h0
      obtain ⟨i, rfl⟩ : ∃ i, j = i + 1 := ⟨j - 1, by omega⟩
      exact ⟨y, y1, by rw [List.getElem?_cons_succ]; exact y2⟩
theorem evs_len {ν : List Int} : ∀ {σ : List aF} {μ : List Int}, evs ν σ μ → μ.length = alen σ
  | [], [], _ => rfl
  | [], _ :: _, h => h.elim
  | _ :: _, [], h => h.elim
  | _ :: r, _ :: t, h => by
    have := evs_len h.2
    simp only [List.length_cons, alen, this]
theorem evs_snoc {ν : List Int} {h : aF} {x : Int} (hx : ev ν h = some x) : ∀ {σ : List aF} {μ : List Int}, evs ν σ μ → evs ν (σ ++ [h]) (μ ++ [x])
  | [], [], _ => ⟨hx, trivial⟩
  | [], _ :: _, e => e.elim
  | _ :: _, [], e => e.elim
  | _ :: _, _ :: _, e => ⟨e.1, evs_snoc hx e.2⟩
theorem asubL_ok {ν μ : List Int} {σ : List aF} (hs : evs ν σ μ) : ∀ {l : List (Nat × Int)} {acc g : aF} {a : Int}, asubL σ l acc = some g → ev ν acc = some a → ∃ y, evL μ l = some y ∧ ev ν g = some (a + y)
  | [], acc, g, a, h, ha => by
    cases h
    exact ⟨0, rfl, by rw [ha]; congr 1; omega⟩
  | q :: r, acc, g, a, h, ha => by
    unfold asubL at h
    cases hq : anth σ q.1 with
    | none => rw [hq] at h; cases h
    | some f =>
      simp only [hq] at h
      obtain ⟨x, x1, x2⟩ := evs_get hs hq
      obtain ⟨y, y1, y2⟩ := asubL_ok hs h (ev_add ha (ev_sc q.2 x1))
      refine ⟨q.2 * x + y, evL_c.mpr ⟨x, y, x2, y1, rfl⟩, ?_⟩
      rw [y2]
      congr 1
      rw [Int.mul_comm]
      omega
theorem asub_ok {ν μ : List Int} {σ : List aF} (hs : evs ν σ μ) {f g : aF} (h : asub σ f = some g) : ∃ y, ev μ f = some y ∧ ev ν g = some y := by
  obtain ⟨y, y1, y2⟩ := asubL_ok hs h (ev_c ν f.1)
  exact ⟨f.1 + y, ev_iff.mpr ⟨y, y1, rfl⟩, y2⟩
theorem aids_ok {ν : List Int} : ∀ {n : Nat}, n ≤ ν.length → evs ν (aids n) (ν.take n)
  | 0, _ => by
    show evs ν [] (ν.take 0)
    rw [List.take_zero]
    trivial
  | n + 1, h => by
    have ih := aids_ok (ν := ν) (n := n) (by omega)
    obtain ⟨x, hx⟩ : ∃ x, ν[n]? = some x := ⟨ν[n], List.getElem?_eq_getElem (by omega)⟩
    show evs ν (aids n ++ [(0, [(n, 1)])]) (ν.take (n + 1))
    rw [List.take_succ, hx]
    exact evs_snoc (ev_a hx) ih
section AL
variable {B b0 L : Nat} {grp : Nat → Nat} {lit : Value → Prop}
theorem dV_same {ν ν' : List Int} {k g : Nat} {f f' : aF} {y : Int} {v : Value} (h1 : ev ν f = some y) (h2 : ev ν' f' = some y) (h : dV B b0 L grp lit ν (k, g, f) v) : dV B b0 L grp lit ν' (k, g, f') v := by
  unfold dV at h ⊢
  match k, h with
  | 0, ⟨a, e1, e2⟩ => exact ⟨a, by rw [h2, ← h1]; exact e1, e2⟩
  | 1, ⟨a, e1, e2⟩ => exact ⟨a, by rw [h2, ← h1]; exact e1, e2⟩
  | 2, ⟨a, s, t, e1, e2⟩ => exact ⟨a, s, t, by rw [h2, ← h1]; exact e1, e2⟩
  | 3, ⟨i, e1, e2⟩ => exact ⟨i, by rw [h2, ← h1]; exact e1, e2⟩
  | 4, h => exact h
  | 5, h => exact h
  | 6, ⟨e1, e2⟩ => exact ⟨by rw [h2, ← h1]; exact e1, e2⟩
  | k + 7, h => exact h.elim
theorem asubv_ok {ν μ : List Int} {σ : List aF} (hs : evs ν σ μ) {x w : aV} (h : asubv σ x = some w) : (∃ y, ev μ x.2.2 = some y ∧ ev ν w.2.2 = some y) ∧ ∀ v, dV B b0 L grp lit ν w v ↔ dV B b0 L grp lit μ x v := by
  unfold asubv at h
  cases hf : asub σ x.2.2 with
  | none => rw [hf] at h; cases h
  | some f =>
    rw [hf] at h
    cases h
    obtain ⟨y, y1, y2⟩ := asub_ok hs hf
    exact ⟨⟨y, y1, y2⟩, fun v => ⟨fun h => dV_same (k := x.1) (g := x.2.1) y2 y1 h, fun h => dV_same (k := x.1) (g := x.2.1) (f := x.2.2) y1 y2 h⟩⟩
theorem dV_ev {ν : List Int} {x : aV} {v : Value} (h : dV B b0 L grp lit ν x v) (h4 : x.1 ≠ 4) (h5 : x.1 ≠ 5) : ∃ y, ev ν x.2.2 = some y := by
  obtain ⟨k, g, f⟩ := x
  unfold dV at h
  match k, h with
  | 0, ⟨a, e1, _⟩ => exact ⟨a, e1⟩
  | 1, ⟨a, e1, _⟩ => exact ⟨a, e1⟩
  | 2, ⟨a, _, _, e1, _⟩ => exact ⟨a, e1⟩
  | 3, ⟨i, e1, _⟩ => exact ⟨_, e1⟩
  | 4, _ => exact absurd rfl h4
  | 5, _ => exact absurd rfl h5
  | 6, ⟨e1, _⟩ => exact ⟨_, e1⟩
  | k + 7, h => exact h.elim
theorem aveq_ok {ν : List Int} {z : aZ} (hb : bx ν (zb z)) {v w : aV} (h : aveq z v w = true) {val : Value} (hv : dV B b0 L grp lit ν v val) {y : Int} (hw : ev ν w.2.2 = some y) : dV B b0 L grp lit ν w val := by
  simp only [aveq, Bool.and_eq_true, Bool.or_eq_true, Nat.beq_eq] at h
  obtain ⟨⟨h1, h2⟩, h3⟩ := h
  obtain ⟨k, g, f⟩ := v
  obtain ⟨k', g', f'⟩ := w
  cases h1
  cases h2
  rcases h3 with (h3 | h3) | h3
  · cases h3; exact hv
  · cases h3; exact hv
  · by_cases e4 : k = 4
    · subst e4; exact hv
    · by_cases e5 : k = 5
      · subst e5; exact hv
      · obtain ⟨x, hx⟩ := dV_ev hv e4 e5
        have := same0_ok hb hw h3 hx
        subst this
        exact dV_same hx hw hv
/-- variables and stacks -/
abbrev dL (B b0 L : Nat) (grp : Nat → Nat) (lit : Value → Prop) (ν : List Int) : List (Nat × aV) → List (Nat × Value) → Prop := zF2 (fun q u => q.1 = u.1 ∧ dV B b0 L grp lit ν q.2 u.2)
abbrev dS (B b0 L : Nat) (grp : Nat → Nat) (lit : Value → Prop) (ν : List Int) : List aV → List Value → Prop := zF2 (dV B b0 L grp lit ν)
theorem zF2_imp {α β : Type} {R S : α → β → Prop} (h : ∀ a b, R a b → S a b) : ∀ {l : List α} {m : List β}, zF2 R l m → zF2 S l m
  | [], [], _ => trivial
  | [], _ :: _, g => g.elim
  | _ :: _, [], g => g.elim
  | _ :: _, _ :: _, g => ⟨h _ _ g.1, zF2_imp h g.2⟩
theorem dL_ext {ν ν' : List Int} (e : aext ν ν') {l : List (Nat × aV)} {lc : List (Nat × Value)} (h : dL B b0 L grp lit ν l lc) : dL B b0 L grp lit ν' l lc := zF2_imp (fun _ _ h => ⟨h.1, dV_ext e h.2⟩) h
theorem dS_ext {ν ν' : List Int} (e : aext ν ν') {l : List aV} {lc : List Value} (h : dS B b0 L grp lit ν l lc) : dS B b0 L grp lit ν' l lc := zF2_imp (fun _ _ h => dV_ext e h) h
theorem alkv_ok {ν : List Int} {j : Nat} {x : aV} : ∀ {l : List (Nat × aV)} {lc : List (Nat × Value)}, alkv l j = some x → dL B b0 L grp lit ν l lc → ∃ (k : Nat) (v : Value), lc[k]? = some (j, v) ∧ dV B b0 L grp lit ν x v
  | [], _, h, _ => by cases h
  | q :: r, [], _, hd => hd.elim
  | q :: r, u :: us, h, hd => by
    unfold alkv at h
    rcases cnd_some h with ⟨hc, h⟩ | ⟨-, h⟩
    · cases h
      refine ⟨0, u.2, ?_, hd.1.2⟩
      rw [List.getElem?_cons_zero, ← Nat.beq_eq.mp hc, hd.1.1]
    · obtain ⟨k, v, h1, h2⟩ := alkv_ok h hd.2
      exact ⟨k + 1, v, by rw [List.getElem?_cons_succ]; exact h1, h2⟩
theorem anth_S {ν : List Int} : ∀ {l : List aV} {lc : List Value} {j : Nat} {x : aV}, anth l j = some x → dS B b0 L grp lit ν l lc → ∃ v, dV B b0 L grp lit ν x v
  | [], _, _, _, h, _ => by cases h
  | q :: r, [], _, _, _, hd => hd.elim
  | q :: r, u :: us, j, x, h, hd => by
    unfold anth at h
    rcases cnd_some h with ⟨-, h⟩ | ⟨-, h⟩
    · cases h; exact ⟨u, hd.1⟩
    · exact anth_S h hd.2
theorem aplv_ok (hg : aok grp) {ν : List Int} {g : Nat} {l : aF} : ∀ {lv : List (Nat × aV)} {lc : List (Nat × Value)}, dL B b0 L grp lit ν lv lc → aplv lv g l = true → ∃ a : Nat, ev ν l = some (a : Int) ∧ a < aN0 ∧ grp a = g
  | [], _, _, h => by
    unfold aplv at h
    cases hs : aSG g with
    | none => rw [hs] at h; cases h
    | some s =>
      rw [hs] at h
      rw [feq_eq h]
      exact ⟨s, ev_c ν _, hg.2 g s hs⟩
  | q :: r, [], hd, _ => hd.elim
  | q :: r, u :: us, hd, h => by
    unfold aplv at h
    rw [Bool.or_eq_true] at h
    rcases h with h | h
    · simp only [Bool.and_eq_true, Nat.beq_eq] at h
      obtain ⟨i, e1, e2, e3, e4⟩ := dV_3 hd.1.2 h.1.1
      rw [feq_eq h.2] at e1
      exact ⟨i, e1, e3, by rw [e4]; exact h.1.2⟩
    · exact aplv_ok hg hd.2 h
theorem ainb_ok {ν : List Int} {z : aZ} {u : zW} (hγ : aγ B b0 L grp lit ν z u) {g : Nat} {i : aF} (h : ainb z g i = true) : ∃ k : Nat, ev ν i = some (k : Int) ∧ k < aLN g := by
  obtain ⟨x, e1, e2, e3⟩ := awit_ok hγ h
  have hN : Int.ofNat (aLN g) = ((aLN g : Nat) : Int) := rfl
  obtain ⟨k, rfl⟩ := Int.eq_ofNat_of_zero_le e2
  exact ⟨k, e1, by rw [hN] at e3; omega⟩
theorem ardt_ok (hg : aok grp) {ν : List Int} {z : aZ} {u : zW} (hγ : aγ B b0 L grp lit ν z u) {lv : List (Nat × aV)} {lc : List (Nat × Value)} (hL : dL B b0 L grp lit ν lv lc) {g : Nat} {l i : aF} {q : aV × aZ} (h : ardt z lv g l i = some q) :
    ∃ (a k : Nat) (ν' : List Int), apl grp ν g l i a k ∧ aext ν ν' ∧ aγ B b0 L grp lit ν' q.2 u ∧ dV B b0 L grp lit ν' q.1 (avl B u a k) := by
  unfold ardt at h
  cases hf : alk z g l i with
  | some v =>
    rw [hf] at h
    cases h
    obtain ⟨a, k, e1, e2, e3, e4, e5, e6⟩ := alk_ok hγ hf
    exact ⟨a, k, ν, ⟨e1, e2, e3, e4, e5⟩, aext_r ν, hγ, e6⟩
  | none =>
    rw [hf] at h
    obtain ⟨hc, h⟩ := cnd_t h
    rw [Bool.and_eq_true] at hc
    obtain ⟨a, a1, a2, a3⟩ := aplv_ok hg hL hc.1
    obtain ⟨k, k1, k2⟩ := ainb_ok hγ hc.2
    have hp : apl grp ν g l i a k := ⟨a1, k1, a2, a3, k2⟩
    obtain ⟨ν', f⟩ := ard0_ok hg hγ hp h
    exact ⟨a, k, ν', hp, f⟩
theorem asr1_ok (hg : aok grp) {ν μ : List Int} {z : aZ} {u : zW} (hγ : aγ B b0 L grp lit ν z u) {lv : List (Nat × aV)} {lc : List (Nat × Value)} (hL : dL B b0 L grp lit ν lv lc) {st : List aV} {sc : List Value} (hS : dS B b0 L grp lit ν st sc) {σ : List aF} (hσ : evs ν σ μ) {fx : List aX} {s : Nat × Nat × Int × Int} {q : aV × aZ} (h : asr1 z lv st fx σ s = some q) :
    ∃ ν', aext ν ν' ∧ aγ B b0 L grp lit ν' q.2 u ∧ ∃ v, dV B b0 L grp lit ν' q.1 v := by
  unfold asr1 at h
  rcases cnd_some h with ⟨-, h⟩ | ⟨-, h⟩
  · cases hl : alkv lv s.2.1 with
    | none => rw [hl] at h; cases h
    | some v =>
      rw [hl] at h
      cases h
      obtain ⟨k, v, -, h2⟩ := alkv_ok hl hL
      exact ⟨ν, aext_r ν, hγ, v, h2⟩
  · rcases cnd_some h with ⟨-, h⟩ | ⟨-, h⟩
    · cases hl : anth st s.2.1 with
      | none => rw [hl] at h; cases h
      | some v =>
        rw [hl] at h
        cases h
        obtain ⟨v, h2⟩ := anth_S hl hS
        exact ⟨ν, aext_r ν, hγ, v, h2⟩
    · cases hl : anth fx s.2.1 with
      | none => rw [hl] at h; cases h
      | some x =>
        simp only [hl] at h
        cases h1 : asub σ x.2.1 with
        | none => simp only [h1] at h; cases h
        | some l =>
          cases h2 : asub σ x.2.2.1 with
          | none => simp only [h1, h2] at h; cases h
          | some i =>
            simp only [h1, h2] at h
            obtain ⟨a, k, ν', -, f1, f2, f3⟩ := ardt_ok hg hγ hL h
            exact ⟨ν', f1, f2, _, f3⟩
theorem asrs_ok (hg : aok grp) {u : zW} {lv : List (Nat × aV)} {lc : List (Nat × Value)} {st : List aV} {sc : List Value} {fx : List aX} : ∀ {l : List (Nat × Nat × Int × Int)} {ν μ : List Int} {z : aZ} {σ : List aF} {q : List aF × aZ},
    aγ B b0 L grp lit ν z u → dL B b0 L grp lit ν lv lc → dS B b0 L grp lit ν st sc → evs ν σ μ → asrs lv st fx l σ z = some q → ∃ ν' μ', aext ν ν' ∧ aext μ μ' ∧ aγ B b0 L grp lit ν' q.2 u ∧ evs ν' q.1 μ'
  | [], ν, μ, z, σ, q, hγ, hL, hS, hσ, h => by
    cases h
    exact ⟨ν, μ, aext_r ν, aext_r μ, hγ, hσ⟩
  | s :: r, ν, μ, z, σ, q, hγ, hL, hS, hσ, h => by
    unfold asrs at h
    cases h1 : asr1 z lv st fx σ s with
    | none => rw [h1] at h; cases h
    | some p =>
      simp only [h1] at h
      rcases cnd_some h with ⟨-, h⟩ | ⟨hc, h⟩
      · cases h
      · rw [Bool.or_eq_false_iff] at hc
        obtain ⟨ν', f1, f2, v, f3⟩ := asr1_ok hg hγ hL hS hσ h1
        obtain ⟨y, hy⟩ := dV_ev f3 (fun e => by rw [Nat.beq_eq.mpr e] at hc; cases hc.1) (fun e => by rw [Nat.beq_eq.mpr e] at hc; cases hc.2)
        cases hd : adiv s.2.2.1 (fk p.1.2.2 (-s.2.2.2)) with
        | none => simp only [hd] at h; cases h
        | some f =>
          simp only [hd] at h
          obtain ⟨x, x1, -⟩ := adiv_ok hd (ev_k (-s.2.2.2) hy)
          obtain ⟨ν'', μ'', g1, g2, g3, g4⟩ := asrs_ok hg f2 (dL_ext f1 hL) (dS_ext f1 hS) (evs_snoc x1 (evs_ext f1 hσ)) h
          exact ⟨ν'', μ'', aext_t f1 g1, aext_t ⟨[x], rfl⟩ g2, g3, g4⟩
theorem afxs_ok (hg : aok grp) {u : zW} {lv : List (Nat × aV)} {lc : List (Nat × Value)} {μ : List Int} {σ : List aF} : ∀ {l : List aX} {ν : List Int} {z w : aZ},
    aγ B b0 L grp lit ν z u → dL B b0 L grp lit ν lv lc → evs ν σ μ → afxs lv σ l z = some w → ∃ ν', aext ν ν' ∧ aγ B b0 L grp lit ν' w u ∧ ∀ q ∈ l, dX B b0 L grp lit μ u q
  | [], ν, z, w, hγ, _, _, h => by
    cases h
    exact ⟨ν, aext_r ν, hγ, fun q hq => by cases hq⟩
  | q :: r, ν, z, w, hγ, hL, hσ, h => by
    unfold afxs at h
    cases h1 : asub σ q.2.1 with
    | none => simp only [h1] at h; cases h
    | some a =>
      cases h2 : asub σ q.2.2.1 with
      | none => simp only [h1, h2] at h; cases h
      | some i =>
        cases h3 : asubv σ q.2.2.2 with
        | none => simp only [h1, h2, h3] at h; cases h
        | some v =>
          simp only [h1, h2, h3] at h
          cases h4 : ardt z lv q.1 a i with
          | none => simp only [h4] at h; cases h
          | some p =>
            simp only [h4] at h
            obtain ⟨hv, h⟩ := cnd_t h
            obtain ⟨a', k', ν', hp, f1, f2, f3⟩ := ardt_ok hg hγ hL h4
            have hσ' := evs_ext f1 hσ
            obtain ⟨⟨y, y1, y2⟩, hiff⟩ := asubv_ok (B := B) (b0 := b0) (L := L) (grp := grp) (lit := lit) hσ' h3
            have hval := (hiff _).mp (aveq_ok f2.2.1 hv f3 y2)
            obtain ⟨ya, e1, e2⟩ := asub_ok hσ h1
            obtain ⟨yi, e3, e4⟩ := asub_ok hσ h2
            rw [hp.1] at e2
            cases e2
            rw [hp.2.1] at e4
            cases e4
            obtain ⟨ν'', g1, g2, g3⟩ := afxs_ok hg f2 (dL_ext f1 hL) hσ' h
            refine ⟨ν'', aext_t f1 g1, g2, fun x hx => ?_⟩
            rcases List.mem_cons.mp hx with rfl | hx
            · exact ⟨a', k', e1, e3, hp.2.2.1, hp.2.2.2.1, hp.2.2.2.2, hval⟩
            · exact g3 x hx
end AL
