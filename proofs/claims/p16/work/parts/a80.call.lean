/-! calls on forms -/
section GC
variable {M : xM} {Y : Nat → MethodName} {Bt : Nat → ByteArray} {Hh : Nat → List (Nat × Nat × Nat × Nat)} {Rt : Nat → Option FieldType} {Rm : Nat → Room} {Ex : Nat → String}
variable {l : Launch} {s0 : State} {D : va_G} {ca : Nat → ClassId} {sb : Nat → Nat} {b0 L : Nat} {grp : Nat → Nat} {lit : Value → Prop} {xs : Nat → Int32} {ty : Nat → Nat → FieldType}
variable {mi : Nat} {P : cP} {md : List (Nat × Int)} {u0 : zW} {ν0 : List Int}

/-- how a method ends, as its word says -/
def aPo (B b0 L : Nat) (grp : Nat → Nat) (lit : Value → Prop) (c : aC) (ν : List Int) (u : zW) : cP := fun o u' k => ∃ p ∈ c.2.2, ∃ μ, (∀ j, j < ν.length → μ[j]? = ν[j]?) ∧ aγ B b0 L grp lit μ (tz p.2.2.2) u' ∧ aFr B grp c.2.1 u u' ∧ k ≤ p.2.2.1 ∧
  ((p.1 = 0 ∧ ∃ v, o = .inl v ∧ ((tst p.2.2.2 = [] ∧ v = none) ∨ ∃ r w, tst p.2.2.2 = [r] ∧ v = some w ∧ dV B b0 L grp lit μ r w)) ∨ (p.1 ≠ 0 ∧ o = .inr p.2.1))
def aval (M : xM) (Y : Nat → MethodName) (Bt : Nat → ByteArray) (Hh : Nat → List (Nat × Nat × Nat × Nat)) (Rt : Nat → Option FieldType) (Rm : Nat → Room) (Ex : Nat → String) (l : Launch) (s0 : State) (D : va_G) (ca : Nat → ClassId) (sb : Nat → Nat) (b0 L : Nat) (grp : Nat → Nat) (lit : Value → Prop) (mj : Nat) (c : aC) : Prop :=
  ∀ (ν : List Int) (lc : List (Nat × Value)) (u : zW), aγ s0.heap.size b0 L grp lit ν (tz c.1) u → dL s0.heap.size b0 L grp lit ν (tlv c.1) lc → cG M Y Bt Hh Rt Rm Ex l s0 D ca sb mj 0 lc [] u 0 (aPo s0.heap.size b0 L grp lit c ν u)
theorem atak_some : ∀ {n : Nat} {st acc as r : List aV}, atak n st acc = some (as, r) → ∃ f, st = f ++ r ∧ as = f.reverse ++ acc ∧ f.length = n
  | 0, st, acc, as, r, h => by cases h; exact ⟨[], rfl, rfl, rfl⟩
  | n + 1, [], acc, as, r, h => by cases h
  | n + 1, x :: st, acc, as, r, h => by
    obtain ⟨f, h1, h2, h3⟩ := atak_some (n := n) (st := st) (acc := x :: acc) h
    exact ⟨x :: f, by rw [h1]; rfl, by rw [h2, List.reverse_cons, List.append_assoc]; rfl, by rw [List.length_cons, h3]⟩
theorem aarg_ok (hl9 : ∀ v, lit v → ∃ q : Nat, v = .ref q) {ν : List Int} : ∀ (i : Nat) {q : List aV} {q' : List Value}, dS s0.heap.size b0 L grp lit ν q q' → dL s0.heap.size b0 L grp lit ν (aarg i q) (lv_args i q')
  | _, [], [], _ => trivial
  | _, [], _ :: _, h => h.elim
  | _, _ :: _, [], h => h.elim
  | i, x :: r, v :: vs, h => by
    have e : (if v.category = 2 then i + 2 else i + 1) = (bif aKJ x then i + 2 else i + 1) := by
      rw [dV_cat hl9 h.1]
      cases aKJ x <;> rfl
    simp only [aarg, lv_args, e]
    exact ⟨⟨rfl, h.1⟩, aarg_ok hl9 _ h.2⟩
theorem acat_ok (hl9 : ∀ v, lit v → ∃ q : Nat, v = .ref q) {ν : List Int} : ∀ {q : List aV} {q' : List Value}, dS s0.heap.size b0 L grp lit ν q q' → (q'.map fun v => v.category).sum = acat q
  | [], [], _ => rfl
  | [], _ :: _, h => h.elim
  | _ :: _, [], h => h.elim
  | x :: r, v :: vs, h => by
    rw [List.map_cons, List.sum_cons, acat_ok hl9 h.2, dV_cat hl9 h.1]
    rfl
theorem asl_ok (hl9 : ∀ v, lit v → ∃ q : Nat, v = .ref q) {ν : List Int} : ∀ {as : List aV} {vs : List Value}, dS s0.heap.size b0 L grp lit ν as vs → (lg_sl vs).length = acat as
  | [], [], _ => rfl
  | [], _ :: _, h => h.elim
  | _ :: _, [], h => h.elim
  | x :: as, v :: vs, h => by
    have ih := asl_ok hl9 h.2
    have e := dV_cat hl9 h.1
    unfold lg_sl at ih ⊢
    rw [List.flatMap_cons, List.length_append, ih]
    show _ = (bif aKJ x then 2 else 1) + acat as
    rw [e]
    cases aKJ x <;> rfl
theorem afst_some {z : aZ} {lv : List (Nat × aV)} {w : aC × List aF × aZ} : ∀ {q : List aC}, afst z lv q = some w → w.1 ∈ q ∧ aent z lv [] w.1.1 = some w.2
  | [], h => by cases h
  | c :: r, h => by
    unfold afst at h
    cases he : aent z lv [] c.1 with
    | some q =>
      rw [he] at h
      cases h
      exact ⟨List.mem_cons_self, he⟩
    | none =>
      rw [he] at h
      obtain ⟨h1, h2⟩ := afst_some h
      exact ⟨List.mem_cons_of_mem _ h1, h2⟩
theorem apst_some {hnd : Nat → Option Nat} {r : List aV} {S : aS} {z : aZ} {mc : List (Nat × Int)} {σ : List aF} {p : Nat × Nat × Nat × aT} : ∀ {q : List (Nat × Nat × Nat × aT)} {lf : List aS}, apst hnd r S z mc σ q = some lf → p ∈ q → ∃ lp, apst1 hnd r S z mc σ p = some lp ∧ ∀ x ∈ lp, x ∈ lf
  | [], lf, _, hp => by cases hp
  | t :: q, lf, h, hp => by
    unfold apst at h
    cases h1 : apst1 hnd r S z mc σ t with
    | none => rw [h1] at h; cases h
    | some a =>
      simp only [h1] at h
      cases h2 : apst hnd r S z mc σ q with
      | none => simp only [h2] at h; cases h
      | some b =>
        simp only [h2] at h
        cases h
        rcases List.mem_cons.mp hp with rfl | hp
        · exact ⟨a, h1, fun x hx => List.mem_append_left _ hx⟩
        · obtain ⟨lp, g1, g2⟩ := apst_some h2 hp
          exact ⟨lp, g1, fun x hx => List.mem_append_right _ (g2 x hx)⟩
theorem acal_one {z : aZ} {mc : List (Nat × Int)} {σ : List aF} {t : aT} {y : List aF × aZ} {q : List (List aF × aZ)} (h : acal z mc σ t = some (y :: q)) : q = [] := by
  unfold acal at h
  cases h0 : acal0 z mc (tz t) with
  | none => rw [h0] at h; cases h
  | some z0 =>
    simp only [h0] at h
    cases h1 : acalN (zb (tz t)) (zn (tz t) - alen σ) (alen σ) σ z0 with
    | none => simp only [h1] at h; cases h
    | some p =>
      simp only [h1] at h
      match h2 : acalI (alen σ) p.1 (zb (tz t)) p.2 with
      | none => simp only [h2] at h; cases h
      | some [] => simp only [h2] at h; cases h
      | some (w :: _) =>
        simp only [h2] at h
        match h3 : acalC p.1 (zc (tz t)) w with
        | none => simp only [h3] at h; cases h
        | some [] => simp only [h3] at h; cases h
        | some (y' :: _) =>
          simp only [h3] at h
          cases h4 : acalX p.1 (zfx (tz t)) y' with
          | none => simp only [h4] at h; cases h
          | some x =>
            simp only [h4] at h
            cases h
            rfl
theorem acll_ok (hg : aok grp) (hl9 : ∀ v, lit v → ∃ q : Nat, v = .ref q) (hst9 : l.stackTraces = false) (hH : zhnd M Y Hh Ex s0) (hRm : ∀ mi, (Rm mi).cells = M.2.2.1 mi ∧ (Rm mi).slots = M.2.2.2.1 mi) {ct : Nat → List aC} {virt : Bool} {mj na : Nat} {ig : Instr} {S : aS} {R : aR} (hd : decode (Bt mi) S.1 = .ok (ig, 3)) (hcal : zcal M Y Bt Hh Rt Rm s0 mi mj) (hsb : sb mj = 0)
    (hct : ∀ c ∈ ct mj, aval M Y Bt Hh Rt Rm Ex l s0 D ca sb b0 L grp lit mj c)
    (hgo : ∀ (ν : List Int) (as : List aV) (va vr sc : List Value) (u : zW) (n : Nat), aγ s0.heap.size b0 L grp lit ν S.2.2.2.1 u → dS s0.heap.size b0 L grp lit ν as va → sc = va.reverse ++ vr → va.length = na → (virt = true → avrt (M.2.2.2.2.2.1 mj) as = true) →
      ∀ (p : Program) (e : Env) (s : State) (m : MethodId) (args : Array Value) (below : List Frame) (meth : Method) (c : Code) (H : Heap) (locs : List Loc) (ls : Array Slot) (T : State), zcx M Y Bt Hh Rt s0 mi p s m meth c → zP D ca s0.heap.size u H → T.heap = H → Stand p l e (Rm mi) s m args below meth c T locs n (sb mi + 6 * n) →
        zgoes p l e (Rm mi) s m args below meth c T locs n (sb mi + 6 * n) (Y mj) (F0 m S.1 ls sc) va vr)
    (h : acll M sb ct md virt mj na mi S = some R) : R.1 = 0 ∧ ((∀ S' ∈ R.2.1, aGd M Y Bt Hh Rt Rm Ex l s0 D ca sb b0 L xs grp lit mi P md u0 ν0 S') → aGd M Y Bt Hh Rt Rm Ex l s0 D ca sb b0 L xs grp lit mi P md u0 ν0 S) := by
  unfold acll at h
  cases ht : atak na S.2.2.1 [] with
  | none => rw [ht] at h; cases h
  | some q =>
    obtain ⟨as, r⟩ := q
    simp only [ht] at h
    obtain ⟨hk, h⟩ := cnd_t h
    simp only [Bool.and_eq_true, Nat.ble_eq, Bool.or_eq_true, Bool.not_eq_true'] at hk
    obtain ⟨⟨⟨⟨⟨k1, k2⟩, k3⟩, k4⟩, k5⟩, k6⟩ := hk
    cases hf : afst S.2.2.2.1 (aarg 0 as) (ct mj) with
    | none => simp only [hf] at h; cases h
    | some w =>
      simp only [hf] at h
      obtain ⟨hmd, h⟩ := cnd_t h
      cases hp : apst (M.2.2.2.2.2.2.2.2 mi S.1) r S w.2.2 w.1.2.1 w.2.1 w.1.2.2 with
      | none => simp only [hp] at h; cases h
      | some lf =>
        simp only [hp] at h
        cases h
        refine ⟨rfl, fun hs => ?_⟩
        intro ν lc sc u n h0 hγ hL hS hF hn
        obtain ⟨f, f1, f2, f3⟩ := atak_some ht
        rw [f1] at hS
        obtain ⟨fv, vr, e1, hfv, hvr⟩ := zF2_app hS
        have has : dS s0.heap.size b0 L grp lit ν as fv.reverse := by
          rw [f2, List.append_nil]
          exact zF2_rev hfv
        have hlen : fv.reverse.length = na := by rw [List.length_reverse, zF2_len hfv]; exact f3
        obtain ⟨hc9, hent⟩ := afst_some hf
        obtain ⟨ν', μ, lc', g1, g2, g3, -, g5, g6, g7, -, -⟩ := aent_ok hg hγ (aarg_ok hl9 0 has) (show dS s0.heap.size b0 L grp lit ν [] [] from trivial) hent
        have hcell := awit_at hγ k5 hn.1
        have hcc : n + (Rm mj).cells ≤ (Rm mi).cells := by
          rw [(hRm mj).1, (hRm mi).1]
          have c2 := hcell.2
          simp only [Int.ofNat_eq_natCast] at c2
          omega
        have hss : sb mi + 6 * n + (Rm mj).slots ≤ (Rm mi).slots := by
          rw [(hRm mj).2, (hRm mi).2]
          rw [(hRm mj).1, (hRm mi).1] at hcc
          omega
        have hval := hct w.1 hc9 μ lc' u g5 g6
        refine cg_call hst9 hH hd hcal hsb hcc hss (by rw [acat_ok hl9 hvr]; exact k1) (by rw [asl_ok hl9 has]; exact k2) (hgo ν as fv.reverse vr sc u n hγ has (by rw [List.reverse_reverse]; exact e1) hlen (fun hv => by
          rcases k3 with k3 | k3
          · rw [hv] at k3; cases k3
          · exact k3)) (cG_lv g7 hval) ?_ ?_
        · intro v u' k hP
          obtain ⟨p, p1, μ', p2, p3, p4, p5, p6⟩ := hP
          obtain ⟨lp, q1, q2⟩ := apst_some hp p1
          rcases p6 with ⟨p0, v', ev9, p7⟩ | ⟨-, ev9⟩
          · cases ev9
            unfold apst1 at q1
            cases hac : acal w.2.2 w.1.2.1 w.2.1 p.2.2.2 with
            | none => rw [hac] at q1; cases q1
            | some lw =>
              simp only [hac] at q1
              obtain ⟨x, x1, ν'', x2, x3, x4⟩ := acal_ok hg g2 g3 p3 p4 p2 hac
              cases lw with
              | nil => cases x1
              | cons y t =>
                have hxy : x = y := by
                  have := acal_one hac
                  rcases List.mem_cons.mp x1 with h | h
                  · exact h
                  · rw [this] at h; cases h
                subst hxy
                simp only [p0, Nat.beq_refl, cond_true] at q1
                have hF' : aFr s0.heap.size grp md u0 u' := aFr_t hF (aFr_m hmd p4)
                have hn' : aCl L xs ν'' (fk S.2.2.2.2.1 (Int.ofNat p.2.2.1), S.2.2.2.2.2) (n + p.2.2.1) := ⟨by
                  rw [ev_k _ (ev_ext (aext_t g1 x2) hn.1)]
                  rfl, (aCl_ext (aext_t g1 x2) hn).2⟩
                refine cG_wid (n' := n + p.2.2.1) (by omega) ?_
                rcases p7 with ⟨t1, rfl⟩ | ⟨r9, w9, t1, rfl, t2⟩
                · simp only [t1] at q1
                  cases q1
                  exact hs _ (q2 _ List.mem_cons_self) ν'' lc vr u' _ (aext_t h0 (aext_t g1 x2)) x3 (dL_ext (aext_t g1 x2) hL) (dS_ext (aext_t g1 x2) hvr) hF' hn'
                · simp only [t1] at q1
                  cases hv9 : asubv x.1 r9 with
                  | none => rw [hv9] at q1; cases q1
                  | some xv =>
                    simp only [hv9] at q1
                    cases q1
                    obtain ⟨-, hiff⟩ := asubv_ok (B := s0.heap.size) (b0 := b0) (L := L) (grp := grp) (lit := lit) x4 hv9
                    exact hs _ (q2 _ List.mem_cons_self) ν'' lc (w9 :: vr) u' _ (aext_t h0 (aext_t g1 x2)) x3 (dL_ext (aext_t g1 x2) hL) ⟨(hiff _).mpr t2, dS_ext (aext_t g1 x2) hvr⟩ hF' hn'
          · cases ev9
        · intro kk u' k hP
          obtain ⟨p, p1, μ', p2, p3, p4, p5, p6⟩ := hP
          obtain ⟨lp, q1, q2⟩ := apst_some hp p1
          rcases p6 with ⟨p0, v', ev9, p7⟩ | ⟨p0, ev9⟩
          · cases ev9
          · cases ev9
            unfold apst1 at q1
            cases hac : acal w.2.2 w.1.2.1 w.2.1 p.2.2.2 with
            | none => rw [hac] at q1; cases q1
            | some lw =>
              simp only [hac] at q1
              obtain ⟨x, x1, ν'', x2, x3, x4⟩ := acal_ok hg g2 g3 p3 p4 p2 hac
              cases lw with
              | nil => cases x1
              | cons y t =>
                have hxy : x = y := by
                  have := acal_one hac
                  rcases List.mem_cons.mp x1 with h | h
                  · exact h
                  · rw [this] at h; cases h
                subst hxy
                simp only [beq_ne p0, cond_false] at q1
                cases hh : M.2.2.2.2.2.2.2.2 mi S.1 p.2.1 with
                | none => rw [hh] at q1; cases q1
                | some hpc =>
                  simp only [hh] at q1
                  cases q1
                  have hF' : aFr s0.heap.size grp md u0 u' := aFr_t hF (aFr_m hmd p4)
                  have hn' : aCl L xs ν'' (fk S.2.2.2.2.1 (Int.ofNat p.2.2.1), S.2.2.2.2.2) (n + p.2.2.1) := ⟨by
                    rw [ev_k _ (ev_ext (aext_t g1 x2) hn.1)]
                    rfl, (aCl_ext (aext_t g1 x2) hn).2⟩
                  refine ⟨hpc, rfl, fun q => ?_⟩
                  refine cG_wid (n' := n + p.2.2.1) (by omega) ?_
                  exact hs _ (q2 _ List.mem_cons_self) ν'' lc [.ref q] u' _ (aext_t h0 (aext_t g1 x2)) x3 (dL_ext (aext_t g1 x2) hL) ⟨⟨q, rfl⟩, trivial⟩ hF' hn'
end GC
