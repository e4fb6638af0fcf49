/-! THE START: classes, arrays, handlers, throws -/
section ZE
variable {b : Addr} {s0 : State}
theorem ze_prim {t : FieldType} (ht : ∀ C, t ≠ .object C) (w : zh s0 (.arrayClass t)) : ∃ cA, ArrOfT s0 cA t ∧ va_RA s0 cA t := by
  obtain ⟨cA, kA, comp, h1, h2, h3⟩ := Cond.arrayClass_spec (w #[] s0 (State.WarmedH.refl s0))
  refine ⟨cA, fun n z => ⟨(fun k h => by cases h), kA, h2, comp, h3⟩, ?_⟩
  cases t <;> first | exact h1 | exact absurd rfl (ht _)
theorem ze_obj {C : String} (w : zh s0 (.arrayOver (.object C))) : ∃ cA, ArrOfT s0 cA (.object C) ∧ va_RA s0 cA (.object C) := by
  obtain ⟨comp, cA, kA, h1, -, h2, h3, h4⟩ := Cond.arrayOver_spec (w #[] s0 (State.WarmedH.refl s0))
  exact ⟨cA, fun n z => ⟨(fun k h => by cases h), kA, h2, comp, h3⟩, kA, comp, h2, h3, h1, h4⟩
def tyO (tag : Nat) : FieldType := if tag = 64 then .int else if tag = 65 then .char else if tag = 66 then .boolean else if tag = 67 then .long else .object (tO tag)
theorem ze_ca (h : ∀ tag, 64 ≤ tag → ∃ cA, ArrOfT s0 cA (tyO tag) ∧ va_RA s0 cA (tyO tag)) : ∃ ca : Nat → ClassId, ∀ tag, 64 ≤ tag → ArrOfT s0 (ca tag) (tyO tag) ∧ va_RA s0 (ca tag) (tyO tag) := by
  have g : ∀ tag, ∃ cA, 64 ≤ tag → ArrOfT s0 cA (tyO tag) ∧ va_RA s0 cA (tyO tag) := by
    intro tag
    by_cases ht : 64 ≤ tag
    · obtain ⟨cA, hc⟩ := h tag ht
      exact ⟨cA, fun _ => hc⟩
    · exact ⟨0, fun h => absurd h ht⟩
  exact ⟨fun tag => Classical.choose (g tag), fun tag ht => Classical.choose_spec (g tag) ht⟩
/-- a class's rows -/
def zcl (ci : Nat) (pos : List Nat) : Prop := (u_ws (tC ci) (tT ci) (yg tt_N ci)).map some = pos.map (fun j => lw_tbl[j]?) ∧ (u_ws (tC ci) (tT ci) (yg tt_N ci)).all goodWord = true ∧ (∀ k, k < yg tt_N ci → parseFieldDescriptor (tT ci k).2.2.1 = some (tty ci k)) ∧ (∀ a, a < yg tt_N ci → ∀ b, b < yg tt_N ci → a ≠ b → (tT ci a).2.1 ≠ (tT ci b).2.1) ∧ ∀ k, k < yg tt_N ci → (tT ci k).1 = tC ci
theorem zcl_in {ci : Nat} {pos : List Nat} (h : zcl ci pos) : ∀ w ∈ u_ws (tC ci) (tT ci) (yg tt_N ci), w ∈ lw_tbl := by
  intro w hw
  have h1 : some w ∈ (u_ws (tC ci) (tT ci) (yg tt_N ci)).map some := List.mem_map.mpr ⟨w, hw, rfl⟩
  rw [h.1] at h1
  obtain ⟨j, -, hj⟩ := List.mem_map.mp h1
  exact List.mem_of_getElem? hj
theorem zcl_ok (H : zts b s0) {ci : Nat} {pos : List Nat} (h : zcl ci pos) (hc : ci < 64) {D : va_G} (hK : u_Kn s0 (tC ci) (tT ci) (yg tt_N ci) (D.1 ci) (D.2 ci)) : zclo s0 D tty ci (tC ci) (tT ci) (yg tt_N ci) :=
  ⟨hc, hK, fun w hw => fun _ _ hW => word_at hW (good_of_word (List.all_eq_true.mp h.2.1 w hw)) (H w (zcl_in h w hw)), h.2.2.1, h.2.2.2.1, h.2.2.2.2⟩
theorem ze_D (h : ∀ ci, ci < 12 → ∃ (cC : ClassId) (iS : Nat → Nat), u_Kn s0 (tC ci) (tT ci) (yg tt_N ci) cC iS) : ∃ D : va_G, ∀ ci, ci < 12 → u_Kn s0 (tC ci) (tT ci) (yg tt_N ci) (D.1 ci) (D.2 ci) := by
  have g : ∀ ci, ∃ q : ClassId × (Nat → Nat), ci < 12 → u_Kn s0 (tC ci) (tT ci) (yg tt_N ci) q.1 q.2 := by
    intro ci
    by_cases hc : ci < 12
    · obtain ⟨c, i, hk⟩ := h ci hc
      exact ⟨(c, i), fun _ => hk⟩
    · exact ⟨(0, fun _ => 0), fun h => absurd h hc⟩
  exact ⟨(fun ci => (Classical.choose (g ci)).1, fun ci => (Classical.choose (g ci)).2), fun ci hc => Classical.choose_spec (g ci) hc⟩
/-! default fields -/
noncomputable def zdb (x : xV) (t : FieldType) : Bool := match t with
  | .int => Nat.beq x.1 0 && ieq x.2.1 (.ofNat 0)
  | .char => Nat.beq x.1 0 && ieq x.2.1 (.ofNat 0)
  | .boolean => Nat.beq x.1 0 && ieq x.2.1 (.ofNat 0)
  | .long => Nat.beq x.1 1 && ieq x.2.1 (.ofNat 0)
  | .object _ => Nat.beq x.1 2
  | .array _ => Nat.beq x.1 2
  | _ => false
theorem zdb_ok {x : xV} {t : FieldType} (h : zdb x t = true) (B b0 : Nat) (ν : Nat → Int) : xden B b0 ν x (defaultValue t) := by
  obtain ⟨k, a, c⟩ := x
  cases t <;> simp only [zdb, Bool.and_eq_true, Nat.beq_eq, ieq_iff] at h
  all_goals first | (cases h; done) | skip
  all_goals first | (obtain ⟨rfl, rfl⟩ := h; rfl) | (subst h; rfl)
theorem zdf_of {ci N : Nat} {dl : List (Nat × xV)} (hN : yg tt_N ci = N) (hd : tM.2.2.2.2.2.2.1 ci = some (N, dl)) (h : (List.range N).all (fun k => zdb (xget (2, 0, 0) dl k) (tty ci k)) = true) : zdf ci := by
  refine ⟨dl, by rw [hN]; exact hd, fun k hk B b0 ν => ?_⟩
  rw [hN] at hk
  exact zdb_ok (List.all_eq_true.mp h k (List.mem_range.mpr hk)) B b0 ν
/-! words that look at the heap -/
theorem zhS_of {w : Cond} (h : zh s0 w) : zhS s0 w := fun a s hW _ _ => h a s hW
theorem zhS_ls {C n d : String} {A : Array Value} (hl : (Cond.laysStatic C n d).before A s0 = true) : zhS s0 (.laysStatic C n d) := by
  intro a s hW hB hq
  obtain ⟨c, k, i, f, a9, cell, hc, hi, hst, ha, hcell, hs, hcls, hlt, hty⟩ := Cond.laysStatic_spec hl
  obtain ⟨k', hi', hek⟩ := State.fieldFound?_setVm hW.alike hi
  exact Cond.laysStatic_of (s := s) (by rw [hW.alike.findClass]; exact hc) hi' hst (by rw [hek]; exact ha) (by rw [hq a9 (Array.getElem?_eq_some_iff.mp hcell).1]; exact hcell) hs hcls hlt (by rw [hek]; exact hty)
theorem zhS_ir {C n d : String} {A : Array Value} (hl : (Cond.laysStatic C n d).before A s0 = true) (hr : (Cond.isRef (.static C n d)).before A s0 = true) : zhS s0 (.isRef (.static C n d)) := by
  intro a s hW hB hq
  cases hv : (Term.static C n d).eval A s0 none [] s0 with
  | none => simp [Cond.before, Cond.holds, Cond.value, hv] at hr
  | some v =>
    obtain ⟨c, k, i, f, a9, cell, hc, hi, hst, ha, hcell, hs, hcls, hlt, hty⟩ := Cond.laysStatic_spec hl
    obtain ⟨k', hi', hek⟩ := State.fieldFound?_setVm hW.alike hi
    obtain ⟨-, a8, cell8, ha8, hcell8, -, hslot⟩ := Term.static_spec hi hv
    cases ha.symm.trans ha8
    cases hcell.symm.trans hcell8
    have hv' : (Term.static C n d).eval a s none [] s = some v := Term.static_eval (s := s) hi' hst (by rw [hek]; exact ha) (by rw [hq a9 (Array.getElem?_eq_some_iff.mp hcell).1]; exact hcell) hs hslot
    simp only [Cond.before, Cond.holds, Cond.value, hv] at hr
    simp only [Cond.before, Cond.holds, Cond.value, hv']
    exact hr
theorem zhS_sr (H : zts b s0) {own tx : String} {k c : Nat} (i : Nat) (hm : lw_tbl[i]? = some (.stringRef own k tx)) (hown : s0.vm.findClass own = some c) : zhS s0 (.stringRef own k tx) := by
  intro a s hW _ _
  have h0 := H _ (List.mem_of_getElem? hm)
  obtain ⟨-, -, -, sa, -, -, -, -, -, hev⟩ := Cond.stringRef_spec hown h0
  exact (vk_R.warm hW (vk_R.of h0 hev)).1
noncomputable def zgw (w : Cond) : Bool := match w with
  | .declares _ => true
  | .castable _ _ => true
  | .laysStatic _ _ _ => true
  | w => goodWord w
theorem zhS_w (H : zts b s0) {w : Cond} (hm : w ∈ lw_tbl) (hg : zgw w = true) : zhS s0 w := by
  have h0 := H w hm
  cases w
  case declares y => exact fun a s hW _ _ => va_Nw.use rfl (va_Nw.warmD hW (va_Nw.of rfl h0))
  case castable c t => exact fun a s hW _ _ => va_Nw.use rfl (va_Nw.warmC hW (va_Nw.of rfl h0))
  case laysStatic c n d => exact zhS_ls h0
  all_goals exact zhS_of (fun _ _ hW => word_at hW (good_of_word hg) h0)
def zir1 : Cond := .isRef (.static "java/lang/Throwable" "UNASSIGNED_STACK" "[Ljava/lang/StackTraceElement;")
def zir2 : Cond := .isRef (.static "java/lang/Throwable" "SUPPRESSED_SENTINEL" "Ljava/util/List;")
noncomputable def zoa (own : String) (ic : Nat) (E : String) (up : List String) : Bool := (Bundle.ownAtoms own ic E up).all (fun w => (zgw w && decide (w ∈ lw_tbl)) || (decide (w = zir1) || decide (w = zir2)))
theorem zoa_ok (H : zts b s0) (h1 : zhS s0 zir1) (h2 : zhS s0 zir2) {own E : String} {ic : Nat} {up : List String} (h : zoa own ic E up = true) : ∀ w ∈ Bundle.ownAtoms own ic E up, zhS s0 w := by
  intro w hw
  have g := List.all_eq_true.mp h w hw
  simp only [Bool.or_eq_true, Bool.and_eq_true, decide_eq_true_eq] at g
  rcases g with ⟨g1, g2⟩ | g | g
  · exact zhS_w H g2 g1
  · rw [g]; exact h1
  · rw [g]; exact h2
/-! handlers -/
def zcst (s0 : State) : Prop := ∀ k k', k < 3 → k' < 3 → ∀ (s : State), s0.WarmedH s.vm → ∀ a c, s.vm.findClass (tEx k) = some a → s.vm.findClass (tEx k') = some c → s.vm.assignable a c = Nat.beq k k'
theorem zcst_y {E : String} (h : zhS s0 (.castable E E)) {s : State} (hW : s0.WarmedH s.vm) {a c : ClassId} (ha : s.vm.findClass E = some a) (hc : s.vm.findClass E = some c) : s.vm.assignable a c = true := by
  have hs : (Cond.castable E E).before #[] (s0.setVm s.vm) = true := h #[] (s0.setVm s.vm) hW (Nat.le_refl _) (fun _ _ => rfl)
  obtain ⟨x, y, h1, h2, h3⟩ := Cond.castable_spec hs
  cases ha.symm.trans h1
  cases hc.symm.trans h2
  exact h3
theorem zcst_n {E F : String} {A : Array Value} (h : (Cond.not (.castable E F)).before A s0 = true) {s : State} (hW : s0.WarmedH s.vm) {a c : ClassId} (ha : s.vm.findClass E = some a) (hc : s.vm.findClass F = some c) : s.vm.assignable a c = false := by
  obtain ⟨x, y, h1, h2, h3⟩ := (va_Nc.of h).moved hW.alike
  cases ha.symm.trans h1
  cases hc.symm.trans h2
  exact h3
def zhr (s0 : State) (own : String) : List (Nat × Nat × Nat × Nat) → List (Nat × Nat × Nat × Nat) → Prop
  | [], [] => True
  | q :: l, r :: hh => r.1 = q.1 ∧ r.2.1 = q.2.1 ∧ r.2.2.1 = q.2.2.1 ∧ r.2.2.2 ≠ 0 ∧ q.2.2.2 < 3 ∧ zh s0 (.classLink own r.2.2.2 (tEx q.2.2.2)) ∧ zhr s0 own l hh
  | _, _ => False
theorem xfh_lt {own : String} {pc k h : Nat} : ∀ (l hh : List (Nat × Nat × Nat × Nat)), zhr s0 own l hh → xfh l pc k = some h → k < 3
  | [], _, _, hx => by cases hx
  | _ :: _, [], hr, _ => hr.elim
  | q :: l, r :: hh, hr, hx => by
    obtain ⟨-, -, -, -, e5, -, e7⟩ := hr
    unfold xfh at hx
    cases hc : (Nat.ble q.1 pc && Nat.ble (pc + 1) q.2.1 && Nat.beq q.2.2.2 k) with
    | false => rw [hc] at hx; exact xfh_lt l hh e7 hx
    | true =>
      simp only [Bool.and_eq_true, Nat.beq_eq] at hc
      rw [← hc.2]
      exact e5
theorem zhr_ok (hC : zcst s0) {own : String} {pc k h : Nat} {s : State} {pl : Platform} (hW : s0.WarmedH s.vm) (hpl : pl.magicAccessors = ({} : Platform).magicAccessors) {d thrown : ClassId} (hd : s.vm.findClass own = some d) (ht : s.vm.findClass (tEx k) = some thrown) (hk : k < 3) :
    ∀ (l hh : List (Nat × Nat × Nat × Nat)), zhr s0 own l hh → xfh l pc k = some h → zsearch pl s d pc thrown (tableOf hh) h
  | [], _, _, hx => by cases hx
  | _ :: _, [], hr, _ => hr.elim
  | q :: l, r :: hh, hr, hx => by
    obtain ⟨e1, e2, e3, e4, e5, e6, e7⟩ := hr
    unfold xfh at hx
    show (covers _ pc = false ∧ zsearch pl s d pc thrown (tableOf hh) h) ∨ (covers _ pc = true ∧ r.2.2.2 ≠ 0 ∧ ∃ c, s.vm.ClassLinks pl d r.2.2.2 c ∧ ((s.vm.assignable thrown c = true ∧ r.2.2.1 = h) ∨ (s.vm.assignable thrown c = false ∧ zsearch pl s d pc thrown (tableOf hh) h)))
    cases hcv : covers (⟨r.1, r.2.1, r.2.2.1, r.2.2.2⟩ : ExceptionTableEntry) pc with
    | false =>
      refine Or.inl ⟨rfl, zhr_ok hC hW hpl hd ht hk l hh e7 ?_⟩
      have hb : (Nat.ble q.1 pc && Nat.ble (pc + 1) q.2.1 && Nat.beq q.2.2.2 k) = false := by
        cases hc : (Nat.ble q.1 pc && Nat.ble (pc + 1) q.2.1 && Nat.beq q.2.2.2 k) with
        | false => rfl
        | true =>
          simp only [Bool.and_eq_true, Nat.ble_eq] at hc
          exfalso
          simp [covers, e1, e2] at hcv
          omega
      rw [hb] at hx
      exact hx
    | true =>
      obtain ⟨c, g1, g2⟩ := Cond.classLink_spec hd (e6 #[] s hW) pl hpl
      refine Or.inr ⟨rfl, e4, c, g2, ?_⟩
      have hasg := hC k q.2.2.2 hk e5 s hW thrown c ht g1
      have hin : Nat.ble q.1 pc = true ∧ Nat.ble (pc + 1) q.2.1 = true := by
        simp [covers, e1, e2] at hcv
        exact ⟨Nat.ble_eq.mpr (by omega), Nat.ble_eq.mpr (by omega)⟩
      rw [hin.1, hin.2] at hx
      by_cases hkk : k = q.2.2.2
      · subst hkk
        rw [Nat.beq_refl] at hx hasg
        have e9 : q.2.2.1 = h := Option.some.inj hx
        exact Or.inl ⟨hasg, e3.trans e9⟩
      · rw [beq_ne hkk] at hasg
        have e8 : Nat.beq q.2.2.2 k = false := beq_ne (fun g => hkk g.symm)
        rw [e8] at hx
        exact Or.inr ⟨hasg, zhr_ok hC hW hpl hd ht hk l hh e7 hx⟩
end ZE
