/-! A THROW THAT A CALLER CATCHES: the rows of the table are gone through, each row's type is looked up where it wasn't yet -/
def zsearch (pl : Platform) (s : State) (d : ClassId) (pc : Nat) (thrown : ClassId) : List ExceptionTableEntry → Nat → Prop
  | [], _ => False
  | x :: t, h => (covers x pc = false ∧ zsearch pl s d pc thrown t h) ∨ (covers x pc = true ∧ x.catchType ≠ 0 ∧ ∃ c, s.vm.ClassLinks pl d x.catchType c ∧ ((s.vm.assignable thrown c = true ∧ x.handlerPc = h) ∨ (s.vm.assignable thrown c = false ∧ zsearch pl s d pc thrown t h)))
theorem z_find {e : Env} {s : State} {f : JFrame} {a : Addr} {cell : Cell} (hobj : ∀ k, cell.vm ≠ .statics k) {k0 : Class} (hk0 : s.vm.classes[cell.cls]? = some k0) {h : Nat} :
    ∀ (tb : List ExceptionTableEntry) (S : State), s.WarmedH S.vm → S.heap[a]? = some cell → zsearch e.platform s f.method.cls f.pc cell.cls tb h →
      ∃ vm', s.WarmedH vm' ∧ ∀ (Q : Handler → Pre) (E : CtlPost) (d : Bool) (acts : List Action), wp (findHandler.go f a tb) Q E e d acts S ↔ Q (.found h) d acts (S.setVm vm')
  | [], _, _, _, hz => hz.elim
  | x :: t, S, hW, hcell, hz => by
    rcases hz with ⟨hcov, hz⟩ | ⟨hcov, h0, c, hl, hz⟩
    · obtain ⟨vm', hW', hq⟩ := z_find hobj hk0 t S hW hcell hz
      exact ⟨vm', hW', fun Q E d acts => by rw [W.findHandler_go_skip hcov]; exact hq Q E d acts⟩
    · obtain ⟨dk, _, _, kt, hd, _, _, _, _, hkt, _, hopn⟩ := hl.here
      have hW1 := hW.noted hd hopn (State.rightAt_cls hl)
      have hl1 := hW.classLinks hl
      obtain ⟨ha, ht⟩ := (resolveClass_links e.toSetting hl1).op (op := VmOp.resolveClass f.method.cls x.catchType) rfl
      obtain ⟨k1, hk1, -⟩ := hW1.alike.2.2 _ _ hk0
      obtain ⟨k2, hk2, -⟩ := hW1.alike.2.2 _ _ hkt
      have hcov' := hcov
      simp only [covers] at hcov'
      rcases hz with ⟨hfit, rfl⟩ | ⟨hno, hz⟩
      · have hfit' : (S.vm.noted f.method.cls x.catchType (.cls c)).assignable cell.cls c = true := by rw [hW1.alike.assignable]; exact hfit
        refine ⟨_, hW1, fun Q E d acts => ?_⟩
        simp [findHandler.go, hcov', h0, ha, ht, hcell, hobj, hk1, hk2, hfit', VmOp.dirties, VmOp.acts]
      · have hno' : (S.vm.noted f.method.cls x.catchType (.cls c)).assignable cell.cls c = false := by rw [hW1.alike.assignable]; exact hno
        obtain ⟨vm', hW', hq⟩ := z_find hobj hk0 t (S.setVm (S.vm.noted f.method.cls x.catchType (.cls c))) hW1 hcell hz
        refine ⟨vm', hW', fun Q E d acts => Iff.trans ?_ (hq Q E d acts)⟩
        simp [findHandler.go, hcov', h0, ha, ht, hcell, hobj, hk1, hk2, hno', VmOp.dirties, VmOp.acts]
theorem z_caught {p : Program} {l : Launch} {e : Env} {R : Room} {s : State} {m : MethodId} {args : Array Value} {below : List Frame} {meth : Method} {c : Code} {T : State} {locs : List Loc} {cells slots : Nat}
    (X : Stand p l e R s m args below meth c T locs cells slots) (a : Addr) {g : JFrame} (hg : g.method = m) {cell : Cell} (hcell : T.heap[a]? = some cell) (hv : cell.vm = .none) {k0 : Class} (hk0 : s.vm.classes[cell.cls]? = some k0) {h : Nat}
    (hz : zsearch e.platform s m.cls g.pc cell.cls c.exceptionTable.toList h) :
    ∃ vm', Stand p l e R s m args below meth c (T.setVm vm') locs cells slots ∧
      ∀ target, Steps p.tables e below ((T.setVm vm').setTop { g with pc := h, stack := [.ref a] }) target → Steps p.tables e below ((T.setTop g).pushFrame (.throwing a)) target := by
  subst hg
  obtain ⟨vm', hW', hf⟩ := z_find (e := e) (s := s) (f := g) (a := a) (cell := cell) (fun k hk => by rw [hv] at hk; cases hk) hk0 c.exceptionTable.toList ((T.setTop g).pushFrame (.throwing a)) X.warmed hcell hz
  have hfind : ∀ (Q : Handler → Pre) (E : CtlPost) (d : Bool) (acts : List Action), wp (findHandler g a) Q E e d acts ((T.setTop g).pushFrame (.throwing a)) ↔ Q (.found h) d acts (((T.setTop g).pushFrame (.throwing a)).setVm vm') :=
    fun Q E d acts => by rw [W.findHandler_eq (s := (T.setTop g).pushFrame (.throwing a)) X.method' X.code]; exact hf Q E d acts
  refine ⟨vm', X.noted hW', fun target hrest => ?_⟩
  have hat : At T g.method c below := X.here
  obtain ⟨hgo, hw⟩ := hat.throwing a
  refine Steps.head hgo hw ?_
  have hst : (stepThrowing e ((T.setTop g).pushFrame (.throwing a)) a (.java g :: T.frames.tail)).1 = (((T.setTop g).pushFrame (.throwing a)).setVm vm').setFrames (.java { g with pc := h, stack := [.ref a] } :: T.frames.tail) := by
    simp only [stepThrowing, searchFrame, vmDo]
    generalize hr : Sem.go _ e false [] _ = res
    obtain ⟨as, rfl, ha⟩ := Sem.eq_ok_of hr (a := Handler.found h) (s' := ((T.setTop g).pushFrame (.throwing a)).setVm vm') (acts' := []) (by simp [hfind _ _ _ _])
    rfl
  rw [stepThread_throwing (frames_entered hat.top _), hst]
  obtain ⟨g₀, hg0⟩ := Option.isSome_iff_exists.mp hat.top
  obtain ⟨r, hr⟩ := State.topJava?_eq_some.mp hg0
  have hr' : (T.setVm vm').frames = .java g₀ :: r := hr
  rw [State.setTop_of_frames _ hr'] at hrest
  have e1 : (((T.setTop g).pushFrame (.throwing a)).setVm vm').setFrames (.java { g with pc := h, stack := [.ref a] } :: T.frames.tail) = (T.setVm vm').setFrames (.java { g with pc := h, stack := [.ref a] } :: r) := by
    rw [hr, List.tail_cons, State.pushFrame, State.setTop_of_frames _ hr, State.setFrames_setFrames]
    show ((T.setFrames _).setVm vm').setFrames _ = _
    exact State.setFrames_setFrames (s := T.setVm vm') _ _
  rw [e1]
  exact hrest
