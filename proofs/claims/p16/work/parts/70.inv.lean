/-! THE THREE KINDS OF CALLS, up to the callee's entry -/
def zh (s0 : State) (w : Cond) : Prop := ∀ (a : Array Value) (s : State), s0.WarmedH s.vm → w.before a s = true
def zml (s0 : State) (own : String) (ix : Nat) (y : MethodName) : Prop := zh s0 (.methodLink own ix y) ∨ ∃ h : String, zh s0 (.methodLinkNest own ix y h)
def zmh (y : MethodName) : Prop := y.cls ≠ "java/lang/invoke/MethodHandle" ∧ y.cls ≠ "java/lang/invoke/VarHandle"
section ZI
variable {nl : Nat → Nat} {Y : Nat → MethodName} {Bt : Nat → ByteArray} {Hh : Nat → List (Nat × Nat × Nat × Nat)} {Rt : Nat → Option FieldType}
variable {p : Program} {l : Launch} {e : Env} {R : Room} {s s0 : State} {m : MethodId} {args : Array Value} {below : List Frame} {meth : Method} {c : Code} {T : State} {locs : List Loc} {cells slots : Nat}
/-- what a call of mj needs first: entered at its start, in tables that are warmer -/
def zgoes (p : Program) (l : Launch) (e : Env) (R : Room) (s : State) (m : MethodId) (args : Array Value) (below : List Frame) (meth : Method) (c : Code) (T : State) (locs : List Loc) (cells slots : Nat) (y : MethodName) (g : JFrame) (vs rest : List Value) : Prop :=
  ∃ (vm₁ : Vm) (mk : MethodId), s.methodNamed? y = some mk ∧ Stand p l e R s m args below meth c (T.setVm vm₁) locs cells slots ∧
    ∀ target, (∀ acts, Steps p.tables e below (doInvoke e ((T.setVm vm₁).setTop { g with stack := rest }) acts mk vs.toArray).1 target) → Steps p.tables e below (T.setTop g) target
theorem z_goS (X : Stand p l e R s m args below meth c T locs cells slots) (hexec : p.tables.exec = Jvm.exec) (hW0 : s0.WarmedH s.vm) {own : String} {ix mj n : Nat} (hown : s.vm.findClass own = some m.cls) (hl : zml s0 own ix (Y mj)) (hst : zh s0 (.static (Y mj))) (hin : zh s0 (.initialized (Y mj).cls))
    (hc : zh s0 (zcode nl Y Bt Hh Rt mj)) (hy : zmh (Y mj)) (hn : (parseMethodDescriptor (Y mj).desc).map (fun d => d.parameters.length) = some n)
    {g : JFrame} (hg : g.method = m) {vs rest : List Value} (hlen : vs.length = n) (hstack : g.stack = vs.reverse ++ rest) (hdg : decode c.code g.pc = .ok (.invokestatic ix, 3)) : zgoes p l e R s m args below meth c T locs cells slots (Y mj) g vs rest := by
  have hstat := hst args s hW0
  have hnm : ∃ mk, s.methodNamed? (Y mj) = some mk := by
    have h := hc args s hW0
    unfold zcode at h
    split at h
    · exact Cond.code_named h
    · obtain ⟨m9, _, _, hn9, -⟩ := Cond.codeWith_spec h
      exact ⟨m9, hn9⟩
  obtain ⟨mk, hnamed⟩ := hnm
  obtain ⟨methM, cM, hmethM, -, -, -, -, -, -, hsigM⟩ := zcode_spec nl Y Bt Hh Rt hnamed (hc args s hW0)
  have hstatic : methM.isStatic = true := Cond.static_spec hnamed hmethM hstat
  obtain ⟨kP, hkP, -⟩ := className_of_methodNamed hnamed
  have hinitP : kP.init = .initialized := Cond.initialized_spec (findClass_of_methodNamed hnamed) hkP (hin args s hW0)
  have hl9 : vs.length = methM.sig.parameters.length := by
    rw [hsigM] at hn
    exact hlen.trans (Option.some.inj hn).symm
  rcases hl with h | ⟨host, h⟩
  · obtain ⟨vm₁, X₁, hstep₁⟩ := X.invokestatic hexec hown (h args s hW0) hnamed hmethM hstatic hkP hinitP hy (g := g) hg (argsL := vs) (rest := rest) hl9 hstack hdg
    exact ⟨vm₁, mk, hnamed, X₁, hstep₁⟩
  · obtain ⟨vm₁, X₁, hstep₁⟩ := X.invokestaticNest hexec hown (h args s hW0) hnamed hmethM hstatic hkP hinitP hy (g := g) hg (argsL := vs) (rest := rest) hl9 hstack hdg
    exact ⟨vm₁, mk, hnamed, X₁, hstep₁⟩
theorem z_goV (X : Stand p l e R s m args below meth c T locs cells slots) (hexec : p.tables.exec = Jvm.exec) (hW0 : s0.WarmedH s.vm) {own : String} {ix mj n : Nat} (hown : s.vm.findClass own = some m.cls) (hl : zml s0 own ix (Y mj)) (him : zh s0 (.instanceMethod (Y mj))) (hsel : zh s0 (.selects (Y mj).cls (Y mj) (Y mj)))
    (hc : zh s0 (zcode nl Y Bt Hh Rt mj)) (hy : zmh (Y mj)) (hn : (parseMethodDescriptor (Y mj).desc).map (fun d => d.parameters.length) = some n)
    {b : Addr} {cellB : Cell} (hcell : T.heap[b]? = some cellB) (hvm : cellB.vm = .none) (hcls : s.vm.findClass (Y mj).cls = some cellB.cls)
    {g : JFrame} (hg : g.method = m) {vs rest : List Value} (hlen : vs.length = n) (hstack : g.stack = vs.reverse ++ .ref b :: rest) (hdg : decode c.code g.pc = .ok (.invokevirtual ix, 3)) : zgoes p l e R s m args below meth c T locs cells slots (Y mj) g (.ref b :: vs) rest := by
  obtain ⟨mk, methM, hnamed, hmethM, hstM, habM⟩ := Cond.instanceMethod_spec (him args s hW0)
  obtain ⟨methM', cM, hmethM', -, -, -, -, -, -, hsigM⟩ := zcode_spec nl Y Bt Hh Rt hnamed (hc args s hW0)
  cases hmethM.symm.trans hmethM'
  obtain ⟨c2, r2, m2, q1, q2, q3, q4, kP, hkP, hkPi⟩ := Cond.selects_spec (hsel args s hW0)
  cases hcls.symm.trans q1
  cases (State.methodFound?_of_named hnamed hy).symm.trans q2
  cases hnamed.symm.trans q3
  have hselP : selectMethod e.platform s.vm cellB.cls mk = .method mk := by rw [Launch.admits_selectMethod X.admits]; exact q4
  have hl9 : vs.length = methM.sig.parameters.length := by
    rw [hsigM] at hn
    exact hlen.trans (Option.some.inj hn).symm
  have hob : ∀ z, cellB.vm ≠ .statics z := fun z h => by rw [hvm] at h; cases h
  rcases hl with h | ⟨host, h⟩
  · obtain ⟨vm₁, X₁, hstep₁⟩ := X.invokevirtual hexec hown (h args s hW0) hnamed hmethM hstM hkP hkPi hy (a := b) (cell := cellB) hcell hob hselP hmethM habM hkP hkPi (g := g) hg (argsL := vs) (rest := rest) hl9 hstack hdg
    exact ⟨vm₁, mk, hnamed, X₁, hstep₁⟩
  · obtain ⟨vm₁, X₁, hstep₁⟩ := X.invokevirtualNest hexec hown (h args s hW0) hnamed hmethM hstM hkP hkPi hy (a := b) (cell := cellB) hcell hob hselP hmethM habM hkP hkPi (g := g) hg (argsL := vs) (rest := rest) hl9 hstack hdg
    exact ⟨vm₁, mk, hnamed, X₁, hstep₁⟩
theorem z_goI (X : Stand p l e R s m args below meth c T locs cells slots) (hexec : p.tables.exec = Jvm.exec) (hW0 : s0.WarmedH s.vm) {own : String} {ix mj n : Nat} (hown : s.vm.findClass own = some m.cls) (hl : zml s0 own ix (Y mj)) (him : zh s0 (.instanceMethod (Y mj))) (hnm : (Y mj).name = "<init>")
    (hH : Hh mj = []) (hR : Rt mj = none) (hc : zh s0 (zcode nl Y Bt Hh Rt mj)) (hy : zmh (Y mj)) (hn : (parseMethodDescriptor (Y mj).desc).map (fun d => d.parameters.length) = some n)
    {b : Addr} {g : JFrame} (hg : g.method = m) {vs rest : List Value} (hlen : vs.length = n) (hstack : g.stack = vs.reverse ++ .ref b :: rest) (hdg : decode c.code g.pc = .ok (.invokespecial ix, 3)) : zgoes p l e R s m args below meth c T locs cells slots (Y mj) g (.ref b :: vs) rest := by
  subst hg
  have hpl : e.platform.magicAccessors = ({} : Platform).magicAccessors := by rw [X.admits.platform]
  have hcode : (Cond.code (Y mj) (Bt mj) (nl mj) none).before args s = true := by
    have h := hc args s hW0
    unfold zcode at h
    rw [if_pos hH, hR] at h
    exact h
  have hl9 : ∀ sig, parseMethodDescriptor (Y mj).desc = some sig → vs.length = sig.parameters.length := by
    intro sig hs
    rw [hs] at hn
    exact hlen.trans (Option.some.inj hn).symm
  rcases hl with h | ⟨host, h⟩
  · obtain ⟨mk, methM, cM, kP, vm₁, hnamed, -, -, -, -, -, -, -, hW₁, hstep₁⟩ := Steps.initColdArgs (e := e) X.here hexec X.warmed hpl hown hnm hy (h args s hW0) (him args s hW0) hcode (f := g) rfl hl9 hstack hdg
    exact ⟨vm₁, mk, hnamed, X.noted hW₁, hstep₁⟩
  · obtain ⟨mk, methM, cM, kP, vm₁, hnamed, -, -, -, -, -, -, -, hW₁, hstep₁⟩ := Steps.initColdArgsNest (e := e) X.here hexec X.warmed hpl hown hnm hy (h args s hW0) (him args s hW0) hcode (f := g) rfl hl9 hstack hdg
    exact ⟨vm₁, mk, hnamed, X.noted hW₁, hstep₁⟩
end ZI
