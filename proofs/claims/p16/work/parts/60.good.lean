/-! CALLS: into a method and out of it; what a run of symbols says of the machine -/
theorem zSteps_weaken {tb : Tables} {e : Env} {f : Frame} {below : List Frame} {a b : State} (h : Steps tb e (f :: below) a b) : Steps tb e below a b := by
  obtain ⟨k, h1, h2⟩ := h
  exact ⟨k, h1, fun j hj => Within.weaken (mid := [f]) (h2 j hj)⟩
section ZC
variable (nl : Nat → Nat) (Y : Nat → MethodName) (Bt : Nat → ByteArray) (Hh : Nat → List (Nat × Nat × Nat × Nat)) (Rt : Nat → Option FieldType) (Rm : Nat → Room) (Ex : Nat → String)
variable (l : Launch) (s0 : State) (D : va_G) (ca : Nat → ClassId)
/-- the method mi, at its start s -/
def zctx (mi : Nat) (p : Program) (s : State) (m : MethodId) (meth : Method) (c : Code) : Prop :=
  p.tables.exec = Jvm.exec ∧ s0.WarmedH s.vm ∧ s0.heap.size ≤ s.heap.size ∧ (∀ q, q < s0.heap.size → s.heap[q]? = s0.heap[q]?) ∧ s.vm.findClass (Y mi).cls = some m.cls ∧ c.code = Bt mi ∧ c.maxLocals = nl mi ∧
  meth.sig.returnType = Rt mi ∧ meth.locks = false ∧ ((Y mi).name = "<init>" → meth.name = "<init>") ∧ c.exceptionTable.toList = tableOf (Hh mi)
/-- a method's code, as the tables have it -/
def zcode (mi : Nat) : Cond := if Hh mi = [] then .code (Y mi) (Bt mi) (nl mi) (Rt mi) else .codeWith (Y mi) (Bt mi) (nl mi) (Rt mi) (Hh mi)
/-- how a method ends -/
def zMQ (below : List Frame) (s : State) (mc ms : Nat) (P : Option Value ⊕ Nat → zW → Prop) : State → Prop := fun t =>
  ∃ o, t.status = .running ∧ Ended t below o ∧ s.WarmedH t.vm ∧ (∀ q, q < s0.heap.size → t.heap[q]? = s.heap[q]?) ∧ (∃ Lc : List Loc, s.sameButNew ({ t with vm := s.vm } : State) Lc mc ms ∧ ∀ q ∈ Lc, s0.heap.size ≤ q.base) ∧
    ((∃ v u, o = .returned v ∧ P (.inl v) u ∧ zP D ca s0.heap.size u t.heap) ∨ ∃ q k u ce, o = .threw q ∧ P (.inr k) u ∧ zP D ca s0.heap.size u t.heap ∧ t.heap[q]? = some ce ∧ ce.vm = .none ∧ s.vm.findClass (Ex k) = some ce.cls)
theorem zcode_spec {mi : Nat} {s : State} {args : Array Value} {mk : MethodId} (hn : s.methodNamed? (Y mi) = some mk) (h : (zcode nl Y Bt Hh Rt mi).before args s = true) :
    ∃ meth c, s.vm.method? mk = some meth ∧ meth.code = some c ∧ c.code = Bt mi ∧ c.maxLocals = nl mi ∧ meth.sig.returnType = Rt mi ∧ meth.locks = false ∧ c.exceptionTable.toList = tableOf (Hh mi) ∧ parseMethodDescriptor (Y mi).desc = some meth.sig := by
  unfold zcode at h
  split at h
  · rename_i h0
    obtain ⟨meth, c, h1, h2, h3, h4, h5, h6, h7, h8⟩ := Cond.code_spec hn h
    refine ⟨meth, c, h1, h2, h3, h4, h5, h6, ?_, h8⟩
    rw [h0, Array.isEmpty_iff.mp h7]
    rfl
  · obtain ⟨m9, meth, c, hn9, h1, h2, h3, h4, h5, h6, h7, h8⟩ := Cond.codeWith_spec h
    cases hn.symm.trans hn9
    exact ⟨meth, c, h1, h2, h3, h4, h6, h7, by rw [← h5, table_eq], h8⟩
variable {nl Y Bt Hh Rt Rm Ex l s0 D ca}
theorem z_back {p : Program} {e : Env} {R : Room} {s : State} {m : MethodId} {args : Array Value} {below : List Frame} {meth : Method} {c : Code} {T : State} {locs : List Loc} {cells slots : Nat}
    (X : Stand p l e R s m args below meth c T locs cells slots) (hexec : p.tables.exec = Jvm.exec) (hW0 : s0.WarmedH s.vm) (hB : s0.heap.size ≤ T.heap.size) (hq0 : ∀ q, q < s0.heap.size → T.heap[q]? = s0.heap[q]?)
    {g : JFrame} (hg : g.method = m) (hsize : g.locals.size = c.maxLocals) {ig : Instr} (hdg : decode c.code g.pc = .ok (ig, 3)) {mj : Nat} {mk : MethodId} (hn : T.methodNamed? (Y mj) = some mk) (hpl : plainFor (Y mj) = true) {vs : List Value}
    (hcode : (zcode nl Y Bt Hh Rt mj).before vs.toArray T = true) (hframes : (Rm mj).frames + 1 ≤ R.frames) (hlocals : 2 * g.monitorRoom + (g.stack.map fun v => v.category).sum + (nl mj + 11) + (Rm mj).locals ≤ R.locals)
    (hcells : cells + (Rm mj).cells ≤ R.cells) (hslots : slots + (Rm mj).slots ≤ R.slots) {P : Option Value ⊕ Nat → zW → Prop}
    (hcallee : ∀ (s' : State) (meth' : Method) (c' : Code), zctx nl Y Bt Hh Rt s0 mj p s' mk meth' c' → s'.heap = T.heap →
      W p l e (Rm mj) s' mk vs.toArray (.java g :: below) meth' c' T.heap [] 0 0 (zMQ Ex s0 D ca (.java g :: below) s' (Rm mj).cells (Rm mj).slots P) (entryFrame mk vs.toArray (nl mj))) :
    ∃ (T' : State) (Lc : List Loc), Stand p l e R s m args below meth c T' (locs ++ Lc) (cells + (Rm mj).cells) (slots + (Rm mj).slots) ∧ (∀ q ∈ Lc, s0.heap.size ≤ q.base) ∧ (∀ q, q < s0.heap.size → T'.heap[q]? = T.heap[q]?) ∧ T.heap.size ≤ T'.heap.size ∧
      ((∃ v u, P (.inl v) u ∧ zP D ca s0.heap.size u T'.heap ∧ ∀ acts, Steps p.tables e below (doInvoke e (T.setTop g) acts mk vs.toArray).1 (T'.setTop { g with pc := g.pc + 3, stack := v.toList ++ g.stack })) ∨
       ∃ q k u ce, P (.inr k) u ∧ zP D ca s0.heap.size u T'.heap ∧ T'.heap[q]? = some ce ∧ ce.vm = .none ∧ s.vm.findClass (Ex k) = some ce.cls ∧ ∀ acts, Steps p.tables e below (doInvoke e (T.setTop g) acts mk vs.toArray).1 ((T'.setTop g).pushFrame (.throwing q))) := by
  obtain ⟨methk, ck, h1, h2, h3, h4, h5, h6, h7, h8⟩ := zcode_spec nl Y Bt Hh Rt hn hcode
  obtain ⟨hnm, -⟩ := name_of_methodNamed hn h1
  obtain ⟨Y₀, hin⟩ := X.into hg hsize hdg vs.toArray (R' := Rm mj) h1 h2 h6 (State.plainMethod.of_named hpl hn h1) hframes (by rw [h4]; exact hlocals) hcells hslots
  have hcx : zctx nl Y Bt Hh Rt s0 mj p (T.calling g mk vs.toArray) mk methk ck := by
    refine ⟨hexec, State.WarmedH.trans hW0 X.warmed, hB, hq0, ?_, h3, h4, h5, h6, fun h => hnm.trans h, h7⟩
    exact findClass_of_methodNamed hn
  have hh : ((T.setTop g).pushFrame (.java (entryFrame mk vs.toArray ck.maxLocals))).heap = T.heap := rfl
  obtain ⟨t, hst, o, hrun, hend, hWt, hqt, ⟨Lc, hsm, hL⟩, hout⟩ := hcallee _ methk ck hcx rfl _ hh Y₀
  rw [h4] at hin
  rcases hout with ⟨v, u, rfl, hP, hz⟩ | ⟨q, k, u, ce, rfl, hP, hz, hce, hcv, hcl⟩
  · obtain ⟨T', X', hWT, hsame, ht⟩ := X.outOf hg hdg hend hWt hsm
    have hheap : t.heap = T'.heap := by rw [ht]; rfl
    refine ⟨T', Lc, X', hL, fun q hq => by rw [← hheap]; exact hqt q hq, hsame.2.1, Or.inl ⟨v, u, hP, by rw [← hheap]; exact hz, fun acts => ?_⟩⟩
    rw [hin acts, ← ht]
    rw [h4] at hst
    exact zSteps_weaken hst
  · obtain ⟨T', X', hWT, hsame, ht⟩ := X.outOfThrown hg hend hWt hsm
    have hheap : t.heap = T'.heap := by rw [ht, Stand.throwing_heap]
    refine ⟨T', Lc, X', hL, fun q hq => by rw [← hheap]; exact hqt q hq, hsame.2.1, Or.inr ⟨q, k, u, ce, hP, by rw [← hheap]; exact hz, by rw [← hheap]; exact hce, hcv, ?_, fun acts => ?_⟩⟩
    · have h9 : T.vm.findClass (Ex k) = some ce.cls := hcl
      rw [X.warmed.alike.findClass] at h9
      exact h9
    · rw [hin acts, ← ht]
      rw [h4] at hst
      exact zSteps_weaken hst
end ZC
