/-! CALLS: a callee that ends as P' says, and the way on from there -/
section CC
variable (nl : Nat → Nat) (Y : Nat → MethodName) (Bt : Nat → ByteArray) (Hh : Nat → List (Nat × Nat × Nat × Nat)) (Rt : Nat → Option FieldType) (Rm : Nat → Room) (Ex : Nat → String)
variable (l : Launch) (s0 : State) (D : va_G) (ca : Nat → ClassId)
def zMQ2 (below : List Frame) (s : State) (P : cP) : State → Prop := fun t =>
  ∃ o n, t.status = .running ∧ Ended t below o ∧ s.WarmedH t.vm ∧ (∀ q, q < s0.heap.size → t.heap[q]? = s.heap[q]?) ∧ (∃ Lc : List Loc, s.sameButNew ({ t with vm := s.vm } : State) Lc n (6 * n) ∧ ∀ q ∈ Lc, s0.heap.size ≤ q.base) ∧
    ((∃ v u, o = .returned v ∧ P (.inl v) u n ∧ zP D ca s0.heap.size u t.heap) ∨ ∃ q k u ce, o = .threw q ∧ P (.inr k) u n ∧ zP D ca s0.heap.size u t.heap ∧ t.heap[q]? = some ce ∧ ce.vm = .none ∧ s.vm.findClass (Ex k) = some ce.cls)
variable {nl Y Bt Hh Rt Rm Ex l s0 D ca}
theorem z_back2 {p : Program} {e : Env} {R : Room} {s : State} {m : MethodId} {args : Array Value} {below : List Frame} {meth : Method} {c : Code} {T : State} {locs : List Loc} {cells slots : Nat}
    (X : Stand p l e R s m args below meth c T locs cells slots) (hexec : p.tables.exec = Jvm.exec) (hW0 : s0.WarmedH s.vm) (hB : s0.heap.size ≤ T.heap.size) (hq0 : ∀ q, q < s0.heap.size → T.heap[q]? = s0.heap[q]?)
    {g : JFrame} (hg : g.method = m) (hsize : g.locals.size = c.maxLocals) {ig : Instr} (hdg : decode c.code g.pc = .ok (ig, 3)) {mj : Nat} {mk : MethodId} (hn : T.methodNamed? (Y mj) = some mk) (hpl : plainFor (Y mj) = true) {vs : List Value}
    (hcode : (zcode nl Y Bt Hh Rt mj).before vs.toArray T = true) (hframes : (Rm mj).frames + 1 ≤ R.frames) (hlocals : 2 * g.monitorRoom + (g.stack.map fun v => v.category).sum + (nl mj + 11) + (Rm mj).locals ≤ R.locals)
    (hcells : cells + (Rm mj).cells ≤ R.cells) (hslots : slots + (Rm mj).slots ≤ R.slots) {P : cP}
    (hcallee : ∀ (s' : State) (meth' : Method) (c' : Code), zctx nl Y Bt Hh Rt s0 mj p s' mk meth' c' → s'.heap = T.heap →
      W p l e (Rm mj) s' mk vs.toArray (.java g :: below) meth' c' T.heap [] 0 0 (zMQ2 Ex s0 D ca (.java g :: below) s' P) (entryFrame mk vs.toArray (nl mj))) :
    ∃ (T' : State) (Lc : List Loc) (n : Nat), Stand p l e R s m args below meth c T' (locs ++ Lc) (cells + n) (slots + 6 * n) ∧ (∀ q ∈ Lc, s0.heap.size ≤ q.base) ∧ (∀ q, q < s0.heap.size → T'.heap[q]? = T.heap[q]?) ∧ T.heap.size ≤ T'.heap.size ∧
      ((∃ v u, P (.inl v) u n ∧ zP D ca s0.heap.size u T'.heap ∧ ∀ acts, Steps p.tables e below (doInvoke e (T.setTop g) acts mk vs.toArray).1 (T'.setTop { g with pc := g.pc + 3, stack := v.toList ++ g.stack })) ∨
       ∃ q k u ce, P (.inr k) u n ∧ zP D ca s0.heap.size u T'.heap ∧ T'.heap[q]? = some ce ∧ ce.vm = .none ∧ s.vm.findClass (Ex k) = some ce.cls ∧ ∀ acts, Steps p.tables e below (doInvoke e (T.setTop g) acts mk vs.toArray).1 ((T'.setTop g).pushFrame (.throwing q))) := by
  obtain ⟨methk, ck, h1, h2, h3, h4, h5, h6, h7, h8⟩ := zcode_spec nl Y Bt Hh Rt hn hcode
  obtain ⟨hnm, -⟩ := name_of_methodNamed hn h1
  obtain ⟨Y₀, hin⟩ := X.into hg hsize hdg vs.toArray (R' := Rm mj) h1 h2 h6 (State.plainMethod.of_named hpl hn h1) hframes (by rw [h4]; exact hlocals) hcells hslots
  have hcx : zctx nl Y Bt Hh Rt s0 mj p (T.calling g mk vs.toArray) mk methk ck := by
    refine ⟨hexec, State.WarmedH.trans hW0 X.warmed, hB, hq0, ?_, h3, h4, h5, h6, fun h => hnm.trans h, h7⟩
    exact findClass_of_methodNamed hn
  have hh : ((T.setTop g).pushFrame (.java (entryFrame mk vs.toArray ck.maxLocals))).heap = T.heap := rfl
  obtain ⟨t, hst, o, n, hrun, hend, hWt, hqt, ⟨Lc, hsm, hL⟩, hout⟩ := hcallee _ methk ck hcx rfl _ hh Y₀
  rw [h4] at hin
  rcases hout with ⟨v, u, rfl, hP, hz⟩ | ⟨q, k, u, ce, rfl, hP, hz, hce, hcv, hcl⟩
  · obtain ⟨T', X', hWT, hsame, ht⟩ := X.outOf hg hdg hend hWt hsm
    have hheap : t.heap = T'.heap := by rw [ht]; rfl
    refine ⟨T', Lc, n, X', hL, fun q hq => by rw [← hheap]; exact hqt q hq, hsame.2.1, Or.inl ⟨v, u, hP, by rw [← hheap]; exact hz, fun acts => ?_⟩⟩
    rw [hin acts, ← ht]
    rw [h4] at hst
    exact zSteps_weaken hst
  · obtain ⟨T', X', hWT, hsame, ht⟩ := X.outOfThrown hg hend hWt hsm
    have hheap : t.heap = T'.heap := by rw [ht, Stand.throwing_heap]
    refine ⟨T', Lc, n, X', hL, fun q hq => by rw [← hheap]; exact hqt q hq, hsame.2.1, Or.inr ⟨q, k, u, ce, hP, by rw [← hheap]; exact hz, by rw [← hheap]; exact hce, hcv, ?_, fun acts => ?_⟩⟩
    · have h9 : T.vm.findClass (Ex k) = some ce.cls := hcl
      rw [X.warmed.alike.findClass] at h9
      exact h9
    · rw [hin acts, ← ht]
      rw [h4] at hst
      exact zSteps_weaken hst
end CC
section CD
variable {M : xM} {Y : Nat → MethodName} {Bt : Nat → ByteArray} {Hh : Nat → List (Nat × Nat × Nat × Nat)} {Rt : Nat → Option FieldType} {Rm : Nat → Room} {Ex : Nat → String}
variable {l : Launch} {s0 : State} {D : va_G} {ca : Nat → ClassId} {sb : Nat → Nat}
theorem zMQ2_of {below : List Frame} {s : State} {args : Array Value} {n slots : Nat} {P : cP} {H : Heap} {v : Option Value} {u : zW} (hs : slots ≤ 6 * n) (hP : P (.inl v) u n) (hz : zP D ca s0.heap.size u H) (hq : ∀ q, q < s0.heap.size → H[q]? = s.heap[q]?) (t : State)
    (h : MQ below (fun _ _ o t => o = .returned v ∧ t.heap = H) args s n slots (fun q => s0.heap.size ≤ q) t) : zMQ2 Ex s0 D ca below s P t := by
  obtain ⟨o, h1, h2, ⟨rfl, h3⟩, L9, ⟨-, hW, hsm⟩, hL⟩ := h
  exact ⟨_, n, h1, h2, hW, fun q hq9 => by rw [h3]; exact hq q hq9, ⟨L9, hsm.mono (Nat.le_refl _) hs, hL⟩, Or.inl ⟨v, u, rfl, hP, by rw [h3]; exact hz⟩⟩
theorem cends_MQ (hl : l.stackTraces = false) {P : cP} {mi : Nat} (hsb : sb mi = 0) {p : Program} {e : Env} {s : State} {m : MethodId} {args : Array Value} {below : List Frame} {meth : Method} {c : Code} (C : zcx M Y Bt Hh Rt s0 mi p s m meth c) :
    cends M Y Bt Hh Rt Rm Ex l s0 D ca sb P mi p e s m args below meth c (zMQ2 Ex s0 D ca below s P) := by
  refine ⟨fun v u n hv H locs ls pc hz hS hd => ?_, fun k u n hk u0 H locs ls pc n0 rest hu0 hn0 hc hs hz hS hsz hth hfr hlo hH hrest => ?_⟩
  · have hq0 : ∀ q, q < s0.heap.size → H[q]? = s.heap[q]? := fun q hq => hS.2.1 q (Nat.lt_of_lt_of_le hq C.2.2.1) (Nat.not_le.mpr hq)
    have hrt := C.2.2.2.2.2.2.2.1
    have hlk := C.2.2.2.2.2.2.2.2.1
    have h6 : sb mi + 6 * n ≤ 6 * n := by omega
    rcases hd with ⟨z, rfl, hdg, hr⟩ | ⟨z, rfl, hdg, hr⟩ | ⟨rfl, hdg, hr⟩
    · rcases hr with hr | ⟨hr, h01⟩ | ⟨ty, hr, hnc⟩
      · exact zW_mono (W.iret (Qc := fun _ _ o t => o = .returned (some (.int z)) ∧ t.heap = H) (free := fun q => s0.heap.size ≤ q) C.1 C.2.2.2.2.2.1 (hrt.trans hr) (fun t ht _ => ⟨rfl, ht⟩) hS.2.2 hdg hlk) (zMQ2_of h6 hv hz hq0)
      · exact zW_mono (W.zret (ty := .boolean) (Qc := fun _ _ o t => o = .returned (some (.int z)) ∧ t.heap = H) (free := fun q => s0.heap.size ≤ q) C.1 C.2.2.2.2.2.1 (hrt.trans hr) (by rcases h01 with rfl | rfl <;> decide) (fun t ht _ => ⟨rfl, ht⟩) hS.2.2 hdg hlk) (zMQ2_of h6 hv hz hq0)
      · exact zW_mono (W.zret (ty := ty) (Qc := fun _ _ o t => o = .returned (some (.int z)) ∧ t.heap = H) (free := fun q => s0.heap.size ≤ q) C.1 C.2.2.2.2.2.1 (hrt.trans hr) hnc (fun t ht _ => ⟨rfl, ht⟩) hS.2.2 hdg hlk) (zMQ2_of h6 hv hz hq0)
    · exact zW_mono (W.lret (Qc := fun _ _ o t => o = .returned (some (.long z)) ∧ t.heap = H) (free := fun q => s0.heap.size ≤ q) C.1 C.2.2.2.2.2.1 (hrt.trans hr) (fun t ht _ => ⟨rfl, ht⟩) hS.2.2 hdg hlk) (zMQ2_of h6 hv hz hq0)
    · exact zW_mono (W.vret (Qc := fun _ _ o t => o = .returned none ∧ t.heap = H) (free := fun q => s0.heap.size ≤ q) C.1 C.2.2.2.2.2.1 (hrt.trans hr) (fun t ht _ => ⟨rfl, ht⟩) hS.2.2 hdg hlk) (zMQ2_of h6 hv hz hq0)
  · intro T hT X
    subst hT
    have hq0 : ∀ q, q < s0.heap.size → T.heap[q]? = s.heap[q]? := fun q hq => hS.2.1 q (Nat.lt_of_lt_of_le hq C.2.2.1) (Nat.not_le.mpr hq)
    obtain ⟨U, ce, hst, hrun, hend, hW, hsm, hsize, hkeep, hce, hcv, hcl⟩ := z_throw (own := (Y mi).cls) (rest := rest) X C.1 C.2.2.2.2.2.1 hl C.2.2.2.2.1 C.2.1 (by rw [hz.1]; exact hz.2.1) (fun q hq => (hq0 q hq).trans (C.2.2.2.1 q hq)) hth (by rw [C.2.2.2.2.2.2.1]; exact hsz)
      (by rw [C.2.2.2.2.2.2.2.2.2.2, hH]; rfl) C.2.2.2.2.2.2.2.2.1 hfr (by omega) (by omega) (by omega)
    refine ⟨U, hst, .threw T.heap.size, n, hrun, hend, hW, fun q hq9 => ?_, ⟨locs, hsm.mono hn0 (by omega), hS.2.2⟩, Or.inr ⟨T.heap.size, k, u, ce, rfl, hk, ?_, hce, hcv, hcl⟩⟩
    · rw [hkeep q (Nat.lt_of_lt_of_le hq9 (by rw [hz.1]; exact hz.2.1))]
      exact hq0 q hq9
    · rw [hu0]
      refine zP_new hz (by rw [hsize, hz.1]) (fun q hq => hkeep q (by rw [hz.1]; exact hq)) ?_
      unfold zat
      rw [if_neg (by decide), if_neg (by decide)]
      exact ⟨ce, by rw [← hz.1]; exact hce, hcv⟩
theorem cg_call (hl : l.stackTraces = false) (hH : zhnd M Y Hh Ex s0) {mi mj pc n : Nat} {lv : List (Nat × Value)} {st va vr : List Value} {u : zW} {P P' : cP} {ig : Instr}
    (hd : decode (Bt mi) pc = .ok (ig, 3)) (hcal : zcal M Y Bt Hh Rt Rm s0 mi mj) (hsb : sb mj = 0) (hcc : n + (Rm mj).cells ≤ (Rm mi).cells) (hss : sb mi + 6 * n + (Rm mj).slots ≤ (Rm mi).slots) (hr8 : (vr.map fun v => v.category).sum ≤ 8) (ha9 : (lg_sl va).length ≤ M.2.1 mj)
    (hgo : ∀ (p : Program) (e : Env) (s : State) (m : MethodId) (args : Array Value) (below : List Frame) (meth : Method) (c : Code) (H : Heap) (locs : List Loc) (ls : Array Slot) (T : State), zcx M Y Bt Hh Rt s0 mi p s m meth c → zP D ca s0.heap.size u H → T.heap = H → Stand p l e (Rm mi) s m args below meth c T locs n (sb mi + 6 * n) →
      zgoes p l e (Rm mi) s m args below meth c T locs n (sb mi + 6 * n) (Y mj) (F0 m pc ls st) va vr)
    (hcallee : cG M Y Bt Hh Rt Rm Ex l s0 D ca sb mj 0 (lv_args 0 va) [] u 0 P') (hret : ∀ v u' k, P' (.inl v) u' k → cG M Y Bt Hh Rt Rm Ex l s0 D ca sb mi (pc + 3) lv (v.toList ++ vr) u' (n + k) P)
    (hthr : ∀ k u' i, P' (.inr k) u' i → ∃ h, M.2.2.2.2.2.2.2.2 mi pc k = some h ∧ ∀ q : Nat, cG M Y Bt Hh Rt Rm Ex l s0 D ca sb mi h lv [.ref q] u' (n + i) P) : cG M Y Bt Hh Rt Rm Ex l s0 D ca sb mi pc lv st u n P := by
  intro p e s m args below meth c Q C hx H locs ls hP hS hL T hT X
  obtain ⟨vm₁, mk, hnm, X₁, hstep⟩ := hgo p e s m args below meth c H locs ls T C hP hT X
  have hh1 : (T.setVm vm₁).heap = H := hT
  have hq0 : ∀ q, q < s0.heap.size → H[q]? = s0.heap[q]? := fun q hq => (hS.2.1 q (Nat.lt_of_lt_of_le hq C.2.2.1) (Nat.not_le.mpr hq)).trans (C.2.2.2.1 q hq)
  have hcl : ∀ (s' : State) (meth' : Method) (c' : Code), zctx M.2.1 Y Bt Hh Rt s0 mj p s' mk meth' c' → s'.heap = (T.setVm vm₁).heap →
      W p l e (Rm mj) s' mk va.toArray (.java (F0 m pc ls vr) :: below) meth' c' (T.setVm vm₁).heap [] 0 0 (zMQ2 Ex s0 D ca (.java (F0 m pc ls vr) :: below) s' P') (entryFrame mk va.toArray (M.2.1 mj)) := by
    intro s' meth' c' C' hh'
    rw [lg_entry_eq]
    have hle := lv_entry va (n := M.2.1 mj) ha9
    have := hcallee p e s' mk va.toArray (.java (F0 m pc ls vr) :: below) meth' c' _ C' (cends_MQ hl hsb C') (T.setVm vm₁).heap [] _ (by rw [hh1]; exact hP) (by rw [hh']; exact va_S.rf) hle
    rw [hsb] at this
    exact this
  obtain ⟨T', Lc, k9, X', hLc, hqT, hsz, hout⟩ := z_back2 (nl := M.2.1) (Y := Y) (Bt := Bt) (Hh := Hh) (Rt := Rt) (Rm := Rm) (Ex := Ex) (s0 := s0) (D := D) (ca := ca) X₁ C.1 C.2.1 (by rw [hh1, hP.1]; exact hP.2.1) (fun q hq => by rw [hh1]; exact hq0 q hq) (g := F0 m pc ls vr) rfl (by rw [C.2.2.2.2.2.2.1]; exact hL.1) (by rw [C.2.2.2.2.2.1]; exact hd)
    (X₁.named hnm) hcal.1 (vs := va) (hcal.2.1 _ _ (State.WarmedH.trans C.2.1 X₁.warmed)) hcal.2.2.1 (by have h9 := hcal.2.2.2; show 2 * 0 + (vr.map fun v => v.category).sum + (M.2.1 mj + 11) + (Rm mj).locals ≤ (Rm mi).locals; omega) hcc hss hcl
  have hST : va_S (fun q => s0.heap.size ≤ q) s.heap T'.heap (locs ++ Lc) := by
    refine ⟨Nat.le_trans hS.1 (by rw [← hh1]; exact hsz), fun q h1 h2 => ?_, fun z hz => ?_⟩
    · rw [hqT q (Nat.not_le.mp h2), hh1]
      exact hS.2.1 q h1 h2
    · rcases List.mem_append.mp hz with h | h
      · exact hS.2.2 z h
      · exact hLc z h
  have e6 : sb mi + 6 * n + 6 * k9 = sb mi + 6 * (n + k9) := by omega
  rw [e6] at X'
  rcases hout with ⟨v, u9, hp9, hz9, hsteps⟩ | ⟨a9, k, u9, ce, hp9, hz9, hce, hcv, hcf, hsteps⟩
  · obtain ⟨t, g1, g2⟩ := hret v u9 k9 hp9 p e s m args below meth c Q C hx T'.heap (locs ++ Lc) ls hz9 hST hL T' rfl X'
    exact ⟨t, hstep t (fun acts => (hsteps acts).trans g1), g2⟩
  · obtain ⟨h, hh, hgood⟩ := hthr k u9 k9 hp9
    have hpl : e.platform.magicAccessors = ({} : Platform).magicAccessors := by rw [X.admits.platform]
    have hse := hH mi pc k h hh s e.platform C.2.1 hpl m.cls ce.cls C.2.2.2.2.1 hcf
    obtain ⟨k8, hk8, -⟩ := Vm.findClass_spec hcf
    obtain ⟨vm', X9, st9⟩ := z_caught X' a9 (g := F0 m pc ls vr) rfl hce hcv hk8 (h := h) (by rw [C.2.2.2.2.2.2.2.2.2.2]; exact hse)
    obtain ⟨t, g1, g2⟩ := hgood a9 p e s m args below meth c Q C hx T'.heap (locs ++ Lc) ls hz9 hST hL (T'.setVm vm') rfl X9
    exact ⟨t, hstep t (fun acts => (hsteps acts).trans (st9 t g1)), g2⟩
end CD
