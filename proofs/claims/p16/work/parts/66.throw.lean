/-! throw new E("text") : the frame is seen anew from the heap as it is there -/
section ZT
variable {p : Program} {l : Launch} {e : Env} {R : Room} {s : State} {m : MethodId} {args : Array Value} {below : List Frame} {meth : Method} {c : Code} {T : State} {H : Heap} {locs : List Loc} {cells slots : Nat}
/-- the start of the method moved to the state at hand -/
def zhere (s T : State) (m : MethodId) (args : Array Value) (below : List Frame) : State := (T.setVm s.vm).setFrames (.invoking m args :: below)
theorem z_rebase (X : Stand p l e R s m args below meth c T locs cells slots) {nc ns : Nat} (hc : cells + nc ≤ R.cells) (hs : slots + ns ≤ R.slots) :
    Stand p l e { frames := R.frames, cells := nc, slots := ns, locals := R.locals } (zhere s T m args below) m args below meth c T [] 0 0 := by
  have htop : (T.setVm s.vm).topJava?.isSome := X.here.top
  have hfr : (zhere s T m args below).frames = .invoking m args :: below := State.frames_setFrames _ (State.cur_lt_of_top htop)
  obtain ⟨g₀, hg0⟩ := Option.isSome_iff_exists.mp htop
  obtain ⟨r, hr⟩ := State.topJava?_eq_some.mp hg0
  have hlim : e.platform.stackLimits (T.setVm s.vm).me = e.platform.stackLimits s.me := X.limits
  have hby : (T.setVm s.vm).me.stackBytes = s.me.stackBytes := X.bytes
  have hdrop : T.heap.toList.drop T.heap.size = [] := List.drop_eq_nil_of_le (Nat.le_of_eq Array.length_toList)
  have hroom : (zhere s T m args below).hasRoom e.platform { frames := R.frames, cells := nc, slots := ns, locals := R.locals } = true := by
    have h := X.room
    have hu : (zhere s T m args below).localsInUse = s.localsInUse := by
      rw [State.localsInUse_invoking hfr (meth := meth) (c := c) X.method X.code, State.localsInUse_invoking X.frames X.method X.code]
    have k1 := X.heapSize
    have k2 := X.used
    have k3 := X.book
    have e1 : (zhere s T m args below).heap.size = T.heap.size := rfl
    have e2 : (zhere s T m args below).slotsUsed = T.slotsUsed := rfl
    have e3 : (zhere s T m args below).slotsTrue = T.slotsTrue := rfl
    have e4 : (e.platform.stackLimits (zhere s T m args below).me) = e.platform.stackLimits s.me := by
      unfold zhere
      rw [State.stackLimits_setFrames, hlim]
    have e5 : (zhere s T m args below).me.stackBytes = s.me.stackBytes := by
      unfold zhere
      rw [State.stackBytes_setFrames, hby]
    simp only [State.hasRoom, Bool.and_eq_true, decide_eq_true_eq, X.frames, List.length_cons] at h
    simp only [State.hasRoom, Bool.and_eq_true, decide_eq_true_eq, hfr, List.length_cons, hu, e1, e2, e3, e4, e5]
    obtain ⟨⟨⟨⟨h1, h2, h3, h4, h5, h6⟩, h7⟩, h8⟩, h9⟩ := h
    exact ⟨⟨⟨⟨h1, h2, h3, h4, h5, h6⟩, by omega⟩, by omega⟩, k3⟩
  refine ⟨X.admits, X.cas, X.clock, hfr, hroom, X.hears, X.method, X.code, X.here, X.tail, X.warmed, ?_, ?_, ?_, Nat.le_refl _, Nat.le_refl _, ?_, ?_, fun a c9 h9 => ⟨c9, h9, rfl, rfl, fun _ _ => rfl⟩⟩
  · unfold zhere
    rw [State.stackLimits_setFrames]; rfl
  · unfold zhere
    rw [State.stackBytes_setFrames]; rfl
  · obtain ⟨t, ht, -⟩ := State.frames_cons hr
    show T.setVm s.vm = { (zhere s T m args below).setFrames (T.setVm s.vm).frames with heap := T.heap, slotsUsed := T.slotsUsed }
    unfold zhere
    rw [State.setFrames_setFrames, State.setFrames_self ht]
    rfl
  · show T.slotsUsed = T.slotsUsed + ((T.heap.toList.drop T.heap.size).map (·.slots.size)).sum
    rw [hdrop]; rfl
  · show ((T.heap.toList.drop T.heap.size).map (·.slots.size)).sum ≤ 0
    rw [hdrop]; exact Nat.le_refl _
/-- what holds at the start s0, and wherever the tables are those of s0, warmed, and the cells of s0 as they were -/
def zhS (s0 : State) (w : Cond) : Prop := ∀ (a : Array Value) (s : State), s0.WarmedH s.vm → s0.heap.size ≤ s.heap.size → (∀ q, q < s0.heap.size → s.heap[q]? = s0.heap[q]?) → w.before a s = true
/-- the five instructions of a throw, and their words -/
def zthr (s0 : State) (own : String) (cc : ByteArray) (pc : Nat) (E : String) : Prop :=
  ∃ (ik is ic : Nat) (text : String) (up : List String), decode cc pc = .ok (.new ik, 3) ∧ decode cc (pc + 3) = .ok (.dup, 1) ∧ decode cc (pc + 4) = .ok (.ldc is, 2) ∧ decode cc (pc + 6) = .ok (.invokespecial ic, 3) ∧ decode cc (pc + 9) = .ok (.athrow, 1) ∧
    Bundle.fit E = true ∧ (∀ n ∈ up, Bundle.fit n = true) ∧ up.length ≤ 4 ∧ zhS s0 (.classLink own ik E) ∧ zhS s0 (.initialized E) ∧ zhS s0 (.stringRef own is text) ∧ ∀ w ∈ Bundle.ownAtoms own ic E up, zhS s0 w
theorem z_throw {s0 : State} {cc : ByteArray} {pc : Nat} {ls : Array Slot} {rest : List Value} {own E : String} (X : Stand p l e R s m args below meth c T locs cells slots) (hexec : p.tables.exec = Jvm.exec) (hb : c.code = cc) (hl : l.stackTraces = false)
    (hown : s.vm.findClass own = some m.cls) (hW0 : s0.WarmedH s.vm) (hB : s0.heap.size ≤ T.heap.size) (hq0 : ∀ q, q < s0.heap.size → T.heap[q]? = s0.heap[q]?) (hZ : zthr s0 own cc pc E) (hsize : ls.size = c.maxLocals) (hout : c.exceptionTable.toList = [])
    (hlocks : meth.locks = false) (hframes : 8 ≤ R.frames) (hlocals : (rest.map fun v => v.category).sum + 120 ≤ R.locals) (hcells : cells + 1 ≤ R.cells) (hslots : slots + 6 ≤ R.slots) :
    ∃ (U : State) (ce : Cell), Steps p.tables e below (T.setTop (F0 m pc ls rest)) U ∧ U.status = .running ∧ Ended U below (.threw T.heap.size) ∧ s.WarmedH U.vm ∧ s.sameButNew ({ U with vm := s.vm } : State) locs (cells + 1) (slots + 6) ∧
      U.heap.size = T.heap.size + 1 ∧ (∀ q, q < T.heap.size → U.heap[q]? = T.heap[q]?) ∧ U.heap[T.heap.size]? = some ce ∧ ce.vm = .none ∧ s.vm.findClass E = some ce.cls := by
  obtain ⟨ik, is, ic, text, up, d0, d3, d4, d6, d9, hfE, hfu, hup, wk, wi, ws, wa⟩ := hZ
  have htr : e.platform.stackTraces = false := (show e.platform.stackTraces = l.stackTraces by rw [X.admits.platform]).trans hl
  have Z := z_rebase X (nc := 1) (ns := 6) hcells hslots
  obtain ⟨s', hs'⟩ : ∃ z, z = zhere s T m args below := ⟨_, rfl⟩
  rw [← hs'] at Z
  have hvm : s'.vm = s.vm := by rw [hs']; rfl
  have hhp : s'.heap = T.heap := by rw [hs']; rfl
  have at' : ∀ w, zhS s0 w → w.before args s' = true := fun w hw => hw args s' (by rw [hvm]; exact hW0) (by rw [hhp]; exact hB) (fun q hq => by rw [hhp]; exact hq0 q hq)
  have hown' : s'.vm.findClass own = some m.cls := by rw [hvm]; exact hown
  have hins : (Cond.instantiable E 6).before args s' = true := at' _ (wa _ (by simp [Bundle.ownAtoms]))
  obtain ⟨vm₁, cX, kX, hfX, hkX, -, -, X₁, st1⟩ := Z.newCold hexec (own := own) (C := E) (index := ik) (n := 6) hown' (at' _ wk) hins (at' _ wi) (g := F0 m pc ls rest) rfl (by rw [hb]; exact d0) (Nat.le_refl _) (Nat.le_refl _)
  generalize hT1 : (T.setVm vm₁).pushCell { cls := cX, slots := kX.instanceTypes.map defaultValue, vm := .none } = T1 at X₁ st1
  have hcellA : T1.heap[T.heap.size]? = some (freshCell cX kX) := by rw [← hT1]; exact State.heap_pushCell_size _ _
  have hconst := at' _ ws
  obtain ⟨-, -, -, sa, -, -, -, -, -, hev⟩ := Cond.stringRef_spec hown' hconst
  have hcat : (Value.ref T.heap.size).category = 1 := rfl
  obtain ⟨U, hsteps, hrun, hend, hW, hsame, ce, hce, hO⟩ := X₁.ctorThrowS hexec htr (own := own) (cls := E) (names := up) (ic := ic) hown' hfE hfu (fun w hw => at' w (wa w hw)) (fun x hx => nomatch hx) hfX hkX hcellA (by rw [hhp]; exact Nat.le_refl _) (msg := .ref sa) rfl
    (g := { method := m, pc := pc + 6, locals := ls, stack := .ref sa :: .ref T.heap.size :: .ref T.heap.size :: rest, locked := none }) rfl hsize rfl rfl (rest := rest) rfl (by rw [hb]; exact d6) (by rw [hb]; exact d9) (fun x hx => by rw [hout] at hx; cases hx)
    (by show up.length + 3 < R.frames; omega) (by show 2 * 0 + _ + _ ≤ R.locals; simp only [List.map_cons, List.sum_cons, hcat]; omega) hlocks
  obtain ⟨e1, e2, e3, e4, e5, e6⟩ := hsame
  have hsz : U.heap.size = T.heap.size + 1 := by
    have g1 : s'.heap.size ≤ U.heap.size := e2
    have g2 : U.heap.size ≤ s'.heap.size + (0 + 1) := e3
    have g3 : T.heap.size < U.heap.size := (Array.getElem?_eq_some_iff.mp hce).1
    rw [hhp] at g1 g2
    omega
  have hkeep : ∀ q, q < T.heap.size → U.heap[q]? = T.heap[q]? := by
    intro q hq
    obtain ⟨c9, f1, f2, f3, f4⟩ := e6 q _ (by rw [hhp]; exact Array.getElem?_eq_getElem hq)
    have hslots : c9.slots = (T.heap[q]).slots := Array.ext_getElem? fun i => f4 i (fun hm => nomatch hm)
    rw [hslots] at f2
    have f5 : U.heap[q]? = some c9 := f1
    rw [f5, f2, Array.getElem?_eq_getElem hq]
  refine ⟨U, ce, ?_, hrun, hend, ?_, ?_, hsz, hkeep, hce, hO.vm, ?_⟩
  · refine st1 _ ?_
    show Steps p.tables e below (T1.setTop { method := m, pc := pc + 3, locals := ls, stack := .ref T.heap.size :: rest, locked := none }) _
    have d3' : decode c.code (pc + 3) = .ok (.dup, 1) := by rw [hb]; exact d3
    jvm_step X₁.here [X₁.here.top, hexec, d3', Value.category]
    exact X₁.ldcString hexec (own := own) (text := text) (index := is) (a := sa) hown' hconst hev
      (g := { method := m, pc := pc + 4, locals := ls, stack := .ref T.heap.size :: .ref T.heap.size :: rest, locked := none }) rfl (by rw [hb]; exact d4) _ hsteps
  · have hW9 : s'.WarmedH U.vm := hW
    have hss : s.WarmedH s'.vm := by rw [hvm]; exact State.WarmedH.refl s
    exact State.WarmedH.trans hss hW9
  · subst hs'
    have e1' := e1
    unfold zhere at e1'
    rw [State.setFrames_setFrames] at e1'
    have h2 : (T.setVm s.vm).sameButNew ({ U with vm := s.vm } : State) [] (0 + 1) (0 + 6) := ⟨e1', e2, e3, e4, e5, e6⟩
    have h3 := X.same.trans h2
    rw [List.append_nil] at h3
    exact h3.mono (by omega) (by omega)
  · have h9 := hO.cls
    rw [hvm] at h9
    exact h9
end ZT
