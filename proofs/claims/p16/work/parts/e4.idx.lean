/-! A SEARCH IN A LITERAL: the library's own methods, walked by hand -/
section GI
variable {l : Launch} {s0 : State} {D : va_G} {ca : Nat → ClassId} {u : zW} {n pc mi : Nat} {lv : List (Nat × Value)} {st : List Value} {P : cP} {q t N : Nat} {byt : Nat → Int32}
def wSt : String := "java/lang/String"
def wSl : String := "java/lang/StringLatin1"
/-- what the words say of the library's methods -/
def wS (s0 : State) : Prop :=
  (zh s0 (.fieldLink "java/lang/String" 38 "java/lang/String" "COMPACT_STRINGS" "Z") ∧ zh s0 (.fieldLink "java/lang/String" 15 "java/lang/String" "coder" "B") ∧ zh s0 (.fieldLink "java/lang/String" 9 "java/lang/String" "value" "[B")) ∧
  va_Z "java/lang/String" "COMPACT_STRINGS" "Z" (.int 1) (fun x => s0.heap.size ≤ x) s0 s0.heap ∧
  (∀ j, 214 ≤ j → j ≤ 222 → plainFor (tY j) = true ∧ zh s0 (zcode tM.2.1 tY tBt tHh tRt j) ∧ zmh (tY j)) ∧
  (∀ j, 214 ≤ j → j ≤ 218 → (tY j).cls = "java/lang/String" ∧ zh s0 (.instanceMethod (tY j)) ∧ zh s0 (.selects (tY j).cls (tY j) (tY j))) ∧
  (∀ j, 219 ≤ j → j ≤ 222 → zh s0 (.static (tY j)) ∧ zh s0 (.initialized (tY j).cls)) ∧
  zml s0 "java/lang/String" 633 (tY 215) ∧ zml s0 "java/lang/String" 492 (tY 216) ∧ zml s0 "java/lang/String" 505 (tY 217) ∧ zml s0 "java/lang/String" 335 (tY 218) ∧ zml s0 "java/lang/String" 637 (tY 219) ∧
  zml s0 "java/lang/StringLatin1" 88 (tY 220) ∧ zml s0 "java/lang/StringLatin1" 92 (tY 221) ∧ zml s0 "java/lang/StringLatin1" 38 (tY 61) ∧ zml s0 "java/lang/StringLatin1" 95 (tY 222) ∧ zcB s0 61
/-- a literal of Latin letters: the object q, its letters in the array t -/
def wL (s0 : State) (q t N : Nat) (byt : Nat → Int32) : Prop := va_O "java/lang/String" q (fun x => s0.heap.size ≤ x) s0 s0.heap ∧ va_OF "java/lang/String" "coder" "B" (.int 0) q (fun x => s0.heap.size ≤ x) s0 s0.heap ∧
  va_OF "java/lang/String" "value" "[B" (.ref t) q (fun x => s0.heap.size ≤ x) s0 s0.heap ∧ va_T .byte t N (fun j => .int (byt j)) (fun x => s0.heap.size ≤ x) s0 s0.heap ∧ N ≤ 15 ∧ ∀ j, j < N → byt j ≠ 0
def qP (u : zW) (Φ : Int32 → Prop) : cP := fun o u' k => ∃ r, o = .inl (some (.int r)) ∧ Φ r ∧ u' = u ∧ k = 0
theorem ix_tlen {f : Nat → Value} (hd : decode (tBt mi) pc = .ok (.arraylength, 1)) (hT : va_T .byte t N f (fun x => s0.heap.size ≤ x) s0 s0.heap) (g : cG tM tY tBt tHh tRt tRm tEx l s0 D ca tsb mi (pc + 1) lv (.int (Int32.ofInt (N : Int)) :: st) u n P) : cG tM tY tBt tHh tRt tRm tEx l s0 D ca tsb mi pc lv (.ref t :: st) u n P :=
  fun p e s m args below meth c Q C hx H locs ls hP hS hL => va_tlen C.1 C.2.2.2.2.2.1 ((hT.moved C.2.1.alike).kept (fun a ha _ => C.2.2.2.1 a ha)) hS (v := Int32.ofInt (N : Int)) rfl hd (g p e s m args below meth c Q C hx H locs ls hP hS hL)
theorem ix_tb {j : Nat} (hj : j < N) (hN : N ≤ 15) (hd : decode (tBt mi) pc = .ok (.baload, 1)) (hT : va_T .byte t N (fun j => .int (byt j)) (fun x => s0.heap.size ≤ x) s0 s0.heap) (g : cG tM tY tBt tHh tRt tRm tEx l s0 D ca tsb mi (pc + 1) lv (.int (byt j) :: st) u n P) : cG tM tY tBt tHh tRt tRm tEx l s0 D ca tsb mi pc lv (.int (Int32.ofInt (j : Int)) :: .ref t :: st) u n P := by
  intro p e s m args below meth c Q C hx H locs ls hP hS hL
  obtain ⟨h1, h2⟩ := jdx hj (by omega)
  exact va_tb C.1 C.2.2.2.2.2.1 ((hT.moved C.2.1.alike).kept (fun a ha _ => C.2.2.2.1 a ha)) hS (i := Int32.ofInt (j : Int)) h1 (v := .int (byt j)) (by rw [h2]) hd (g p e s m args below meth c Q C hx H locs ls hP hS hL)
theorem ix_getf {o nm d : String} {v : Value} {ix : Nat} (hd : decode (tBt mi) pc = .ok (.getfield ix, 3)) (hE : va_OF o nm d v q (fun x => s0.heap.size ≤ x) s0 s0.heap) (hw : zh s0 (.fieldLink (tY mi).cls ix o nm d)) (g : cG tM tY tBt tHh tRt tRm tEx l s0 D ca tsb mi (pc + 3) lv (v :: st) u n P) : cG tM tY tBt tHh tRt tRm tEx l s0 D ca tsb mi pc lv (.ref q :: st) u n P :=
  fun p e s m args below meth c Q C hx H locs ls hP hS hL => vk_getf C.1 C.2.2.2.2.2.1 ((hE.moved C.2.1.alike).kept (fun a ha _ => C.2.2.2.1 a ha)) hS C.2.2.2.2.1 (hw args s C.2.1) (fun _ h => h) hd (g p e s m args below meth c Q C hx H locs ls hP hS hL)
theorem ix_gets {o nm d : String} {v : Value} {ix : Nat} (hd : decode (tBt mi) pc = .ok (.getstatic ix, 3)) (hE : va_Z o nm d v (fun x => s0.heap.size ≤ x) s0 s0.heap) (hw : zh s0 (.fieldLink (tY mi).cls ix o nm d)) (g : cG tM tY tBt tHh tRt tRm tEx l s0 D ca tsb mi (pc + 3) lv (v :: st) u n P) : cG tM tY tBt tHh tRt tRm tEx l s0 D ca tsb mi pc lv st u n P :=
  fun p e s m args below meth c Q C hx H locs ls hP hS hL => va_gets C.1 C.2.2.2.2.2.1 ((hE.moved C.2.1.alike).kept (fun a ha _ => C.2.2.2.1 a ha)) hS C.2.2.2.2.1 (hw args s C.2.1) (fun _ h => h) hd (g p e s m args below meth c Q C hx H locs ls hP hS hL)
theorem zw_ishr {cc : ByteArray} {r : List Value} {x y : Int32} (hd : decode cc pc = .ok (.ishr, 1)) : zW1 cc pc (.int y :: .int x :: r) (pc + 1) (.int (x >>> (y &&& 31)) :: r) := fun _ _ _ _ _ _ _ _ _ _ _ _ _ _ _ _ hexec hb k => lv_ishr hexec hb hd k
theorem zw_i2b {cc : ByteArray} {r : List Value} {x : Int32} (hd : decode cc pc = .ok (.i2b, 1)) : zW1 cc pc (.int x :: r) (pc + 1) (.int x.toInt8.toInt32 :: r) := fun _ _ _ _ _ _ _ _ _ _ _ _ _ _ _ _ hexec hb k => lv_i2b hexec hb hd rfl k
theorem ix_ret {z : Int32} {Φ : Int32 → Prop} (hd : decode (tBt mi) pc = .ok (.ireturn, 1)) (hr : ∃ ty, tRt mi = some ty ∧ narrow ty (.int z) = .int z) (h : Φ z) : cG tM tY tBt tHh tRt tRm tEx l s0 D ca tsb mi pc lv [.int z] u 0 (qP u Φ) :=
  cg_ret (v := some (.int z)) ⟨z, rfl, h, rfl, rfl⟩ (Or.inl ⟨z, rfl, hd, Or.inr (Or.inr hr)⟩)
/-- the way into a method of a literal -/
theorem z_goL {p : Program} {e : Env} {R : Room} {s : State} {m : MethodId} {args : Array Value} {below : List Frame} {meth : Method} {c : Code} {T : State} {locs : List Loc} {cells slots : Nat} (X : Stand p l e R s m args below meth c T locs cells slots) (hexec : p.tables.exec = Jvm.exec) (hW0 : s0.WarmedH s.vm) {own : String} {ix mj k : Nat} (hown : s.vm.findClass own = some m.cls) (hl : zml s0 own ix (tY mj)) (him : zh s0 (.instanceMethod (tY mj))) (hsel : zh s0 (.selects (tY mj).cls (tY mj) (tY mj)))
    (hc : zh s0 (zcode tM.2.1 tY tBt tHh tRt mj)) (hy : zmh (tY mj)) (hn : (parseMethodDescriptor (tY mj).desc).map (fun d => d.parameters.length) = some k)
    {b : Addr} {cellB : Cell} (hcell : T.heap[b]? = some cellB) (hvm : cellB.vm.isStatics = false) (hcls : s.vm.findClass (tY mj).cls = some cellB.cls)
    {g : JFrame} (hg : g.method = m) {vs rest : List Value} (hlen : vs.length = k) (hstack : g.stack = vs.reverse ++ .ref b :: rest) (hdg : decode c.code g.pc = .ok (.invokevirtual ix, 3)) : zgoes p l e R s m args below meth c T locs cells slots (tY mj) g (.ref b :: vs) rest := by
  obtain ⟨mk, methM, hnamed, hmethM, hstM, habM⟩ := Cond.instanceMethod_spec (him args s hW0)
  obtain ⟨methM', cM, hmethM', -, -, -, -, -, -, hsigM⟩ := zcode_spec tM.2.1 tY tBt tHh tRt hnamed (hc args s hW0)
  cases hmethM.symm.trans hmethM'
  obtain ⟨c2, r2, m2, q1, q2, q3, q4, kP, hkP, hkPi⟩ := Cond.selects_spec (hsel args s hW0)
  cases hcls.symm.trans q1
  cases (State.methodFound?_of_named hnamed hy).symm.trans q2
  cases hnamed.symm.trans q3
  have hselP : selectMethod e.platform s.vm cellB.cls mk = .method mk := by rw [Launch.admits_selectMethod X.admits]; exact q4
  have hl9 : vs.length = methM.sig.parameters.length := by
    rw [hsigM] at hn
    exact hlen.trans (Option.some.inj hn).symm
  have hob : ∀ z, cellB.vm ≠ .statics z := fun z h => by rw [h] at hvm; cases hvm
  rcases hl with h | ⟨host, h⟩
  · obtain ⟨vm₁, X₁, hstep₁⟩ := X.invokevirtual hexec hown (h args s hW0) hnamed hmethM hstM hkP hkPi hy (a := b) (cell := cellB) hcell hob hselP hmethM habM hkP hkPi (g := g) hg (argsL := vs) (rest := rest) hl9 hstack hdg
    exact ⟨vm₁, mk, hnamed, X₁, hstep₁⟩
  · obtain ⟨vm₁, X₁, hstep₁⟩ := X.invokevirtualNest hexec hown (h args s hW0) hnamed hmethM hstM hkP hkPi hy (a := b) (cell := cellB) hcell hob hselP hmethM habM hkP hkPi (g := g) hg (argsL := vs) (rest := rest) hl9 hstack hdg
    exact ⟨vm₁, mk, hnamed, X₁, hstep₁⟩
/-- calls that make nothing and give back an int of which Φ holds -/
theorem ix_callV (hl : l.stackTraces = false) (hH : zhnd tM tY tHh tEx s0) (hS : wS s0) (hq : va_O "java/lang/String" q (fun x => s0.heap.size ≤ x) s0 s0.heap) {mj ix : Nat} {vs vr : List Value} {Φ : Int32 → Prop} (hst : st = vs.reverse ++ .ref q :: vr) (hd : decode (tBt mi) pc = .ok (.invokevirtual ix, 3)) (hj : 214 ≤ mj ∧ mj ≤ 218) (hlk : zml s0 (tY mi).cls ix (tY mj)) (hdsc : (parseMethodDescriptor (tY mj).desc).map (fun d => d.parameters.length) = some vs.length)
    (hroom : (tRm mj).frames + 1 ≤ (tRm mi).frames ∧ 8 + (tM.2.1 mj + 11) + (tRm mj).locals ≤ (tRm mi).locals) (hz : tsb mj = 0 ∧ (tRm mj).cells = 0 ∧ (tRm mj).slots = 0) (hn : n ≤ (tRm mi).cells ∧ tsb mi + 6 * n ≤ (tRm mi).slots) (hr8 : (vr.map fun v => v.category).sum ≤ 8) (ha9 : (lg_sl (.ref q :: vs)).length ≤ tM.2.1 mj)
    (hcallee : cG tM tY tBt tHh tRt tRm tEx l s0 D ca tsb mj 0 (lv_args 0 (.ref q :: vs)) [] u 0 (qP u Φ)) (g : ∀ r, Φ r → cG tM tY tBt tHh tRt tRm tEx l s0 D ca tsb mi (pc + 3) lv (.int r :: vr) u n P) : cG tM tY tBt tHh tRt tRm tEx l s0 D ca tsb mi pc lv st u n P := by
  subst hst
  obtain ⟨w1, w2, w3⟩ := hS.2.2.1 mj hj.1 (by omega)
  obtain ⟨w4, w5, w6⟩ := hS.2.2.2.1 mj hj.1 hj.2
  refine cg_call (P := P) (vr := vr) (va := .ref q :: vs) hl hH hd ⟨w1, w2, hroom.1, hroom.2⟩ hz.1 (by rw [hz.2.1]; omega) (by rw [hz.2.2]; omega) hr8 ha9 ?_ hcallee ?_ ?_
  · intro p e s m args below meth c H locs ls T C hP hT X
    obtain ⟨cell, k1, k2, k3, -⟩ := (hq.moved C.2.1.alike).kept (H1 := s.heap) (fun a ha _ => C.2.2.2.1 a ha)
    obtain ⟨c9, k4, k5, -⟩ := X.same.2.2.2.2.2 q cell k1
    exact z_goL X C.1 C.2.1 C.2.2.2.2.1 hlk w5 w6 w2 w3 hdsc (cellB := c9) k4 (by rw [k5]; exact k2) (by rw [w4, k5]; exact k3) (g := F0 m pc ls (vs.reverse ++ .ref q :: vr)) rfl rfl rfl (by rw [C.2.2.2.2.2.1]; exact hd)
  · rintro v u' k ⟨r, h1, h2, rfl, rfl⟩
    cases h1
    exact g r h2
  · rintro k u' i ⟨r, h1, -⟩
    cases h1
theorem ix_callS (hl : l.stackTraces = false) (hH : zhnd tM tY tHh tEx s0) {mj ix : Nat} {vs vr : List Value} {Φ : Int32 → Prop} (hst : st = vs.reverse ++ vr) (hd : decode (tBt mi) pc = .ok (.invokestatic ix, 3)) (hw : plainFor (tY mj) = true ∧ zh s0 (zcode tM.2.1 tY tBt tHh tRt mj) ∧ zmh (tY mj)) (hw2 : zh s0 (.static (tY mj)) ∧ zh s0 (.initialized (tY mj).cls)) (hlk : zml s0 (tY mi).cls ix (tY mj)) (hdsc : (parseMethodDescriptor (tY mj).desc).map (fun d => d.parameters.length) = some vs.length)
    (hroom : (tRm mj).frames + 1 ≤ (tRm mi).frames ∧ 8 + (tM.2.1 mj + 11) + (tRm mj).locals ≤ (tRm mi).locals) (hz : tsb mj = 0 ∧ (tRm mj).cells = 0 ∧ (tRm mj).slots = 0) (hn : n ≤ (tRm mi).cells ∧ tsb mi + 6 * n ≤ (tRm mi).slots) (hr8 : (vr.map fun v => v.category).sum ≤ 8) (ha9 : (lg_sl vs).length ≤ tM.2.1 mj)
    (hcallee : cG tM tY tBt tHh tRt tRm tEx l s0 D ca tsb mj 0 (lv_args 0 vs) [] u 0 (qP u Φ)) (g : ∀ r, Φ r → cG tM tY tBt tHh tRt tRm tEx l s0 D ca tsb mi (pc + 3) lv (.int r :: vr) u n P) : cG tM tY tBt tHh tRt tRm tEx l s0 D ca tsb mi pc lv st u n P := by
  subst hst
  refine cg_call (P := P) (vr := vr) (va := vs) hl hH hd ⟨hw.1, hw.2.1, hroom.1, hroom.2⟩ hz.1 (by rw [hz.2.1]; omega) (by rw [hz.2.2]; omega) hr8 ha9 ?_ hcallee ?_ ?_
  · intro p e s m args below meth c H locs ls T C hP hT X
    exact z_goS X C.1 C.2.1 C.2.2.2.2.1 hlk hw2.1 hw2.2 hw.2.1 hw.2.2 hdsc (g := F0 m pc ls (vs.reverse ++ vr)) rfl rfl rfl (by rw [C.2.2.2.2.2.1]; exact hd)
  · rintro v u' k ⟨r, h1, h2, rfl, rfl⟩
    cases h1
    exact g r h2
  · rintro k u' i ⟨r, h1, -⟩
    cases h1
/-! the methods -/
theorem mm_coder (hS : wS s0) (hq : wL s0 q t N byt) : cG tM tY tBt tHh tRt tRm tEx l s0 D ca tsb 218 0 [(0, .ref q)] [] u 0 (qP u (fun r => r = 0)) := by
  refine ix_gets (ix := 38) (by decide +kernel) hS.2.1 hS.1.1 ?_
  refine cG_w ((zw_if (o := .eq) (off := 10) (t := 13) (by decide) (by decide +kernel)).2 (show ¬ ((1 : Int32) = 0) by decide)) ?_
  refine cg_aload_n (j := 0) (k := 0) (by decide +kernel) rfl ?_
  refine ix_getf (ix := 15) (by decide +kernel) hq.2.1 hS.1.2.1 ?_
  refine cG_w (zw_goto (off := 4) (t := 14) (by decide) (by decide +kernel)) ?_
  exact ix_ret (by decide +kernel) ⟨.byte, by decide +kernel, by decide⟩ rfl
theorem mm_isLatin1 (hS : wS s0) (hq : wL s0 q t N byt) : cG tM tY tBt tHh tRt tRm tEx l s0 D ca tsb 216 0 [(0, .ref q)] [] u 0 (qP u (fun r => r = 1)) := by
  refine ix_gets (ix := 38) (by decide +kernel) hS.2.1 hS.1.1 ?_
  refine cG_w ((zw_if (o := .eq) (off := 14) (t := 17) (by decide) (by decide +kernel)).2 (show ¬ ((1 : Int32) = 0) by decide)) ?_
  refine cg_aload_n (j := 0) (k := 0) (by decide +kernel) rfl ?_
  refine ix_getf (ix := 15) (by decide +kernel) hq.2.1 hS.1.2.1 ?_
  refine cG_w ((zw_if (o := .ne) (off := 7) (t := 17) (by decide) (by decide +kernel)).2 (show ¬ ¬ ((0 : Int32) = 0) by decide)) ?_
  refine cG_w (zw_iconst (n := 1) (by decide +kernel)) ?_
  refine cG_w (zw_goto (off := 4) (t := 18) (by decide) (by decide +kernel)) ?_
  exact ix_ret (by decide +kernel) ⟨.boolean, by decide +kernel, by decide⟩ (by decide)
theorem mm_length (hl : l.stackTraces = false) (hH : zhnd tM tY tHh tEx s0) (hS : wS s0) (hq : wL s0 q t N byt) : cG tM tY tBt tHh tRt tRm tEx l s0 D ca tsb 217 0 [(0, .ref q)] [] u 0 (qP u (fun r => r = Int32.ofInt (N : Int))) := by
  refine cg_aload_n (j := 0) (k := 0) (by decide +kernel) rfl ?_
  refine ix_getf (ix := 9) (by decide +kernel) hq.2.2.1 hS.1.2.2 ?_
  refine ix_tlen (by decide +kernel) hq.2.2.2.1 ?_
  refine cg_aload_n (j := 0) (k := 0) (by decide +kernel) rfl ?_
  refine ix_callV (mj := 218) (ix := 335) (vs := []) (vr := [.int (Int32.ofInt (N : Int))]) (Φ := fun r => r = 0) hl hH hS hq.1 rfl (by decide +kernel) ⟨by decide, by decide⟩ hS.2.2.2.2.2.2.2.2.1 (show (parseMethodDescriptor (tY 218).desc).map (fun d => d.parameters.length) = some 0 from by decide +kernel) ⟨by decide +kernel, by decide +kernel⟩ ⟨by decide +kernel, by decide +kernel, by decide +kernel⟩ ⟨by decide +kernel, by decide +kernel⟩ (Nat.le_of_ble_eq_true rfl) (Nat.le_of_ble_eq_true rfl) (mm_coder hS hq) ?_
  rintro r rfl
  refine cG_w (zw_ishr (by decide +kernel)) ?_
  refine ix_ret (by decide +kernel) ⟨.int, by decide +kernel, rfl⟩ ?_
  simp
theorem mm_can {ch : Int32} : cG tM tY tBt tHh tRt tRm tEx l s0 D ca tsb 220 0 [(0, .int ch)] [] u 0 (qP u (fun r => r = 0 ∨ r = 1)) := by
  have h15 : cG tM tY tBt tHh tRt tRm tEx l s0 D ca tsb 220 15 [(0, .int ch)] [] u 0 (qP u (fun r => r = 0 ∨ r = 1)) := by
    refine cG_w (zw_iconst (n := 0) (by decide +kernel)) ?_
    exact ix_ret (by decide +kernel) ⟨.boolean, by decide +kernel, by decide⟩ (Or.inl (by decide))
  refine cg_iload_n (j := 0) (k := 0) (by decide +kernel) rfl ?_
  by_cases h : zci .lt ch 0
  · exact cG_w ((zw_if (o := .lt) (off := 14) (t := 15) (by decide) (by decide +kernel)).1 h) h15
  refine cG_w ((zw_if (o := .lt) (off := 14) (t := 15) (by decide) (by decide +kernel)).2 h) ?_
  refine cg_iload_n (j := 0) (k := 0) (by decide +kernel) rfl ?_
  refine cG_w (zw_sipush (n := 255) (by decide) (by decide) (by decide +kernel)) ?_
  by_cases h2 : zci .gt ch (Int32.ofInt 255)
  · exact cG_w ((zw_icmp (o := .gt) (off := 7) (t := 15) (by decide) (by decide +kernel)).1 h2) h15
  refine cG_w ((zw_icmp (o := .gt) (off := 7) (t := 15) (by decide) (by decide +kernel)).2 h2) ?_
  refine cG_w (zw_iconst (n := 1) (by decide +kernel)) ?_
  refine cG_w (zw_goto (off := 4) (t := 16) (by decide) (by decide +kernel)) ?_
  exact ix_ret (by decide +kernel) ⟨.boolean, by decide +kernel, by decide⟩ (Or.inr (by decide))
theorem mm_max : cG tM tY tBt tHh tRt tRm tEx l s0 D ca tsb 221 0 [(0, .int 0), (1, .int 0)] [] u 0 (qP u (fun r => r = 0)) := by
  refine cg_iload_n (j := 0) (k := 0) (by decide +kernel) rfl ?_
  refine cg_iload_n (j := 1) (k := 1) (by decide +kernel) rfl ?_
  refine cG_w ((zw_icmp (o := .lt) (off := 7) (t := 9) (by decide) (by decide +kernel)).2 (show ¬ ((0 : Int32) < 0) by decide)) ?_
  refine cg_iload_n (j := 0) (k := 0) (by decide +kernel) rfl ?_
  refine cG_w (zw_goto (off := 4) (t := 10) (by decide) (by decide +kernel)) ?_
  exact ix_ret (by decide +kernel) ⟨.int, by decide +kernel, rfl⟩ rfl
theorem mm_min {x : Int32} : cG tM tY tBt tHh tRt tRm tEx l s0 D ca tsb 61 0 [(0, .int x), (1, .int x)] [] u 0 (qP u (fun r => r = x)) := by
  refine cg_iload_n (j := 0) (k := 0) (by decide +kernel) rfl ?_
  refine cg_iload_n (j := 1) (k := 1) (by decide +kernel) rfl ?_
  refine cG_w ((zw_icmp (o := .gt) (off := 7) (t := 9) (by decide) (by decide +kernel)).2 (show ¬ (x < x) from fun h => absurd (Int32.lt_iff_toInt_lt.mp h) (Int.lt_irrefl _))) ?_
  refine cg_iload_n (j := 0) (k := 0) (by decide +kernel) rfl ?_
  refine cG_w (zw_goto (off := 4) (t := 10) (by decide) (by decide +kernel)) ?_
  exact ix_ret (by decide +kernel) ⟨.int, by decide +kernel, rfl⟩ rfl
def qI (N : Nat) (byt : Nat → Int32) (ch : Int32) (r : Int32) : Prop := r = -1 ∨ ∃ j, j < N ∧ r = Int32.ofInt (j : Int) ∧ byt j = ch.toInt8.toInt32
theorem mm_chars {ch : Int32} (hq : wL s0 q t N byt) : ∀ (k j : Nat), j + k = N → cG tM tY tBt tHh tRt tRm tEx l s0 D ca tsb 222 7 [(5, .int (Int32.ofInt (j : Int))), (4, .int ch.toInt8.toInt32), (0, .ref t), (1, .int ch), (2, .int 0), (3, .int (Int32.ofInt (N : Int)))] [] u 0 (qP u (qI N byt ch))
  | 0, j, hj => by
    have hN := hq.2.2.2.2.1
    refine cg_iload (j := 5) (k := 0) (by decide +kernel) rfl ?_
    refine cg_iload_n (j := 3) (k := 5) (by decide +kernel) rfl ?_
    refine cG_w ((zw_icmp (o := .ge) (off := 21) (t := 31) (by decide) (by decide +kernel)).1 (zci_iff.mpr ?_)) ?_
    · rw [toI (by omega), toI (by omega)]
      show (N : Int) ≤ (j : Int)
      omega
    refine cG_w (zw_iconst (n := -1) (by decide +kernel)) ?_
    exact ix_ret (by decide +kernel) ⟨.int, by decide +kernel, rfl⟩ (Or.inl (by decide))
  | k + 1, j, hj => by
    have hN := hq.2.2.2.2.1
    refine cg_iload (j := 5) (k := 0) (by decide +kernel) rfl ?_
    refine cg_iload_n (j := 3) (k := 5) (by decide +kernel) rfl ?_
    refine cG_w ((zw_icmp (o := .ge) (off := 21) (t := 31) (by decide) (by decide +kernel)).2 (fun h => ?_)) ?_
    · have h9 := zci_iff.mp h
      rw [toI (by omega), toI (by omega)] at h9
      have h8 : (N : Int) ≤ (j : Int) := h9
      omega
    refine cg_aload_n (j := 0) (k := 2) (by decide +kernel) rfl ?_
    refine cg_iload (j := 5) (k := 0) (by decide +kernel) rfl ?_
    refine ix_tb (N := N) (by omega) hN (by decide +kernel) hq.2.2.2.1 ?_
    refine cg_iload (j := 4) (k := 1) (by decide +kernel) rfl ?_
    by_cases h : byt j = ch.toInt8.toInt32
    · refine cG_w ((zw_icmp (o := .ne) (off := 6) (t := 25) (by decide) (by decide +kernel)).2 (fun g => g h)) ?_
      refine cg_iload (j := 5) (k := 0) (by decide +kernel) rfl ?_
      exact ix_ret (by decide +kernel) ⟨.int, by decide +kernel, rfl⟩ (Or.inr ⟨j, by omega, rfl, h⟩)
    · refine cG_w ((zw_icmp (o := .ne) (off := 6) (t := 25) (by decide) (by decide +kernel)).1 h) ?_
      refine cg_iinc (j := 5) (k := 0) (a := 1) (by decide +kernel) rfl (by decide +kernel) ?_
      refine cG_w (zw_goto (off := -21) (t := 7) (by decide) (by decide +kernel)) ?_
      have e : Int32.ofInt (j : Int) + Int32.ofInt 1 = Int32.ofInt ((j + 1 : Nat) : Int) := by
        rw [← Int32.ofInt_add]
        rfl
      rw [e]
      exact mm_chars hq k (j + 1) (by omega)
theorem mm_char {ch : Int32} (hq : wL s0 q t N byt) : cG tM tY tBt tHh tRt tRm tEx l s0 D ca tsb 222 0 [(0, .ref t), (1, .int ch), (2, .int 0), (3, .int (Int32.ofInt (N : Int)))] [] u 0 (qP u (qI N byt ch)) := by
  refine cg_iload_n (j := 1) (k := 1) (by decide +kernel) rfl ?_
  refine cG_w (zw_i2b (by decide +kernel)) ?_
  refine cg_istore (j := 4) (by decide +kernel) (by decide +kernel) ?_
  refine cg_iload_n (j := 2) (k := 3) (by decide +kernel) rfl ?_
  refine cg_istore (j := 5) (by decide +kernel) (by decide +kernel) ?_
  exact mm_chars hq N 0 (Nat.zero_add N)
theorem mm_index {ch : Int32} (hl : l.stackTraces = false) (hH : zhnd tM tY tHh tEx s0) (hS : wS s0) (hq : wL s0 q t N byt) : cG tM tY tBt tHh tRt tRm tEx l s0 D ca tsb 219 0 [(0, .ref t), (1, .int ch), (2, .int 0), (3, .int (Int32.ofInt (N : Int)))] [] u 0 (qP u (qI N byt ch)) := by
  have hN := hq.2.2.2.2.1
  have w := hS.2.2.2.2.2.2.2.2.2.2
  refine cg_iload_n (j := 1) (k := 1) (by decide +kernel) rfl ?_
  refine ix_callS (mj := 220) (ix := 88) (vs := [.int ch]) (vr := []) (Φ := fun r => r = 0 ∨ r = 1) hl hH rfl (by decide +kernel) (hS.2.2.1 220 (by decide) (by decide)) (hS.2.2.2.2.1 220 (by decide) (by decide)) w.1 (show (parseMethodDescriptor (tY 220).desc).map (fun d => d.parameters.length) = some 1 from by decide +kernel) ⟨by decide +kernel, by decide +kernel⟩ ⟨by decide +kernel, by decide +kernel, by decide +kernel⟩ ⟨by decide +kernel, by decide +kernel⟩ (Nat.le_of_ble_eq_true rfl) (Nat.le_of_ble_eq_true rfl) mm_can ?_
  intro r hr
  by_cases h0 : zci .ne r 0
  rotate_left
  · refine cG_w ((zw_if (o := .ne) (off := 5) (t := 9) (by decide) (by decide +kernel)).2 h0) ?_
    refine cG_w (zw_iconst (n := -1) (by decide +kernel)) ?_
    exact ix_ret (by decide +kernel) ⟨.int, by decide +kernel, rfl⟩ (Or.inl (by decide))
  refine cG_w ((zw_if (o := .ne) (off := 5) (t := 9) (by decide) (by decide +kernel)).1 h0) ?_
  refine cg_iload_n (j := 2) (k := 2) (by decide +kernel) rfl ?_
  refine cG_w (zw_iconst (n := 0) (by decide +kernel)) ?_
  refine ix_callS (mj := 221) (ix := 92) (vs := [.int 0, .int 0]) (vr := []) (Φ := fun r => r = 0) hl hH rfl (by decide +kernel) (hS.2.2.1 221 (by decide) (by decide)) (hS.2.2.2.2.1 221 (by decide) (by decide)) w.2.1 (show (parseMethodDescriptor (tY 221).desc).map (fun d => d.parameters.length) = some 2 from by decide +kernel) ⟨by decide +kernel, by decide +kernel⟩ ⟨by decide +kernel, by decide +kernel, by decide +kernel⟩ ⟨by decide +kernel, by decide +kernel⟩ (Nat.le_of_ble_eq_true rfl) (Nat.le_of_ble_eq_true rfl) mm_max ?_
  rintro r9 rfl
  refine cg_istore_n (j := 2) (by decide +kernel) (by decide +kernel) ?_
  refine cg_iload_n (j := 3) (k := 3) (by decide +kernel) rfl ?_
  refine cg_aload_n (j := 0) (k := 1) (by decide +kernel) rfl ?_
  refine ix_tlen (by decide +kernel) hq.2.2.2.1 ?_
  have b := w.2.2.2.2
  refine ix_callS (mj := 61) (ix := 38) (vs := [.int (Int32.ofInt (N : Int)), .int (Int32.ofInt (N : Int))]) (vr := []) (Φ := fun r => r = Int32.ofInt (N : Int)) hl hH rfl (by decide +kernel) ⟨b.1, b.2.1, b.2.2.1⟩ (b.2.2.2.2.2.1 (by decide +kernel)) w.2.2.1 (show (parseMethodDescriptor (tY 61).desc).map (fun d => d.parameters.length) = some 2 from by decide +kernel) ⟨by decide +kernel, by decide +kernel⟩ ⟨by decide +kernel, by decide +kernel, by decide +kernel⟩ ⟨by decide +kernel, by decide +kernel⟩ (Nat.le_of_ble_eq_true rfl) (Nat.le_of_ble_eq_true rfl) mm_min ?_
  rintro r9 rfl
  refine cg_istore_n (j := 3) (by decide +kernel) (by decide +kernel) ?_
  refine cg_iload_n (j := 2) (k := 1) (by decide +kernel) rfl ?_
  refine cg_iload_n (j := 3) (k := 0) (by decide +kernel) rfl ?_
  by_cases h1 : zci .lt (0 : Int32) (Int32.ofInt (N : Int))
  rotate_left
  · refine cG_w ((zw_icmp (o := .lt) (off := 5) (t := 29) (by decide) (by decide +kernel)).2 h1) ?_
    refine cG_w (zw_iconst (n := -1) (by decide +kernel)) ?_
    exact ix_ret (by decide +kernel) ⟨.int, by decide +kernel, rfl⟩ (Or.inl (by decide))
  refine cG_w ((zw_icmp (o := .lt) (off := 5) (t := 29) (by decide) (by decide +kernel)).1 h1) ?_
  refine cg_aload_n (j := 0) (k := 2) (by decide +kernel) rfl ?_
  refine cg_iload_n (j := 1) (k := 3) (by decide +kernel) rfl ?_
  refine cg_iload_n (j := 2) (k := 1) (by decide +kernel) rfl ?_
  refine cg_iload_n (j := 3) (k := 0) (by decide +kernel) rfl ?_
  refine ix_callS (mj := 222) (ix := 95) (vs := [.ref t, .int ch, .int 0, .int (Int32.ofInt (N : Int))]) (vr := []) (Φ := qI N byt ch) hl hH rfl (by decide +kernel) (hS.2.2.1 222 (by decide) (by decide)) (hS.2.2.2.2.1 222 (by decide) (by decide)) w.2.2.2.1 (show (parseMethodDescriptor (tY 222).desc).map (fun d => d.parameters.length) = some 4 from by decide +kernel) ⟨by decide +kernel, by decide +kernel⟩ ⟨by decide +kernel, by decide +kernel, by decide +kernel⟩ ⟨by decide +kernel, by decide +kernel⟩ (Nat.le_of_ble_eq_true rfl) (Nat.le_of_ble_eq_true rfl) (mm_char hq) ?_
  intro r9 h9
  exact ix_ret (by decide +kernel) ⟨.int, by decide +kernel, rfl⟩ h9
theorem mm_ix2 {ch : Int32} (hl : l.stackTraces = false) (hH : zhnd tM tY tHh tEx s0) (hS : wS s0) (hq : wL s0 q t N byt) : cG tM tY tBt tHh tRt tRm tEx l s0 D ca tsb 215 0 [(0, .ref q), (1, .int ch), (2, .int 0)] [] u 0 (qP u (qI N byt ch)) := by
  have w := hS.2.2.2.2.2.2
  refine cg_aload_n (j := 0) (k := 0) (by decide +kernel) rfl ?_
  refine ix_callV (mj := 216) (ix := 492) (vs := []) (vr := []) (Φ := fun r => r = 1) hl hH hS hq.1 rfl (by decide +kernel) ⟨by decide, by decide⟩ w.1 (show (parseMethodDescriptor (tY 216).desc).map (fun d => d.parameters.length) = some 0 from by decide +kernel) ⟨by decide +kernel, by decide +kernel⟩ ⟨by decide +kernel, by decide +kernel, by decide +kernel⟩ ⟨by decide +kernel, by decide +kernel⟩ (Nat.le_of_ble_eq_true rfl) (Nat.le_of_ble_eq_true rfl) (mm_isLatin1 hS hq) ?_
  rintro r rfl
  refine cG_w ((zw_if (o := .eq) (off := 19) (t := 23) (by decide) (by decide +kernel)).2 (show ¬ ((1 : Int32) = 0) by decide)) ?_
  refine cg_aload_n (j := 0) (k := 0) (by decide +kernel) rfl ?_
  refine ix_getf (ix := 9) (by decide +kernel) hq.2.2.1 hS.1.2.2 ?_
  refine cg_iload_n (j := 1) (k := 1) (by decide +kernel) rfl ?_
  refine cg_iload_n (j := 2) (k := 2) (by decide +kernel) rfl ?_
  refine cg_aload_n (j := 0) (k := 0) (by decide +kernel) rfl ?_
  refine ix_callV (mj := 217) (ix := 505) (vs := []) (vr := [.int 0, .int ch, .ref t]) (Φ := fun r => r = Int32.ofInt (N : Int)) hl hH hS hq.1 rfl (by decide +kernel) ⟨by decide, by decide⟩ w.2.1 (show (parseMethodDescriptor (tY 217).desc).map (fun d => d.parameters.length) = some 0 from by decide +kernel) ⟨by decide +kernel, by decide +kernel⟩ ⟨by decide +kernel, by decide +kernel, by decide +kernel⟩ ⟨by decide +kernel, by decide +kernel⟩ (Nat.le_of_ble_eq_true rfl) (Nat.le_of_ble_eq_true rfl) (mm_length hl hH hS hq) ?_
  rintro r rfl
  refine ix_callS (mj := 219) (ix := 637) (vs := [.ref t, .int ch, .int 0, .int (Int32.ofInt (N : Int))]) (vr := []) (Φ := qI N byt ch) hl hH rfl (by decide +kernel) (hS.2.2.1 219 (by decide) (by decide)) (hS.2.2.2.2.1 219 (by decide) (by decide)) w.2.2.2.1 (show (parseMethodDescriptor (tY 219).desc).map (fun d => d.parameters.length) = some 4 from by decide +kernel) ⟨by decide +kernel, by decide +kernel⟩ ⟨by decide +kernel, by decide +kernel, by decide +kernel⟩ ⟨by decide +kernel, by decide +kernel⟩ (Nat.le_of_ble_eq_true rfl) (Nat.le_of_ble_eq_true rfl) (mm_index hl hH hS hq) ?_
  intro r h9
  refine cG_w (zw_goto (off := 16) (t := 36) (by decide) (by decide +kernel)) ?_
  exact ix_ret (by decide +kernel) ⟨.int, by decide +kernel, rfl⟩ h9
theorem mm_ix1 {ch : Int32} (hl : l.stackTraces = false) (hH : zhnd tM tY tHh tEx s0) (hS : wS s0) (hq : wL s0 q t N byt) : cG tM tY tBt tHh tRt tRm tEx l s0 D ca tsb 214 0 [(0, .ref q), (1, .int ch)] [] u 0 (qP u (qI N byt ch)) := by
  refine cg_aload_n (j := 0) (k := 0) (by decide +kernel) rfl ?_
  refine cg_iload_n (j := 1) (k := 1) (by decide +kernel) rfl ?_
  refine cG_w (zw_iconst (n := 0) (by decide +kernel)) ?_
  refine ix_callV (mj := 215) (ix := 633) (vs := [.int ch, .int 0]) (vr := []) (Φ := qI N byt ch) hl hH hS hq.1 rfl (by decide +kernel) ⟨by decide, by decide⟩ hS.2.2.2.2.2.1 (show (parseMethodDescriptor (tY 215).desc).map (fun d => d.parameters.length) = some 2 from by decide +kernel) ⟨by decide +kernel, by decide +kernel⟩ ⟨by decide +kernel, by decide +kernel, by decide +kernel⟩ ⟨by decide +kernel, by decide +kernel⟩ (Nat.le_of_ble_eq_true rfl) (Nat.le_of_ble_eq_true rfl) (mm_ix2 hl hH hS hq) ?_
  intro r h9
  exact ix_ret (by decide +kernel) ⟨.int, by decide +kernel, rfl⟩ h9
/-- the row for a search -/
theorem crIdx_of {ix : Nat} (hl : l.stackTraces = false) (hH : zhnd tM tY tHh tEx s0) (hS : wS s0) (hd : decode (tBt mi) pc = .ok (.invokevirtual ix, 3)) (hlk : zh s0 (.methodLink (tY mi).cls ix ⟨"java/lang/String", "indexOf", "(I)I"⟩)) (hfr : 6 ≤ (tRm mi).frames) (hlo : 180 ≤ (tRm mi).locals) (hsl : ∀ n, n ≤ (tRm mi).cells → tsb mi + 6 * n ≤ (tRm mi).slots) : crIdx tM tY tBt tHh tRt tRm tEx l s0 D ca tsb (fun v => ∃ q t N byt, v = .ref q ∧ wL s0 q t N byt) mi pc := by
  intro lv st u n P v c hv h8 hn g
  obtain ⟨q, t, N, byt, rfl, hq⟩ := hv
  have e213 : tY 214 = ⟨"java/lang/String", "indexOf", "(I)I"⟩ := tY_214
  refine ix_callV (mj := 214) (ix := ix) (vs := [.int c]) (vr := st) (Φ := qI N byt c) hl hH hS hq.1 rfl hd ⟨by decide, by decide⟩ (Or.inl (by rw [e213]; exact hlk)) (show (parseMethodDescriptor (tY 214).desc).map (fun d => d.parameters.length) = some 1 from by decide +kernel) ⟨?_, ?_⟩ ⟨by decide +kernel, by decide +kernel, by decide +kernel⟩ ⟨hn, hsl n hn⟩ h8 (Nat.le_of_ble_eq_true rfl) (mm_ix1 hl hH hS hq) ?_
  · have : (tRm 214).frames = 3 := by decide +kernel
    omega
  · have h1 : (tRm 214).locals = 70 := by decide +kernel
    have h2 : tM.2.1 214 = 2 := by decide +kernel
    omega
  · intro r hr
    have hN := hq.2.2.2.2.1
    refine g r ?_ ?_ ?_
    · rcases hr with rfl | ⟨j, hj, rfl, -⟩
      · decide
      · rw [toI (by omega)]; omega
    · rcases hr with rfl | ⟨j, hj, rfl, -⟩
      · decide
      · rw [toI (by omega)]; omega
    · rintro rfl
      rcases hr with rfl | ⟨j, hj, -, hb⟩
      · rfl
      · exact absurd hb (hq.2.2.2.2.2 j hj)
end GI
