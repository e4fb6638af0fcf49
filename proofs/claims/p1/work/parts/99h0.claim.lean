/-! THE CLAIM OUT OF ONE WALK OF THE LAW'S BODY. Your part is whole_start (and what it stands on); all else here is the same for every law, but numbers. -/
def R_law : String := "ImageTextsLaw"
def lw_P (b : Addr) (xs : List Int32) (args : Array Value) (s : State) : Prop := args = #[.ref b] ∧ s.IntsAt b xs ∧ xs.length ≤ 10 ∧ (Jvm.Cond.and given_1 narrow_1).before args s = true
def lw_Q (_ : Array Value) (s : State) (o : Outcome) (t : State) : Prop := o = .returned (some (.int 1)) ∧ Framed s o t [] 600002 7302232
def lw_Z (below : List Frame) (a : Array Value) (s : State) : State → Prop := fun t => ∃ o, t.status = .running ∧ Ended t below o ∧ lw_Q a s o t
/-- the law's own end, with 1 on the stack, nothing written that was there before, its room as the claim has it -/
theorem lw_ret {p : Program} {l : Launch} {e : Env} {s : State} {m : MethodId} {below : List Frame} {meth : Method} {c : Code} {b : Nat} (hx : p.tables.exec = Jvm.exec) (hb : c.code = code) (hr : meth.sig.returnType = ret) (hlocks : meth.locks = false) {pc : Nat} {H : Heap} {ls : Array Slot} (hdg : decode code pc = .ok (.ireturn, 1)) : W p l e room_1 s m #[Value.ref b] below meth c H [] 600002 7302232 (lw_Z below #[Value.ref b] s) (F0 m pc ls [.int 1]) := by
  intro T hT X
  obtain ⟨fs, hret, hrun, hended, hW, hframe⟩ := X.leave (v := some (.int 1)) (hlocks := hlocks) (fun h => by rw [hr] at h; cases h)
  have hmeth' : T.vm.method? m = some meth := X.method'
  refine ⟨T.setFrames fs, ?_, .returned (some (.int 1)), hrun, hended, rfl, ⟨_, rfl⟩, hW, hframe⟩
  jvm_step X.here [X.here.top, hx, hb, hdg, hmeth', hr, ret, narrow_b1]
  (try refine ⟨rfl, ?_⟩); (try refine ⟨rfl, ?_⟩)
  first | (intro acts; rw [hret _ acts rfl rfl rfl]) | rw [hret _ _ rfl rfl rfl]
  exact Steps.refl _
/-- what holds at the law's entry: the machine, the code, the tables' words (any of lw_tbl by 'hts w (by decide +kernel)'), the script of L ints xs at the cell b, what the Statement gives of the start (any of its parts by flat_of_before) -/
def lw_At (p : Program) (s : State) (m : MethodId) (meth : Method) (c : Code) (b L : Nat) (xs : Nat → Int32) : Prop :=
  p.tables.exec = Jvm.exec ∧ c.code = code ∧ meth.sig.returnType = ret ∧ c.maxLocals = 7 ∧ s.vm.findClass R_law = some m.cls ∧ (∀ w ∈ lw_tbl, w.before #[Value.ref b] s = true) ∧ va_X b L xs s s.heap ∧ b < s.heap.size ∧ meth.locks = false ∧ (Jvm.Cond.and given_1 narrow_1).before #[Value.ref b] s = true
/-- numbers behind the symbols: the script's ints, its length, .. -/
noncomputable def zν (L : Nat) (xs : Nat → Int32) (i : Nat) : Int :=
  if i < 10 then (xs i).toInt else if i = 10 then (L : Int) else if i = 11 then (L : Int) - 10 else if i = 12 then (xs 0 &&& 15).toInt
  else if 20 ≤ i then (((xs (i - 20)).toInt64 <<< ((32 : Int32).toInt64 &&& 63)) ||| ((xs (i - 20 + 1)).toInt64 &&& Int64.ofInt 4294967295)).toInt else 0
theorem i32b (x : Int32) : -2147483648 ≤ x.toInt ∧ x.toInt ≤ 2147483647 := by
  have h1 := Int32.le_toInt x
  have h2 := Int32.toInt_lt x
  omega
theorem i64b (x : Int64) : -9223372036854775808 ≤ x.toInt ∧ x.toInt ≤ 9223372036854775807 := by
  have h1 := Int64.le_toInt x
  have h2 := Int64.toInt_lt x
  omega
theorem zν_lo {L : Nat} {xs : Nat → Int32} {j : Nat} (h : j < 10) : Int32.ofInt (zν L xs j) = xs j := by
  unfold zν
  rw [if_pos h, Int32.ofInt_toInt]
theorem zν_10 {L : Nat} {xs : Nat → Int32} : zν L xs 10 = (L : Int) := rfl
theorem zν_11 {L : Nat} {xs : Nat → Int32} : zν L xs 11 = (L : Int) - 10 := rfl
theorem zν_12 {L : Nat} {xs : Nat → Int32} : zν L xs 12 = (xs 0 &&& 15).toInt := rfl
theorem zν_hi {L : Nat} {xs : Nat → Int32} {j : Nat} : zν L xs (20 + j) = (((xs j).toInt64 <<< ((32 : Int32).toInt64 &&& 63)) ||| ((xs (j + 1)).toInt64 &&& Int64.ofInt 4294967295)).toInt := by
  unfold zν
  rw [if_neg (by omega), if_neg (by omega), if_neg (by omega), if_neg (by omega), if_pos (by omega), show 20 + j - 20 = j by omega]
theorem and15 (x : Int32) : 0 ≤ (x &&& 15).toInt ∧ (x &&& 15).toInt ≤ 15 := by
  have h : (x &&& 15).toBitVec = x.toBitVec &&& 15#32 := rfl
  have e : (x &&& 15).toInt = ((x.toBitVec &&& 15#32).toInt) := rfl
  have hn : (x.toBitVec &&& 15#32).toNat ≤ 15 := by
    rw [BitVec.toNat_and]
    exact Nat.and_le_right
  rw [e, BitVec.toInt_eq_toNat_cond]
  split <;> omega
theorem zν_val {L : Nat} (hL : L ≤ 10) (xs : Nat → Int32) : xval (zν L xs) := by
  refine ⟨fun i hi => ?_, fun i hi => ?_, ?_, ?_, fun j h1 h2 => ?_⟩
  · unfold zν
    split
    · exact i32b _
    split
    · omega
    split
    · omega
    split
    · exact i32b _
    · rw [if_neg (by omega)]; omega
  · unfold zν
    rw [if_neg (by omega), if_neg (by omega), if_neg (by omega), if_neg (by omega), if_pos hi]
    exact i64b _
  · rw [zν_11, zν_10, Int32.ofInt_sub]
  · rw [zν_12, zν_lo (by decide), Int32.ofInt_toInt]
    rfl
  · rw [zν_hi, Int64.ofInt_toInt, zν_lo (by omega), zν_lo (by omega)]
theorem zν_scr (L : Nat) (xs : Nat → Int32) : zscr L xs (zν L xs) := ⟨fun _ _ h => zν_lo h, rfl, rfl⟩
theorem zν_in {L : Nat} (hL : L ≤ 10) (xs : Nat → Int32) {lo hi : Nat} (h : (lo : Int) ≤ (xs 0 &&& 15).toInt ∧ (xs 0 &&& 15).toInt ≤ (hi : Int)) : xin (zν L xs) (xbox lo hi) := by
  intro q hq
  unfold xbox at hq
  rcases List.mem_cons.mp hq with rfl | hq
  · show (0 : Int) ≤ (L : Int) ∧ (L : Int) ≤ 10
    omega
  rcases List.mem_cons.mp hq with rfl | hq
  · show (-10 : Int) ≤ (L : Int) - 10 ∧ (L : Int) - 10 ≤ 0
    omega
  rcases List.mem_cons.mp hq with rfl | hq
  · exact h
  · cases hq
theorem xall1_some {o : Option (List xL)} (h : xall1 o = true) : ∃ lf, o = some lf ∧ ∀ q ∈ lf, q.2.1.1 = 0 ∧ q.2.1.2.1 = 0 ∧ q.2.1.2.2.1 = 1 := by
  cases o with
  | none => cases h
  | some lf =>
    refine ⟨lf, rfl, fun q hq => ?_⟩
    have g := List.all_eq_true.mp (show lf.all _ = true from h) q hq
    simp only [Bool.and_eq_true, Nat.beq_eq, ieq_iff] at g
    exact ⟨g.1.1, g.1.2, g.2⟩
theorem tRm_0 : tRm 0 = room_1 := by decide +kernel
theorem zone {p : Program} {e : Env} {s : State} {m : MethodId} {below : List Frame} {meth : Method} {c : Code} {l : Launch} {b L : Nat} {xs : Nat → Int32} {D : va_G} {ca : Nat → ClassId} (hL : L ≤ 10) (C0 : lw_At p s m meth c b L xs) (hex : c.exceptionTable.toList = [])
    (A : zall tM tY tBt tHh tRt tRm tEx l s D ca b L xs tty) {lo hi : Nat} (hrun : xall1 (xtop lo hi) = true) (hin : (lo : Int) ≤ (xs 0 &&& 15).toInt ∧ (xs 0 &&& 15).toInt ≤ (hi : Int)) :
    W p l e room_1 s m #[Value.ref b] below meth c s.heap [] 0 0 (lw_Z below #[Value.ref b] s) (entryFrame m ([Value.ref b] : List Value).toArray 7) := by
  obtain ⟨lf, hlf, hall⟩ := xall1_some hrun
  obtain ⟨hexec, hcode, hret, hml, hown, hts, hX, hbs, hlocks, hgv⟩ := C0
  have hgood := zmain A 5000 0 _ _ _ lf hlf
  have C : zcx tM tY tBt tHh tRt s 0 p s m meth c := ⟨hexec, State.WarmedH.refl s, Nat.le_refl _, fun _ _ => rfl, hown, hcode, hml, hret, hlocks, fun h => absurd h (by decide +kernel), by rw [hex]; rfl⟩
  have hx : zexits tM tY tBt tHh tRt tRm tEx l s D ca b (zν L xs) lf 0 p e s m #[Value.ref b] below meth c (lw_Z below #[Value.ref b] s) := by
    intro q hq _ u _
    obtain ⟨g0, g1, g2⟩ := hall q hq
    refine ⟨fun _ v hv => ?_, fun h => ?_, fun h => ?_⟩
    · have ev : v = .int 1 := by
        have e9 := xden_0 hv (show xk 0 q.2.1.2 = true from by rw [xk, g1]; rfl)
        rw [g2] at e9
        exact e9
      subst ev
      intro H locs ls pc cells slots hc hs _ hS hend
      rw [tRm_0] at hc hs ⊢
      rcases hend with ⟨z, -, hdg, -⟩ | ⟨z, hz, -⟩ | ⟨hz, -⟩
      · exact va_forget hS.2.2 (W.widen hc hs (lw_ret hexec hcode hret hlocks hdg))
      · cases hz
      · cases hz
    · rw [g0] at h; cases h
    · rw [g0] at h; cases h
  have g := hgood (zν L xs) (zν_val hL xs) (zν_scr L xs) (zν_in hL xs hin) [(0, .ref b)] [] (s.heap.size, fun _ => (0, 0, fun _ => .null)) ?_ trivial ?_ p e s m #[Value.ref b] below meth c (lw_Z below #[Value.ref b] s) C hx
  · rw [lg_entry_eq]
    have hle := lv_entry [Value.ref b] (n := 7) (show 1 ≤ 7 by decide)
    have g9 := g s.heap [] _ ⟨rfl, Nat.le_refl _, fun a h1 h2 => absurd h1 (Nat.not_le.mpr h2)⟩ va_S.rf hle
    rw [tRm_0] at g9
    exact g9
  · exact xargs_ok (l := [(7, .ofNat 0, .ofNat 0)]) (l' := [.ref b]) 0 ⟨rfl, trivial⟩
  · exact ⟨rfl, Nat.zero_le _, fun i hi => absurd hi (Nat.not_lt_zero _)⟩
/-- from the entry, for every script of at most 10 ints, the law comes to its end with true -/
theorem whole_start {p : Program} {e : Env} {s : State} {m : MethodId} {below : List Frame} {meth : Method} {c : Code} (l : Launch) {b L : Nat} {xs : Nat → Int32} (hst : l.stackTraces = false) (hex : c.exceptionTable.toList = []) (hL : L ≤ 10) (C0 : lw_At p s m meth c b L xs) : W p l e room_1 s m #[Value.ref b] below meth c s.heap [] 0 0 (lw_Z below #[Value.ref b] s) (entryFrame m ([Value.ref b] : List Value).toArray 7) := by
  obtain ⟨D, ca, A⟩ := zall_ok (l := l) hst C0.2.2.2.2.2.1 C0.2.2.2.2.2.2.2.2.2 C0.2.2.2.2.2.2.1 C0.2.2.2.2.2.2.2.1
  have h := and15 (xs 0)
  by_cases h1 : (xs 0 &&& 15).toInt ≤ 5
  · exact zone hL C0 hex A trun_0 ⟨h.1, h1⟩
  by_cases h2 : (xs 0 &&& 15).toInt ≤ 7
  · exact zone hL C0 hex A trun_1 ⟨by omega, h2⟩
  · exact zone hL C0 hex A trun_2 ⟨by omega, h.2⟩
set_option maxHeartbeats 4000000 in
theorem lw_walk (l : Launch) (hst : l.stackTraces = false) (b : Addr) (xs : List Int32) : MetFree l x (headSpec (Jvm.Cond.code x code maxLocals ret :: tables_1) room_1) (lw_P b xs) (fun _ _ _ _ _ => True) lw_Q := by
  refine MetFree.of_bodyS (code := code) (maxLocals := maxLocals) (ret := ret) (by decide) ?_ ?_
  · intro args s m h hn
    obtain ⟨meth, c, h1, h2, h3, h4, h5, h6, -, -⟩ := Cond.code_spec hn (atoms_spec (ws := Jvm.Cond.code x code maxLocals ret :: tables_1) h _ List.mem_cons_self)
    exact ⟨meth, c, h1, h2, h3, h4, h5, h6⟩
  · intro p e s m args below meth c s₁ B hml0 hP _
    obtain ⟨rfl, hx, hbd, hgv⟩ := hP
    obtain ⟨scr, harrAt, hlist, hof, hsmall⟩ := hx
    obtain ⟨hcb, hkn, -, -⟩ := State.arrayAt?_spec harrAt
    have hown : s.vm.findClass R_law = some m.cls := findClass_of_methodNamed B.named
    have hts0 : ∀ c ∈ (Jvm.Cond.code x code maxLocals ret :: tables_1), c.before #[Value.ref b] s = true := atoms_spec (ws := Jvm.Cond.code x code maxLocals ret :: tables_1) B.pre
    have hts : ∀ w ∈ lw_tbl, w.before #[Value.ref b] s = true := k2_hts_sels lw_privs (fun w hw => hts0 w (List.mem_cons_of_mem _ hw)) lw_privs_ok
    have hml : c.maxLocals = 7 := B.maxLocals_eq (hts0 _ List.mem_cons_self)
    have X₀ : Stand p l e room_1 s m #[Value.ref b] below meth c s₁ [] 0 0 := Stand.of_body B
    have hex : c.exceptionTable.toList = [] := by
      obtain ⟨meth9, c9, k1, k2, -, -, -, -, k7, -⟩ := Cond.code_spec B.named (hts0 _ List.mem_cons_self)
      cases k1.symm.trans X₀.method
      cases k2.symm.trans X₀.code
      rw [Array.isEmpty_iff.mp k7]
    have hh0 : s₁.heap = s.heap := by rw [B.state]; rfl
    have hsz : scr.slots.size = xs.length := by rw [← Array.length_toList, hlist, List.length_map]
    have hval : ∀ j : Nat, j < xs.length → scr.slots[j]? = some (.int (xs.getD j 0)) := fun j hj => by
      rw [← Array.getElem?_toList, hlist]
      simp [hj]
    have hbl : b < s.heap.size := (Array.getElem?_eq_some_iff.mp hcb).1
    have hX : va_X b xs.length (fun j => xs.getD j 0) s s.heap := ⟨scr, hcb, hof, hkn, hsz, hval⟩
    have K : W p l e room_1 s m #[Value.ref b] below meth c s₁.heap [] 0 0 (lw_Z below #[Value.ref b] s) (entryFrame m ([Value.ref b] : List Value).toArray 7) := by
      rw [hh0]
      exact whole_start l hst hex hbd ⟨B.exec, B.bytes, B.returns, hml, hown, hts, hX, hbl, B.notSynchronized, hgv⟩
    obtain ⟨t, a1, o, b1, b2, b3⟩ := K s₁ rfl X₀
    exact ⟨t, o, a1, b1, b2, b3⟩
theorem lw_pre_spec {args : Array Value} {s : State} (h : (Jvm.Cond.and given_1 narrow_1).before args s = true) (hr : rest_1_c.before args s = true) : ∃ (b : Addr) (xs : List Int32), lw_P b xs args s := by
  have hs := flat_of_before _ h
  have hq := flat_of_before _ hr
  have hc : (Cond.count 1).before args s = true := hs _ (by decide +kernel)
  have harr : (Cond.arrayOf (.arg 0) .int).before args s = true := hs _ (by decide +kernel)
  have hle : (Cond.le (.length (.arg 0)) (.int 10)).before args s = true := hs _ (by decide +kernel)
  have hlen : (Cond.isInt (.length (.arg 0))).before args s = true := hq _ (by decide +kernel)
  have hall : (Cond.all (.arg 0) (.isInt (.elem (.arg 0) (.index 0)))).before args s = true := hq _ (by decide +kernel)
  obtain ⟨b, xs, hb, hx⟩ := State.ints_of_pre rfl harr hlen hall
  have hsm : xs.length < 2 ^ 31 := hx.choose_spec.2.2.2
  have hev : (Term.length (.arg 0)).eval args s none [] s = some (.int xs.length.toInt32) := hx.length_eval hb
  have hv := Cond.le_ints hev (show (Term.int 10).eval args s none [] s = some (.int 10) from rfl)
  have hd : xs.length.toInt32 ≤ 10 := by
    simpa [Cond.before, Cond.holds, hv] using hle
  have hN : xs.length ≤ 10 := (Int32.ofNat_le_ofNat hsm (by decide)).mp (show Int32.ofNat xs.length ≤ Int32.ofNat 10 from hd)
  exact ⟨b, xs, Cond.one_arg hc (show args[0]? = some (.ref b) from hb), hx, hN, h⟩
theorem lw_comes (l : Launch) (hst : l.stackTraces = false) : Comes l x (Jvm.Cond.code x code maxLocals ret :: tables_1) room_1 (fun tb e args s => Calls_1 tb e args s ∧ rest_1 tb e args s ∧ Pre_1 tb e args s)
    (fun _ _ args s o t => lw_Q args s o t) := by
  intro p e ha hc hk s m args below hf hfit hheap happ hpre
  obtain ⟨b, xs, hP⟩ := lw_pre_spec hpre.2.2 hpre.2.1
  obtain ⟨k, o, h1, h2, h3, hQ⟩ := lw_walk l hst b xs p e ha hc hk s m args below hf ((Spec.applies_iff_loose hf).mp happ).1 hP trivial
  exact ⟨k, o, h1, h2, h3, hQ⟩
theorem lw_frame {s t : State} {o : Outcome} {args : Array Value} (h : Framed s o t [] 600002 7302232) :
    Framed s o t (fieldLocs frame_1_writes args s ++ arrayLocs frame_1_arrays args s ++ staticLocs frame_1_statics s) 600002 7302232 := h
theorem lw_limb (L : Cond) (hL : ∀ (args : Array Value) (s t : State), L.after args s (.returned (some (.int 1))) t = true) :
    ArmFor flags0 classFile x code maxLocals ret World_1 tables_1 room_1 Calls_1 rest_1 Pre_1
      (fun tb e a s o t => postC L tb e a s o t ∧ Framed s o t (fieldLocs frame_1_writes a s ++ arrayLocs frame_1_arrays a s ++ staticLocs frame_1_statics s) 600002 7302232) := by
  intro l hfl _ _ p e ha hc hk s m args below hf hfit hheap happ hpre
  have hst : l.stackTraces = false := by
    unfold Launch.stackTraces
    rw [hfl]
    decide +kernel
  obtain ⟨k, o, h1, h2, h3, rfl, hF⟩ := lw_comes l hst p e ha hc hk s m args below hf hfit hheap happ hpre
  exact ⟨k, _, h1, h2, h3, hL args s _, lw_frame hF⟩
theorem i_vc : Claimed_1_1 ∧ Claimed_1_2 := ⟨lw_limb limb_1_1 (fun args s t => by simp [limb_1_1, Cond.after, Cond.holds, Cond.value]), lw_limb limb_1_2 (fun args s t => Cond.after_iff.mpr (by
  first | (rw [show limb_1_2 = Cond.eq .result (.int 1) from rfl, Cond.eq_ints (x := 1) (y := 1) rfl rfl]; simp; done) | (simp [limb_1_2, Cond.value, Term.eval]; done)))⟩
