/-! THE CLAIM OUT OF ONE WALK OF THE LAW'S BODY. Your part is whole_start (and what it stands on); all else here is the same for every law, but numbers. -/
def R_law : String := "ImageTextsLaw"
def lw_P (b : Addr) (xs : List Int32) (args : Array Value) (s : State) : Prop := args = #[.ref b] ∧ s.IntsAt b xs ∧ xs.length ≤ 5120 ∧ (Jvm.Cond.and given_1 narrow_1).before args s = true
def lw_Q (_ : Array Value) (s : State) (o : Outcome) (t : State) : Prop := o = .returned (some (.int 1)) ∧ Framed s o t [] 601024 7293034
def lw_Z (below : List Frame) (a : Array Value) (s : State) : State → Prop := fun t => ∃ o, t.status = .running ∧ Ended t below o ∧ lw_Q a s o t
/-- the law's own end, with 1 on the stack, nothing written that was there before, its room as the claim has it -/
theorem lw_ret {p : Program} {l : Launch} {e : Env} {s : State} {m : MethodId} {below : List Frame} {meth : Method} {c : Code} {b : Nat} (hx : p.tables.exec = Jvm.exec) (hb : c.code = code) (hr : meth.sig.returnType = ret) (hlocks : meth.locks = false) {pc : Nat} {H : Heap} {ls : Array Slot} (hdg : decode code pc = .ok (.ireturn, 1)) : W p l e room_1 s m #[Value.ref b] below meth c H [] 601024 7293034 (lw_Z below #[Value.ref b] s) (F0 m pc ls [.int 1]) := by
  intro T hT X
  obtain ⟨fs, hret, hrun, hended, hW, hframe⟩ := X.leave (v := some (.int 1)) (hlocks := hlocks) (fun h => by rw [hr] at h; cases h)
  have hmeth' : T.vm.method? m = some meth := X.method'
  refine ⟨T.setFrames fs, ?_, .returned (some (.int 1)), hrun, hended, rfl, ⟨_, rfl⟩, hW, hframe⟩
  jvm_step X.here [X.here.top, hx, hb, hdg, hmeth', hr, ret, narrow_b1]
  (try refine ⟨rfl, ?_⟩); (try refine ⟨rfl, ?_⟩)
  first | (intro acts; rw [hret _ acts rfl rfl rfl]) | rw [hret _ _ rfl rfl rfl]
  exact Steps.refl _
/-- what holds at the law's entry: the machine, the code, the tables' words (any of lw_tbl by 'hts w (by decide +kernel)'), the script of L ints xs at the cell b, what the Statement gives of the start (any of its parts by flat_of_before) -/
def lw_At (p : Program) (s : State) (m : MethodId) (meth : Method) (c : Code) (b L : Nat) (xs : Nat → Int32) : Prop :=
  p.tables.exec = Jvm.exec ∧ c.code = code ∧ meth.sig.returnType = ret ∧ c.maxLocals = 7 ∧ s.vm.findClass R_law = some m.cls ∧ (∀ w ∈ lw_tbl, w.before #[Value.ref b] s = true) ∧ va_X b L xs s s.heap ∧ b < s.heap.size ∧ meth.locks = false ∧ (Jvm.Cond.and given_1 narrow_1).before #[Value.ref b] s = true
/-- numbers behind the symbols: the script's ints, its length, .. -/
noncomputable def zν (L : Nat) (xs : Nat → Int32) (i : Nat) : Int :=
  if i < 10 then (xs i).toInt else if i = 10 then (L : Int) else if i = 11 then (L : Int) - 10 else if i = 12 then (xs 0 &&& 15).toInt
  else if 20 ≤ i then (((xs (i - 20)).toInt64 <<< ((32 : Int32).toInt64 &&& 63)) ||| ((xs (i - 20 + 1)).toInt64 &&& Int64.ofInt 4294967295)).toInt else 0
theorem i32b (x : Int32) : -2147483648 ≤ x.toInt ∧ x.toInt ≤ 2147483647 := by
  have h1 := Int32.le_toInt x
  have h2 := Int32.toInt_lt x
  omega
theorem i64b (x : Int64) : -9223372036854775808 ≤ x.toInt ∧ x.toInt ≤ 9223372036854775807 := by
  have h1 := Int64.le_toInt x
  have h2 := Int64.toInt_lt x
  omega
theorem zν_lo {L : Nat} {xs : Nat → Int32} {j : Nat} (h : j < 10) : Int32.ofInt (zν L xs j) = xs j := by
  unfold zν
  rw [if_pos h, Int32.ofInt_toInt]
theorem zν_10 {L : Nat} {xs : Nat → Int32} : zν L xs 10 = (L : Int) := rfl
theorem zν_11 {L : Nat} {xs : Nat → Int32} : zν L xs 11 = (L : Int) - 10 := rfl
theorem zν_12 {L : Nat} {xs : Nat → Int32} : zν L xs 12 = (xs 0 &&& 15).toInt := rfl
theorem zν_hi {L : Nat} {xs : Nat → Int32} {j : Nat} : zν L xs (20 + j) = (((xs j).toInt64 <<< ((32 : Int32).toInt64 &&& 63)) ||| ((xs (j + 1)).toInt64 &&& Int64.ofInt 4294967295)).toInt := by
  unfold zν
  rw [if_neg (by omega), if_neg (by omega), if_neg (by omega), if_neg (by omega), if_pos (by omega), show 20 + j - 20 = j by omega]
theorem and15 (x : Int32) : 0 ≤ (x &&& 15).toInt ∧ (x &&& 15).toInt ≤ 15 := by
  have h : (x &&& 15).toBitVec = x.toBitVec &&& 15#32 := rfl
  have e : (x &&& 15).toInt = ((x.toBitVec &&& 15#32).toInt) := rfl
  have hn : (x.toBitVec &&& 15#32).toNat ≤ 15 := by
    rw [BitVec.toNat_and]
    exact Nat.and_le_right
  rw [e, BitVec.toInt_eq_toNat_cond]
  split <;> omega
theorem zν_val {L : Nat} (hL : L ≤ 5120) (xs : Nat → Int32) : xval (zν L xs) := by
  refine ⟨fun i hi => ?_, fun i hi => ?_, ?_, ?_, fun j h1 h2 => ?_⟩
  · unfold zν
    split
    · exact i32b _
    split
    · omega
    split
    · omega
    split
    · exact i32b _
    · rw [if_neg (by omega)]; omega
  · unfold zν
    rw [if_neg (by omega), if_neg (by omega), if_neg (by omega), if_neg (by omega), if_pos hi]
    exact i64b _
  · rw [zν_11, zν_10, Int32.ofInt_sub]
  · rw [zν_12, zν_lo (by decide), Int32.ofInt_toInt]
    rfl
  · rw [zν_hi, Int64.ofInt_toInt, zν_lo (by omega), zν_lo (by omega)]
theorem zν_scr (L : Nat) (xs : Nat → Int32) : zscr L xs (zν L xs) := ⟨fun _ _ h => zν_lo h, rfl, rfl⟩
theorem tRm_law : tRm 213 = room_1 := by decide +kernel
/-- from the entry, for every script of at most 5120 ints, the law comes to its end with true -/
theorem whole_start {p : Program} {e : Env} {s : State} {m : MethodId} {below : List Frame} {meth : Method} {c : Code} (l : Launch) {b L : Nat} {xs : Nat → Int32} (hst : l.stackTraces = false) (hex : c.exceptionTable.toList = []) (hL : L ≤ 5120) (C0 : lw_At p s m meth c b L xs) : W p l e room_1 s m #[Value.ref b] below meth c s.heap [] 0 0 (lw_Z below #[Value.ref b] s) (entryFrame m ([Value.ref b] : List Value).toArray 7) := by
  obtain ⟨D, ca, A1, A2, hX⟩ := zall_ok (l := l) aok_t hL hst C0.2.2.2.2.2.1 C0.2.2.2.2.2.2.2.2.2 C0.2.2.2.2.2.2.1 C0.2.2.2.2.2.2.2.1
  obtain ⟨hexec, hcode, hret, hml, hown, hts, hXX, hbs, hlocks, hgv⟩ := C0
  have C : zcx tM tY tBt tHh tRt s 213 p s m meth c := ⟨hexec, State.WarmedH.refl s, Nat.le_refl _, fun _ _ => rfl, hown, hcode, hml, hret, hlocks, fun h => absurd h (by decide +kernel), by rw [hex]; rfl⟩
  obtain ⟨q, r, k1, k2, k3, k4, k5, k6, k7⟩ := sb_out
  have hv := zν_val hL xs
  have hsc := zν_scr L xs
  have hB := zB_all hts
  have b1 := hB 201 (by decide)
  have b2 := hB 202 (by decide)
  obtain ⟨w1, w2, w3, w4⟩ := b1.2.2.2.2.2.2.2 (by decide +kernel)
  obtain ⟨v1, v2, v3, v4⟩ := b2.2.2.2.2.2.2.2 (by decide +kernel)
  have hends : ∀ (ν : List Int) (u : zW), cends tM tY tBt tHh tRt tRm tEx l s D ca tsb (aPo s.heap.size b L tgr (wlit s) cT_213_0 ν u) 213 p e s m #[Value.ref b] below meth c (lw_Z below #[Value.ref b] s) := by
    intro ν u
    refine law_ends rfl (fun H locs ls pc n hn hS hdg => ?_)
    rw [tRm_law]
    have h6 : tsb 213 = 14884 := by decide +kernel
    exact va_forget hS.2.2 (W.widen (k := 601024) (n := 7293034) (by omega) (by rw [h6]; omega) (lw_ret hexec hcode hret hlocks hdg))
  have g : zat9 tM tRm l s D ca 213 p e s m #[Value.ref b] below meth c (lw_Z below #[Value.ref b] s) 0 [(0, .ref b)] [] (s.heap.size, fun _ => (0, 0, fun _ => .null)) 0 0 := by
    refine za_new (ci := 10) (ix := 8) C hX (by decide) (by decide +kernel) (zw_g hts 111 (by decide +kernel) (by decide +kernel)) (by decide +kernel) (by decide +kernel) ?_
    refine za_w C (zw_dup rfl (by decide +kernel)) ?_
    refine za_ctor (w' := (0, zemp xC 11)) (mj := 201) (ix := 57) (a := 0) A1 hv hsc C (by decide +kernel) ⟨b1.1, b1.2.1, by decide +kernel, by decide +kernel⟩ (Or.inl (zw_g hts 113 (by decide +kernel) (by decide +kernel))) b1.2.2.1 w1 w2 w3 w4 (by decide +kernel) k1 k2 (by decide +kernel) (by decide +kernel) (by show 1 + 0 ≤ 8; decide) (by decide +kernel) (za_born zdf_10 rfl ⟨rfl, by decide, fun i hi => absurd hi (Nat.not_lt_zero _)⟩ (by decide)) (fun u2 h2 => ?_)
    refine za_astore_n (j := 1) C (by decide +kernel) (by decide +kernel) ?_
    refine za_new (ci := 11) (ix := 58) C hX (by decide) (by decide +kernel) (zw_g hts 1224 (by decide +kernel) (by decide +kernel)) (by decide +kernel) (by decide +kernel) ?_
    refine za_w C (zw_dup rfl (by decide +kernel)) ?_
    have e2 : u2.1 = s.heap.size + 980 := by rw [h2.1, k3]
    rw [e2]
    refine za_ctor (w' := (0, zemp xC 11)) (mj := 202) (ix := 60) (a := 980) A1 hv hsc C (by decide +kernel) ⟨b2.1, b2.2.1, by decide +kernel, by decide +kernel⟩ (Or.inl (zw_g hts 1226 (by decide +kernel) (by decide +kernel))) b2.2.2.1 v1 v2 v3 v4 (by decide +kernel) k4 k5 (by decide +kernel) (by decide +kernel) (by show 1 + 0 ≤ 8; decide) (by decide +kernel) (za_born zdf_11 rfl h2 (by rw [k3]; decide)) (fun u4 h4 => ?_)
    refine za_astore_n (j := 2) C (by decide +kernel) (by decide +kernel) ?_
    refine za_w C (zw_iconst (n := 1) (by decide +kernel)) ?_
    refine za_newl C hX (by decide +kernel) (by decide +kernel) (by decide +kernel) ?_
    have e4 : u4.1 = s.heap.size + 998 := by rw [h4.1, k6]
    rw [e4]
    refine za_astore_n (j := 3) C (by decide +kernel) (by decide +kernel) ?_
    refine za_w C (zw_iconst (n := 0) (by decide +kernel)) ?_
    refine za_istore (j := 4) C (by decide +kernel) (by decide +kernel) ?_
    have h5 := xnew_l h4 (by rw [k6]; decide)
    have hγ := start_ok (lit := wlit s) (L := L) h5 k7 hL
    have hct : ∀ mj, ∀ c9 ∈ tcl 213 mj, aval tM tY tBt tHh tRt tRm tEx l s D ca tsb b L tgr (wlit s) mj c9 := by
      intro mj c9 hc9
      refine aval_all (cu := fun mi i => ncu (tcu mi) i) (ct := tct) (N := 400) A2 pd_all mj c9 ?_
      unfold tcl at hc9
      cases hb : Nat.ble (mj + 1) 213 with
      | false => rw [hb] at hc9; cases hc9
      | true => rw [hb] at hc9; exact hc9
    have hG := amck_ok (mi := 213) A2 hct ck_law [(L : Int)] [(0, .ref b), (1, .ref (s.heap.size + 0)), (2, .ref (s.heap.size + 980)), (3, .ref (s.heap.size + 998)), (4, .int (Int32.ofInt 0))] _ 999 hγ ?_ rfl p e s m #[Value.ref b] below meth c _ C (hends _ _)
    · intro H locs ls hP hS hLv
      refine hG H locs ls hP hS ⟨hLv.1, hLv.2.1, fun z hz => hLv.2.2 z ?_⟩
      rcases List.mem_cons.mp hz with rfl | hz
      · exact List.mem_cons_of_mem _ (List.mem_cons_of_mem _ (List.mem_cons_of_mem _ (List.mem_cons_of_mem _ List.mem_cons_self)))
      rcases List.mem_cons.mp hz with rfl | hz
      · exact List.mem_cons_of_mem _ (List.mem_cons_of_mem _ (List.mem_cons_of_mem _ List.mem_cons_self))
      rcases List.mem_cons.mp hz with rfl | hz
      · exact List.mem_cons_of_mem _ (List.mem_cons_of_mem _ List.mem_cons_self)
      rcases List.mem_cons.mp hz with rfl | hz
      · exact List.mem_cons_of_mem _ List.mem_cons_self
      rcases List.mem_cons.mp hz with rfl | hz
      · exact List.mem_cons_self
      · exact absurd hz List.not_mem_nil
    · refine ⟨⟨rfl, ?_, rfl⟩, ⟨rfl, 0, rfl, rfl, by decide, by decide +kernel⟩, ⟨rfl, 980, rfl, rfl, by decide, by decide +kernel⟩, ⟨rfl, 998, rfl, rfl, by decide, by decide +kernel⟩, ⟨rfl, 0, rfl, rfl, by decide, by decide⟩, trivial⟩
      show some ((0 : Int) + ((1 : Int) * (L : Int) + 0)) = some (L : Int)
      exact congrArg some (show (0 : Int) + ((1 : Int) * (L : Int) + 0) = (L : Int) by omega)
  rw [lg_entry_eq]
  have hle := lv_entry [Value.ref b] (n := 7) (show 1 ≤ 7 by decide)
  have g9 := g s.heap [] _ ⟨rfl, Nat.le_refl _, fun a h1 h2 => absurd h1 (Nat.not_le.mpr h2)⟩ va_S.rf hle
  rw [tRm_law] at g9
  exact g9
set_option maxHeartbeats 4000000 in
theorem lw_walk (l : Launch) (hst : l.stackTraces = false) (b : Addr) (xs : List Int32) : MetFree l x (headSpec (Jvm.Cond.code x code maxLocals ret :: tables_1) room_1) (lw_P b xs) (fun _ _ _ _ _ => True) lw_Q := by
  refine MetFree.of_bodyS (code := code) (maxLocals := maxLocals) (ret := ret) (by decide) ?_ ?_
  · intro args s m h hn
    obtain ⟨meth, c, h1, h2, h3, h4, h5, h6, -, -⟩ := Cond.code_spec hn (atoms_spec (ws := Jvm.Cond.code x code maxLocals ret :: tables_1) h _ List.mem_cons_self)
    exact ⟨meth, c, h1, h2, h3, h4, h5, h6⟩
  · intro p e s m args below meth c s₁ B hml0 hP _
    obtain ⟨rfl, hx, hbd, hgv⟩ := hP
    obtain ⟨scr, harrAt, hlist, hof, hsmall⟩ := hx
    obtain ⟨hcb, hkn, -, -⟩ := State.arrayAt?_spec harrAt
    have hown : s.vm.findClass R_law = some m.cls := findClass_of_methodNamed B.named
    have hts0 : ∀ c ∈ (Jvm.Cond.code x code maxLocals ret :: tables_1), c.before #[Value.ref b] s = true := atoms_spec (ws := Jvm.Cond.code x code maxLocals ret :: tables_1) B.pre
    have hts : ∀ w ∈ lw_tbl, w.before #[Value.ref b] s = true := k2_hts_sels lw_privs (fun w hw => hts0 w (List.mem_cons_of_mem _ hw)) lw_privs_ok
    have hml : c.maxLocals = 7 := B.maxLocals_eq (hts0 _ List.mem_cons_self)
    have X₀ : Stand p l e room_1 s m #[Value.ref b] below meth c s₁ [] 0 0 := Stand.of_body B
    have hex : c.exceptionTable.toList = [] := by
      obtain ⟨meth9, c9, k1, k2, -, -, -, -, k7, -⟩ := Cond.code_spec B.named (hts0 _ List.mem_cons_self)
      cases k1.symm.trans X₀.method
      cases k2.symm.trans X₀.code
      rw [Array.isEmpty_iff.mp k7]
    have hh0 : s₁.heap = s.heap := by rw [B.state]; rfl
    have hsz : scr.slots.size = xs.length := by rw [← Array.length_toList, hlist, List.length_map]
    have hval : ∀ j : Nat, j < xs.length → scr.slots[j]? = some (.int (xs.getD j 0)) := fun j hj => by
      rw [← Array.getElem?_toList, hlist]
      simp [hj]
    have hbl : b < s.heap.size := (Array.getElem?_eq_some_iff.mp hcb).1
    have hX : va_X b xs.length (fun j => xs.getD j 0) s s.heap := ⟨scr, hcb, hof, hkn, hsz, hval⟩
    have K : W p l e room_1 s m #[Value.ref b] below meth c s₁.heap [] 0 0 (lw_Z below #[Value.ref b] s) (entryFrame m ([Value.ref b] : List Value).toArray 7) := by
      rw [hh0]
      exact whole_start l hst hex hbd ⟨B.exec, B.bytes, B.returns, hml, hown, hts, hX, hbl, B.notSynchronized, hgv⟩
    obtain ⟨t, a1, o, b1, b2, b3⟩ := K s₁ rfl X₀
    exact ⟨t, o, a1, b1, b2, b3⟩
theorem lw_pre_spec {args : Array Value} {s : State} (h : (Jvm.Cond.and given_1 narrow_1).before args s = true) (hr : rest_1_c.before args s = true) : ∃ (b : Addr) (xs : List Int32), lw_P b xs args s := by
  have hs := flat_of_before _ h
  have hq := flat_of_before _ hr
  have hc : (Cond.count 1).before args s = true := hs _ (by decide +kernel)
  have harr : (Cond.arrayOf (.arg 0) .int).before args s = true := hs _ (by decide +kernel)
  have hle : (Cond.le (.length (.arg 0)) (.int 5120)).before args s = true := hs _ (by decide +kernel)
  have hlen : (Cond.isInt (.length (.arg 0))).before args s = true := hq _ (by decide +kernel)
  have hall : (Cond.all (.arg 0) (.isInt (.elem (.arg 0) (.index 0)))).before args s = true := hq _ (by decide +kernel)
  obtain ⟨b, xs, hb, hx⟩ := State.ints_of_pre rfl harr hlen hall
  have hsm : xs.length < 2 ^ 31 := hx.choose_spec.2.2.2
  have hev : (Term.length (.arg 0)).eval args s none [] s = some (.int xs.length.toInt32) := hx.length_eval hb
  have hv := Cond.le_ints hev (show (Term.int 5120).eval args s none [] s = some (.int 5120) from rfl)
  have hd : xs.length.toInt32 ≤ 5120 := by
    simpa [Cond.before, Cond.holds, hv] using hle
  have hN : xs.length ≤ 5120 := (Int32.ofNat_le_ofNat hsm (by decide)).mp (show Int32.ofNat xs.length ≤ Int32.ofNat 5120 from hd)
  exact ⟨b, xs, Cond.one_arg hc (show args[0]? = some (.ref b) from hb), hx, hN, h⟩
theorem lw_comes (l : Launch) (hst : l.stackTraces = false) : Comes l x (Jvm.Cond.code x code maxLocals ret :: tables_1) room_1 (fun tb e args s => Calls_1 tb e args s ∧ rest_1 tb e args s ∧ Pre_1 tb e args s)
    (fun _ _ args s o t => lw_Q args s o t) := by
  intro p e ha hc hk s m args below hf hfit hheap happ hpre
  obtain ⟨b, xs, hP⟩ := lw_pre_spec hpre.2.2 hpre.2.1
  obtain ⟨k, o, h1, h2, h3, hQ⟩ := lw_walk l hst b xs p e ha hc hk s m args below hf ((Spec.applies_iff_loose hf).mp happ).1 hP trivial
  exact ⟨k, o, h1, h2, h3, hQ⟩
theorem lw_frame {s t : State} {o : Outcome} {args : Array Value} (h : Framed s o t [] 601024 7293034) :
    Framed s o t (fieldLocs frame_1_writes args s ++ arrayLocs frame_1_arrays args s ++ staticLocs frame_1_statics s) 601024 7293034 := h
theorem lw_limb (L : Cond) (hL : ∀ (args : Array Value) (s t : State), L.after args s (.returned (some (.int 1))) t = true) :
    ArmFor flags0 classFile x code maxLocals ret World_1 tables_1 room_1 Calls_1 rest_1 Pre_1
      (fun tb e a s o t => postC L tb e a s o t ∧ Framed s o t (fieldLocs frame_1_writes a s ++ arrayLocs frame_1_arrays a s ++ staticLocs frame_1_statics s) 601024 7293034) := by
  intro l hfl _ _ p e ha hc hk s m args below hf hfit hheap happ hpre
  have hst : l.stackTraces = false := by
    unfold Launch.stackTraces
    rw [hfl]
    decide +kernel
  obtain ⟨k, o, h1, h2, h3, rfl, hF⟩ := lw_comes l hst p e ha hc hk s m args below hf hfit hheap happ hpre
  exact ⟨k, _, h1, h2, h3, hL args s _, lw_frame hF⟩
theorem i_vc : Claimed_1_1 ∧ Claimed_1_2 := ⟨lw_limb limb_1_1 (fun args s t => by simp [limb_1_1, Cond.after, Cond.holds, Cond.value]), lw_limb limb_1_2 (fun args s t => Cond.after_iff.mpr (by
  first | (rw [show limb_1_2 = Cond.eq .result (.int 1) from rfl, Cond.eq_ints (x := 1) (y := 1) rfl rfl]; simp; done) | (simp [limb_1_2, Cond.value, Term.eval]; done)))⟩
