/-! THE LAW UP TO ITS LOOP -/
section GL
variable {l : Launch} {s0 : State} {D : va_G} {ca : Nat → ClassId} {b L : Nat} {xs : Nat → Int32}
variable {p : Program} {e : Env} {s : State} {m : MethodId} {args : Array Value} {below : List Frame} {meth : Method} {c : Code} {Q : State → Prop} {mi pc cells slots : Nat} {lv : List (Nat × Value)} {st : List Value} {u : zW}
theorem za_w {pc' : Nat} {st' : List Value} (C : zcx tM tY tBt tHh tRt s0 mi p s m meth c) (h : zW1 (tBt mi) pc st pc' st') (g : zat9 tM tRm l s0 D ca mi p e s m args below meth c Q pc' lv st' u cells slots) : zat9 tM tRm l s0 D ca mi p e s m args below meth c Q pc lv st u cells slots :=
  fun H locs ls hP hS hL => h _ _ _ _ _ _ _ _ _ _ _ _ _ _ _ _ C.1 C.2.2.2.2.2.1 (g H locs ls hP hS hL)
theorem za_astore_n {j : Fin 4} {z : Nat} (C : zcx tM tY tBt tHh tRt s0 mi p s m meth c) (hd : decode (tBt mi) pc = .ok (.astore_n j, 1)) (hj : j.val < tM.2.1 mi) (g : zat9 tM tRm l s0 D ca mi p e s m args below meth c Q (pc + 1) ((j.val, .ref z) :: lv.filter (fun q => !(q.1 == j.val) && !(q.1 + 1 == j.val && q.2.category == 2))) st u cells slots) : zat9 tM tRm l s0 D ca mi p e s m args below meth c Q pc lv (.ref z :: st) u cells slots :=
  fun H locs ls hP hS hL => lv_astore_n C.1 C.2.2.2.2.2.1 hd rfl hL hj rfl (fun ls' hL' => g H locs ls' hP hS hL')
theorem za_istore {j : Nat} {z : Int32} (C : zcx tM tY tBt tHh tRt s0 mi p s m meth c) (hd : decode (tBt mi) pc = .ok (.istore j, 2)) (hj : j < tM.2.1 mi) (g : zat9 tM tRm l s0 D ca mi p e s m args below meth c Q (pc + 2) ((j, .int z) :: lv.filter (fun q => !(q.1 == j) && !(q.1 + 1 == j && q.2.category == 2))) st u cells slots) : zat9 tM tRm l s0 D ca mi p e s m args below meth c Q pc lv (.int z :: st) u cells slots :=
  fun H locs ls hP hS hL => lv_istore C.1 C.2.2.2.2.2.1 hd hL hj rfl (fun ls' hL' => g H locs ls' hP hS hL')
theorem za_new {ci ix : Nat} (C : zcx tM tY tBt tHh tRt s0 mi p s m meth c) (hX : wfx s0 D ca) (hci : ci < 12) (hd : decode (tBt mi) pc = .ok (.new ix, 3)) (hw : zh s0 (.classLink (tY mi).cls ix (tC ci))) (hcc : cells + 1 ≤ (tRm mi).cells) (hss : slots + yg tt_N ci ≤ (tRm mi).slots)
    (g : zat9 tM tRm l s0 D ca mi p e s m args below meth c Q (pc + 3) lv (.ref u.1 :: st) (znew u (ci, yg tt_N ci, fun k => defaultValue (tty ci k))) (cells + 1) (slots + yg tt_N ci)) : zat9 tM tRm l s0 D ca mi p e s m args below meth c Q pc lv st u cells slots := by
  intro H locs ls hP hS hL
  obtain ⟨hz, w2, w3⟩ := hX.1 ci hci
  exact z_new (T := tT ci) (w := u) C.1 C.2.2.2.2.2.1 (Ts := u_ws (tC ci) (tT ci) (yg tt_N ci)) (fun w hw => hz.2.2.1 w hw args s C.2.1) (fun w hw => hw) (tty ci) hz.2.2.2.1 C.2.2.2.2.1 (hw args s C.2.1) (w2 args s C.2.1) (w3 args s C.2.1) hz.1 (u_Kn_moved C.2.1.alike hz.2.1) hP hS hcc hss hd (fun H1 hP1 hS1 => g H1 locs ls hP1 hS1 hL)
theorem za_newl (C : zcx tM tY tBt tHh tRt s0 mi p s m meth c) (hX : wfx s0 D ca) (hd : decode (tBt mi) pc = .ok (.newarray .long, 2)) (hcc : cells + 1 ≤ (tRm mi).cells) (hss : slots + 1 ≤ (tRm mi).slots)
    (g : zat9 tM tRm l s0 D ca mi p e s m args below meth c Q (pc + 2) lv (.ref u.1 :: st) (znew u (67, 1, fun _ => .long 0)) (cells + 1) (slots + 1)) : zat9 tM tRm l s0 D ca mi p e s m args below meth c Q pc lv (.int (Int32.ofInt 1) :: st) u cells slots := by
  intro H locs ls hP hS hL
  have hcA : s.vm.findClass ("[" ++ (newarray.typeOf .long).toString) = some (ca 67) := va_RA.moved C.2.1.alike hX.2.1.2.2.2.2.2.2
  have hN : (Int32.ofInt 1).toNatClampNeg = 1 := by decide +kernel
  have h0 : ¬ Int32.ofInt 1 < 0 := by decide +kernel
  refine z_newa (atype := .long) (tag := 67) (w := u) C.1 C.2.2.2.2.2.1 (hX.2.2.2.1.2.2.2 args s C.2.1) (by decide) (by decide) hcA hP hS h0 hN (by decide +kernel) hcc hss hd (fun H1 hP1 hS1 => ?_)
  exact g H1 locs ls hP1 hS1 hL
/-- a constructor, run on symbols -/
theorem za_ctor (A1 : zall tM1 tY tBt tHh tRt tRm tEx l s0 D ca b L xs tty) {ν : Nat → Int} (hv : xval ν) (hs : zscr L xs ν) {mj ix fuel a : Nat} {w w' : xW} {q9 : xL} (C : zcx tM tY tBt tHh tRt s0 mi p s m meth c) (hd : decode (tBt mi) pc = .ok (.invokespecial ix, 3)) (hcal : zcal tM tY tBt tHh tRt tRm s0 mi mj) (hml : zml s0 (tY mi).cls ix (tY mj)) (hmh : zmh (tY mj)) (him : zh s0 (.instanceMethod (tY mj))) (hnm : (tY mj).name = "<init>") (hH : tHh mj = []) (hR : tRt mj = none) (hds : (parseMethodDescriptor (tY mj).desc).map (fun d => d.parameters.length) = some 0)
    (hrun : xrun tM1 fuel mj (0, [(0, (3, .ofNat a, .ofNat 0))], [], 0, 0) w [] = some [q9]) (h1 : q9.2.1.1 = 1) (hcc : cells + (tRm mj).cells ≤ (tRm mi).cells) (hss : slots + (tRm mj).slots ≤ (tRm mi).slots) (h8 : (st.map fun v => v.category).sum ≤ 8) (hn1 : 1 ≤ tM.2.1 mj) (hu : xdw s0.heap.size b ν w u)
    (g : ∀ u', xdw s0.heap.size b ν q9.2.2 u' → zat9 tM tRm l s0 D ca mi p e s m args below meth c Q (pc + 3) lv st u' (cells + (tRm mj).cells) (slots + (tRm mj).slots)) : zat9 tM tRm l s0 D ca mi p e s m args below meth c Q pc lv (.ref (s0.heap.size + a) :: st) u cells slots := by
  intro H locs ls hP hS hL T hT X
  have hva : xds s0.heap.size b ν [(3, .ofNat a, .ofNat 0)] [.ref (s0.heap.size + a)] := ⟨rfl, trivial⟩
  obtain ⟨vm₁, mk, hnm9, X₁, hstep⟩ := z_goI (Y := tY) (nl := tM.2.1) (Bt := tBt) (Hh := tHh) (Rt := tRt) (b := s0.heap.size + a) (vs := []) (rest := st) (g := F0 m pc ls (.ref (s0.heap.size + a) :: st)) X C.1 C.2.1 C.2.2.2.2.1 hml him hnm hH hR hcal.2.1 hmh hds rfl rfl rfl (by rw [C.2.2.2.2.2.1]; exact hd)
  have hh1 : (T.setVm vm₁).heap = H := hT
  have hq0 : ∀ q, q < s0.heap.size → H[q]? = s0.heap[q]? := fun q hq => (hS.2.1 q (Nat.lt_of_lt_of_le hq C.2.2.1) (Nat.not_le.mpr hq)).trans (C.2.2.2.1 q hq)
  have hgood := zmain A1 fuel mj _ _ _ _ hrun
  have hcl : ∀ (s' : State) (meth' : Method) (c' : Code), zctx tM.2.1 tY tBt tHh tRt s0 mj p s' mk meth' c' → s'.heap = (T.setVm vm₁).heap →
      W p l e (tRm mj) s' mk [Value.ref (s0.heap.size + a)].toArray (.java (F0 m pc ls st) :: below) meth' c' (T.setVm vm₁).heap [] 0 0 (zMQ tEx s0 D ca (.java (F0 m pc ls st) :: below) s' (tRm mj).cells (tRm mj).slots (zPo s0 b ν [q9])) (entryFrame mk [Value.ref (s0.heap.size + a)].toArray (tM.2.1 mj)) := by
    intro s' meth' c' C' hh'
    rw [lg_entry_eq]
    have hle := lv_entry [Value.ref (s0.heap.size + a)] (n := tM.2.1 mj) hn1
    exact hgood ν hv hs (fun _ h => absurd h List.not_mem_nil) (lv_args 0 [Value.ref (s0.heap.size + a)]) [] u (xargs_ok (l := [(3, .ofNat a, .ofNat 0)]) 0 hva) trivial hu p e s' mk [Value.ref (s0.heap.size + a)].toArray (.java (F0 m pc ls st) :: below) meth' c' _ C' (zexits_MQ A1.1 C') (T.setVm vm₁).heap [] _ (by rw [hh1]; exact hP) (by rw [hh']; exact va_S.rf) hle
  obtain ⟨T', Lc, X', hLc, hqT, hsz, hout⟩ := z_back (nl := tM.2.1) (Y := tY) (Bt := tBt) (Hh := tHh) (Rt := tRt) (Rm := tRm) (Ex := tEx) (s0 := s0) (D := D) (ca := ca) X₁ C.1 C.2.1 (by rw [hh1, hP.1]; exact hP.2.1) (fun q hq => by rw [hh1]; exact hq0 q hq) (g := F0 m pc ls st) rfl (by rw [C.2.2.2.2.2.2.1]; exact hL.1) (by rw [C.2.2.2.2.2.1]; exact hd)
    (X₁.named hnm9) hcal.1 (vs := [Value.ref (s0.heap.size + a)]) (hcal.2.1 _ _ (State.WarmedH.trans C.2.1 X₁.warmed)) hcal.2.2.1 (by have := hcal.2.2.2; show 2 * 0 + (st.map fun v => v.category).sum + (tM.2.1 mj + 11) + (tRm mj).locals ≤ (tRm mi).locals; omega) hcc hss hcl
  have hST : va_S (fun q => s0.heap.size ≤ q) s.heap T'.heap (locs ++ Lc) := by
    refine ⟨Nat.le_trans hS.1 (by rw [← hh1]; exact hsz), fun q h1 h2 => ?_, fun z hz => ?_⟩
    · rw [hqT q (Nat.not_le.mp h2), hh1]
      exact hS.2.1 q h1 h2
    · rcases List.mem_append.mp hz with h | h
      · exact hS.2.2 z h
      · exact hLc z h
  rcases hout with ⟨v, u9, ⟨q, hq, -, hqu, ho⟩, hz9, hsteps⟩ | ⟨a9, k, u9, ce, ⟨q, hq, -, hqu, ho⟩, -⟩
  · rw [List.mem_singleton] at hq
    subst hq
    rcases ho with ⟨h0, -⟩ | ⟨-, e9⟩ | ⟨h0, -⟩
    · rw [h1] at h0; cases h0
    · cases e9
      obtain ⟨t, g1, g2⟩ := g u9 hqu T'.heap (locs ++ Lc) ls hz9 hST hL T' rfl X'
      exact ⟨t, hstep t (fun acts => (hsteps acts).trans g1), g2⟩
    · rw [h1] at h0; cases h0
  · rw [List.mem_singleton] at hq
    subst hq
    rcases ho with ⟨h0, -⟩ | ⟨h0, e9⟩ | ⟨h0, -⟩
    · rw [h1] at h0; cases h0
    · cases e9
    · rw [h1] at h0; cases h0
theorem za_born {B : Nat} {ν : Nat → Int} {ci : Nat} (h : zdf ci) {t : Nat × List (Nat × xV)} (ht : tM.2.2.2.2.2.2.1 ci = some t) {w : xW} (hw : xdw B b ν w u) (hs : w.1 + 1 ≤ 2048) : xdw B b ν (xnew w (ci, t.1, (2, 0, 0), t.2)) (znew u (ci, yg tt_N ci, fun k => defaultValue (tty ci k))) := by
  obtain ⟨dl, e1, e2⟩ := h
  have e9 : t = (yg tt_N ci, dl) := Option.some.inj (ht.symm.trans e1)
  subst e9
  exact xnew_ok hw hs ⟨rfl, rfl, fun k hk => e2 k hk _ _ _⟩
theorem xnew_l {B : Nat} {ν : Nat → Int} {w : xW} (hw : xdw B b ν w u) (hs : w.1 + 1 ≤ 2048) : xdw B b ν (xi3 w) (znew u (67, 1, fun _ => .long 0)) := by
  refine xnew_ok hw hs ⟨rfl, rfl, fun k hk => ?_⟩
  show Value.long 0 = .long (Int64.ofInt (.ofNat 0))
  decide
/-- the law's own end -/
theorem law_ends {ν : List Int} (hcode : decode (tBt 213) = decode code) (hx : ∀ (H : Heap) (locs : List Loc) (ls : Array Slot) (pc n : Nat), n ≤ 1512 → va_S (fun q => s0.heap.size ≤ q) s.heap H locs → decode (tBt 213) pc = .ok (.ireturn, 1) → W p l e (tRm 213) s m args below meth c H locs n (tsb 213 + 6 * n) Q (F0 m pc ls [.int 1])) {lit : Value → Prop} : cends tM tY tBt tHh tRt tRm tEx l s0 D ca tsb (aPo s0.heap.size b L tgr lit cT_213_0 ν u) 213 p e s m args below meth c Q := by
  have hall : ∀ q ∈ cT_213_0.2.2, q.1 = 0 ∧ tst q.2.2.2 = [((0, 0, ((.ofNat 1 : Int), [])) : aV)] ∧ q.2.2.1 = 1512 := by
    intro q hq
    rcases List.mem_cons.mp hq with rfl | hq
    · exact ⟨rfl, rfl, rfl⟩
    rcases List.mem_cons.mp hq with rfl | hq
    · exact ⟨rfl, rfl, rfl⟩
    · exact absurd hq List.not_mem_nil
  refine ⟨fun v u' n h => ?_, fun k u' n h => ?_⟩
  · obtain ⟨q, hq, μ, -, -, -, hk, h⟩ := h
    obtain ⟨a1, a2, a3⟩ := hall q hq
    rw [a3] at hk
    rcases h with ⟨-, v9, e9, h⟩ | ⟨h, -⟩
    · cases e9
      rcases h with ⟨h, -⟩ | ⟨r, w, h, e8, hd⟩
      · rw [a2] at h; cases h
      · rw [a2] at h
        cases h
        subst e8
        obtain ⟨x, x1, x2, -⟩ := hd
        have ex : x = 1 := (Option.some.inj (show some (1 : Int) = some x from x1)).symm
        subst ex
        subst x2
        intro H locs ls pc hz hS hdis
        rcases hdis with ⟨z, -, hdg, -⟩ | ⟨z, hz9, -⟩ | ⟨hz9, -⟩
        · exact hx H locs ls pc n hk hS hdg
        · cases hz9
        · cases hz9
    · exact absurd a1 h
  · obtain ⟨q, hq, μ, -, -, -, hk, h⟩ := h
    obtain ⟨a1, a2, a3⟩ := hall q hq
    rcases h with ⟨-, v9, e9, -⟩ | ⟨h, -⟩
    · cases e9
    · exact absurd a1 h
end GL
