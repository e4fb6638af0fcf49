/-! SUMS, SWITCHES, NEW CELLS, on symbols -/
section ZK
variable {M : xM} {Y : Nat → MethodName} {Bt : Nat → ByteArray} {Hh : Nat → List (Nat × Nat × Nat × Nat)} {Rt : Nat → Option FieldType} {Rm : Nat → Room} {Ex : Nat → String}
variable {l : Launch} {s0 : State} {D : va_G} {ca : Nat → ClassId} {b0 L : Nat} {xs : Nat → Int32} {ty : Nat → Nat → FieldType}
theorem zg_iadd {rec : xK} (hr : zrec M Y Bt Hh Rt Rm Ex l s0 D ca b0 L xs rec) {mi : Nat} {F : xF} {w : xW} {b : xB} {lf : List xL} (hd : decode (Bt mi) F.1 = .ok (.iadd, 1)) (h : xar xf_add (fun a c => a + c) rec mi F w b = some lf) : zGood M Y Bt Hh Rt Rm Ex l s0 D ca b0 L xs mi F w b lf := by
  unfold xar at h
  match hst : F.2.2.1 with
  | [] => rw [hst] at h; cases h
  | [_] => rw [hst] at h; cases h
  | y :: x :: r =>
    rw [hst] at h
    cases hf : xf_add x y with
    | some z =>
      simp only [hf] at h
      refine zSt_go ?_ (hr _ _ _ _ _ h)
      intro ν hv hs hi lv st u h1 h2 h3
      rw [hst] at h2
      obtain ⟨vy, us, e9, hy, h9x⟩ := xds_c h2
      subst e9
      clear h2
      have h2 := h9x
      clear h9x
      obtain ⟨vx, us, e9, hdn, h9x⟩ := xds_c h2
      subst e9
      clear h2
      have h2 := h9x
      clear h9x
      obtain ⟨a, c1, rfl, rfl, hz⟩ := xf_add_ok hf hdn hy
      exact ⟨lv, .int (a + c1) :: us, u, h1, ⟨hz, h2⟩, h3, fun p e s m args below meth c Q C hk9 H locs ls hP hS hL => lv_iadd C.1 C.2.2.2.2.2.1 hd (hk9 H locs ls hP hS hL)⟩
    | none =>
      simp only [hf] at h
      match hfx : xfor b x with
      | none => simp only [hfx] at h; cases h
      | some (false, i, t) => simp only [hfx] at h; exact zspl hr h
      | some (true, i, a) =>
        simp only [hfx] at h
        match hfy : xfor b y with
        | none => simp only [hfy] at h; cases h
        | some (false, i, t) => simp only [hfy] at h; exact zspl hr h
        | some (true, i, c1) =>
          simp only [hfy] at h
          refine zSt_go ?_ (hr _ _ _ _ _ h)
          intro ν hv hs hi lv st u h1 h2 h3
          rw [hst] at h2
          obtain ⟨vy, us, e9, hy, h9x⟩ := xds_c h2
          subst e9
          clear h2
          have h2 := h9x
          clear h9x
          obtain ⟨vx, us, e9, hdn, h9x⟩ := xds_c h2
          subst e9
          clear h2
          have h2 := h9x
          clear h9x
          obtain ⟨rfl, -, -⟩ := xfor_ok hv hi hfx hdn
          obtain ⟨rfl, -, -⟩ := xfor_ok hv hi hfy hy
          exact ⟨lv, .int (Int32.ofInt a + Int32.ofInt c1) :: us, u, h1, ⟨congrArg Value.int (Int32.ofInt_add _ _).symm, h2⟩, h3, fun p e s m args below meth c Q C hk9 H locs ls hP hS hL => lv_iadd C.1 C.2.2.2.2.2.1 hd (hk9 H locs ls hP hS hL)⟩
theorem zg_isub {rec : xK} (hr : zrec M Y Bt Hh Rt Rm Ex l s0 D ca b0 L xs rec) {mi : Nat} {F : xF} {w : xW} {b : xB} {lf : List xL} (hd : decode (Bt mi) F.1 = .ok (.isub, 1)) (h : xar xf_sub (fun a c => a - c) rec mi F w b = some lf) : zGood M Y Bt Hh Rt Rm Ex l s0 D ca b0 L xs mi F w b lf := by
  unfold xar at h
  match hst : F.2.2.1 with
  | [] => rw [hst] at h; cases h
  | [_] => rw [hst] at h; cases h
  | y :: x :: r =>
    rw [hst] at h
    cases hf : xf_sub x y with
    | some z =>
      simp only [hf] at h
      refine zSt_go ?_ (hr _ _ _ _ _ h)
      intro ν hv hs hi lv st u h1 h2 h3
      rw [hst] at h2
      obtain ⟨vy, us, e9, hy, h9x⟩ := xds_c h2
      subst e9
      clear h2
      have h2 := h9x
      clear h9x
      obtain ⟨vx, us, e9, hdn, h9x⟩ := xds_c h2
      subst e9
      clear h2
      have h2 := h9x
      clear h9x
      obtain ⟨a, c1, rfl, rfl, hz⟩ := xf_sub_ok hv hf hdn hy
      exact ⟨lv, .int (a - c1) :: us, u, h1, ⟨hz, h2⟩, h3, fun p e s m args below meth c Q C hk9 H locs ls hP hS hL => lv_isub C.1 C.2.2.2.2.2.1 hd (hk9 H locs ls hP hS hL)⟩
    | none =>
      simp only [hf] at h
      match hfx : xfor b x with
      | none => simp only [hfx] at h; cases h
      | some (false, i, t) => simp only [hfx] at h; exact zspl hr h
      | some (true, i, a) =>
        simp only [hfx] at h
        match hfy : xfor b y with
        | none => simp only [hfy] at h; cases h
        | some (false, i, t) => simp only [hfy] at h; exact zspl hr h
        | some (true, i, c1) =>
          simp only [hfy] at h
          refine zSt_go ?_ (hr _ _ _ _ _ h)
          intro ν hv hs hi lv st u h1 h2 h3
          rw [hst] at h2
          obtain ⟨vy, us, e9, hy, h9x⟩ := xds_c h2
          subst e9
          clear h2
          have h2 := h9x
          clear h9x
          obtain ⟨vx, us, e9, hdn, h9x⟩ := xds_c h2
          subst e9
          clear h2
          have h2 := h9x
          clear h9x
          obtain ⟨rfl, -, -⟩ := xfor_ok hv hi hfx hdn
          obtain ⟨rfl, -, -⟩ := xfor_ok hv hi hfy hy
          exact ⟨lv, .int (Int32.ofInt a - Int32.ofInt c1) :: us, u, h1, ⟨congrArg Value.int (Int32.ofInt_sub _ _).symm, h2⟩, h3, fun p e s m args below meth c Q C hk9 H locs ls hP hS hL => lv_isub C.1 C.2.2.2.2.2.1 hd (hk9 H locs ls hP hS hL)⟩
theorem zs_swd {b : xB} {mi t len : Nat} {dflt lo hi : Int} {offs : Array Int} {F : xF} {w : xW} {x : xV} {r : List xV} (hd : decode (Bt mi) F.1 = .ok (.tableswitch dflt lo hi offs, len)) (hst : F.2.2.1 = x :: r) (ht : xtgt F.1 dflt = some t)
    (ho : ∀ ν, xval ν → xin ν b → ∀ v, xden s0.heap.size b0 ν x v → ∃ z : Int32, v = .int z ∧ (z.toInt < lo ∨ hi < z.toInt)) : zSt M Y Bt Hh Rt Rm l s0 D ca b0 L xs b mi F w (t, F.2.1, r, F.2.2.2) w := by
  intro ν hv hs hi lv st u h1 h2 h3
  rw [hst] at h2
  obtain ⟨v, us, e9, hdn, h9x⟩ := xds_c h2
  subst e9
  clear h2
  have h2 := h9x
  clear h9x
  obtain ⟨z, rfl, hz⟩ := ho ν hv hi v hdn
  exact ⟨lv, us, u, h1, h2, h3, fun p e s m args below meth c Q C hk9 H locs ls hP hS hL => lv_tableOut C.1 C.2.2.2.2.2.1 hd hz (xtgt_ok ht) (hk9 H locs ls hP hS hL)⟩
theorem zg_sw {rec : xK} (hr : zrec M Y Bt Hh Rt Rm Ex l s0 D ca b0 L xs rec) {mi len : Nat} {F : xF} {w : xW} {b : xB} {dflt lo hi : Int} {offs : Array Int} {lf : List xL} (hd : decode (Bt mi) F.1 = .ok (.tableswitch dflt lo hi offs, len)) (h : xsw dflt lo hi offs.toList rec mi F w b = some lf) : zGood M Y Bt Hh Rt Rm Ex l s0 D ca b0 L xs mi F w b lf := by
  unfold xsw at h
  cases hst : F.2.2.1 with
  | nil => rw [hst] at h; cases h
  | cons x r =>
    rw [hst] at h
    rcases cnd_some h with ⟨-, h⟩ | ⟨-, h⟩
    · exact zspl hr h
    · rcases cnd_some h with ⟨-, h⟩ | ⟨-, h⟩
      · exact zspl hr h
      · rcases cnd_some h with ⟨hc, h⟩ | ⟨-, h⟩
        · cases ht : xtgt F.1 dflt with
          | none => simp only [ht] at h; cases h
          | some t =>
            simp only [ht] at h
            refine zSt_go (zs_swd hd hst ht ?_) (hr _ _ _ _ _ h)
            intro ν hv hi9 v hdn
            rw [Bool.and_eq_true, Bool.or_eq_true, ilt_iff, ilt_iff] at hc
            obtain ⟨e1, e2⟩ := xden_4 hdn hc.1
            have hb := xbnd_ok hv hi9 x.2.1.toNat
            refine ⟨_, e1, ?_⟩
            rw [toI (hv.1 _ e2)]
            rcases hc.2 with g | g
            · exact Or.inl (by omega)
            · exact Or.inr (by omega)
        · match hf : xfor b x with
          | none => simp only [hf] at h; cases h
          | some (false, i, t) => simp only [hf] at h; exact zspl hr h
          | some (true, i, j) =>
            simp only [hf] at h
            rcases cnd_some h with ⟨hc, h⟩ | ⟨hc, h⟩
            · cases ht : xtgt F.1 dflt with
              | none => simp only [ht] at h; cases h
              | some t =>
                simp only [ht] at h
                refine zSt_go (zs_swd hd hst ht ?_) (hr _ _ _ _ _ h)
                intro ν hv hi9 v hdn
                obtain ⟨e1, e2⟩ := xfor_ok hv hi9 hf hdn
                rw [Bool.or_eq_true, ilt_iff, ilt_iff] at hc
                refine ⟨_, e1, ?_⟩
                rw [toI e2]
                exact hc
            · rw [Bool.or_eq_false_iff] at hc
              have n1 : ¬ j < lo := fun g => by rw [ilt_iff.mpr g] at hc; cases hc.1
              have n2 : ¬ hi < j := fun g => by rw [ilt_iff.mpr g] at hc; cases hc.2
              cases hof : offs.toList[(j - lo).toNat]? with
              | none => simp only [hof] at h; cases h
              | some of =>
                simp only [hof] at h
                cases ht : xtgt F.1 of with
                | none => simp only [ht] at h; cases h
                | some t =>
                  simp only [ht] at h
                  refine zSt_go ?_ (hr _ _ _ _ _ h)
                  intro ν hv hs hi9 lv st u h1 h2 h3
                  rw [hst] at h2
                  obtain ⟨v, us, e9, hdn, h9x⟩ := xds_c h2
                  subst e9
                  clear h2
                  have h2 := h9x
                  clear h9x
                  obtain ⟨rfl, e2⟩ := xfor_ok hv hi9 hf hdn
                  refine ⟨lv, us, u, h1, h2, h3, fun p e s m args below meth c Q C hk9 H locs ls hP hS hL => ?_⟩
                  exact lv_tableIn C.1 C.2.2.2.2.2.1 hd (by rw [toI e2]; exact n1) (by rw [toI e2]; exact n2) (by rw [toI e2, ← Array.getElem?_toList]; exact hof) (xtgt_ok ht) (hk9 H locs ls hP hS hL)
theorem zg_new {rec : xK} (hr : zrec M Y Bt Hh Rt Rm Ex l s0 D ca b0 L xs rec) (hRm : ∀ mi, (Rm mi).cells = M.2.2.1 mi ∧ (Rm mi).slots = M.2.2.2.1 mi) {mi ci ix : Nat} {F : xF} {w : xW} {b : xB} {lf : List xL} {C : String} {T : u_T} {N : Nat} {dl : List (Nat × xV)} (hd : decode (Bt mi) F.1 = .ok (.new ix, 3)) (hz : zclo s0 D ty ci C T N) (hdl : M.2.2.2.2.2.2.1 ci = some (N, dl))
    (hdf : ∀ k, k < N → ∀ B b0 ν, xden B b0 ν (xget (2, 0, 0) dl k) (defaultValue (ty ci k))) (w1 : zh s0 (.classLink (Y mi).cls ix C)) (w2 : zh s0 (.instantiable C N)) (w3 : zh s0 (.initialized C)) (h : xnewo M ci rec mi F w b = some lf) : zGood M Y Bt Hh Rt Rm Ex l s0 D ca b0 L xs mi F w b lf := by
  unfold xnewo at h
  rw [hdl] at h
  obtain ⟨hc, h⟩ := cnd_t h
  simp only [Bool.and_eq_true, Nat.ble_eq] at hc
  refine zSt_go ?_ (hr _ _ _ _ _ h)
  intro ν hv hs hi lv st u h1 h2 h3
  refine ⟨lv, .ref u.1 :: st, znew u (ci, N, fun k => defaultValue (ty ci k)), h1, ⟨?_, h2⟩, xnew_ok h3 hc.2 ⟨rfl, rfl, fun k hk => hdf k hk _ _ _⟩, fun p e s m args below meth c Q Cx hk9 H locs ls hP hS hL => ?_⟩
  · show Value.ref u.1 = Value.ref (s0.heap.size + (Int.ofNat w.1).toNat)
    rw [h3.1]; rfl
  · exact z_new (T := T) (w := u) Cx.1 Cx.2.2.2.2.2.1 (Ts := u_ws C T N) (fun w hw => hz.2.2.1 w hw args s Cx.2.1) (fun w hw => hw) (ty ci) hz.2.2.2.1 Cx.2.2.2.2.1 (w1 args s Cx.2.1) (w2 args s Cx.2.1) (w3 args s Cx.2.1) hz.1 (u_Kn_moved Cx.2.1.alike hz.2.1) hP hS
      (by rw [(hRm mi).1]; exact hc.1.1) (by rw [(hRm mi).2]; exact hc.1.2) hd (fun H1 hP1 hS1 => hk9 H1 locs ls hP1 hS1 hL)
theorem nidx {j : Int} (h0 : -1 < j) (h1 : j < 65536) : ¬ Int32.ofInt j < 0 ∧ (Int32.ofInt j).toNatClampNeg = j.toNat ∧ j.toNat ≤ 65535 := by
  refine ⟨?_, Int32.toNatClampNeg_ofInt_of_le (by omega) (by omega), by omega⟩
  rw [Int32.lt_iff_toInt_lt, toI ⟨by omega, by omega⟩]
  intro g
  have : j < 0 := g
  omega
theorem zg_newa {rec : xK} (hr : zrec M Y Bt Hh Rt Rm Ex l s0 D ca b0 L xs rec) (hRm : ∀ mi, (Rm mi).cells = M.2.2.1 mi ∧ (Rm mi).slots = M.2.2.2.1 mi) {mi tag : Nat} {at0 : ArrayType} {d : xV} {F : xF} {w : xW} {b : xB} {lf : List xL} (hd : decode (Bt mi) F.1 = .ok (.newarray at0, 2)) (ht : ztg s0 ca tag (newarray.typeOf at0))
    (hw : zh s0 (.arrayClass (newarray.typeOf at0))) (hdf : ∀ B b0 ν, xden B b0 ν d (defaultValue (newarray.typeOf at0))) (h : xnewa M tag 2 d rec mi F w b = some lf) : zGood M Y Bt Hh Rt Rm Ex l s0 D ca b0 L xs mi F w b lf := by
  unfold xnewa at h
  cases hst : F.2.2.1 with
  | nil => rw [hst] at h; cases h
  | cons x r =>
    rw [hst] at h
    obtain ⟨hc, h⟩ := cnd_t h
    simp only [Bool.and_eq_true, Nat.ble_eq, ilt_iff] at hc
    obtain ⟨⟨⟨⟨⟨hx0, hlo⟩, hhi⟩, hcc⟩, hss⟩, hww⟩ := hc
    refine zSt_go ?_ (hr _ _ _ _ _ h)
    intro ν hv hs hi lv st u h1 h2 h3
    rw [hst] at h2
    obtain ⟨v, us, e9, hdn, h9x⟩ := xds_c h2
    subst e9
    clear h2
    have h2 := h9x
    clear h9x
    have e := xden_0 hdn hx0
    subst e
    obtain ⟨n1, n2, n3⟩ := nidx hlo hhi
    refine ⟨lv, .ref u.1 :: us, znew u (tag, x.2.1.toNat, fun _ => defaultValue (newarray.typeOf at0)), h1, ⟨?_, h2⟩, xnew_ok h3 hww ⟨rfl, rfl, fun k hk => hdf _ _ _⟩, fun p e s m args below meth c Q Cx hk9 H locs ls hP hS hL => ?_⟩
    · show Value.ref u.1 = Value.ref (s0.heap.size + (Int.ofNat w.1).toNat)
      rw [h3.1]; rfl
    · have hcA : s.vm.findClass ("[" ++ (newarray.typeOf at0).toString) = some (ca tag) := by
        have g := va_RA.moved Cx.2.1.alike ht.2.2.2
        cases at0 <;> exact g
      have hby : x.2.1.toNat * componentBytes (newarray.typeOf at0) ≤ 536870912 := by
        have g : componentBytes (newarray.typeOf at0) ≤ 8 := by cases at0 <;> decide
        have g2 := Nat.mul_le_mul n3 g
        omega
      exact z_newa (w := u) Cx.1 Cx.2.2.2.2.2.1 (hw args s Cx.2.1) ht.1 ht.2.1 hcA hP hS n1 n2 hby (by rw [(hRm mi).1]; exact hcc) (by rw [(hRm mi).2]; exact hss) hd (fun H1 hP1 hS1 => hk9 H1 locs ls hP1 hS1 hL)
theorem zg_anew {rec : xK} (hr : zrec M Y Bt Hh Rt Rm Ex l s0 D ca b0 L xs rec) (hRm : ∀ mi, (Rm mi).cells = M.2.2.1 mi ∧ (Rm mi).slots = M.2.2.2.1 mi) {mi tag ix : Nat} {C : String} {F : xF} {w : xW} {b : xB} {lf : List xL} (hd : decode (Bt mi) F.1 = .ok (.anewarray ix, 3)) (ht : ztg s0 ca tag (.object C))
    (hw : zh s0 (.classLink (Y mi).cls ix C)) (hw2 : zh s0 (.arrayOver (.object C))) (h : xnewa M tag 3 (2, 0, 0) rec mi F w b = some lf) : zGood M Y Bt Hh Rt Rm Ex l s0 D ca b0 L xs mi F w b lf := by
  unfold xnewa at h
  cases hst : F.2.2.1 with
  | nil => rw [hst] at h; cases h
  | cons x r =>
    rw [hst] at h
    obtain ⟨hc, h⟩ := cnd_t h
    simp only [Bool.and_eq_true, Nat.ble_eq, ilt_iff] at hc
    obtain ⟨⟨⟨⟨⟨hx0, hlo⟩, hhi⟩, hcc⟩, hss⟩, hww⟩ := hc
    refine zSt_go ?_ (hr _ _ _ _ _ h)
    intro ν hv hs hi lv st u h1 h2 h3
    rw [hst] at h2
    obtain ⟨v, us, e9, hdn, h9x⟩ := xds_c h2
    subst e9
    clear h2
    have h2 := h9x
    clear h9x
    have e := xden_0 hdn hx0
    subst e
    obtain ⟨n1, n2, n3⟩ := nidx hlo hhi
    refine ⟨lv, .ref u.1 :: us, znew u (tag, x.2.1.toNat, fun _ => .null), h1, ⟨?_, h2⟩, xnew_ok h3 hww ⟨rfl, rfl, fun k hk => rfl⟩, fun p e s m args below meth c Q Cx hk9 H locs ls hP hS hL => ?_⟩
    · show Value.ref u.1 = Value.ref (s0.heap.size + (Int.ofNat w.1).toNat)
      rw [h3.1]; rfl
    · obtain ⟨kA, comp, -, -, -, hcA⟩ := va_RA.moved Cx.2.1.alike ht.2.2.2
      exact z_anew (w := u) Cx.1 Cx.2.2.2.2.2.1 Cx.2.2.2.2.1 (hw args s Cx.2.1) (hw2 args s Cx.2.1) ht.1 ht.2.1 hcA hP hS n1 n2 (by omega) (by rw [(hRm mi).1]; exact hcc) (by rw [(hRm mi).2]; exact hss) hd (fun H1 hP1 hS1 => hk9 H1 locs ls hP1 hS1 hL)
theorem zg_obj {rec : xK} (hr : zrec M Y Bt Hh Rt Rm Ex l s0 D ca b0 L xs rec) {mi ix : Nat} {F : xF} {w : xW} {b : xB} {lf : List xL} (hd : decode (Bt mi) F.1 = .ok (.invokespecial ix, 3)) (w1 : zh s0 (.methodLink (Y mi).cls ix Lib.objectInit)) (w2 : zh s0 (.instanceMethod Lib.objectInit)) (w3 : zh s0 (.code Lib.objectInit ⟨#[0xb1]⟩ 1 none))
    (hf : 1 ≤ (Rm mi).frames) (hl0 : 20 ≤ (Rm mi).locals) (h : xobj rec mi F w b = some lf) : zGood M Y Bt Hh Rt Rm Ex l s0 D ca b0 L xs mi F w b lf := by
  unfold xobj at h
  cases hst : F.2.2.1 with
  | nil => rw [hst] at h; cases h
  | cons x r =>
    rw [hst] at h
    obtain ⟨hc, h⟩ := cnd_t h
    rw [Bool.and_eq_true, Nat.ble_eq] at hc
    refine zSt_go ?_ (hr _ _ _ _ _ h)
    intro ν hv hs hi lv st u h1 h2 h3
    rw [hst] at h2
    obtain ⟨v, us, e9, hdn, h9x⟩ := xds_c h2
    subst e9
    clear h2
    have h2 := h9x
    clear h9x
    have e := xden_3 hdn hc.1
    subst e
    have hcat := xcat_ok h2
    refine ⟨lv, us, u, h1, h2, h3, fun p e s m args below meth c Q C hk9 H locs ls hP hS hL => ?_⟩
    refine W.objInit C.1 C.2.2.2.2.2.1 C.2.2.2.2.1 (w1 args s C.2.1) (w2 args s C.2.1) (w3 args s C.2.1) rfl (by rw [C.2.2.2.2.2.2.1]; exact hL.1) rfl hd hf (by show 2 * 0 + _ + 12 ≤ _; rw [hcat]; omega) ?_
    exact hk9 H locs ls hP hS hL
theorem zg_min {rec : xK} (hr : zrec M Y Bt Hh Rt Rm Ex l s0 D ca b0 L xs rec) (hRm : ∀ mi, (Rm mi).cells = M.2.2.1 mi ∧ (Rm mi).slots = M.2.2.2.1 mi) {mi ix : Nat} {F : xF} {w : xW} {b : xB} {lf : List xL} (hd : decode (Bt mi) F.1 = .ok (.invokestatic ix, 3)) (w1 : zh s0 (.methodLink (Y mi).cls ix Lib.Math.min.name)) (w2 : zh s0 (.static Lib.Math.min.name)) (w3 : zh s0 (.initialized "java/lang/Math")) (w4 : zh s0 (.code Lib.Math.min.name Lib.Math.min.code 2 (some .int)))
    (hf : 1 ≤ (Rm mi).frames) (hl0 : 21 ≤ (Rm mi).locals) (h : xmin M rec mi F w b = some lf) : zGood M Y Bt Hh Rt Rm Ex l s0 D ca b0 L xs mi F w b lf := by
  unfold xmin at h
  match hst : F.2.2.1 with
  | [] => rw [hst] at h; cases h
  | [_] => rw [hst] at h; cases h
  | y :: x :: r =>
    rw [hst] at h
    obtain ⟨hc, h⟩ := cnd_t h
    simp only [Bool.and_eq_true, Nat.ble_eq, inI_iff] at hc
    obtain ⟨⟨⟨⟨⟨hx, hy⟩, hxi⟩, hyi⟩, hr8⟩, hcs⟩ := hc
    simp only [xcs, Bool.and_eq_true, Nat.ble_eq] at hcs
    refine zSt_go ?_ (hr _ _ _ _ _ h)
    intro ν hv hs hi lv st u h1 h2 h3
    rw [hst] at h2
    obtain ⟨vy, us, e9, hdy, h9x⟩ := xds_c h2
    subst e9
    clear h2
    have h2 := h9x
    clear h9x
    obtain ⟨vx, us, e9, hdn, h9x⟩ := xds_c h2
    subst e9
    clear h2
    have h2 := h9x
    clear h9x
    have e := xden_0 hdn hx
    subst e
    have e := xden_0 hdy hy
    subst e
    have hcat := xcat_ok h2
    refine ⟨lv, .int (if Int32.ofInt y.2.1 < Int32.ofInt x.2.1 then Int32.ofInt y.2.1 else Int32.ofInt x.2.1) :: us, u, h1, ⟨?_, h2⟩, h3, fun p e s m args below meth c Q C hk9 H locs ls hP hS hL => ?_⟩
    · show Value.int _ = Value.int (Int32.ofInt (bif ilt y.2.1 x.2.1 then y.2.1 else x.2.1))
      congr 1
      have key : Int32.ofInt y.2.1 < Int32.ofInt x.2.1 ↔ y.2.1 < x.2.1 := by rw [Int32.lt_iff_toInt_lt, toI hxi, toI hyi]
      cases hb : ilt y.2.1 x.2.1
      · rw [if_neg (fun g => by rw [ilt_iff.mpr (key.mp g)] at hb; cases hb)]; rfl
      · rw [if_pos (key.mpr (ilt_iff.mp hb))]; rfl
    · exact va_mmin C.1 C.2.2.2.2.2.1 (by rw [C.2.2.2.2.2.2.1]; exact hL.1.symm) C.2.2.2.2.1 (w1 args s C.2.1) (w2 args s C.2.1) (w3 args s C.2.1) (w4 args s C.2.1) hf (by rw [hcat]; omega) (by rw [(hRm mi).1]; exact hcs.1) (by rw [(hRm mi).2]; exact hcs.2) hd (hk9 H locs ls hP hS hL)
end ZK
