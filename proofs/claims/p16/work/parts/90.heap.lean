/-! THE HEAP'S INSTRUCTIONS, on symbols -/
/-- an object's kind as the tables have it -/
def zclo (s0 : State) (D : va_G) (ty : Nat → Nat → FieldType) (ci : Nat) (C : String) (T : u_T) (N : Nat) : Prop :=
  ci < 64 ∧ u_Kn s0 C T N (D.1 ci) (D.2 ci) ∧ (∀ w ∈ u_ws C T N, zh s0 w) ∧ (∀ k, k < N → parseFieldDescriptor (T k).2.2.1 = some (ty ci k)) ∧ (∀ a, a < N → ∀ b, b < N → a ≠ b → (T a).2.1 ≠ (T b).2.1) ∧ ∀ k, k < N → (T k).1 = C
/-- an array's kind -/
def ztg (s0 : State) (ca : Nat → ClassId) (tag : Nat) (t : FieldType) : Prop := 64 ≤ tag ∧ tag < 128 ∧ ArrOfT s0 (ca tag) t ∧ va_RA s0 (ca tag) t
def zlw (s0 : State) (own : String) (ix : Nat) (C n d : String) : Prop := zh s0 (.fieldLink own ix C n d) ∨ ∃ h : String, zh s0 (.fieldLinkNest own ix C n d h)
theorem zlw_at {s0 s : State} {own : String} {ix : Nat} {C n d : String} {args : Array Value} (h : zlw s0 own ix C n d) (hW : s0.WarmedH s.vm) : zlk own ix C n d args s := by
  rcases h with h | ⟨host, h⟩
  · exact Or.inl (h args s hW)
  · exact Or.inr ⟨host, h args s hW⟩
section ZH
variable {M : xM} {Y : Nat → MethodName} {Bt : Nat → ByteArray} {Hh : Nat → List (Nat × Nat × Nat × Nat)} {Rt : Nat → Option FieldType} {Rm : Nat → Room} {Ex : Nat → String}
variable {l : Launch} {s0 : State} {D : va_G} {ca : Nat → ClassId} {b0 L : Nat} {xs : Nat → Int32} {ty : Nat → Nat → FieldType}
theorem zs_get {b : xB} {mi ci k ix : Nat} {F : xF} {w : xW} {st' : List xV} {C : String} {T : u_T} {N : Nat} (hd : decode (Bt mi) F.1 = .ok (.getfield ix, 3)) (hz : zclo s0 D ty ci C T N) (hk : k < N) (hl : zlw s0 (Y mi).cls ix C (T k).2.1 (T k).2.2.1)
    (hx : xgf ci k N w F.2.2.1 = some st') : zSt M Y Bt Hh Rt Rm l s0 D ca b0 L xs b mi F w (F.1 + 3, F.2.1, st', F.2.2.2) w := by
  unfold xgf at hx
  cases hst : F.2.2.1 with
  | nil => rw [hst] at hx; cases hx
  | cons x r =>
    rw [hst] at hx
    obtain ⟨h3x, hx⟩ := cnd_t hx
    cases hcl : xcell w x.2.1 with
    | none => simp only [hcl] at hx; cases hx
    | some cc =>
      simp only [hcl] at hx
      obtain ⟨hcn, hx⟩ := cnd_t hx
      rw [Bool.and_eq_true, Nat.beq_eq, Nat.beq_eq] at hcn
      cases hx
      intro ν hv hs hi lv st u h1 h2 h3
      rw [hst] at h2
      obtain ⟨v, us, e9, hdn, h9x⟩ := xds_c h2
      subst e9
      clear h2
      have h2 := h9x
      clear h9x
      have e := xden_3 hdn h3x
      subst e
      obtain ⟨hlt, hdc⟩ := xcell_ok hcl h3
      refine ⟨lv, (u.2 (s0.heap.size + x.2.1.toNat)).2.2 k :: us, u, h1, ⟨hdc.2.2 k (by rw [hcn.2]; exact hk), h2⟩, h3, fun p e s m args below meth c Q Cx hk9 H locs ls hP hS hL => ?_⟩
      have hat := hP.2.2 (s0.heap.size + x.2.1.toNat) (Nat.le_add_right _ _) (by rw [h3.1]; omega)
      have hO := zat_o hat (by rw [← hdc.1, hcn.1]; exact hz.1)
      rw [← hdc.1, hcn.1, ← hdc.2.1, hcn.2] at hO
      exact z_get (T := T) (w := u) Cx.1 Cx.2.2.2.2.2.1 (Ts := u_ws C T N) (fun w hw => hz.2.2.1 w hw args s Cx.2.1) (fun w hw => hw) Cx.2.2.2.2.1 (u_Kn_moved Cx.2.1.alike hz.2.1) hO hk (zlw_at hl Cx.2.1) (hz.2.2.2.2.2 k hk) hd (hk9 H locs ls hP hS hL)
theorem zs_put {b : xB} {mi ci k ix ft : Nat} {F : xF} {w w' : xW} {st' : List xV} {C : String} {T : u_T} {N : Nat} (hd : decode (Bt mi) F.1 = .ok (.putfield ix, 3)) (hz : zclo s0 D ty ci C T N) (hk : k < N) (hl : zlw s0 (Y mi).cls ix C (T k).2.1 (T k).2.2.1) (hft : zft ft (ty ci k))
    (hfin : (T k).2.2.2 = false ∨ (zh s0 (.fieldLink (Y mi).cls ix C (T k).2.1 (T k).2.2.1) ∧ (T k).2.2.2 = true ∧ (Y mi).name = "<init>" ∧ C = (Y mi).cls)) (hx : xpf ci k N ft w F.2.2.1 = some (st', w')) : zSt M Y Bt Hh Rt Rm l s0 D ca b0 L xs b mi F w (F.1 + 3, F.2.1, st', F.2.2.2) w' := by
  unfold xpf at hx
  match hst : F.2.2.1 with
  | [] => rw [hst] at hx; cases hx
  | [_] => rw [hst] at hx; cases hx
  | v0 :: x :: r =>
    rw [hst] at hx
    obtain ⟨hc0, hx⟩ := cnd_t hx
    rw [Bool.and_eq_true] at hc0
    cases hcl : xcell w x.2.1 with
    | none => simp only [hcl] at hx; cases hx
    | some cc =>
      simp only [hcl] at hx
      obtain ⟨hcn, hx⟩ := cnd_t hx
      rw [Bool.and_eq_true, Nat.beq_eq, Nat.beq_eq] at hcn
      cases hx
      intro ν hv hs hi lv st u h1 h2 h3
      rw [hst] at h2
      obtain ⟨vv, us, e9, hdv, h9x⟩ := xds_c h2
      subst e9
      clear h2
      have h2 := h9x
      clear h9x
      obtain ⟨v, us, e9, hdn, h9x⟩ := xds_c h2
      subst e9
      clear h2
      have h2 := h9x
      clear h9x
      have e := xden_3 hdn hc0.1
      subst e
      obtain ⟨hlt, hdc⟩ := xcell_ok hcl h3
      obtain ⟨hn1, hn2⟩ := xfit_ok hc0.2 hdv hft
      refine ⟨lv, us, zset u (s0.heap.size + x.2.1.toNat) k vv, h1, h2, xput_ok hlt h3 hdc hdv, fun p e s m args below meth c Q Cx hk9 H locs ls hP hS hL => ?_⟩
      refine z_put (T := T) (w := u) Cx.1 Cx.2.2.2.2.2.1 (Ts := u_ws C T N) (fun w hw => hz.2.2.1 w hw args s Cx.2.1) (fun w hw => hw) (ty ci) hz.2.2.2.1 hz.2.2.2.2.1 Cx.2.2.2.2.1 hz.1 (u_Kn_moved Cx.2.1.alike hz.2.1) hP hS (Nat.le_add_right _ _) (by rw [h3.1]; omega)
        (by rw [← hdc.1]; exact hcn.1) (by rw [← hdc.2.1]; exact hcn.2) hk (zlw_at hl Cx.2.1) (hz.2.2.2.2.2 k hk) ?_ hn1 hn2 hd (fun H1 locs1 hP1 hS1 => hk9 H1 locs1 ls hP1 hS1 hL)
      rcases hfin with h | ⟨g1, g2, g3, g4⟩
      · exact Or.inl h
      · exact Or.inr ⟨g1 args s Cx.2.1, g2, Cx.2.2.2.2.2.2.2.2.2.1 g3, g4⟩
theorem zs_ldc {b : xB} {mi ix : Nat} {a : Int} {F : xF} {w : xW} (hd : decode (Bt mi) F.1 = .ok (.ldc ix, 2)) (hw : zh s0 (.constant (Y mi).cls ix (Int32.ofInt a))) : zSt M Y Bt Hh Rt Rm l s0 D ca b0 L xs b mi F w (F.1 + 2, F.2.1, (0, a, 0) :: F.2.2.1, F.2.2.2) w := by
  intro ν hv hs hi lv st u h1 h2 h3
  exact ⟨lv, .int (Int32.ofInt a) :: st, u, h1, ⟨rfl, h2⟩, h3, fun p e s m args below meth c Q C hk9 H locs ls hP hS hL => lv_ldc C.1 C.2.2.2.2.2.1 C.2.2.2.2.1 (hw args s C.2.1) hd (hk9 H locs ls hP hS hL)⟩
theorem zs_ldc2 {b : xB} {mi ix : Nat} {a : Int} {F : xF} {w : xW} (hd : decode (Bt mi) F.1 = .ok (.ldc2_w ix, 3)) (hw : zh s0 (.constantLong (Y mi).cls ix (Int64.ofInt a))) : zSt M Y Bt Hh Rt Rm l s0 D ca b0 L xs b mi F w (F.1 + 3, F.2.1, (1, a, 0) :: F.2.2.1, F.2.2.2) w := by
  intro ν hv hs hi lv st u h1 h2 h3
  exact ⟨lv, .long (Int64.ofInt a) :: st, u, h1, ⟨rfl, h2⟩, h3, fun p e s m args below meth c Q C hk9 H locs ls hP hS hL => lv_ldc2 C.1 C.2.2.2.2.2.1 C.2.2.2.2.1 (hw args s C.2.1) hd (hk9 H locs ls hP hS hL)⟩
theorem zs_len {b : xB} {mi : Nat} {F : xF} {w : xW} {st' : List xV} (hd : decode (Bt mi) F.1 = .ok (.arraylength, 1)) (hX : va_X b0 L xs s0 s0.heap) (hL0 : b0 < s0.heap.size) (hT : ∀ tag, 64 ≤ tag → tag ≤ 127 → ∃ t, ztg s0 ca tag t) (hx : xln w F.2.2.1 = some st') : zSt M Y Bt Hh Rt Rm l s0 D ca b0 L xs b mi F w (F.1 + 1, F.2.1, st', F.2.2.2) w := by
  unfold xln at hx
  cases hst : F.2.2.1 with
  | nil => rw [hst] at hx; cases hx
  | cons x r =>
    rw [hst] at hx
    rcases cnd_some hx with ⟨h7, hx⟩ | ⟨-, hx⟩
    · cases hx
      intro ν hv hs hi lv st u h1 h2 h3
      rw [hst] at h2
      obtain ⟨v, us, e9, hdn, h9x⟩ := xds_c h2
      subst e9
      clear h2
      have h2 := h9x
      clear h9x
      have e := xden_7 hdn h7
      subst e
      have e10 : Int32.ofInt (ν 10) = Int32.ofNat L := by rw [hs.2.1]; rfl
      refine ⟨lv, .int (Int32.ofNat L) :: us, u, h1, ⟨⟨congrArg Value.int e10.symm, by decide⟩, h2⟩, h3, fun p e s m args below meth c Q C hk9 H locs ls hP hS hL => ?_⟩
      refine va_slen (H0 := s.heap) (A := fun q => s0.heap.size ≤ q) C.1 C.2.2.2.2.2.1 (va_X.moved C.2.1.alike (hX.kept (C.2.2.2.1 b0 hL0))) (Nat.lt_of_lt_of_le hL0 C.2.2.1) (Nat.not_le.mpr hL0) hS hd (hk9 H locs ls hP hS hL)
    · obtain ⟨h3x, hx⟩ := cnd_t hx
      cases hcl : xcell w x.2.1 with
      | none => simp only [hcl] at hx; cases hx
      | some cc =>
        simp only [hcl] at hx
        obtain ⟨hcn, hx⟩ := cnd_t hx
        rw [Bool.and_eq_true, Nat.ble_eq, Nat.ble_eq] at hcn
        cases hx
        intro ν hv hs hi lv st u h1 h2 h3
        rw [hst] at h2
        obtain ⟨v, us, e9, hdn, h9x⟩ := xds_c h2
        subst e9
        clear h2
        have h2 := h9x
        clear h9x
        have e := xden_3 hdn h3x
        subst e
        obtain ⟨hlt, hdc⟩ := xcell_ok hcl h3
        have en : Int32.ofInt (Int.ofNat cc.2.1) = Int32.ofNat cc.2.1 := rfl
        refine ⟨lv, .int (Int32.ofNat cc.2.1) :: us, u, h1, ⟨congrArg Value.int en.symm, h2⟩, h3, fun p e s m args below meth c Q C hk9 H locs ls hP hS hL => ?_⟩
        have hat := zat_a (hP.2.2 (s0.heap.size + x.2.1.toNat) (Nat.le_add_right _ _) (by rw [h3.1]; omega)) (by rw [← hdc.1]; exact hcn.1) (by rw [← hdc.1]; omega)
        obtain ⟨t, ht⟩ := hT cc.1 hcn.1 hcn.2
        rw [← hdc.1, ← hdc.2.1] at hat
        exact W.alen (n := Int32.ofNat cc.2.1) C.1 C.2.2.2.2.2.1 hat (arrOfT_moved C.2.1.alike ht.2.2.1 _ _) (by rw [arrV_size] <;> rfl) rfl rfl hd (hk9 H locs ls hP hS hL)
theorem idx_ok {j : Int} {n : Nat} (h0 : -1 < j) (h1 : j < (n : Int)) (h2 : j ≤ 2147483647) : ¬ (Int32.ofInt j < 0 ∨ n ≤ (Int32.ofInt j).toNatClampNeg) ∧ (Int32.ofInt j).toNatClampNeg = j.toNat := by
  have e : (Int32.ofInt j).toNatClampNeg = j.toNat := Int32.toNatClampNeg_ofInt_of_le (by omega) (by omega)
  refine ⟨?_, e⟩
  rw [e, Int32.lt_iff_toInt_lt, toI ⟨by omega, h2⟩]
  rintro (g | g)
  · have : j < 0 := g
    omega
  · omega
theorem zg_iald {rec : xK} (hr : zrec M Y Bt Hh Rt Rm Ex l s0 D ca b0 L xs rec) {mi : Nat} {F : xF} {w : xW} {b : xB} {lf : List xL} (hd : decode (Bt mi) F.1 = .ok (.iaload, 1)) (hX : va_X b0 L xs s0 s0.heap) (hL0 : b0 < s0.heap.size) (hT : ∀ tag, 64 ≤ tag → tag ≤ 64 → ztg s0 ca tag .int) (h : xald 64 64 rec mi F w b = some lf) : zGood M Y Bt Hh Rt Rm Ex l s0 D ca b0 L xs mi F w b lf := by
  unfold xald at h
  cases hx : xal 64 64 w b F.2.2.1 with
  | none => rw [hx] at h; cases h
  | some z =>
    rw [hx] at h
    cases z with
    | inr q => exact zspl hr h
    | inl st' =>
      refine zSt_go ?_ (hr _ _ _ _ _ h)
      unfold xal at hx
      match hst : F.2.2.1 with
      | [] => rw [hst] at hx; cases hx
      | [_] => rw [hst] at hx; cases hx
      | y :: x :: r =>
        rw [hst] at hx
        match hf : xfor b y with
        | none => simp only [hf] at hx; cases hx
        | some (false, i, t) => simp only [hf] at hx; cases hx
        | some (true, i, j) =>
          simp only [hf] at hx
          rcases cnd_some hx with ⟨h3x, hx⟩ | ⟨-, hx⟩
          · cases hcl : xcell w x.2.1 with
            | none => simp only [hcl] at hx; cases hx
            | some cc =>
              simp only [hcl] at hx
              obtain ⟨hcn, hx⟩ := cnd_t hx
              simp only [Bool.and_eq_true, Nat.ble_eq, ilt_iff] at hcn
              cases hx
              intro ν hv hs hi lv st u h1 h2 h3
              rw [hst] at h2
              obtain ⟨vy, us, e9, hdy, h9x⟩ := xds_c h2
              subst e9
              clear h2
              have h2 := h9x
              clear h9x
              obtain ⟨v, us, e9, hdn, h9x⟩ := xds_c h2
              subst e9
              clear h2
              have h2 := h9x
              clear h9x
              have e := xden_3 hdn h3x
              subst e
              obtain ⟨rfl, hj1, hj2⟩ := xfor_ok hv hi hf hdy
              obtain ⟨hlt, hdc⟩ := xcell_ok hcl h3
              obtain ⟨hin, hj⟩ := idx_ok hcn.1.2 hcn.2 hj2
              have hjn : j.toNat < cc.2.1 := by
                have := hcn.2
                have := hcn.1.2
                simp only [Int.ofNat_eq_natCast] at *
                omega
              refine ⟨lv, (u.2 (s0.heap.size + x.2.1.toNat)).2.2 j.toNat :: us, u, h1, ⟨hdc.2.2 _ hjn, h2⟩, h3, fun p e s m args below meth c Q Cx hk9 H locs ls hP hS hL => ?_⟩
              have hat := zat_a (hP.2.2 (s0.heap.size + x.2.1.toNat) (Nat.le_add_right _ _) (by rw [h3.1]; omega)) (by rw [← hdc.1]; omega) (by rw [← hdc.1]; omega)
              rw [← hdc.1, ← hdc.2.1] at hat
              exact W.iald Cx.1 Cx.2.2.2.2.2.1 hat (arrOfT_moved Cx.2.1.alike (hT cc.1 hcn.1.1.1 hcn.1.1.2).2.2.1 _ _) (fun q => by cases q) (by rw [arrV_size]; exact hin) (by rw [hj, arrV_read _ _ hjn]) rfl rfl hd (hk9 H locs ls hP hS hL)
          · obtain ⟨hcn, hx⟩ := cnd_t hx
            simp only [Bool.and_eq_true, ilt_iff] at hcn
            cases hx
            intro ν hv hs hi lv st u h1 h2 h3
            rw [hst] at h2
            obtain ⟨vy, us, e9, hdy, h9x⟩ := xds_c h2
            subst e9
            clear h2
            have h2 := h9x
            clear h9x
            obtain ⟨v, us, e9, hdn, h9x⟩ := xds_c h2
            subst e9
            clear h2
            have h2 := h9x
            clear h9x
            have e := xden_7 hdn hcn.1.1.1.1
            subst e
            obtain ⟨rfl, hj1, hj2⟩ := xfor_ok hv hi hf hdy
            have hbd := (xbnd_ok hv hi 11).1
            rw [hs.2.2] at hbd
            obtain ⟨⟨⟨-, hj0⟩, hjb⟩, hj10⟩ := hcn
            have hjL : j < (L : Int) := by omega
            obtain ⟨hin, hj⟩ := idx_ok hj0 hjL hj2
            have hjn : j.toNat < L := by omega
            refine ⟨lv, .int (xs j.toNat) :: us, u, h1, ⟨⟨congrArg Value.int (hs.1 j.toNat hjn (by omega)).symm, by show j.toNat < 20; omega⟩, h2⟩, h3, fun p e s m args below meth c Q Cx hk9 H locs ls hP hS hL => ?_⟩
            refine va_sld (H0 := s.heap) (A := fun q => s0.heap.size ≤ q) Cx.1 Cx.2.2.2.2.2.1 (va_X.moved Cx.2.1.alike (hX.kept (Cx.2.2.2.1 b0 hL0))) (Nat.lt_of_lt_of_le hL0 Cx.2.2.1) (Nat.not_le.mpr hL0) hS hin hd ?_
            rw [hj]
            exact hk9 H locs ls hP hS hL
theorem zg_cald {rec : xK} (hr : zrec M Y Bt Hh Rt Rm Ex l s0 D ca b0 L xs rec) {mi : Nat} {F : xF} {w : xW} {b : xB} {lf : List xL} (hd : decode (Bt mi) F.1 = .ok (.caload, 1)) (hT : ∀ tag, 65 ≤ tag → tag ≤ 65 → ztg s0 ca tag .char) (h : xald 65 65 rec mi F w b = some lf) : zGood M Y Bt Hh Rt Rm Ex l s0 D ca b0 L xs mi F w b lf := by
  unfold xald at h
  cases hx : xal 65 65 w b F.2.2.1 with
  | none => rw [hx] at h; cases h
  | some z =>
    rw [hx] at h
    cases z with
    | inr q => exact zspl hr h
    | inl st' =>
      refine zSt_go ?_ (hr _ _ _ _ _ h)
      unfold xal at hx
      match hst : F.2.2.1 with
      | [] => rw [hst] at hx; cases hx
      | [_] => rw [hst] at hx; cases hx
      | y :: x :: r =>
        rw [hst] at hx
        match hf : xfor b y with
        | none => simp only [hf] at hx; cases hx
        | some (false, i, t) => simp only [hf] at hx; cases hx
        | some (true, i, j) =>
          simp only [hf] at hx
          rcases cnd_some hx with ⟨h3x, hx⟩ | ⟨-, hx⟩
          · cases hcl : xcell w x.2.1 with
            | none => simp only [hcl] at hx; cases hx
            | some cc =>
              simp only [hcl] at hx
              obtain ⟨hcn, hx⟩ := cnd_t hx
              simp only [Bool.and_eq_true, Nat.ble_eq, ilt_iff] at hcn
              cases hx
              intro ν hv hs hi lv st u h1 h2 h3
              rw [hst] at h2
              obtain ⟨vy, us, e9, hdy, h9x⟩ := xds_c h2
              subst e9
              clear h2
              have h2 := h9x
              clear h9x
              obtain ⟨v, us, e9, hdn, h9x⟩ := xds_c h2
              subst e9
              clear h2
              have h2 := h9x
              clear h9x
              have e := xden_3 hdn h3x
              subst e
              obtain ⟨rfl, hj1, hj2⟩ := xfor_ok hv hi hf hdy
              obtain ⟨hlt, hdc⟩ := xcell_ok hcl h3
              obtain ⟨hin, hj⟩ := idx_ok hcn.1.2 hcn.2 hj2
              have hjn : j.toNat < cc.2.1 := by
                have := hcn.2
                have := hcn.1.2
                simp only [Int.ofNat_eq_natCast] at *
                omega
              refine ⟨lv, (u.2 (s0.heap.size + x.2.1.toNat)).2.2 j.toNat :: us, u, h1, ⟨hdc.2.2 _ hjn, h2⟩, h3, fun p e s m args below meth c Q Cx hk9 H locs ls hP hS hL => ?_⟩
              have hat := zat_a (hP.2.2 (s0.heap.size + x.2.1.toNat) (Nat.le_add_right _ _) (by rw [h3.1]; omega)) (by rw [← hdc.1]; omega) (by rw [← hdc.1]; omega)
              rw [← hdc.1, ← hdc.2.1] at hat
              exact W.cald Cx.1 Cx.2.2.2.2.2.1 hat (arrOfT_moved Cx.2.1.alike (hT cc.1 hcn.1.1.1 hcn.1.1.2).2.2.1 _ _) (fun q => by cases q) (by rw [arrV_size]; exact hin) (by rw [hj, arrV_read _ _ hjn]) rfl rfl hd (hk9 H locs ls hP hS hL)
          · obtain ⟨hcn, hx⟩ := cnd_t hx
            simp only [Bool.and_eq_true] at hcn
            exact absurd hcn.1.1.1.2 (by decide)
theorem zg_zald {rec : xK} (hr : zrec M Y Bt Hh Rt Rm Ex l s0 D ca b0 L xs rec) {mi : Nat} {F : xF} {w : xW} {b : xB} {lf : List xL} (hd : decode (Bt mi) F.1 = .ok (.baload, 1)) (hT : ∀ tag, 66 ≤ tag → tag ≤ 66 → ztg s0 ca tag .boolean) (h : xald 66 66 rec mi F w b = some lf) : zGood M Y Bt Hh Rt Rm Ex l s0 D ca b0 L xs mi F w b lf := by
  unfold xald at h
  cases hx : xal 66 66 w b F.2.2.1 with
  | none => rw [hx] at h; cases h
  | some z =>
    rw [hx] at h
    cases z with
    | inr q => exact zspl hr h
    | inl st' =>
      refine zSt_go ?_ (hr _ _ _ _ _ h)
      unfold xal at hx
      match hst : F.2.2.1 with
      | [] => rw [hst] at hx; cases hx
      | [_] => rw [hst] at hx; cases hx
      | y :: x :: r =>
        rw [hst] at hx
        match hf : xfor b y with
        | none => simp only [hf] at hx; cases hx
        | some (false, i, t) => simp only [hf] at hx; cases hx
        | some (true, i, j) =>
          simp only [hf] at hx
          rcases cnd_some hx with ⟨h3x, hx⟩ | ⟨-, hx⟩
          · cases hcl : xcell w x.2.1 with
            | none => simp only [hcl] at hx; cases hx
            | some cc =>
              simp only [hcl] at hx
              obtain ⟨hcn, hx⟩ := cnd_t hx
              simp only [Bool.and_eq_true, Nat.ble_eq, ilt_iff] at hcn
              cases hx
              intro ν hv hs hi lv st u h1 h2 h3
              rw [hst] at h2
              obtain ⟨vy, us, e9, hdy, h9x⟩ := xds_c h2
              subst e9
              clear h2
              have h2 := h9x
              clear h9x
              obtain ⟨v, us, e9, hdn, h9x⟩ := xds_c h2
              subst e9
              clear h2
              have h2 := h9x
              clear h9x
              have e := xden_3 hdn h3x
              subst e
              obtain ⟨rfl, hj1, hj2⟩ := xfor_ok hv hi hf hdy
              obtain ⟨hlt, hdc⟩ := xcell_ok hcl h3
              obtain ⟨hin, hj⟩ := idx_ok hcn.1.2 hcn.2 hj2
              have hjn : j.toNat < cc.2.1 := by
                have := hcn.2
                have := hcn.1.2
                simp only [Int.ofNat_eq_natCast] at *
                omega
              refine ⟨lv, (u.2 (s0.heap.size + x.2.1.toNat)).2.2 j.toNat :: us, u, h1, ⟨hdc.2.2 _ hjn, h2⟩, h3, fun p e s m args below meth c Q Cx hk9 H locs ls hP hS hL => ?_⟩
              have hat := zat_a (hP.2.2 (s0.heap.size + x.2.1.toNat) (Nat.le_add_right _ _) (by rw [h3.1]; omega)) (by rw [← hdc.1]; omega) (by rw [← hdc.1]; omega)
              rw [← hdc.1, ← hdc.2.1] at hat
              exact W.zald Cx.1 Cx.2.2.2.2.2.1 hat (arrOfT_moved Cx.2.1.alike (hT cc.1 hcn.1.1.1 hcn.1.1.2).2.2.1 _ _) (fun q => by cases q) (by rw [arrV_size]; exact hin) (by rw [hj, arrV_read _ _ hjn]) rfl rfl hd (hk9 H locs ls hP hS hL)
          · obtain ⟨hcn, hx⟩ := cnd_t hx
            simp only [Bool.and_eq_true] at hcn
            exact absurd hcn.1.1.1.2 (by decide)
theorem zg_lald {rec : xK} (hr : zrec M Y Bt Hh Rt Rm Ex l s0 D ca b0 L xs rec) {mi : Nat} {F : xF} {w : xW} {b : xB} {lf : List xL} (hd : decode (Bt mi) F.1 = .ok (.laload, 1)) (hT : ∀ tag, 67 ≤ tag → tag ≤ 67 → ztg s0 ca tag .long) (h : xald 67 67 rec mi F w b = some lf) : zGood M Y Bt Hh Rt Rm Ex l s0 D ca b0 L xs mi F w b lf := by
  unfold xald at h
  cases hx : xal 67 67 w b F.2.2.1 with
  | none => rw [hx] at h; cases h
  | some z =>
    rw [hx] at h
    cases z with
    | inr q => exact zspl hr h
    | inl st' =>
      refine zSt_go ?_ (hr _ _ _ _ _ h)
      unfold xal at hx
      match hst : F.2.2.1 with
      | [] => rw [hst] at hx; cases hx
      | [_] => rw [hst] at hx; cases hx
      | y :: x :: r =>
        rw [hst] at hx
        match hf : xfor b y with
        | none => simp only [hf] at hx; cases hx
        | some (false, i, t) => simp only [hf] at hx; cases hx
        | some (true, i, j) =>
          simp only [hf] at hx
          rcases cnd_some hx with ⟨h3x, hx⟩ | ⟨-, hx⟩
          · cases hcl : xcell w x.2.1 with
            | none => simp only [hcl] at hx; cases hx
            | some cc =>
              simp only [hcl] at hx
              obtain ⟨hcn, hx⟩ := cnd_t hx
              simp only [Bool.and_eq_true, Nat.ble_eq, ilt_iff] at hcn
              cases hx
              intro ν hv hs hi lv st u h1 h2 h3
              rw [hst] at h2
              obtain ⟨vy, us, e9, hdy, h9x⟩ := xds_c h2
              subst e9
              clear h2
              have h2 := h9x
              clear h9x
              obtain ⟨v, us, e9, hdn, h9x⟩ := xds_c h2
              subst e9
              clear h2
              have h2 := h9x
              clear h9x
              have e := xden_3 hdn h3x
              subst e
              obtain ⟨rfl, hj1, hj2⟩ := xfor_ok hv hi hf hdy
              obtain ⟨hlt, hdc⟩ := xcell_ok hcl h3
              obtain ⟨hin, hj⟩ := idx_ok hcn.1.2 hcn.2 hj2
              have hjn : j.toNat < cc.2.1 := by
                have := hcn.2
                have := hcn.1.2
                simp only [Int.ofNat_eq_natCast] at *
                omega
              refine ⟨lv, (u.2 (s0.heap.size + x.2.1.toNat)).2.2 j.toNat :: us, u, h1, ⟨hdc.2.2 _ hjn, h2⟩, h3, fun p e s m args below meth c Q Cx hk9 H locs ls hP hS hL => ?_⟩
              have hat := zat_a (hP.2.2 (s0.heap.size + x.2.1.toNat) (Nat.le_add_right _ _) (by rw [h3.1]; omega)) (by rw [← hdc.1]; omega) (by rw [← hdc.1]; omega)
              rw [← hdc.1, ← hdc.2.1] at hat
              exact W.lald Cx.1 Cx.2.2.2.2.2.1 hat (arrOfT_moved Cx.2.1.alike (hT cc.1 hcn.1.1.1 hcn.1.1.2).2.2.1 _ _) (fun q => by cases q) (by rw [arrV_size]; exact hin) (by rw [hj, arrV_read _ _ hjn]) rfl rfl hd (hk9 H locs ls hP hS hL)
          · obtain ⟨hcn, hx⟩ := cnd_t hx
            simp only [Bool.and_eq_true] at hcn
            exact absurd hcn.1.1.1.2 (by decide)
theorem zg_aald {rec : xK} (hr : zrec M Y Bt Hh Rt Rm Ex l s0 D ca b0 L xs rec) {mi : Nat} {F : xF} {w : xW} {b : xB} {lf : List xL} (hd : decode (Bt mi) F.1 = .ok (.aaload, 1)) (hT : ∀ tag, 68 ≤ tag → tag ≤ 100 → ∃ C, ztg s0 ca tag (.object C)) (h : xald 68 100 rec mi F w b = some lf) : zGood M Y Bt Hh Rt Rm Ex l s0 D ca b0 L xs mi F w b lf := by
  unfold xald at h
  cases hx : xal 68 100 w b F.2.2.1 with
  | none => rw [hx] at h; cases h
  | some z =>
    rw [hx] at h
    cases z with
    | inr q => exact zspl hr h
    | inl st' =>
      refine zSt_go ?_ (hr _ _ _ _ _ h)
      unfold xal at hx
      match hst : F.2.2.1 with
      | [] => rw [hst] at hx; cases hx
      | [_] => rw [hst] at hx; cases hx
      | y :: x :: r =>
        rw [hst] at hx
        match hf : xfor b y with
        | none => simp only [hf] at hx; cases hx
        | some (false, i, t) => simp only [hf] at hx; cases hx
        | some (true, i, j) =>
          simp only [hf] at hx
          rcases cnd_some hx with ⟨h3x, hx⟩ | ⟨-, hx⟩
          · cases hcl : xcell w x.2.1 with
            | none => simp only [hcl] at hx; cases hx
            | some cc =>
              simp only [hcl] at hx
              obtain ⟨hcn, hx⟩ := cnd_t hx
              simp only [Bool.and_eq_true, Nat.ble_eq, ilt_iff] at hcn
              cases hx
              intro ν hv hs hi lv st u h1 h2 h3
              rw [hst] at h2
              obtain ⟨vy, us, e9, hdy, h9x⟩ := xds_c h2
              subst e9
              clear h2
              have h2 := h9x
              clear h9x
              obtain ⟨v, us, e9, hdn, h9x⟩ := xds_c h2
              subst e9
              clear h2
              have h2 := h9x
              clear h9x
              have e := xden_3 hdn h3x
              subst e
              obtain ⟨rfl, hj1, hj2⟩ := xfor_ok hv hi hf hdy
              obtain ⟨hlt, hdc⟩ := xcell_ok hcl h3
              obtain ⟨hin, hj⟩ := idx_ok hcn.1.2 hcn.2 hj2
              have hjn : j.toNat < cc.2.1 := by
                have := hcn.2
                have := hcn.1.2
                simp only [Int.ofNat_eq_natCast] at *
                omega
              refine ⟨lv, (u.2 (s0.heap.size + x.2.1.toNat)).2.2 j.toNat :: us, u, h1, ⟨hdc.2.2 _ hjn, h2⟩, h3, fun p e s m args below meth c Q Cx hk9 H locs ls hP hS hL => ?_⟩
              have hat := zat_a (hP.2.2 (s0.heap.size + x.2.1.toNat) (Nat.le_add_right _ _) (by rw [h3.1]; omega)) (by rw [← hdc.1]; omega) (by rw [← hdc.1]; omega)
              rw [← hdc.1, ← hdc.2.1] at hat
              obtain ⟨Cn, hTc⟩ := hT cc.1 hcn.1.1.1 hcn.1.1.2
              exact W.aald (ty := .object Cn) Cx.1 Cx.2.2.2.2.2.1 hat (arrOfT_moved Cx.2.1.alike hTc.2.2.1 _ _) rfl (fun q => by cases q) (by rw [arrV_size]; exact hin) (by rw [hj, arrV_read _ _ hjn]) rfl rfl hd (hk9 H locs ls hP hS hL)
          · obtain ⟨hcn, hx⟩ := cnd_t hx
            simp only [Bool.and_eq_true] at hcn
            exact absurd hcn.1.1.1.2 (by decide)
end ZH
