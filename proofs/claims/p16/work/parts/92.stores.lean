/-! STORES, NEW CELLS, CALLS, ENDS, on symbols -/
section ZJ
variable {M : xM} {Y : Nat → MethodName} {Bt : Nat → ByteArray} {Hh : Nat → List (Nat × Nat × Nat × Nat)} {Rt : Nat → Option FieldType} {Rm : Nat → Room} {Ex : Nat → String}
variable {l : Launch} {s0 : State} {D : va_G} {ca : Nat → ClassId} {b0 L : Nat} {xs : Nat → Int32} {ty : Nat → Nat → FieldType}
theorem nar_char {B : Nat} {ν : Nat → Int} {x u : xV} {v : Value} {elc : Nat → Nat} {w : xW} {tag : Nat} (h : xsv 1 elc w tag x = some u) (hd : xden B b0 ν x v) : ∃ z : Int32, v = .int z ∧ xden B b0 ν u (narrow .char (.int z)) := by
  replace h : (bif xk 0 x && ilt (-1) x.2.1 && ilt x.2.1 65536 then some x else bif xI x then some (5, 0, 0) else none) = some u := h
  rcases cnd_some h with ⟨hc, hz⟩ | ⟨-, h⟩
  · simp only [Bool.and_eq_true, ilt_iff] at hc
    cases hz
    have e := xden_0 hd hc.1.1
    refine ⟨_, e, ?_⟩
    have e2 : narrow .char (.int (Int32.ofInt x.2.1)) = .int ((Int32.ofInt x.2.1).toUInt32 % 65536).toInt32 := rfl
    rw [e2, chr_id hc.1.2 hc.2, ← e]
    exact hd
  · obtain ⟨hc, hz⟩ := cnd_t h
    cases hz
    obtain ⟨z, rfl⟩ := xden_I hd hc
    exact ⟨z, rfl, _, rfl⟩
theorem nar_bool {B : Nat} {ν : Nat → Int} {x u : xV} {v : Value} {elc : Nat → Nat} {w : xW} {tag : Nat} (h : xsv 2 elc w tag x = some u) (hd : xden B b0 ν x v) : ∃ z : Int32, v = .int z ∧ xden B b0 ν u (narrow .boolean (.int z)) := by
  replace h : (bif xk 0 x && (ieq x.2.1 0 || ieq x.2.1 1) then some x else bif xI x then some (5, 0, 0) else none) = some u := h
  rcases cnd_some h with ⟨hc, hz⟩ | ⟨-, h⟩
  · simp only [Bool.and_eq_true, Bool.or_eq_true, ieq_iff] at hc
    cases hz
    have e := xden_0 hd hc.1
    refine ⟨_, e, ?_⟩
    have e2 : narrow .boolean (.int (Int32.ofInt x.2.1)) = .int (Int32.ofInt x.2.1) := by
      rcases hc.2 with g | g <;> rw [g] <;> decide
    rw [e2, ← e]
    exact hd
  · obtain ⟨hc, hz⟩ := cnd_t h
    cases hz
    obtain ⟨z, rfl⟩ := xden_I hd hc
    exact ⟨z, rfl, _, rfl⟩
theorem zg_iast {rec : xK} (hr : zrec M Y Bt Hh Rt Rm Ex l s0 D ca b0 L xs rec) {mi : Nat} {F : xF} {w : xW} {b : xB} {lf : List xL} (hd : decode (Bt mi) F.1 = .ok (.iastore, 1)) (hT : ∀ tag, 64 ≤ tag → tag ≤ 64 → ztg s0 ca tag .int) (h : xast M 0 64 64 rec mi F w b = some lf) : zGood M Y Bt Hh Rt Rm Ex l s0 D ca b0 L xs mi F w b lf := by
  unfold xast at h
  cases hx : xas 0 64 64 M.2.2.2.2.2.2.2.1 w b F.2.2.1 with
  | none => rw [hx] at h; cases h
  | some z =>
    rw [hx] at h
    cases z with
    | inr q => exact zspl hr h
    | inl q =>
      refine zSt_go ?_ (hr _ _ _ _ _ h)
      unfold xas at hx
      match hst : F.2.2.1 with
      | [] => rw [hst] at hx; cases hx
      | [_] => rw [hst] at hx; cases hx
      | [_, _] => rw [hst] at hx; cases hx
      | v0 :: y :: x :: r =>
        rw [hst] at hx
        match hf : xfor b y with
        | none => simp only [hf] at hx; cases hx
        | some (false, i, t) => simp only [hf] at hx; cases hx
        | some (true, i, j) =>
          simp only [hf] at hx
          obtain ⟨h3x, hx⟩ := cnd_t hx
          cases hcl : xcell w x.2.1 with
          | none => simp only [hcl] at hx; cases hx
          | some cc =>
            simp only [hcl] at hx
            obtain ⟨hcn, hx⟩ := cnd_t hx
            simp only [Bool.and_eq_true, Nat.ble_eq, ilt_iff] at hcn
            cases hsv : xsv 0 M.2.2.2.2.2.2.2.1 w cc.1 v0 with
            | none => simp only [hsv] at hx; cases hx
            | some nu =>
              simp only [hsv] at hx
              cases hx
              intro ν hv hs hi lv st u h1 h2 h3
              rw [hst] at h2
              obtain ⟨vv, us, e9, hdv, h9x⟩ := xds_c h2
              subst e9
              clear h2
              have h2 := h9x
              clear h9x
              obtain ⟨vy, us, e9, hdy, h9x⟩ := xds_c h2
              subst e9
              clear h2
              have h2 := h9x
              clear h9x
              obtain ⟨v, us, e9, hdn, h9x⟩ := xds_c h2
              subst e9
              clear h2
              have h2 := h9x
              clear h9x
              have e := xden_3 hdn h3x
              subst e
              obtain ⟨rfl, hj1, hj2⟩ := xfor_ok hv hi hf hdy
              obtain ⟨hlt, hdc⟩ := xcell_ok hcl h3
              obtain ⟨hin, hj⟩ := idx_ok hcn.1.2 hcn.2 hj2
              obtain ⟨hok, hz⟩ := cnd_t (show (bif xI v0 then some v0 else none) = some nu from hsv)
              cases hz
              obtain ⟨z, rfl⟩ := xden_I hdv hok
              refine ⟨lv, us, zset u (s0.heap.size + x.2.1.toNat) j.toNat (.int z), h1, h2, xput_ok hlt h3 hdc hdv, fun p e s m args below meth c Q Cx hk9 H locs ls hP hS hL => ?_⟩
              have hB : s0.heap.size ≤ s0.heap.size + x.2.1.toNat := Nat.le_add_right _ _
              have hw : s0.heap.size + x.2.1.toNat < u.1 := by rw [h3.1]; omega
              have g1 : 64 ≤ (u.2 (s0.heap.size + x.2.1.toNat)).1 := by rw [← hdc.1]; omega
              have g2 : (u.2 (s0.heap.size + x.2.1.toNat)).1 < 128 := by rw [← hdc.1]; omega
              have hat := zat_a (hP.2.2 _ hB hw) g1 g2
              have hn9 : (u.2 (s0.heap.size + x.2.1.toNat)).2.1 = cc.2.1 := hdc.2.1.symm
              have ht9 : (u.2 (s0.heap.size + x.2.1.toNat)).1 = cc.1 := hdc.1.symm
              refine W.iast Cx.1 Cx.2.2.2.2.2.1 hat (arrOfT_moved Cx.2.1.alike (by rw [ht9]; exact (hT cc.1 hcn.1.1.1 hcn.1.1.2).2.2.1) _ _) (fun q => by cases q) (by rw [arrV_size, hn9]; exact hin) rfl rfl hd fun H1 e1 z1 o1 => ?_
              rw [hj] at e1 ⊢
              obtain ⟨k1, k2⟩ := z_elem hP hS hB hw g1 g2 e1 z1 o1
              exact hk9 H1 _ ls k1 k2 hL
theorem zg_cast {rec : xK} (hr : zrec M Y Bt Hh Rt Rm Ex l s0 D ca b0 L xs rec) {mi : Nat} {F : xF} {w : xW} {b : xB} {lf : List xL} (hd : decode (Bt mi) F.1 = .ok (.castore, 1)) (hT : ∀ tag, 65 ≤ tag → tag ≤ 65 → ztg s0 ca tag .char) (h : xast M 1 65 65 rec mi F w b = some lf) : zGood M Y Bt Hh Rt Rm Ex l s0 D ca b0 L xs mi F w b lf := by
  unfold xast at h
  cases hx : xas 1 65 65 M.2.2.2.2.2.2.2.1 w b F.2.2.1 with
  | none => rw [hx] at h; cases h
  | some z =>
    rw [hx] at h
    cases z with
    | inr q => exact zspl hr h
    | inl q =>
      refine zSt_go ?_ (hr _ _ _ _ _ h)
      unfold xas at hx
      match hst : F.2.2.1 with
      | [] => rw [hst] at hx; cases hx
      | [_] => rw [hst] at hx; cases hx
      | [_, _] => rw [hst] at hx; cases hx
      | v0 :: y :: x :: r =>
        rw [hst] at hx
        match hf : xfor b y with
        | none => simp only [hf] at hx; cases hx
        | some (false, i, t) => simp only [hf] at hx; cases hx
        | some (true, i, j) =>
          simp only [hf] at hx
          obtain ⟨h3x, hx⟩ := cnd_t hx
          cases hcl : xcell w x.2.1 with
          | none => simp only [hcl] at hx; cases hx
          | some cc =>
            simp only [hcl] at hx
            obtain ⟨hcn, hx⟩ := cnd_t hx
            simp only [Bool.and_eq_true, Nat.ble_eq, ilt_iff] at hcn
            cases hsv : xsv 1 M.2.2.2.2.2.2.2.1 w cc.1 v0 with
            | none => simp only [hsv] at hx; cases hx
            | some nu =>
              simp only [hsv] at hx
              cases hx
              intro ν hv hs hi lv st u h1 h2 h3
              rw [hst] at h2
              obtain ⟨vv, us, e9, hdv, h9x⟩ := xds_c h2
              subst e9
              clear h2
              have h2 := h9x
              clear h9x
              obtain ⟨vy, us, e9, hdy, h9x⟩ := xds_c h2
              subst e9
              clear h2
              have h2 := h9x
              clear h9x
              obtain ⟨v, us, e9, hdn, h9x⟩ := xds_c h2
              subst e9
              clear h2
              have h2 := h9x
              clear h9x
              have e := xden_3 hdn h3x
              subst e
              obtain ⟨rfl, hj1, hj2⟩ := xfor_ok hv hi hf hdy
              obtain ⟨hlt, hdc⟩ := xcell_ok hcl h3
              obtain ⟨hin, hj⟩ := idx_ok hcn.1.2 hcn.2 hj2
              obtain ⟨z, rfl, hnu⟩ := nar_char hsv hdv
              refine ⟨lv, us, zset u (s0.heap.size + x.2.1.toNat) j.toNat (narrow .char (.int z)), h1, h2, xput_ok hlt h3 hdc hnu, fun p e s m args below meth c Q Cx hk9 H locs ls hP hS hL => ?_⟩
              have hB : s0.heap.size ≤ s0.heap.size + x.2.1.toNat := Nat.le_add_right _ _
              have hw : s0.heap.size + x.2.1.toNat < u.1 := by rw [h3.1]; omega
              have g1 : 64 ≤ (u.2 (s0.heap.size + x.2.1.toNat)).1 := by rw [← hdc.1]; omega
              have g2 : (u.2 (s0.heap.size + x.2.1.toNat)).1 < 128 := by rw [← hdc.1]; omega
              have hat := zat_a (hP.2.2 _ hB hw) g1 g2
              have hn9 : (u.2 (s0.heap.size + x.2.1.toNat)).2.1 = cc.2.1 := hdc.2.1.symm
              have ht9 : (u.2 (s0.heap.size + x.2.1.toNat)).1 = cc.1 := hdc.1.symm
              refine W.cast Cx.1 Cx.2.2.2.2.2.1 hat (arrOfT_moved Cx.2.1.alike (by rw [ht9]; exact (hT cc.1 hcn.1.1.1 hcn.1.1.2).2.2.1) _ _) (fun q => by cases q) (by rw [arrV_size, hn9]; exact hin) rfl rfl hd fun H1 e1 z1 o1 => ?_
              rw [hj] at e1 ⊢
              obtain ⟨k1, k2⟩ := z_elem hP hS hB hw g1 g2 e1 z1 o1
              exact hk9 H1 _ ls k1 k2 hL
theorem zg_zast {rec : xK} (hr : zrec M Y Bt Hh Rt Rm Ex l s0 D ca b0 L xs rec) {mi : Nat} {F : xF} {w : xW} {b : xB} {lf : List xL} (hd : decode (Bt mi) F.1 = .ok (.bastore, 1)) (hT : ∀ tag, 66 ≤ tag → tag ≤ 66 → ztg s0 ca tag .boolean) (h : xast M 2 66 66 rec mi F w b = some lf) : zGood M Y Bt Hh Rt Rm Ex l s0 D ca b0 L xs mi F w b lf := by
  unfold xast at h
  cases hx : xas 2 66 66 M.2.2.2.2.2.2.2.1 w b F.2.2.1 with
  | none => rw [hx] at h; cases h
  | some z =>
    rw [hx] at h
    cases z with
    | inr q => exact zspl hr h
    | inl q =>
      refine zSt_go ?_ (hr _ _ _ _ _ h)
      unfold xas at hx
      match hst : F.2.2.1 with
      | [] => rw [hst] at hx; cases hx
      | [_] => rw [hst] at hx; cases hx
      | [_, _] => rw [hst] at hx; cases hx
      | v0 :: y :: x :: r =>
        rw [hst] at hx
        match hf : xfor b y with
        | none => simp only [hf] at hx; cases hx
        | some (false, i, t) => simp only [hf] at hx; cases hx
        | some (true, i, j) =>
          simp only [hf] at hx
          obtain ⟨h3x, hx⟩ := cnd_t hx
          cases hcl : xcell w x.2.1 with
          | none => simp only [hcl] at hx; cases hx
          | some cc =>
            simp only [hcl] at hx
            obtain ⟨hcn, hx⟩ := cnd_t hx
            simp only [Bool.and_eq_true, Nat.ble_eq, ilt_iff] at hcn
            cases hsv : xsv 2 M.2.2.2.2.2.2.2.1 w cc.1 v0 with
            | none => simp only [hsv] at hx; cases hx
            | some nu =>
              simp only [hsv] at hx
              cases hx
              intro ν hv hs hi lv st u h1 h2 h3
              rw [hst] at h2
              obtain ⟨vv, us, e9, hdv, h9x⟩ := xds_c h2
              subst e9
              clear h2
              have h2 := h9x
              clear h9x
              obtain ⟨vy, us, e9, hdy, h9x⟩ := xds_c h2
              subst e9
              clear h2
              have h2 := h9x
              clear h9x
              obtain ⟨v, us, e9, hdn, h9x⟩ := xds_c h2
              subst e9
              clear h2
              have h2 := h9x
              clear h9x
              have e := xden_3 hdn h3x
              subst e
              obtain ⟨rfl, hj1, hj2⟩ := xfor_ok hv hi hf hdy
              obtain ⟨hlt, hdc⟩ := xcell_ok hcl h3
              obtain ⟨hin, hj⟩ := idx_ok hcn.1.2 hcn.2 hj2
              obtain ⟨z, rfl, hnu⟩ := nar_bool hsv hdv
              refine ⟨lv, us, zset u (s0.heap.size + x.2.1.toNat) j.toNat (narrow .boolean (.int z)), h1, h2, xput_ok hlt h3 hdc hnu, fun p e s m args below meth c Q Cx hk9 H locs ls hP hS hL => ?_⟩
              have hB : s0.heap.size ≤ s0.heap.size + x.2.1.toNat := Nat.le_add_right _ _
              have hw : s0.heap.size + x.2.1.toNat < u.1 := by rw [h3.1]; omega
              have g1 : 64 ≤ (u.2 (s0.heap.size + x.2.1.toNat)).1 := by rw [← hdc.1]; omega
              have g2 : (u.2 (s0.heap.size + x.2.1.toNat)).1 < 128 := by rw [← hdc.1]; omega
              have hat := zat_a (hP.2.2 _ hB hw) g1 g2
              have hn9 : (u.2 (s0.heap.size + x.2.1.toNat)).2.1 = cc.2.1 := hdc.2.1.symm
              have ht9 : (u.2 (s0.heap.size + x.2.1.toNat)).1 = cc.1 := hdc.1.symm
              refine W.zast Cx.1 Cx.2.2.2.2.2.1 hat (arrOfT_moved Cx.2.1.alike (by rw [ht9]; exact (hT cc.1 hcn.1.1.1 hcn.1.1.2).2.2.1) _ _) (fun q => by cases q) (by rw [arrV_size, hn9]; exact hin) rfl rfl hd fun H1 e1 z1 o1 => ?_
              rw [hj] at e1 ⊢
              obtain ⟨k1, k2⟩ := z_elem hP hS hB hw g1 g2 e1 z1 o1
              exact hk9 H1 _ ls k1 k2 hL
theorem zg_last {rec : xK} (hr : zrec M Y Bt Hh Rt Rm Ex l s0 D ca b0 L xs rec) {mi : Nat} {F : xF} {w : xW} {b : xB} {lf : List xL} (hd : decode (Bt mi) F.1 = .ok (.lastore, 1)) (hT : ∀ tag, 67 ≤ tag → tag ≤ 67 → ztg s0 ca tag .long) (h : xast M 3 67 67 rec mi F w b = some lf) : zGood M Y Bt Hh Rt Rm Ex l s0 D ca b0 L xs mi F w b lf := by
  unfold xast at h
  cases hx : xas 3 67 67 M.2.2.2.2.2.2.2.1 w b F.2.2.1 with
  | none => rw [hx] at h; cases h
  | some z =>
    rw [hx] at h
    cases z with
    | inr q => exact zspl hr h
    | inl q =>
      refine zSt_go ?_ (hr _ _ _ _ _ h)
      unfold xas at hx
      match hst : F.2.2.1 with
      | [] => rw [hst] at hx; cases hx
      | [_] => rw [hst] at hx; cases hx
      | [_, _] => rw [hst] at hx; cases hx
      | v0 :: y :: x :: r =>
        rw [hst] at hx
        match hf : xfor b y with
        | none => simp only [hf] at hx; cases hx
        | some (false, i, t) => simp only [hf] at hx; cases hx
        | some (true, i, j) =>
          simp only [hf] at hx
          obtain ⟨h3x, hx⟩ := cnd_t hx
          cases hcl : xcell w x.2.1 with
          | none => simp only [hcl] at hx; cases hx
          | some cc =>
            simp only [hcl] at hx
            obtain ⟨hcn, hx⟩ := cnd_t hx
            simp only [Bool.and_eq_true, Nat.ble_eq, ilt_iff] at hcn
            cases hsv : xsv 3 M.2.2.2.2.2.2.2.1 w cc.1 v0 with
            | none => simp only [hsv] at hx; cases hx
            | some nu =>
              simp only [hsv] at hx
              cases hx
              intro ν hv hs hi lv st u h1 h2 h3
              rw [hst] at h2
              obtain ⟨vv, us, e9, hdv, h9x⟩ := xds_c h2
              subst e9
              clear h2
              have h2 := h9x
              clear h9x
              obtain ⟨vy, us, e9, hdy, h9x⟩ := xds_c h2
              subst e9
              clear h2
              have h2 := h9x
              clear h9x
              obtain ⟨v, us, e9, hdn, h9x⟩ := xds_c h2
              subst e9
              clear h2
              have h2 := h9x
              clear h9x
              have e := xden_3 hdn h3x
              subst e
              obtain ⟨rfl, hj1, hj2⟩ := xfor_ok hv hi hf hdy
              obtain ⟨hlt, hdc⟩ := xcell_ok hcl h3
              obtain ⟨hin, hj⟩ := idx_ok hcn.1.2 hcn.2 hj2
              obtain ⟨hok, hz⟩ := cnd_t (show (bif xJ v0 then some v0 else none) = some nu from hsv)
              cases hz
              obtain ⟨z, rfl⟩ := xden_J hdv hok
              refine ⟨lv, us, zset u (s0.heap.size + x.2.1.toNat) j.toNat (.long z), h1, h2, xput_ok hlt h3 hdc hdv, fun p e s m args below meth c Q Cx hk9 H locs ls hP hS hL => ?_⟩
              have hB : s0.heap.size ≤ s0.heap.size + x.2.1.toNat := Nat.le_add_right _ _
              have hw : s0.heap.size + x.2.1.toNat < u.1 := by rw [h3.1]; omega
              have g1 : 64 ≤ (u.2 (s0.heap.size + x.2.1.toNat)).1 := by rw [← hdc.1]; omega
              have g2 : (u.2 (s0.heap.size + x.2.1.toNat)).1 < 128 := by rw [← hdc.1]; omega
              have hat := zat_a (hP.2.2 _ hB hw) g1 g2
              have hn9 : (u.2 (s0.heap.size + x.2.1.toNat)).2.1 = cc.2.1 := hdc.2.1.symm
              have ht9 : (u.2 (s0.heap.size + x.2.1.toNat)).1 = cc.1 := hdc.1.symm
              refine W.last Cx.1 Cx.2.2.2.2.2.1 hat (arrOfT_moved Cx.2.1.alike (by rw [ht9]; exact (hT cc.1 hcn.1.1.1 hcn.1.1.2).2.2.1) _ _) (fun q => by cases q) (by rw [arrV_size, hn9]; exact hin) rfl rfl hd fun H1 e1 z1 o1 => ?_
              rw [hj] at e1 ⊢
              obtain ⟨k1, k2⟩ := z_elem hP hS hB hw g1 g2 e1 z1 o1
              exact hk9 H1 _ ls k1 k2 hL
theorem zg_aast {rec : xK} (hr : zrec M Y Bt Hh Rt Rm Ex l s0 D ca b0 L xs rec) {mi : Nat} {F : xF} {w : xW} {b : xB} {lf : List xL} (hd : decode (Bt mi) F.1 = .ok (.aastore, 1)) (hT : ∀ tag, 68 ≤ tag → tag ≤ 100 → ∃ C T N, ztg s0 ca tag (.object C) ∧ zclo s0 D ty (M.2.2.2.2.2.2.2.1 tag) C T N) (h : xast M 4 68 100 rec mi F w b = some lf) : zGood M Y Bt Hh Rt Rm Ex l s0 D ca b0 L xs mi F w b lf := by
  unfold xast at h
  cases hx : xas 4 68 100 M.2.2.2.2.2.2.2.1 w b F.2.2.1 with
  | none => rw [hx] at h; cases h
  | some z =>
    rw [hx] at h
    cases z with
    | inr q => exact zspl hr h
    | inl q =>
      refine zSt_go ?_ (hr _ _ _ _ _ h)
      unfold xas at hx
      match hst : F.2.2.1 with
      | [] => rw [hst] at hx; cases hx
      | [_] => rw [hst] at hx; cases hx
      | [_, _] => rw [hst] at hx; cases hx
      | v0 :: y :: x :: r =>
        rw [hst] at hx
        match hf : xfor b y with
        | none => simp only [hf] at hx; cases hx
        | some (false, i, t) => simp only [hf] at hx; cases hx
        | some (true, i, j) =>
          simp only [hf] at hx
          obtain ⟨h3x, hx⟩ := cnd_t hx
          cases hcl : xcell w x.2.1 with
          | none => simp only [hcl] at hx; cases hx
          | some cc =>
            simp only [hcl] at hx
            obtain ⟨hcn, hx⟩ := cnd_t hx
            simp only [Bool.and_eq_true, Nat.ble_eq, ilt_iff] at hcn
            cases hsv : xsv 4 M.2.2.2.2.2.2.2.1 w cc.1 v0 with
            | none => simp only [hsv] at hx; cases hx
            | some nu =>
              simp only [hsv] at hx
              cases hx
              intro ν hv hs hi lv st u h1 h2 h3
              rw [hst] at h2
              obtain ⟨vv, us, e9, hdv, h9x⟩ := xds_c h2
              subst e9
              clear h2
              have h2 := h9x
              clear h9x
              obtain ⟨vy, us, e9, hdy, h9x⟩ := xds_c h2
              subst e9
              clear h2
              have h2 := h9x
              clear h9x
              obtain ⟨v, us, e9, hdn, h9x⟩ := xds_c h2
              subst e9
              clear h2
              have h2 := h9x
              clear h9x
              have e := xden_3 hdn h3x
              subst e
              obtain ⟨rfl, hj1, hj2⟩ := xfor_ok hv hi hf hdy
              obtain ⟨hlt, hdc⟩ := xcell_ok hcl h3
              obtain ⟨hin, hj⟩ := idx_ok hcn.1.2 hcn.2 hj2
              obtain ⟨h3v, hx2⟩ := cnd_t (show (bif xk 3 v0 then (match xcell w v0.2.1 with | some c => bif Nat.beq c.1 (M.2.2.2.2.2.2.2.1 cc.1) && Nat.ble (c.1 + 1) 64 then some v0 else none | none => none) else none) = some nu from hsv)
              cases hcv : xcell w v0.2.1 with
              | none => simp only [hcv] at hx2; cases hx2
              | some cv =>
              simp only [hcv] at hx2
              obtain ⟨hcvt, hz⟩ := cnd_t hx2
              cases hz
              rw [Bool.and_eq_true, Nat.beq_eq, Nat.ble_eq] at hcvt
              have e := xden_3 hdv h3v
              subst e
              obtain ⟨hltv, hdcv⟩ := xcell_ok hcv h3
              refine ⟨lv, us, zset u (s0.heap.size + x.2.1.toNat) j.toNat (.ref (s0.heap.size + v0.2.1.toNat)), h1, h2, xput_ok hlt h3 hdc hdv, fun p e s m args below meth c Q Cx hk9 H locs ls hP hS hL => ?_⟩
              have hB : s0.heap.size ≤ s0.heap.size + x.2.1.toNat := Nat.le_add_right _ _
              have hw : s0.heap.size + x.2.1.toNat < u.1 := by rw [h3.1]; omega
              have g1 : 64 ≤ (u.2 (s0.heap.size + x.2.1.toNat)).1 := by rw [← hdc.1]; omega
              have g2 : (u.2 (s0.heap.size + x.2.1.toNat)).1 < 128 := by rw [← hdc.1]; omega
              have hat := zat_a (hP.2.2 _ hB hw) g1 g2
              have hn9 : (u.2 (s0.heap.size + x.2.1.toNat)).2.1 = cc.2.1 := hdc.2.1.symm
              have ht9 : (u.2 (s0.heap.size + x.2.1.toNat)).1 = cc.1 := hdc.1.symm
              obtain ⟨Cn, Tn, Nn, ht, hz⟩ := hT cc.1 hcn.1.1.1 hcn.1.1.2
              have hO := zat_o (hP.2.2 (s0.heap.size + v0.2.1.toNat) (Nat.le_add_right _ _) (by rw [h3.1]; omega)) (by rw [← hdcv.1]; omega)
              rw [← hdcv.1, hcvt.1] at hO
              obtain ⟨cellV, q1, q2, q3, -⟩ := hO
              have hcls := (u_Kn_moved Cx.2.1.alike hz.2.1).2
              obtain ⟨kA, comp, k1, k2, k3, -⟩ := va_RA.moved Cx.2.1.alike ht.2.2.2
              have hcomp : comp = D.1 (M.2.2.2.2.2.2.2.1 cc.1) := Option.some.inj (k3.symm.trans hcls.1)
              subst hcomp
              obtain ⟨kC, hkC, -⟩ := hcls.2
              refine W.aast Cx.1 Cx.2.2.2.2.2.1 hat (fun q h => by cases h) (fun h => by cases h) (by show s.vm.classes[ca (u.2 _).1]? = _; rw [ht9]; exact k1) k2 rfl hkC ⟨fun g => hin (Or.inl g), by rw [arrV_size, hn9]; exact Nat.not_le.mp fun g => hin (Or.inr g)⟩ q1 (fun q h => by rw [q3] at h; cases h) (by rw [q2]; exact hkC) (by rw [q2]; exact va_assign hcls) rfl rfl hd fun H1 e1 z1 o1 => ?_
              rw [hj] at e1 ⊢
              obtain ⟨k1, k2⟩ := z_elem hP hS hB hw g1 g2 e1 z1 o1
              exact hk9 H1 _ ls k1 k2 hL
end ZJ
