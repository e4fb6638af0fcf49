section ZG
variable (M : xM) (Y : Nat → MethodName) (Bt : Nat → ByteArray) (Hh : Nat → List (Nat × Nat × Nat × Nat)) (Rt : Nat → Option FieldType) (Rm : Nat → Room) (Ex : Nat → String)
variable (l : Launch) (s0 : State) (D : va_G) (ca : Nat → ClassId) (b0 L : Nat) (xs : Nat → Int32) (ty : Nat → Nat → FieldType)
/-- an end of the method mi in its context: an answer; a throw -/
def zret (mi : Nat) (p : Program) (e : Env) (s : State) (m : MethodId) (args : Array Value) (below : List Frame) (meth : Method) (c : Code) (Q : State → Prop) (v : Option Value) (u : zW) : Prop :=
  ∀ (H : Heap) (locs : List Loc) (ls : Array Slot) (pc cells slots : Nat), cells ≤ (Rm mi).cells → slots ≤ (Rm mi).slots → zP D ca s0.heap.size u H → va_S (fun q => s0.heap.size ≤ q) s.heap H locs →
    ((∃ z : Int32, v = some (.int z) ∧ decode (Bt mi) pc = .ok (.ireturn, 1) ∧ (Rt mi = some .int ∨ (Rt mi = some .boolean ∧ (z = 0 ∨ z = 1)))) ∨ (∃ z : Int64, v = some (.long z) ∧ decode (Bt mi) pc = .ok (.lreturn, 1) ∧ Rt mi = some .long) ∨ (v = none ∧ decode (Bt mi) pc = .ok (.return_, 1) ∧ Rt mi = none)) →
    W p l e (Rm mi) s m args below meth c H locs cells slots Q (F0 m pc ls v.toList)
def zthrow (mi : Nat) (p : Program) (e : Env) (s : State) (m : MethodId) (args : Array Value) (below : List Frame) (meth : Method) (c : Code) (Q : State → Prop) (k : Nat) (u : zW) : Prop :=
  ∀ (u0 : zW) (H : Heap) (locs : List Loc) (ls : Array Slot) (pc cells slots : Nat) (rest : List Value), u = znew u0 (200, 0, fun _ => .null) → cells + 1 ≤ (Rm mi).cells → slots + 6 ≤ (Rm mi).slots → zP D ca s0.heap.size u0 H → va_S (fun q => s0.heap.size ≤ q) s.heap H locs →
    ls.size = M.2.1 mi → zthr s0 (Y mi).cls (Bt mi) pc (Ex k) → 8 ≤ (Rm mi).frames → 128 ≤ (Rm mi).locals → Hh mi = [] → (rest.map fun v => v.category).sum ≤ 8 →
    W p l e (Rm mi) s m args below meth c H locs cells slots Q (F0 m pc ls rest)
def zexits (ν : Nat → Int) (lf : List xL) (mi : Nat) (p : Program) (e : Env) (s : State) (m : MethodId) (args : Array Value) (below : List Frame) (meth : Method) (c : Code) (Q : State → Prop) : Prop :=
  ∀ q ∈ lf, xin ν q.1 → ∀ u, xdw s0.heap.size b0 ν q.2.2 u →
    (q.2.1.1 = 0 → ∀ v, xden s0.heap.size b0 ν q.2.1.2 v → zret Bt Rt Rm l s0 D ca mi p e s m args below meth c Q (some v) u) ∧
    (q.2.1.1 = 1 → zret Bt Rt Rm l s0 D ca mi p e s m args below meth c Q none u) ∧
    (q.2.1.1 = 2 → zthrow M Y Bt Hh Rm Ex l s0 D ca mi p e s m args below meth c Q q.2.1.2.1 u)
abbrev zcx (mi : Nat) (p : Program) (s : State) (m : MethodId) (meth : Method) (c : Code) : Prop := zctx M.2.1 Y Bt Hh Rt s0 mi p s m meth c
/-- the machine at a frame F' with the world u: it comes to Q -/
def zat9 (mi : Nat) (p : Program) (e : Env) (s : State) (m : MethodId) (args : Array Value) (below : List Frame) (meth : Method) (c : Code) (Q : State → Prop) (pc : Nat) (lv : List (Nat × Value)) (st : List Value) (u : zW) (cells slots : Nat) : Prop :=
  ∀ (H : Heap) (locs : List Loc) (ls : Array Slot), zP D ca s0.heap.size u H → va_S (fun q => s0.heap.size ≤ q) s.heap H locs → lv_has ls (M.2.1 mi) lv → W p l e (Rm mi) s m args below meth c H locs cells slots Q (F0 m pc ls st)
def zGood (mi : Nat) (F : xF) (w : xW) (b : xB) (lf : List xL) : Prop :=
  ∀ (ν : Nat → Int), xval ν → zscr L xs ν → xin ν b → ∀ (lv : List (Nat × Value)) (st : List Value) (u : zW), xdl s0.heap.size b0 ν F.2.1 lv → xds s0.heap.size b0 ν F.2.2.1 st → xdw s0.heap.size b0 ν w u →
    ∀ (p : Program) (e : Env) (s : State) (m : MethodId) (args : Array Value) (below : List Frame) (meth : Method) (c : Code) (Q : State → Prop), zcx M Y Bt Hh Rt s0 mi p s m meth c →
      zexits M Y Bt Hh Rt Rm Ex l s0 D ca b0 ν lf mi p e s m args below meth c Q → zat9 M Rm l s0 D ca mi p e s m args below meth c Q F.1 lv st u F.2.2.2.1 F.2.2.2.2
/-- one step of symbols is one step of the machine -/
def zSt (b : xB) (mi : Nat) (F : xF) (w : xW) (F' : xF) (w' : xW) : Prop :=
  ∀ (ν : Nat → Int), xval ν → zscr L xs ν → xin ν b → ∀ (lv : List (Nat × Value)) (st : List Value) (u : zW), xdl s0.heap.size b0 ν F.2.1 lv → xds s0.heap.size b0 ν F.2.2.1 st → xdw s0.heap.size b0 ν w u →
    ∃ (lv' : List (Nat × Value)) (st' : List Value) (u' : zW), xdl s0.heap.size b0 ν F'.2.1 lv' ∧ xds s0.heap.size b0 ν F'.2.2.1 st' ∧ xdw s0.heap.size b0 ν w' u' ∧
      ∀ (p : Program) (e : Env) (s : State) (m : MethodId) (args : Array Value) (below : List Frame) (meth : Method) (c : Code) (Q : State → Prop), zcx M Y Bt Hh Rt s0 mi p s m meth c →
        zat9 M Rm l s0 D ca mi p e s m args below meth c Q F'.1 lv' st' u' F'.2.2.2.1 F'.2.2.2.2 → zat9 M Rm l s0 D ca mi p e s m args below meth c Q F.1 lv st u F.2.2.2.1 F.2.2.2.2
variable {M Y Bt Hh Rt Rm Ex l s0 D ca b0 L xs ty}
theorem zSt_go {b : xB} {mi : Nat} {F F' : xF} {w w' : xW} {lf : List xL} (h : zSt M Y Bt Hh Rt Rm l s0 D ca b0 L xs b mi F w F' w') (hg : zGood M Y Bt Hh Rt Rm Ex l s0 D ca b0 L xs mi F' w' b lf) : zGood M Y Bt Hh Rt Rm Ex l s0 D ca b0 L xs mi F w b lf := by
  intro ν hv hs hi lv st u h1 h2 h3 p e s m args below meth c Q C hx
  obtain ⟨lv', st', u', g1, g2, g3, hgo⟩ := h ν hv hs hi lv st u h1 h2 h3
  exact hgo p e s m args below meth c Q C (hg ν hv hs hi lv' st' u' g1 g2 g3 p e s m args below meth c Q C hx)
theorem zexits_app {ν : Nat → Int} {l1 l2 : List xL} {mi : Nat} {p : Program} {e : Env} {s : State} {m : MethodId} {args : Array Value} {below : List Frame} {meth : Method} {c : Code} {Q : State → Prop}
    (h : zexits M Y Bt Hh Rt Rm Ex l s0 D ca b0 ν (l1 ++ l2) mi p e s m args below meth c Q) : zexits M Y Bt Hh Rt Rm Ex l s0 D ca b0 ν l1 mi p e s m args below meth c Q ∧ zexits M Y Bt Hh Rt Rm Ex l s0 D ca b0 ν l2 mi p e s m args below meth c Q :=
  ⟨fun q hq => h q (List.mem_append_left _ hq), fun q hq => h q (List.mem_append_right _ hq)⟩
abbrev zrec (M : xM) (Y : Nat → MethodName) (Bt : Nat → ByteArray) (Hh : Nat → List (Nat × Nat × Nat × Nat)) (Rt : Nat → Option FieldType) (Rm : Nat → Room) (Ex : Nat → String) (l : Launch) (s0 : State) (D : va_G) (ca : Nat → ClassId) (b0 L : Nat) (xs : Nat → Int32) (rec : xK) : Prop :=
  ∀ mi F w b lf, rec mi F w b = some lf → zGood M Y Bt Hh Rt Rm Ex l s0 D ca b0 L xs mi F w b lf
theorem zspl {rec : xK} (hr : zrec M Y Bt Hh Rt Rm Ex l s0 D ca b0 L xs rec) {mi i : Nat} {F : xF} {w : xW} {b : xB} {t : Int} {lf : List xL} (h : xspl rec mi F w b i t = some lf) : zGood M Y Bt Hh Rt Rm Ex l s0 D ca b0 L xs mi F w b lf := by
  unfold xspl at h
  cases h1 : rec mi F w ((i, (xbnd b i).1, t - 1) :: b) with
  | none => rw [h1] at h; cases h
  | some l1 =>
    rw [h1] at h
    cases h2 : rec mi F w ((i, t, (xbnd b i).2) :: b) with
    | none => rw [h2] at h; cases h
    | some l2 =>
      rw [h2] at h
      cases h
      intro ν hv hs hi lv st u g1 g2 g3 p e s m args below meth c Q C hx
      obtain ⟨x1, x2⟩ := zexits_app hx
      rcases xspl_ok hv hi i t with hb | hb
      · exact hr _ _ _ _ _ h1 ν hv hs hb lv st u g1 g2 g3 p e s m args below meth c Q C x1
      · exact hr _ _ _ _ _ h2 ν hv hs hb lv st u g1 g2 g3 p e s m args below meth c Q C x2
/-! instruction by instruction -/
theorem zs_op {b : xB} {mi : Nat} {F : xF} {w : xW} {i : Instr} {len : Nat} {f : List xV → Option (List xV)} {st' : List xV} (hd : decode (Bt mi) F.1 = .ok (i, len)) (hl : len = xlen i) (hf : xop i = some f) (hst : f F.2.2.1 = some st') :
    zSt M Y Bt Hh Rt Rm l s0 D ca b0 L xs b mi F w (F.1 + len, F.2.1, st', F.2.2.2) w := by
  intro ν hv hs hi lv st u h1 h2 h3
  obtain ⟨vs', g, hw⟩ := x_op hv hf hst h2 hl hd
  exact ⟨lv, vs', u, h1, g, h3, fun p e s m args below meth c Q C hk H locs ls hP hS hL => hw _ _ _ _ _ _ _ _ _ _ _ _ _ _ _ _ C.1 C.2.2.2.2.2.1 (hk H locs ls hP hS hL)⟩
theorem xload_some {ok : xV → Bool} {j len mi : Nat} {rec : xK} {F : xF} {w : xW} {b : xB} {lf : List xL} (h : xload ok j len rec mi F w b = some lf) : ∃ x, xlook F.2.1 j = some x ∧ ok x = true ∧ rec mi (F.1 + len, F.2.1, x :: F.2.2.1, F.2.2.2) w b = some lf := by
  unfold xload at h
  cases hx : xlook F.2.1 j with
  | none => rw [hx] at h; cases h
  | some x =>
    rw [hx] at h
    obtain ⟨h1, h2⟩ := cnd_t h
    exact ⟨x, rfl, h1, h2⟩
theorem xstor_some {ok : xV → Bool} {two : Bool} {j len nl mi : Nat} {rec : xK} {F : xF} {w : xW} {b : xB} {lf : List xL} (h : xstor ok two j len nl rec mi F w b = some lf) :
    ∃ x r, F.2.2.1 = x :: r ∧ ok x = true ∧ j + (bif two then 2 else 1) ≤ nl ∧ rec mi (F.1 + len, bif two then xst2 F.2.1 j x else xst1 F.2.1 j x, r, F.2.2.2) w b = some lf := by
  unfold xstor at h
  cases hx : F.2.2.1 with
  | nil => rw [hx] at h; cases h
  | cons x r =>
    rw [hx] at h
    obtain ⟨h1, h2⟩ := cnd_t h
    rw [Bool.and_eq_true] at h1
    exact ⟨x, r, rfl, h1.1, Nat.ble_eq.mp h1.2, h2⟩
theorem zs_iload_n {b : xB} {mi : Nat} {F : xF} {w : xW} {j : Fin 4} {x : xV} (hd : decode (Bt mi) F.1 = .ok (.iload_n j, 1)) (hx : xlook F.2.1 j.val = some x) (ho : xI x = true) : zSt M Y Bt Hh Rt Rm l s0 D ca b0 L xs b mi F w (F.1 + 1, F.2.1, x :: F.2.2.1, F.2.2.2) w := by
  intro ν hv hs hi lv st u h1 h2 h3
  obtain ⟨k, v, hk, hdn⟩ := xlook_ok hx h1
  obtain ⟨z, rfl⟩ := xden_I hdn ho
  exact ⟨lv, .int z :: st, u, h1, ⟨hdn, h2⟩, h3, fun p e s m args below meth c Q C hk9 H locs ls hP hS hL => lv_iload_n C.1 C.2.2.2.2.2.1 hd rfl (lv_at hL k hk) (hk9 H locs ls hP hS hL)⟩
theorem zs_iload {b : xB} {mi : Nat} {F : xF} {w : xW} {j : Nat} {x : xV} (hd : decode (Bt mi) F.1 = .ok (.iload j, 2)) (hx : xlook F.2.1 j = some x) (ho : xI x = true) : zSt M Y Bt Hh Rt Rm l s0 D ca b0 L xs b mi F w (F.1 + 2, F.2.1, x :: F.2.2.1, F.2.2.2) w := by
  intro ν hv hs hi lv st u h1 h2 h3
  obtain ⟨k, v, hk, hdn⟩ := xlook_ok hx h1
  obtain ⟨z, rfl⟩ := xden_I hdn ho
  exact ⟨lv, .int z :: st, u, h1, ⟨hdn, h2⟩, h3, fun p e s m args below meth c Q C hk9 H locs ls hP hS hL => lv_iload C.1 C.2.2.2.2.2.1 hd (lv_at hL k hk) (hk9 H locs ls hP hS hL)⟩
theorem zs_lload_n {b : xB} {mi : Nat} {F : xF} {w : xW} {j : Fin 4} {x : xV} (hd : decode (Bt mi) F.1 = .ok (.lload_n j, 1)) (hx : xlook F.2.1 j.val = some x) (ho : xJ x = true) : zSt M Y Bt Hh Rt Rm l s0 D ca b0 L xs b mi F w (F.1 + 1, F.2.1, x :: F.2.2.1, F.2.2.2) w := by
  intro ν hv hs hi lv st u h1 h2 h3
  obtain ⟨k, v, hk, hdn⟩ := xlook_ok hx h1
  obtain ⟨z, rfl⟩ := xden_J hdn ho
  exact ⟨lv, .long z :: st, u, h1, ⟨hdn, h2⟩, h3, fun p e s m args below meth c Q C hk9 H locs ls hP hS hL => lv_lload_n C.1 C.2.2.2.2.2.1 hd rfl (lv_at hL k hk) (hk9 H locs ls hP hS hL)⟩
theorem zs_lload {b : xB} {mi : Nat} {F : xF} {w : xW} {j : Nat} {x : xV} (hd : decode (Bt mi) F.1 = .ok (.lload j, 2)) (hx : xlook F.2.1 j = some x) (ho : xJ x = true) : zSt M Y Bt Hh Rt Rm l s0 D ca b0 L xs b mi F w (F.1 + 2, F.2.1, x :: F.2.2.1, F.2.2.2) w := by
  intro ν hv hs hi lv st u h1 h2 h3
  obtain ⟨k, v, hk, hdn⟩ := xlook_ok hx h1
  obtain ⟨z, rfl⟩ := xden_J hdn ho
  exact ⟨lv, .long z :: st, u, h1, ⟨hdn, h2⟩, h3, fun p e s m args below meth c Q C hk9 H locs ls hP hS hL => lv_lload C.1 C.2.2.2.2.2.1 hd (lv_at hL k hk) (hk9 H locs ls hP hS hL)⟩
theorem zs_aload_n {b : xB} {mi : Nat} {F : xF} {w : xW} {j : Fin 4} {x : xV} (hd : decode (Bt mi) F.1 = .ok (.aload_n j, 1)) (hx : xlook F.2.1 j.val = some x) (ho : xR x = true) : zSt M Y Bt Hh Rt Rm l s0 D ca b0 L xs b mi F w (F.1 + 1, F.2.1, x :: F.2.2.1, F.2.2.2) w := by
  intro ν hv hs hi lv st u h1 h2 h3
  obtain ⟨k, v, hk, hdn⟩ := xlook_ok hx h1
  rcases xden_R hdn ho with rfl | ⟨z, rfl⟩
  · exact ⟨lv, .null :: st, u, h1, ⟨hdn, h2⟩, h3, fun p e s m args below meth c Q C hk9 H locs ls hP hS hL => lv_aload_nN C.1 C.2.2.2.2.2.1 hd rfl (lv_at hL k hk) (hk9 H locs ls hP hS hL)⟩
  · exact ⟨lv, .ref z :: st, u, h1, ⟨hdn, h2⟩, h3, fun p e s m args below meth c Q C hk9 H locs ls hP hS hL => lv_aload_n C.1 C.2.2.2.2.2.1 hd rfl (lv_at hL k hk) (hk9 H locs ls hP hS hL)⟩
theorem zs_aload {b : xB} {mi : Nat} {F : xF} {w : xW} {j : Nat} {x : xV} (hd : decode (Bt mi) F.1 = .ok (.aload j, 2)) (hx : xlook F.2.1 j = some x) (ho : xR x = true) : zSt M Y Bt Hh Rt Rm l s0 D ca b0 L xs b mi F w (F.1 + 2, F.2.1, x :: F.2.2.1, F.2.2.2) w := by
  intro ν hv hs hi lv st u h1 h2 h3
  obtain ⟨k, v, hk, hdn⟩ := xlook_ok hx h1
  rcases xden_R hdn ho with rfl | ⟨z, rfl⟩
  · exact ⟨lv, .null :: st, u, h1, ⟨hdn, h2⟩, h3, fun p e s m args below meth c Q C hk9 H locs ls hP hS hL => lv_aloadN C.1 C.2.2.2.2.2.1 hd (lv_at hL k hk) (hk9 H locs ls hP hS hL)⟩
  · exact ⟨lv, .ref z :: st, u, h1, ⟨hdn, h2⟩, h3, fun p e s m args below meth c Q C hk9 H locs ls hP hS hL => lv_aload C.1 C.2.2.2.2.2.1 hd (lv_at hL k hk) (hk9 H locs ls hP hS hL)⟩
theorem zs_istore_n {b : xB} {mi : Nat} {F : xF} {w : xW} {j : Fin 4} {x : xV} {r : List xV} (hd : decode (Bt mi) F.1 = .ok (.istore_n j, 1)) (hx : F.2.2.1 = x :: r) (ho : xI x = true) (hj : j.val < M.2.1 mi) : zSt M Y Bt Hh Rt Rm l s0 D ca b0 L xs b mi F w (F.1 + 1, xst1 F.2.1 j.val x, r, F.2.2.2) w := by
  intro ν hv hs hi lv st u h1 h2 h3
  rw [hx] at h2
  obtain ⟨v, us, e9, hdn, h9x⟩ := xds_c h2
  subst e9
  clear h2
  have h2 := h9x
  clear h9x
  obtain ⟨z, rfl⟩ := xden_I hdn ho
  exact ⟨(j.val, .int z) :: lv.filter (fun q => !(q.1 == j.val) && !(q.1 + 1 == j.val && q.2.category == 2)), us, u, ⟨⟨rfl, hdn⟩, xfil1 j.val h1⟩, h2, h3, fun p e s m args below meth c Q C hk9 H locs ls hP hS hL =>
    lv_istore_n C.1 C.2.2.2.2.2.1 hd rfl hL hj rfl (fun ls' hL' => hk9 H locs ls' hP hS hL')⟩
theorem zs_istore {b : xB} {mi : Nat} {F : xF} {w : xW} {j : Nat} {x : xV} {r : List xV} (hd : decode (Bt mi) F.1 = .ok (.istore j, 2)) (hx : F.2.2.1 = x :: r) (ho : xI x = true) (hj : j < M.2.1 mi) : zSt M Y Bt Hh Rt Rm l s0 D ca b0 L xs b mi F w (F.1 + 2, xst1 F.2.1 j x, r, F.2.2.2) w := by
  intro ν hv hs hi lv st u h1 h2 h3
  rw [hx] at h2
  obtain ⟨v, us, e9, hdn, h9x⟩ := xds_c h2
  subst e9
  clear h2
  have h2 := h9x
  clear h9x
  obtain ⟨z, rfl⟩ := xden_I hdn ho
  exact ⟨(j, .int z) :: lv.filter (fun q => !(q.1 == j) && !(q.1 + 1 == j && q.2.category == 2)), us, u, ⟨⟨rfl, hdn⟩, xfil1 j h1⟩, h2, h3, fun p e s m args below meth c Q C hk9 H locs ls hP hS hL =>
    lv_istore C.1 C.2.2.2.2.2.1 hd hL hj rfl (fun ls' hL' => hk9 H locs ls' hP hS hL')⟩
theorem zs_lstore_n {b : xB} {mi : Nat} {F : xF} {w : xW} {j : Fin 4} {x : xV} {r : List xV} (hd : decode (Bt mi) F.1 = .ok (.lstore_n j, 1)) (hx : F.2.2.1 = x :: r) (ho : xJ x = true) (hj : j.val + 1 < M.2.1 mi) : zSt M Y Bt Hh Rt Rm l s0 D ca b0 L xs b mi F w (F.1 + 1, xst2 F.2.1 j.val x, r, F.2.2.2) w := by
  intro ν hv hs hi lv st u h1 h2 h3
  rw [hx] at h2
  obtain ⟨v, us, e9, hdn, h9x⟩ := xds_c h2
  subst e9
  clear h2
  have h2 := h9x
  clear h9x
  obtain ⟨z, rfl⟩ := xden_J hdn ho
  exact ⟨(j.val, .long z) :: lv.filter (fun q => !(q.1 == j.val) && (!(q.1 == j.val + 1) && !(q.1 + 1 == j.val && q.2.category == 2))), us, u, ⟨⟨rfl, hdn⟩, xfil2 j.val h1⟩, h2, h3, fun p e s m args below meth c Q C hk9 H locs ls hP hS hL =>
    lv_lstore_n C.1 C.2.2.2.2.2.1 hd rfl hL hj rfl (fun ls' hL' => hk9 H locs ls' hP hS hL')⟩
theorem zs_lstore {b : xB} {mi : Nat} {F : xF} {w : xW} {j : Nat} {x : xV} {r : List xV} (hd : decode (Bt mi) F.1 = .ok (.lstore j, 2)) (hx : F.2.2.1 = x :: r) (ho : xJ x = true) (hj : j + 1 < M.2.1 mi) : zSt M Y Bt Hh Rt Rm l s0 D ca b0 L xs b mi F w (F.1 + 2, xst2 F.2.1 j x, r, F.2.2.2) w := by
  intro ν hv hs hi lv st u h1 h2 h3
  rw [hx] at h2
  obtain ⟨v, us, e9, hdn, h9x⟩ := xds_c h2
  subst e9
  clear h2
  have h2 := h9x
  clear h9x
  obtain ⟨z, rfl⟩ := xden_J hdn ho
  exact ⟨(j, .long z) :: lv.filter (fun q => !(q.1 == j) && (!(q.1 == j + 1) && !(q.1 + 1 == j && q.2.category == 2))), us, u, ⟨⟨rfl, hdn⟩, xfil2 j h1⟩, h2, h3, fun p e s m args below meth c Q C hk9 H locs ls hP hS hL =>
    lv_lstore C.1 C.2.2.2.2.2.1 hd hL hj rfl (fun ls' hL' => hk9 H locs ls' hP hS hL')⟩
theorem zs_astore_n {b : xB} {mi : Nat} {F : xF} {w : xW} {j : Fin 4} {x : xV} {r : List xV} (hd : decode (Bt mi) F.1 = .ok (.astore_n j, 1)) (hx : F.2.2.1 = x :: r) (ho : xR x = true) (hj : j.val < M.2.1 mi) : zSt M Y Bt Hh Rt Rm l s0 D ca b0 L xs b mi F w (F.1 + 1, xst1 F.2.1 j.val x, r, F.2.2.2) w := by
  intro ν hv hs hi lv st u h1 h2 h3
  rw [hx] at h2
  obtain ⟨v, us, e9, hdn, h9x⟩ := xds_c h2
  subst e9
  clear h2
  have h2 := h9x
  clear h9x
  rcases xden_R hdn ho with rfl | ⟨z, rfl⟩
  · exact ⟨(j.val, .null) :: lv.filter (fun q => !(q.1 == j.val) && !(q.1 + 1 == j.val && q.2.category == 2)), us, u, ⟨⟨rfl, hdn⟩, xfil1 j.val h1⟩, h2, h3, fun p e s m args below meth c Q C hk9 H locs ls hP hS hL =>
      lv_astore_nN C.1 C.2.2.2.2.2.1 hd rfl hL hj rfl (fun ls' hL' => hk9 H locs ls' hP hS hL')⟩
  · exact ⟨(j.val, .ref z) :: lv.filter (fun q => !(q.1 == j.val) && !(q.1 + 1 == j.val && q.2.category == 2)), us, u, ⟨⟨rfl, hdn⟩, xfil1 j.val h1⟩, h2, h3, fun p e s m args below meth c Q C hk9 H locs ls hP hS hL =>
      lv_astore_n C.1 C.2.2.2.2.2.1 hd rfl hL hj rfl (fun ls' hL' => hk9 H locs ls' hP hS hL')⟩
theorem zs_astore {b : xB} {mi : Nat} {F : xF} {w : xW} {j : Nat} {x : xV} {r : List xV} (hd : decode (Bt mi) F.1 = .ok (.astore j, 2)) (hx : F.2.2.1 = x :: r) (ho : xR x = true) (hj : j < M.2.1 mi) : zSt M Y Bt Hh Rt Rm l s0 D ca b0 L xs b mi F w (F.1 + 2, xst1 F.2.1 j x, r, F.2.2.2) w := by
  intro ν hv hs hi lv st u h1 h2 h3
  rw [hx] at h2
  obtain ⟨v, us, e9, hdn, h9x⟩ := xds_c h2
  subst e9
  clear h2
  have h2 := h9x
  clear h9x
  rcases xden_R hdn ho with rfl | ⟨z, rfl⟩
  · exact ⟨(j, .null) :: lv.filter (fun q => !(q.1 == j) && !(q.1 + 1 == j && q.2.category == 2)), us, u, ⟨⟨rfl, hdn⟩, xfil1 j h1⟩, h2, h3, fun p e s m args below meth c Q C hk9 H locs ls hP hS hL =>
      lv_astoreN C.1 C.2.2.2.2.2.1 hd hL hj rfl (fun ls' hL' => hk9 H locs ls' hP hS hL')⟩
  · exact ⟨(j, .ref z) :: lv.filter (fun q => !(q.1 == j) && !(q.1 + 1 == j && q.2.category == 2)), us, u, ⟨⟨rfl, hdn⟩, xfil1 j h1⟩, h2, h3, fun p e s m args below meth c Q C hk9 H locs ls hP hS hL =>
      lv_astore C.1 C.2.2.2.2.2.1 hd hL hj rfl (fun ls' hL' => hk9 H locs ls' hP hS hL')⟩
theorem zs_iinc {b : xB} {mi j : Nat} {n : Int} {F : xF} {w : xW} {x : xV} (hd : decode (Bt mi) F.1 = .ok (.iinc j n, 3)) (hx : xlook F.2.1 j = some x) (ho : xk 0 x = true) (hj : j < M.2.1 mi) : zSt M Y Bt Hh Rt Rm l s0 D ca b0 L xs b mi F w (F.1 + 3, xst1 F.2.1 j (0, x.2.1 + n, 0), F.2.2.1, F.2.2.2) w := by
  intro ν hv hs hi lv st u h1 h2 h3
  obtain ⟨k, v, hk, hdn⟩ := xlook_ok hx h1
  have e := xden_0 hdn ho
  subst e
  exact ⟨(j, .int (Int32.ofInt x.2.1 + Int32.ofInt n)) :: lv.filter (fun q => !(q.1 == j) && !(q.1 + 1 == j && q.2.category == 2)), st, u, ⟨⟨rfl, congrArg Value.int (Int32.ofInt_add _ _).symm⟩, xfil1 j h1⟩, h2, h3, fun p e s m args below meth c Q C hk9 H locs ls hP hS hL =>
    lv_iinc C.1 C.2.2.2.2.2.1 hd hL hk rfl hj rfl (fun ls' hL' => hk9 H locs ls' hP hS hL')⟩
theorem zs_goto {b : xB} {mi t : Nat} {off : Int} {F : xF} {w : xW} (hd : decode (Bt mi) F.1 = .ok (.goto off, 3)) (ht : xtgt F.1 off = some t) : zSt M Y Bt Hh Rt Rm l s0 D ca b0 L xs b mi F w (t, F.2.1, F.2.2.1, F.2.2.2) w := by
  intro ν hv hs hi lv st u h1 h2 h3
  exact ⟨lv, st, u, h1, h2, h3, fun p e s m args below meth c Q C hk9 H locs ls hP hS hL => lv_goto C.1 C.2.2.2.2.2.1 hd (xtgt_ok ht) (hk9 H locs ls hP hS hL)⟩
section ZB
variable {p : Program} {l : Launch} {e : Env} {R : Room} {s : State} {m : MethodId} {args : Array Value} {below : List Frame} {meth : Method} {c : Code} {H : Heap} {locs : List Loc} {cells slots : Nat} {Q : State → Prop} {cc : ByteArray} {pc : Nat} {ls : Array Slot} {rest : List Value}
theorem zif_row {o : ClassFile.Cond} {x : Int32} {off : Int} {tgt : Nat} (hexec : p.tables.exec = Jvm.exec) (hb : c.code = cc) (hdg : decode cc pc = .ok (.ifCond o off, 3)) (ht : (pc : Int) + off = (tgt : Int))
    (kt : zci o x 0 → W p l e R s m args below meth c H locs cells slots Q (F0 m tgt ls rest)) (kf : ¬ zci o x 0 → W p l e R s m args below meth c H locs cells slots Q (F0 m (pc + 3) ls rest)) : W p l e R s m args below meth c H locs cells slots Q (F0 m pc ls (.int x :: rest)) := by
  cases o
  · exact lv_if_eq hexec hb hdg ht kt kf
  · exact lv_if_ne hexec hb hdg ht kt (fun g => kf (fun n => n g))
  · exact lv_if_lt hexec hb hdg ht kt kf
  · exact lv_if_ge hexec hb hdg ht kt kf
  · exact lv_if_gt hexec hb hdg ht kt kf
  · exact lv_if_le hexec hb hdg ht kt kf
theorem zicmp_row {o : ClassFile.Cond} {x y : Int32} {off : Int} {tgt : Nat} (hexec : p.tables.exec = Jvm.exec) (hb : c.code = cc) (hdg : decode cc pc = .ok (.if_icmp o off, 3)) (ht : (pc : Int) + off = (tgt : Int))
    (kt : zci o x y → W p l e R s m args below meth c H locs cells slots Q (F0 m tgt ls rest)) (kf : ¬ zci o x y → W p l e R s m args below meth c H locs cells slots Q (F0 m (pc + 3) ls rest)) : W p l e R s m args below meth c H locs cells slots Q (F0 m pc ls (.int y :: .int x :: rest)) := by
  cases o
  · exact lv_icmp_eq hexec hb hdg ht kt kf
  · exact lv_icmp_ne hexec hb hdg ht kt (fun g => kf (fun n => n g))
  · exact lv_icmp_lt hexec hb hdg ht kt kf
  · exact lv_icmp_ge hexec hb hdg ht kt kf
  · exact lv_icmp_gt hexec hb hdg ht kt kf
  · exact lv_icmp_le hexec hb hdg ht kt kf
end ZB
theorem zg_if {rec : xK} (hr : zrec M Y Bt Hh Rt Rm Ex l s0 D ca b0 L xs rec) {mi : Nat} {F : xF} {w : xW} {b : xB} {o : ClassFile.Cond} {off : Int} {lf : List xL} (hd : decode (Bt mi) F.1 = .ok (.ifCond o off, 3)) (h : xif o off rec mi F w b = some lf) : zGood M Y Bt Hh Rt Rm Ex l s0 D ca b0 L xs mi F w b lf := by
  unfold xif at h
  cases hx : F.2.2.1 with
  | nil => rw [hx] at h; cases h
  | cons x r =>
    rw [hx] at h
    cases hc : xcnd0 o b x with
    | none => simp only [hc] at h; cases h
    | some d =>
      simp only [hc] at h
      unfold xjmp at h
      cases ht : xtgt F.1 off with
      | none => rw [ht] at h; cases h
      | some t =>
        rw [ht] at h
        rcases cnd_some h with ⟨h0, h⟩ | ⟨h0, h⟩
        · refine zSt_go ?_ (hr _ _ _ _ _ h)
          intro ν hv hs hi lv st u h1 h2 h3
          rw [hx] at h2
          obtain ⟨v, us, e9, hdn, h9x⟩ := xds_c h2
          subst e9
          clear h2
          have h2 := h9x
          clear h9x
          obtain ⟨a, rfl, t1, t0⟩ := xcnd0_ok hv hi hc hdn (xval_r hv)
          exact ⟨lv, us, u, h1, h2, h3, fun p e s m args below meth c Q C hk9 H locs ls hP hS hL => zif_row C.1 C.2.2.2.2.2.1 hd (xtgt_ok ht) (fun g => absurd g (t0 (Nat.beq_eq.mp h0))) (fun _ => hk9 H locs ls hP hS hL)⟩
        · rcases cnd_some h with ⟨h4, h⟩ | ⟨-, h⟩
          · refine zSt_go ?_ (hr _ _ _ _ _ h)
            intro ν hv hs hi lv st u h1 h2 h3
            rw [hx] at h2
            obtain ⟨v, us, e9, hdn, h9x⟩ := xds_c h2
            subst e9
            clear h2
            have h2 := h9x
            clear h9x
            obtain ⟨a, rfl, t1, t0⟩ := xcnd0_ok hv hi hc hdn (xval_r hv)
            exact ⟨lv, us, u, h1, h2, h3, fun p e s m args below meth c Q C hk9 H locs ls hP hS hL => zif_row C.1 C.2.2.2.2.2.1 hd (xtgt_ok ht) (fun _ => hk9 H locs ls hP hS hL) (fun g => absurd (t1 (Nat.beq_eq.mp h4)) g)⟩
          · exact zspl hr h
theorem zg_icmp {rec : xK} (hr : zrec M Y Bt Hh Rt Rm Ex l s0 D ca b0 L xs rec) {mi : Nat} {F : xF} {w : xW} {b : xB} {o : ClassFile.Cond} {off : Int} {lf : List xL} (hd : decode (Bt mi) F.1 = .ok (.if_icmp o off, 3)) (h : xicmp o off rec mi F w b = some lf) : zGood M Y Bt Hh Rt Rm Ex l s0 D ca b0 L xs mi F w b lf := by
  unfold xicmp at h
  match hx : F.2.2.1 with
  | [] => rw [hx] at h; cases h
  | [_] => rw [hx] at h; cases h
  | y :: x :: r =>
    rw [hx] at h
    cases hc : xcnd o b x y with
    | none => simp only [hc] at h; cases h
    | some d =>
      simp only [hc] at h
      unfold xjmp at h
      cases ht : xtgt F.1 off with
      | none => rw [ht] at h; cases h
      | some t =>
        rw [ht] at h
        rcases cnd_some h with ⟨h0, h⟩ | ⟨h0, h⟩
        · refine zSt_go ?_ (hr _ _ _ _ _ h)
          intro ν hv hs hi lv st u h1 h2 h3
          rw [hx] at h2
          obtain ⟨vy, us, e9, hy, h9x⟩ := xds_c h2
          subst e9
          clear h2
          have h2 := h9x
          clear h9x
          obtain ⟨vx, us, e9, hdn, h9x⟩ := xds_c h2
          subst e9
          clear h2
          have h2 := h9x
          clear h9x
          obtain ⟨a, a2, rfl, rfl, t1, t0⟩ := xcnd_ok hv hi hc hdn hy
          exact ⟨lv, us, u, h1, h2, h3, fun p e s m args below meth c Q C hk9 H locs ls hP hS hL => zicmp_row C.1 C.2.2.2.2.2.1 hd (xtgt_ok ht) (fun g => absurd g (t0 (Nat.beq_eq.mp h0))) (fun _ => hk9 H locs ls hP hS hL)⟩
        · rcases cnd_some h with ⟨h4, h⟩ | ⟨-, h⟩
          · refine zSt_go ?_ (hr _ _ _ _ _ h)
            intro ν hv hs hi lv st u h1 h2 h3
            rw [hx] at h2
            obtain ⟨vy, us, e9, hy, h9x⟩ := xds_c h2
            subst e9
            clear h2
            have h2 := h9x
            clear h9x
            obtain ⟨vx, us, e9, hdn, h9x⟩ := xds_c h2
            subst e9
            clear h2
            have h2 := h9x
            clear h9x
            obtain ⟨a, a2, rfl, rfl, t1, t0⟩ := xcnd_ok hv hi hc hdn hy
            exact ⟨lv, us, u, h1, h2, h3, fun p e s m args below meth c Q C hk9 H locs ls hP hS hL => zicmp_row C.1 C.2.2.2.2.2.1 hd (xtgt_ok ht) (fun _ => hk9 H locs ls hP hS hL) (fun g => absurd (t1 (Nat.beq_eq.mp h4)) g)⟩
          · exact zspl hr h
end ZG
