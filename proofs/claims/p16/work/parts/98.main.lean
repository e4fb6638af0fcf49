/-! THE WHOLE: every run of symbols is a run of the machine -/
section ZM
variable (M : xM) (Y : Nat → MethodName) (Bt : Nat → ByteArray) (Hh : Nat → List (Nat × Nat × Nat × Nat)) (Rt : Nat → Option FieldType) (Rm : Nat → Room) (Ex : Nat → String)
variable (l : Launch) (s0 : State) (D : va_G) (ca : Nat → ClassId) (b0 L : Nat) (xs : Nat → Int32) (ty : Nat → Nat → FieldType)
def zmore (mi pc : Nat) (e : xE) : Prop := match e.1 with
  | 17 => ∃ (C : String) (T : u_T), zclo s0 D ty e.2.1 C T (e.2.2.2.1 / 16) ∧ e.2.2.1 < e.2.2.2.1 / 16 ∧ zlw s0 (Y mi).cls e.2.2.2.2.1.toNat C (T e.2.2.1).2.1 (T e.2.2.1).2.2.1
  | 18 => ∃ (C : String) (T : u_T), zclo s0 D ty e.2.1 C T (e.2.2.2.1 / 16) ∧ e.2.2.1 < e.2.2.2.1 / 16 ∧ zlw s0 (Y mi).cls e.2.2.2.2.1.toNat C (T e.2.2.1).2.1 (T e.2.2.1).2.2.1 ∧ zft (e.2.2.2.1 % 16) (ty e.2.1 e.2.2.1) ∧
      ((T e.2.2.1).2.2.2 = false ∨ (zh s0 (.fieldLink (Y mi).cls e.2.2.2.2.1.toNat C (T e.2.2.1).2.1 (T e.2.2.1).2.2.1) ∧ (T e.2.2.1).2.2.2 = true ∧ (Y mi).name = "<init>" ∧ C = (Y mi).cls))
  | 19 => zh s0 (.constant (Y mi).cls e.2.1 (Int32.ofInt e.2.2.2.2.1))
  | 20 => zh s0 (.constantLong (Y mi).cls e.2.1 (Int64.ofInt e.2.2.2.2.1))
  | 32 => ∃ (C : String) (T : u_T) (N : Nat) (dl : List (Nat × xV)), zclo s0 D ty e.2.1 C T N ∧ M.2.2.2.2.2.2.1 e.2.1 = some (N, dl) ∧ (∀ k, k < N → ∀ B b0 ν, xden B b0 ν (xget (2, 0, 0) dl k) (defaultValue (ty e.2.1 k))) ∧ zh s0 (.classLink (Y mi).cls e.2.2.2.2.1.toNat C) ∧ zh s0 (.instantiable C N) ∧ zh s0 (.initialized C)
  | 33 => zthr s0 (Y mi).cls (Bt mi) pc (Ex e.2.1) ∧ 8 ≤ (Rm mi).frames ∧ 128 ≤ (Rm mi).locals ∧ Hh mi = []
  | 34 => 64 ≤ e.2.1 ∧ e.2.1 ≤ 67 ∧ zh s0 (.arrayClass .int) ∧ zh s0 (.arrayClass .char) ∧ zh s0 (.arrayClass .boolean) ∧ zh s0 (.arrayClass .long)
  | 35 => ∃ C : String, ztg s0 ca e.2.1 (.object C) ∧ zh s0 (.classLink (Y mi).cls e.2.2.2.2.1.toNat C) ∧ zh s0 (.arrayOver (.object C))
  | 36 => zcal M Y Bt Hh Rt Rm s0 mi e.2.1 ∧ zml s0 (Y mi).cls e.2.2.2.2.1.toNat (Y e.2.1) ∧ zmh (Y e.2.1) ∧ zh s0 (.static (Y e.2.1)) ∧ zh s0 (.initialized (Y e.2.1).cls) ∧ (parseMethodDescriptor (Y e.2.1).desc).map (fun d => d.parameters.length) = some e.2.2.1
  | 37 => zh s0 (.methodLink (Y mi).cls e.2.2.2.2.1.toNat Lib.Math.min.name) ∧ zh s0 (.static Lib.Math.min.name) ∧ zh s0 (.initialized "java/lang/Math") ∧ zh s0 (.code Lib.Math.min.name Lib.Math.min.code 2 (some .int)) ∧ 1 ≤ (Rm mi).frames ∧ 21 ≤ (Rm mi).locals
  | 38 => zcal M Y Bt Hh Rt Rm s0 mi e.2.1 ∧ zml s0 (Y mi).cls e.2.2.2.2.1.toNat (Y e.2.1) ∧ zmh (Y e.2.1) ∧ zh s0 (.instanceMethod (Y e.2.1)) ∧ zh s0 (.selects (Y e.2.1).cls (Y e.2.1) (Y e.2.1)) ∧ (parseMethodDescriptor (Y e.2.1).desc).map (fun d => d.parameters.length + 1) = some e.2.2.1 ∧ ∃ (T : u_T) (N : Nat), zclo s0 D ty (M.2.2.2.2.2.1 e.2.1) (Y e.2.1).cls T N
  | 39 => zcal M Y Bt Hh Rt Rm s0 mi e.2.1 ∧ zml s0 (Y mi).cls e.2.2.2.2.1.toNat (Y e.2.1) ∧ zmh (Y e.2.1) ∧ zh s0 (.instanceMethod (Y e.2.1)) ∧ (Y e.2.1).name = "<init>" ∧ Hh e.2.1 = [] ∧ Rt e.2.1 = none ∧ (parseMethodDescriptor (Y e.2.1).desc).map (fun d => d.parameters.length + 1) = some e.2.2.1
  | 40 => zh s0 (.methodLink (Y mi).cls e.2.2.2.2.1.toNat Lib.objectInit) ∧ zh s0 (.instanceMethod Lib.objectInit) ∧ zh s0 (.code Lib.objectInit ⟨#[0xb1]⟩ 1 none) ∧ 1 ≤ (Rm mi).frames ∧ 20 ≤ (Rm mi).locals
  | _ => True
def zok (mi pc : Nat) (e : xE) : Prop := (∃ i n, zins e = some i ∧ decode (Bt mi) pc = .ok (i, n) ∧ (e.1 = 16 ∨ n = zlnn e.1)) ∧ zmore M Y Bt Hh Rt Rm Ex s0 D ca ty mi pc e
/-- all that the tables must say -/
def zall (M : xM) (Y : Nat → MethodName) (Bt : Nat → ByteArray) (Hh : Nat → List (Nat × Nat × Nat × Nat)) (Rt : Nat → Option FieldType) (Rm : Nat → Room) (Ex : Nat → String) (l : Launch) (s0 : State) (D : va_G) (ca : Nat → ClassId) (b0 L : Nat) (xs : Nat → Int32) (ty : Nat → Nat → FieldType) : Prop :=
  l.stackTraces = false ∧ (∀ mi, (Rm mi).cells = M.2.2.1 mi ∧ (Rm mi).slots = M.2.2.2.1 mi) ∧ zhnd M Y Hh Ex s0 ∧
  (∀ mi, (M.2.2.2.2.1 mi = 0 → Rt mi = none) ∧ (M.2.2.2.2.1 mi = 1 → Rt mi = some .int) ∧ (M.2.2.2.2.1 mi = 2 → Rt mi = some .boolean) ∧ (M.2.2.2.2.1 mi = 3 → Rt mi = some .long)) ∧
  (ztg s0 ca 64 .int ∧ ztg s0 ca 65 .char ∧ ztg s0 ca 66 .boolean ∧ ztg s0 ca 67 .long) ∧ (∀ tag, 68 ≤ tag → tag ≤ 127 → ∃ (C : String) (T : u_T) (N : Nat), ztg s0 ca tag (.object C) ∧ zclo s0 D ty (M.2.2.2.2.2.2.2.1 tag) C T N) ∧
  va_X b0 L xs s0 s0.heap ∧ b0 < s0.heap.size ∧ ∀ mi pc e, pc < 2048 → zget 11 (M.1 mi) pc = some e → zok M Y Bt Hh Rt Rm Ex s0 D ca ty mi pc e
variable {M Y Bt Hh Rt Rm Ex l s0 D ca b0 L xs ty}
theorem ztg_all (h : (ztg s0 ca 64 .int ∧ ztg s0 ca 65 .char ∧ ztg s0 ca 66 .boolean ∧ ztg s0 ca 67 .long)) (h2 : ∀ tag, 68 ≤ tag → tag ≤ 127 → ∃ (C : String) (T : u_T) (N : Nat), ztg s0 ca tag (.object C) ∧ zclo s0 D ty (M.2.2.2.2.2.2.2.1 tag) C T N) : ∀ tag, 64 ≤ tag → tag ≤ 127 → ∃ t, ztg s0 ca tag t := by
  intro tag h3 h4
  by_cases h5 : 68 ≤ tag
  · obtain ⟨C, _, _, g, -⟩ := h2 tag h5 h4
    exact ⟨_, g⟩
  · have : tag = 64 ∨ tag = 65 ∨ tag = 66 ∨ tag = 67 := by omega
    rcases this with rfl | rfl | rfl | rfl
    · exact ⟨_, h.1⟩
    · exact ⟨_, h.2.1⟩
    · exact ⟨_, h.2.2.1⟩
    · exact ⟨_, h.2.2.2⟩
theorem xcall_some {M : xM} {virt : Bool} {mj na mi : Nat} {rec : xK} {F : xF} {w : xW} {b : xB} {lf : List xL} (h : xcall M virt mj na rec mi F w b = some lf) :
    ∃ f as r lc, F.2.2.1 = f ++ r ∧ as = f.reverse ∧ f.length = na ∧ F.2.2.2.1 + M.2.2.1 mj ≤ M.2.2.1 mi ∧ F.2.2.2.2 + M.2.2.2.1 mj ≤ M.2.2.2.1 mi ∧ xcat r ≤ 8 ∧ xcat as ≤ M.2.1 mj ∧ rec mj (0, xargs 0 as, [], 0, 0) w b = some lc ∧ xbind (xaft M mj r rec mi F) lc = some lf ∧
      (virt = true → ∃ x as' c, as = x :: as' ∧ xk 3 x = true ∧ xcell w x.2.1 = some c ∧ c.1 = M.2.2.2.2.2.1 mj ∧ c.1 < 64) := by
  unfold xcall at h
  cases ht : xtake na F.2.2.1 [] with
  | none => rw [ht] at h; cases h
  | some q =>
    obtain ⟨as, r⟩ := q
    rw [ht] at h
    obtain ⟨f, h1, h2, h3⟩ := xtake_some ht
    obtain ⟨hc, h⟩ := cnd_t h
    simp only [Bool.and_eq_true, Nat.ble_eq] at hc
    obtain ⟨⟨⟨⟨c1, c2⟩, c3⟩, c4⟩, c5⟩ := hc
    cases hl : rec mj (0, xargs 0 as, [], 0, 0) w b with
    | none => simp only [hl] at h; cases h
    | some lc =>
      simp only [hl] at h
      refine ⟨f, as, r, lc, h1, by rw [h2, List.append_nil], h3, c1, c2, c3, c4, hl, h, fun hv => ?_⟩
      subst hv
      cases as with
      | nil => cases c5
      | cons x as' =>
        replace c5 : (xk 3 x && (match xcell w x.2.1 with
          | some c => Nat.beq c.1 (M.2.2.2.2.2.1 mj) && Nat.ble (c.1 + 1) 64
          | none => false)) = true := c5
        rw [Bool.and_eq_true] at c5
        cases hcl : xcell w x.2.1 with
        | none => rw [hcl] at c5; cases c5.2
        | some c =>
          rw [hcl] at c5
          have c6 := c5.2
          simp only [Bool.and_eq_true, Nat.beq_eq, Nat.ble_eq] at c6
          exact ⟨x, as', c, rfl, c5.1, hcl, c6.1, c6.2⟩
theorem zg_callS (A : zall M Y Bt Hh Rt Rm Ex l s0 D ca b0 L xs ty) {rec : xK} (hr : zrec M Y Bt Hh Rt Rm Ex l s0 D ca b0 L xs rec) {mi mj na ix : Nat} {F : xF} {w : xW} {b : xB} {lf : List xL} (hd : decode (Bt mi) F.1 = .ok (.invokestatic ix, 3)) (hcal : zcal M Y Bt Hh Rt Rm s0 mi mj) (hl : zml s0 (Y mi).cls ix (Y mj)) (hy : zmh (Y mj)) (w1 : zh s0 (.static (Y mj))) (w2 : zh s0 (.initialized (Y mj).cls))
    (hn : (parseMethodDescriptor (Y mj).desc).map (fun d => d.parameters.length) = some na) (h : xcall M false mj na rec mi F w b = some lf) : zGood M Y Bt Hh Rt Rm Ex l s0 D ca b0 L xs mi F w b lf := by
  obtain ⟨f, as, r, lc, hst, has, hfl, hcc, hss, hr8, ha9, hlc, hbi, -⟩ := xcall_some h
  intro ν hv hs hi lv st u h1 h2 h3 p e s m args below meth c Q C hx H locs ls hP hS hL
  rw [hst] at h2
  obtain ⟨vf, vr, e0, hvf, hvr⟩ := zF2_app h2
  have hva : xds s0.heap.size b0 ν as vf.reverse := by rw [has]; exact zF2_rev hvf
  refine zg_call9 A.1 hr A.2.1 A.2.2.1 hd hcal hcc hss hr8 ha9 hlc hbi hv hs hi h1 hva hvr h3 C hx hP hS hL (fun T hT X => ?_)
  exact z_goS X C.1 C.2.1 C.2.2.2.2.1 hl w1 w2 hcal.2.1 hy hn rfl (by rw [List.length_reverse, zF2_len hvf]; exact hfl) (by rw [List.reverse_reverse]; exact e0) (by rw [C.2.2.2.2.2.1]; exact hd)
theorem zg_callV (A : zall M Y Bt Hh Rt Rm Ex l s0 D ca b0 L xs ty) {rec : xK} (hr : zrec M Y Bt Hh Rt Rm Ex l s0 D ca b0 L xs rec) {mi mj na ix : Nat} {F : xF} {w : xW} {b : xB} {lf : List xL} {Tj : u_T} {Nj : Nat} (hd : decode (Bt mi) F.1 = .ok (.invokevirtual ix, 3)) (hcal : zcal M Y Bt Hh Rt Rm s0 mi mj) (hl : zml s0 (Y mi).cls ix (Y mj)) (hy : zmh (Y mj)) (w1 : zh s0 (.instanceMethod (Y mj))) (w2 : zh s0 (.selects (Y mj).cls (Y mj) (Y mj)))
    (hn : (parseMethodDescriptor (Y mj).desc).map (fun d => d.parameters.length + 1) = some na) (hz : zclo s0 D ty (M.2.2.2.2.2.1 mj) (Y mj).cls Tj Nj) (h : xcall M true mj na rec mi F w b = some lf) : zGood M Y Bt Hh Rt Rm Ex l s0 D ca b0 L xs mi F w b lf := by
  obtain ⟨f, as, r, lc, hst, has, hfl, hcc, hss, hr8, ha9, hlc, hbi, hvt⟩ := xcall_some h
  obtain ⟨x, as', cx, hax, h3x, hcl, hct, h64⟩ := hvt rfl
  intro ν hv hs hi lv st u h1 h2 h3 p e s m args below meth c Q C hx H locs ls hP hS hL
  rw [hst] at h2
  obtain ⟨vf, vr, e0, hvf, hvr⟩ := zF2_app h2
  have hva : xds s0.heap.size b0 ν as vf.reverse := by rw [has]; exact zF2_rev hvf
  have hlen : vf.length = na := by rw [zF2_len hvf]; exact hfl
  obtain ⟨v0, va', ev, hd0, hda⟩ := xds_c (show xds s0.heap.size b0 ν (x :: as') vf.reverse by rw [← hax]; exact hva)
  have ex := xden_3 hd0 h3x
  obtain ⟨hlt, hdc⟩ := xcell_ok hcl h3
  have hO := zat_o (hP.2.2 (s0.heap.size + x.2.1.toNat) (Nat.le_add_right _ _) (by rw [h3.1]; omega)) (by rw [← hdc.1]; exact h64)
  rw [← hdc.1, hct] at hO
  obtain ⟨cellB, q1, q2, q3, -⟩ := hO
  have hcls := (u_Kn_moved C.2.1.alike hz.2.1).2.1
  refine zg_call9 A.1 hr A.2.1 A.2.2.1 hd hcal hcc hss hr8 ha9 hlc hbi hv hs hi h1 hva hvr h3 C hx hP hS hL (fun T hT X => ?_)
  rw [ev, ex]
  have hn2 : (parseMethodDescriptor (Y mj).desc).map (fun d => d.parameters.length) = some va'.length := by
    cases hpd : parseMethodDescriptor (Y mj).desc with
    | none => rw [hpd] at hn; cases hn
    | some sg =>
      rw [hpd] at hn
      have g1 : sg.parameters.length + 1 = na := Option.some.inj hn
      have g2 : vf.reverse.length = va'.length + 1 := by rw [ev]; rfl
      rw [List.length_reverse] at g2
      show some sg.parameters.length = some va'.length
      congr 1
      omega
  refine z_goV (b := s0.heap.size + x.2.1.toNat) (cellB := cellB) X C.1 C.2.1 C.2.2.2.2.1 hl w1 w2 hcal.2.1 hy hn2 (by rw [hT]; exact q1) q3 (by rw [q2]; exact hcls) rfl rfl ?_ (by rw [C.2.2.2.2.2.1]; exact hd)
  show st = va'.reverse ++ .ref _ :: vr
  have g3 : vf = va'.reverse ++ [v0] := by
    have g4 : vf.reverse.reverse = (v0 :: va').reverse := by rw [ev]
    rw [List.reverse_reverse, List.reverse_cons] at g4
    exact g4
  rw [e0, g3, ex, List.append_assoc]
  rfl
theorem zg_callI (A : zall M Y Bt Hh Rt Rm Ex l s0 D ca b0 L xs ty) {rec : xK} (hr : zrec M Y Bt Hh Rt Rm Ex l s0 D ca b0 L xs rec) {mi mj na ix : Nat} {F : xF} {w : xW} {b : xB} {lf : List xL} (hd : decode (Bt mi) F.1 = .ok (.invokespecial ix, 3)) (hcal : zcal M Y Bt Hh Rt Rm s0 mi mj) (hl : zml s0 (Y mi).cls ix (Y mj)) (hy : zmh (Y mj)) (w1 : zh s0 (.instanceMethod (Y mj))) (hnm : (Y mj).name = "<init>") (hH : Hh mj = []) (hR : Rt mj = none)
    (hn : (parseMethodDescriptor (Y mj).desc).map (fun d => d.parameters.length + 1) = some na) (h : xcall M true mj na rec mi F w b = some lf) : zGood M Y Bt Hh Rt Rm Ex l s0 D ca b0 L xs mi F w b lf := by
  obtain ⟨f, as, r, lc, hst, has, hfl, hcc, hss, hr8, ha9, hlc, hbi, hvt⟩ := xcall_some h
  obtain ⟨x, as', cx, hax, h3x, hcl, hct, h64⟩ := hvt rfl
  intro ν hv hs hi lv st u h1 h2 h3 p e s m args below meth c Q C hx H locs ls hP hS hL
  rw [hst] at h2
  obtain ⟨vf, vr, e0, hvf, hvr⟩ := zF2_app h2
  have hva : xds s0.heap.size b0 ν as vf.reverse := by rw [has]; exact zF2_rev hvf
  have hlen : vf.length = na := by rw [zF2_len hvf]; exact hfl
  obtain ⟨v0, va', ev, hd0, hda⟩ := xds_c (show xds s0.heap.size b0 ν (x :: as') vf.reverse by rw [← hax]; exact hva)
  have ex := xden_3 hd0 h3x
  refine zg_call9 A.1 hr A.2.1 A.2.2.1 hd hcal hcc hss hr8 ha9 hlc hbi hv hs hi h1 hva hvr h3 C hx hP hS hL (fun T hT X => ?_)
  rw [ev, ex]
  have hn2 : (parseMethodDescriptor (Y mj).desc).map (fun d => d.parameters.length) = some va'.length := by
    cases hpd : parseMethodDescriptor (Y mj).desc with
    | none => rw [hpd] at hn; cases hn
    | some sg =>
      rw [hpd] at hn
      have g1 : sg.parameters.length + 1 = na := Option.some.inj hn
      have g2 : vf.reverse.length = va'.length + 1 := by rw [ev]; rfl
      rw [List.length_reverse] at g2
      show some sg.parameters.length = some va'.length
      congr 1
      omega
  refine z_goI (b := s0.heap.size + x.2.1.toNat) X C.1 C.2.1 C.2.2.2.2.1 hl w1 hnm hH hR hcal.2.1 hy hn2 rfl rfl ?_ (by rw [C.2.2.2.2.2.1]; exact hd)
  show st = va'.reverse ++ .ref _ :: vr
  have g3 : vf = va'.reverse ++ [v0] := by
    have g4 : vf.reverse.reverse = (v0 :: va').reverse := by rw [ev]
    rw [List.reverse_reverse, List.reverse_cons] at g4
    exact g4
  rw [e0, g3, ex, List.append_assoc]
  rfl
theorem zg_retI (A : zall M Y Bt Hh Rt Rm Ex l s0 D ca b0 L xs ty) {mi : Nat} {F : xF} {w : xW} {b : xB} {lf : List xL} (hd : decode (Bt mi) F.1 = .ok (.ireturn, 1)) (h : xretI M mi F w b = some lf) : zGood M Y Bt Hh Rt Rm Ex l s0 D ca b0 L xs mi F w b lf := by
  unfold xretI at h
  match hst : F.2.2.1 with
  | [] => rw [hst] at h; cases h
  | _ :: _ :: _ => rw [hst] at h; cases h
  | [v0] =>
    rw [hst] at h
    obtain ⟨hc, h⟩ := cnd_t h
    cases h
    rw [Bool.and_eq_true] at hc
    obtain ⟨hret, hcs⟩ := hc
    simp only [xcs, Bool.and_eq_true, Nat.ble_eq] at hcs
    intro ν hv hs hi lv st u h1 h2 h3 p e s m args below meth c Q C hx H locs ls hP hS hL
    rw [hst] at h2
    obtain ⟨v, us, e9, hdn, h9x⟩ := xds_c h2
    subst e9
    clear h2
    have h2 := h9x
    clear h9x
    have e0 := xds_n h2
    subst e0
    refine (hx _ List.mem_cons_self hi u h3).1 rfl v hdn H locs ls F.1 _ _ (by rw [(A.2.1 mi).1]; exact hcs.1) (by rw [(A.2.1 mi).2]; exact hcs.2) hP hS (Or.inl ?_)
    have hrt := A.2.2.2.1 mi
    replace hret : (bif Nat.beq (M.2.2.2.2.1 mi) 1 then xI v0 else bif Nat.beq (M.2.2.2.2.1 mi) 2 then xk 0 v0 && (ieq v0.2.1 0 || ieq v0.2.1 1) else false) = true := hret
    cases hb : Nat.beq (M.2.2.2.2.1 mi) 1 with
    | true =>
      rw [hb] at hret
      obtain ⟨z, rfl⟩ := xden_I hdn hret
      exact ⟨z, rfl, hd, Or.inl (hrt.2.1 (Nat.beq_eq.mp hb))⟩
    | false =>
      rw [hb] at hret
      cases hb2 : Nat.beq (M.2.2.2.2.1 mi) 2 with
      | false => rw [hb2] at hret; cases hret
      | true =>
        rw [hb2] at hret
        replace hret : (xk 0 v0 && (ieq v0.2.1 0 || ieq v0.2.1 1)) = true := hret
        simp only [Bool.and_eq_true, Bool.or_eq_true, ieq_iff] at hret
        have e9 := xden_0 hdn hret.1
        refine ⟨_, congrArg some e9, hd, Or.inr ⟨hrt.2.2.1 (Nat.beq_eq.mp hb2), ?_⟩⟩
        rcases hret.2 with g | g <;> rw [g]
        · exact Or.inl rfl
        · exact Or.inr rfl
theorem zg_retJ (A : zall M Y Bt Hh Rt Rm Ex l s0 D ca b0 L xs ty) {mi : Nat} {F : xF} {w : xW} {b : xB} {lf : List xL} (hd : decode (Bt mi) F.1 = .ok (.lreturn, 1)) (h : xretJ M mi F w b = some lf) : zGood M Y Bt Hh Rt Rm Ex l s0 D ca b0 L xs mi F w b lf := by
  unfold xretJ at h
  match hst : F.2.2.1 with
  | [] => rw [hst] at h; cases h
  | _ :: _ :: _ => rw [hst] at h; cases h
  | [v0] =>
    rw [hst] at h
    obtain ⟨hc, h⟩ := cnd_t h
    cases h
    rw [Bool.and_eq_true, Bool.and_eq_true, Nat.beq_eq] at hc
    obtain ⟨⟨hr3, hj⟩, hcs⟩ := hc
    simp only [xcs, Bool.and_eq_true, Nat.ble_eq] at hcs
    intro ν hv hs hi lv st u h1 h2 h3 p e s m args below meth c Q C hx H locs ls hP hS hL
    rw [hst] at h2
    obtain ⟨v, us, e9, hdn, h9x⟩ := xds_c h2
    subst e9
    clear h2
    have h2 := h9x
    clear h9x
    have e0 := xds_n h2
    subst e0
    obtain ⟨z, rfl⟩ := xden_J hdn hj
    exact (hx _ List.mem_cons_self hi u h3).1 rfl _ hdn H locs ls F.1 _ _ (by rw [(A.2.1 mi).1]; exact hcs.1) (by rw [(A.2.1 mi).2]; exact hcs.2) hP hS (Or.inr (Or.inl ⟨z, rfl, hd, (A.2.2.2.1 mi).2.2.2 hr3⟩))
theorem zg_retV (A : zall M Y Bt Hh Rt Rm Ex l s0 D ca b0 L xs ty) {mi : Nat} {F : xF} {w : xW} {b : xB} {lf : List xL} (hd : decode (Bt mi) F.1 = .ok (.return_, 1)) (h : xretV M mi F w b = some lf) : zGood M Y Bt Hh Rt Rm Ex l s0 D ca b0 L xs mi F w b lf := by
  unfold xretV at h
  match hst : F.2.2.1 with
  | _ :: _ => rw [hst] at h; cases h
  | [] =>
    rw [hst] at h
    obtain ⟨hc, h⟩ := cnd_t h
    cases h
    rw [Bool.and_eq_true, Nat.beq_eq] at hc
    obtain ⟨hr3, hcs⟩ := hc
    simp only [xcs, Bool.and_eq_true, Nat.ble_eq] at hcs
    intro ν hv hs hi lv st u h1 h2 h3 p e s m args below meth c Q C hx H locs ls hP hS hL
    rw [hst] at h2
    have e0 := xds_n h2
    subst e0
    exact (hx _ List.mem_cons_self hi u h3).2.1 rfl H locs ls F.1 _ _ (by rw [(A.2.1 mi).1]; exact hcs.1) (by rw [(A.2.1 mi).2]; exact hcs.2) hP hS (Or.inr (Or.inr ⟨rfl, hd, (A.2.2.2.1 mi).1 hr3⟩))
theorem zg_thr (A : zall M Y Bt Hh Rt Rm Ex l s0 D ca b0 L xs ty) {mi k : Nat} {F : xF} {w : xW} {b : xB} {lf : List xL} (hz : zthr s0 (Y mi).cls (Bt mi) F.1 (Ex k)) (hf : 8 ≤ (Rm mi).frames) (hlo : 128 ≤ (Rm mi).locals) (hH : Hh mi = []) (h : xthr M k mi F w b = some lf) : zGood M Y Bt Hh Rt Rm Ex l s0 D ca b0 L xs mi F w b lf := by
  unfold xthr at h
  obtain ⟨hc, h⟩ := cnd_t h
  cases h
  simp only [Bool.and_eq_true, Nat.ble_eq] at hc
  obtain ⟨⟨⟨hc1, hc2⟩, hc3⟩, hc4⟩ := hc
  intro ν hv hs hi lv st u h1 h2 h3 p e s m args below meth c Q C hx H locs ls hP hS hL
  exact (hx _ List.mem_cons_self hi (znew u (200, 0, fun _ => .null)) (xnew_ok h3 hc3 ⟨rfl, rfl, fun q hq => absurd hq (Nat.not_lt_zero _)⟩)).2.2 rfl u H locs ls F.1 _ _ st rfl (by rw [(A.2.1 mi).1]; exact hc1) (by rw [(A.2.1 mi).2]; exact hc2) hP hS hL.1 hz hf hlo hH (by rw [xcat_ok h2]; exact hc4)
set_option maxHeartbeats 4000000 in
theorem zdis (A : zall M Y Bt Hh Rt Rm Ex l s0 D ca b0 L xs ty) {rec : xK} (ih : zrec M Y Bt Hh Rt Rm Ex l s0 D ca b0 L xs rec) {mi : Nat} {F : xF} {w : xW} {b : xB} {lf : List xL} (op a bb cc : Nat) (k : Int) (ll : List Int) (hok : zok M Y Bt Hh Rt Rm Ex s0 D ca ty mi F.1 (op, a, bb, cc, k, ll)) (h : xdis M (op, a, bb, cc, k, ll) rec mi F w b = some lf) : zGood M Y Bt Hh Rt Rm Ex l s0 D ca b0 L xs mi F w b lf := by
  obtain ⟨⟨i, n, hi, hd, hn⟩, hm⟩ := hok
  match op with
  | 0 =>
    replace h : xload xI a 1 rec mi F w b = some lf := h
    have hn : n = 1 := hn.elim (fun g => absurd (show 0 = 16 from g) (by decide)) (fun g => g)
    subst hn
    replace hi : (if h : a < 4 then some (.iload_n ⟨a, h⟩) else none) = some i := hi
    split at hi
    · cases hi
      obtain ⟨x, hx, ho, hrc⟩ := xload_some h
      exact zSt_go (zs_iload_n (F := F) hd hx ho) (ih _ _ _ _ _ hrc)
    · cases hi
  | 1 =>
    replace h : xload xI a 2 rec mi F w b = some lf := h
    have hn : n = 2 := hn.elim (fun g => absurd (show 1 = 16 from g) (by decide)) (fun g => g)
    subst hn
    cases hi
    obtain ⟨x, hx, ho, hrc⟩ := xload_some h
    exact zSt_go (zs_iload hd hx ho) (ih _ _ _ _ _ hrc)
  | 2 =>
    replace h : xload xJ a 1 rec mi F w b = some lf := h
    have hn : n = 1 := hn.elim (fun g => absurd (show 2 = 16 from g) (by decide)) (fun g => g)
    subst hn
    replace hi : (if h : a < 4 then some (.lload_n ⟨a, h⟩) else none) = some i := hi
    split at hi
    · cases hi
      obtain ⟨x, hx, ho, hrc⟩ := xload_some h
      exact zSt_go (zs_lload_n (F := F) hd hx ho) (ih _ _ _ _ _ hrc)
    · cases hi
  | 3 =>
    replace h : xload xJ a 2 rec mi F w b = some lf := h
    have hn : n = 2 := hn.elim (fun g => absurd (show 3 = 16 from g) (by decide)) (fun g => g)
    subst hn
    cases hi
    obtain ⟨x, hx, ho, hrc⟩ := xload_some h
    exact zSt_go (zs_lload hd hx ho) (ih _ _ _ _ _ hrc)
  | 4 =>
    replace h : xload xR a 1 rec mi F w b = some lf := h
    have hn : n = 1 := hn.elim (fun g => absurd (show 4 = 16 from g) (by decide)) (fun g => g)
    subst hn
    replace hi : (if h : a < 4 then some (.aload_n ⟨a, h⟩) else none) = some i := hi
    split at hi
    · cases hi
      obtain ⟨x, hx, ho, hrc⟩ := xload_some h
      exact zSt_go (zs_aload_n (F := F) hd hx ho) (ih _ _ _ _ _ hrc)
    · cases hi
  | 5 =>
    replace h : xload xR a 2 rec mi F w b = some lf := h
    have hn : n = 2 := hn.elim (fun g => absurd (show 5 = 16 from g) (by decide)) (fun g => g)
    subst hn
    cases hi
    obtain ⟨x, hx, ho, hrc⟩ := xload_some h
    exact zSt_go (zs_aload hd hx ho) (ih _ _ _ _ _ hrc)
  | 6 =>
    replace h : (fun rec mi => xstor xI false a 1 (M.2.1 mi) rec mi) rec mi F w b = some lf := h
    have hn : n = 1 := hn.elim (fun g => absurd (show 6 = 16 from g) (by decide)) (fun g => g)
    subst hn
    replace hi : (if h : a < 4 then some (.istore_n ⟨a, h⟩) else none) = some i := hi
    split at hi
    · cases hi
      obtain ⟨x, r, hx, ho, hj, hrc⟩ := xstor_some h
      exact zSt_go (zs_istore_n (F := F) hd hx ho hj) (ih _ _ _ _ _ hrc)
    · cases hi
  | 7 =>
    replace h : (fun rec mi => xstor xI false a 2 (M.2.1 mi) rec mi) rec mi F w b = some lf := h
    have hn : n = 2 := hn.elim (fun g => absurd (show 7 = 16 from g) (by decide)) (fun g => g)
    subst hn
    cases hi
    obtain ⟨x, r, hx, ho, hj, hrc⟩ := xstor_some h
    exact zSt_go (zs_istore hd hx ho hj) (ih _ _ _ _ _ hrc)
  | 8 =>
    replace h : (fun rec mi => xstor xJ true a 1 (M.2.1 mi) rec mi) rec mi F w b = some lf := h
    have hn : n = 1 := hn.elim (fun g => absurd (show 8 = 16 from g) (by decide)) (fun g => g)
    subst hn
    replace hi : (if h : a < 4 then some (.lstore_n ⟨a, h⟩) else none) = some i := hi
    split at hi
    · cases hi
      obtain ⟨x, r, hx, ho, hj, hrc⟩ := xstor_some h
      exact zSt_go (zs_lstore_n (F := F) hd hx ho hj) (ih _ _ _ _ _ hrc)
    · cases hi
  | 9 =>
    replace h : (fun rec mi => xstor xJ true a 2 (M.2.1 mi) rec mi) rec mi F w b = some lf := h
    have hn : n = 2 := hn.elim (fun g => absurd (show 9 = 16 from g) (by decide)) (fun g => g)
    subst hn
    cases hi
    obtain ⟨x, r, hx, ho, hj, hrc⟩ := xstor_some h
    exact zSt_go (zs_lstore hd hx ho hj) (ih _ _ _ _ _ hrc)
  | 10 =>
    replace h : (fun rec mi => xstor xR false a 1 (M.2.1 mi) rec mi) rec mi F w b = some lf := h
    have hn : n = 1 := hn.elim (fun g => absurd (show 10 = 16 from g) (by decide)) (fun g => g)
    subst hn
    replace hi : (if h : a < 4 then some (.astore_n ⟨a, h⟩) else none) = some i := hi
    split at hi
    · cases hi
      obtain ⟨x, r, hx, ho, hj, hrc⟩ := xstor_some h
      exact zSt_go (zs_astore_n (F := F) hd hx ho hj) (ih _ _ _ _ _ hrc)
    · cases hi
  | 11 =>
    replace h : (fun rec mi => xstor xR false a 2 (M.2.1 mi) rec mi) rec mi F w b = some lf := h
    have hn : n = 2 := hn.elim (fun g => absurd (show 11 = 16 from g) (by decide)) (fun g => g)
    subst hn
    cases hi
    obtain ⟨x, r, hx, ho, hj, hrc⟩ := xstor_some h
    exact zSt_go (zs_astore hd hx ho hj) (ih _ _ _ _ _ hrc)
  | 12 =>
    replace h : (fun rec mi => xinc a k (M.2.1 mi) rec mi) rec mi F w b = some lf := h
    have hn : n = 3 := hn.elim (fun g => absurd (show 12 = 16 from g) (by decide)) (fun g => g)
    subst hn
    cases hi
    replace h : xinc a k (M.2.1 mi) rec mi F w b = some lf := h
    unfold xinc at h
    cases hx : xlook F.2.1 a with
    | none => rw [hx] at h; cases h
    | some x =>
      rw [hx] at h
      obtain ⟨hc, h⟩ := cnd_t h
      rw [Bool.and_eq_true, Nat.ble_eq] at hc
      exact zSt_go (zs_iinc hd hx hc.1 hc.2) (ih _ _ _ _ _ h)
  | 13 =>
    replace h : xif (xco a) k rec mi F w b = some lf := h
    have hn : n = 3 := hn.elim (fun g => absurd (show 13 = 16 from g) (by decide)) (fun g => g)
    subst hn
    cases hi
    exact zg_if ih hd h
  | 14 =>
    replace h : xicmp (xco a) k rec mi F w b = some lf := h
    have hn : n = 3 := hn.elim (fun g => absurd (show 14 = 16 from g) (by decide)) (fun g => g)
    subst hn
    cases hi
    exact zg_icmp ih hd h
  | 15 =>
    replace h : xgoto k rec mi F w b = some lf := h
    have hn : n = 3 := hn.elim (fun g => absurd (show 15 = 16 from g) (by decide)) (fun g => g)
    subst hn
    cases hi
    unfold xgoto at h
    cases ht : xtgt F.1 k with
    | none => rw [ht] at h; cases h
    | some t =>
      rw [ht] at h
      exact zSt_go (zs_goto hd ht) (ih _ _ _ _ _ h)
  | 16 =>
    replace h : xsw k (ll.getD 0 0) (ll.getD 1 0) (ll.drop 2) rec mi F w b = some lf := h
    cases hi
    exact zg_sw ih hd (by rw [List.toList_toArray]; exact h)
  | 17 =>
    replace h : (fun rec mi F w b => xgo 3 (xgf a bb (cc / 16) w F.2.2.1) rec mi F w b) rec mi F w b = some lf := h
    have hn : n = 3 := hn.elim (fun g => absurd (show 17 = 16 from g) (by decide)) (fun g => g)
    subst hn
    cases hi
    obtain ⟨C, T, hz, hk, hl9⟩ := hm
    replace h : xgo 3 (xgf a bb (cc / 16) w F.2.2.1) rec mi F w b = some lf := h
    unfold xgo at h
    cases hx : xgf a bb (cc / 16) w F.2.2.1 with
    | none => rw [hx] at h; cases h
    | some st' =>
      rw [hx] at h
      exact zSt_go (zs_get hd hz hk hl9 hx) (ih _ _ _ _ _ h)
  | 18 =>
    replace h : (fun rec mi F w b => xgo2 3 (xpf a bb (cc / 16) (cc % 16) w F.2.2.1) rec mi F b) rec mi F w b = some lf := h
    have hn : n = 3 := hn.elim (fun g => absurd (show 18 = 16 from g) (by decide)) (fun g => g)
    subst hn
    cases hi
    obtain ⟨C, T, hz, hk, hl9, hft, hfin⟩ := hm
    replace h : xgo2 3 (xpf a bb (cc / 16) (cc % 16) w F.2.2.1) rec mi F b = some lf := h
    unfold xgo2 at h
    cases hx : xpf a bb (cc / 16) (cc % 16) w F.2.2.1 with
    | none => rw [hx] at h; cases h
    | some q =>
      obtain ⟨st', w'⟩ := q
      rw [hx] at h
      exact zSt_go (zs_put hd hz hk hl9 hft hfin hx) (ih _ _ _ _ _ h)
  | 19 =>
    replace h : (fun rec mi F w b => xgo 2 (some ((0, k, 0) :: F.2.2.1)) rec mi F w b) rec mi F w b = some lf := h
    have hn : n = 2 := hn.elim (fun g => absurd (show 19 = 16 from g) (by decide)) (fun g => g)
    subst hn
    cases hi
    exact zSt_go (zs_ldc hd hm) (ih _ _ _ _ _ h)
  | 20 =>
    replace h : (fun rec mi F w b => xgo 3 (some ((1, k, 0) :: F.2.2.1)) rec mi F w b) rec mi F w b = some lf := h
    have hn : n = 3 := hn.elim (fun g => absurd (show 20 = 16 from g) (by decide)) (fun g => g)
    subst hn
    cases hi
    exact zSt_go (zs_ldc2 hd hm) (ih _ _ _ _ _ h)
  | 21 =>
    replace h : (fun rec mi F w b => xgo 1 (xln w F.2.2.1) rec mi F w b) rec mi F w b = some lf := h
    have hn : n = 1 := hn.elim (fun g => absurd (show 21 = 16 from g) (by decide)) (fun g => g)
    subst hn
    cases hi
    replace h : xgo 1 (xln w F.2.2.1) rec mi F w b = some lf := h
    unfold xgo at h
    cases hx : xln w F.2.2.1 with
    | none => rw [hx] at h; cases h
    | some st' =>
      rw [hx] at h
      exact zSt_go (zs_len hd A.2.2.2.2.2.2.1 A.2.2.2.2.2.2.2.1 (ztg_all A.2.2.2.2.1 A.2.2.2.2.2.1) hx) (ih _ _ _ _ _ h)
  | 22 =>
    replace h : xald 64 64 rec mi F w b = some lf := h
    have hn : n = 1 := hn.elim (fun g => absurd (show 22 = 16 from g) (by decide)) (fun g => g)
    subst hn
    cases hi
    exact zg_iald ih hd A.2.2.2.2.2.2.1 A.2.2.2.2.2.2.2.1 (fun tag g1 g2 => by have e : tag = 64 := by omega
                                                                               rw [e]; exact A.2.2.2.2.1.1) h
  | 23 =>
    replace h : xald 65 65 rec mi F w b = some lf := h
    have hn : n = 1 := hn.elim (fun g => absurd (show 23 = 16 from g) (by decide)) (fun g => g)
    subst hn
    cases hi
    exact zg_cald ih hd (fun tag g1 g2 => by have e : tag = 65 := by omega
                                             rw [e]; exact A.2.2.2.2.1.2.1) h
  | 24 =>
    replace h : xald 66 66 rec mi F w b = some lf := h
    have hn : n = 1 := hn.elim (fun g => absurd (show 24 = 16 from g) (by decide)) (fun g => g)
    subst hn
    cases hi
    exact zg_zald ih hd (fun tag g1 g2 => by have e : tag = 66 := by omega
                                             rw [e]; exact A.2.2.2.2.1.2.2.1) h
  | 25 =>
    replace h : xald 67 67 rec mi F w b = some lf := h
    have hn : n = 1 := hn.elim (fun g => absurd (show 25 = 16 from g) (by decide)) (fun g => g)
    subst hn
    cases hi
    exact zg_lald ih hd (fun tag g1 g2 => by have e : tag = 67 := by omega
                                             rw [e]; exact A.2.2.2.2.1.2.2.2) h
  | 26 =>
    replace h : xald 68 100 rec mi F w b = some lf := h
    have hn : n = 1 := hn.elim (fun g => absurd (show 26 = 16 from g) (by decide)) (fun g => g)
    subst hn
    cases hi
    exact zg_aald ih hd (fun tag g1 g2 => by obtain ⟨C, _, _, g, -⟩ := A.2.2.2.2.2.1 tag g1 (by omega)
                                             exact ⟨C, g⟩) h
  | 27 =>
    replace h : xast M 0 64 64 rec mi F w b = some lf := h
    have hn : n = 1 := hn.elim (fun g => absurd (show 27 = 16 from g) (by decide)) (fun g => g)
    subst hn
    cases hi
    exact zg_iast ih hd (fun tag g1 g2 => by have e : tag = 64 := by omega
                                             rw [e]; exact A.2.2.2.2.1.1) h
  | 28 =>
    replace h : xast M 1 65 65 rec mi F w b = some lf := h
    have hn : n = 1 := hn.elim (fun g => absurd (show 28 = 16 from g) (by decide)) (fun g => g)
    subst hn
    cases hi
    exact zg_cast ih hd (fun tag g1 g2 => by have e : tag = 65 := by omega
                                             rw [e]; exact A.2.2.2.2.1.2.1) h
  | 29 =>
    replace h : xast M 2 66 66 rec mi F w b = some lf := h
    have hn : n = 1 := hn.elim (fun g => absurd (show 29 = 16 from g) (by decide)) (fun g => g)
    subst hn
    cases hi
    exact zg_zast ih hd (fun tag g1 g2 => by have e : tag = 66 := by omega
                                             rw [e]; exact A.2.2.2.2.1.2.2.1) h
  | 30 =>
    replace h : xast M 3 67 67 rec mi F w b = some lf := h
    have hn : n = 1 := hn.elim (fun g => absurd (show 30 = 16 from g) (by decide)) (fun g => g)
    subst hn
    cases hi
    exact zg_last ih hd (fun tag g1 g2 => by have e : tag = 67 := by omega
                                             rw [e]; exact A.2.2.2.2.1.2.2.2) h
  | 31 =>
    replace h : xast M 4 68 100 rec mi F w b = some lf := h
    have hn : n = 1 := hn.elim (fun g => absurd (show 31 = 16 from g) (by decide)) (fun g => g)
    subst hn
    cases hi
    exact zg_aast (ty := ty) ih hd (fun tag g1 g2 => A.2.2.2.2.2.1 tag g1 (by omega)) h
  | 32 =>
    replace h : xnewo M a rec mi F w b = some lf := h
    have hn : n = 3 := hn.elim (fun g => absurd (show 32 = 16 from g) (by decide)) (fun g => g)
    subst hn
    cases hi
    obtain ⟨C, T, N, dl, hz, hdl, hdf, w1, w2, w3⟩ := hm
    exact zg_new ih A.2.1 hd hz hdl hdf w1 w2 w3 h
  | 33 =>
    replace h : (fun _ mi => xthr M a mi) rec mi F w b = some lf := h
    have hn : n = 3 := hn.elim (fun g => absurd (show 33 = 16 from g) (by decide)) (fun g => g)
    subst hn
    cases hi
    obtain ⟨hz, hf, hlo, hH⟩ := hm
    exact zg_thr A hz hf hlo hH h
  | 34 =>
    replace h : xnewa M a 2 (bif Nat.beq a 67 then (1, 0, 0) else (0, 0, 0)) rec mi F w b = some lf := h
    have hn : n = 2 := hn.elim (fun g => absurd (show 34 = 16 from g) (by decide)) (fun g => g)
    subst hn
    cases hi
    obtain ⟨h64, h67, wi, wc, wb, wl⟩ := hm
    have ha : a = 64 ∨ a = 65 ∨ a = 66 ∨ a = 67 := by
      replace h64 : 64 ≤ a := h64
      replace h67 : a ≤ 67 := h67
      omega
    rcases ha with rfl | rfl | rfl | rfl
    · exact zg_newa (at0 := .int) (d := (0, 0, 0)) ih A.2.1 hd A.2.2.2.2.1.1 wi (fun _ _ _ => rfl) h
    · exact zg_newa (at0 := .char) (d := (0, 0, 0)) ih A.2.1 hd A.2.2.2.2.1.2.1 wc (fun _ _ _ => rfl) h
    · exact zg_newa (at0 := .boolean) (d := (0, 0, 0)) ih A.2.1 hd A.2.2.2.2.1.2.2.1 wb (fun _ _ _ => rfl) h
    · exact zg_newa (at0 := .long) (d := (1, 0, 0)) ih A.2.1 hd A.2.2.2.2.1.2.2.2 wl (fun _ _ _ => rfl) h
  | 35 =>
    replace h : xnewa M a 3 (2, 0, 0) rec mi F w b = some lf := h
    have hn : n = 3 := hn.elim (fun g => absurd (show 35 = 16 from g) (by decide)) (fun g => g)
    subst hn
    cases hi
    obtain ⟨C, ht, w1, w2⟩ := hm
    exact zg_anew ih A.2.1 hd ht w1 w2 h
  | 36 =>
    replace h : xcall M false a bb rec mi F w b = some lf := h
    have hn : n = 3 := hn.elim (fun g => absurd (show 36 = 16 from g) (by decide)) (fun g => g)
    subst hn
    cases hi
    obtain ⟨g1, g2, g3, g4, g5, g6⟩ := hm
    exact zg_callS A ih hd g1 g2 g3 g4 g5 g6 h
  | 37 =>
    replace h : xmin M rec mi F w b = some lf := h
    have hn : n = 3 := hn.elim (fun g => absurd (show 37 = 16 from g) (by decide)) (fun g => g)
    subst hn
    cases hi
    obtain ⟨g1, g2, g3, g4, g5, g6⟩ := hm
    exact zg_min ih A.2.1 hd g1 g2 g3 g4 g5 g6 h
  | 38 =>
    replace h : xcall M true a bb rec mi F w b = some lf := h
    have hn : n = 3 := hn.elim (fun g => absurd (show 38 = 16 from g) (by decide)) (fun g => g)
    subst hn
    cases hi
    obtain ⟨g1, g2, g3, g4, g5, g6, T, N, g7⟩ := hm
    exact zg_callV A ih hd g1 g2 g3 g4 g5 g6 g7 h
  | 39 =>
    replace h : xcall M true a bb rec mi F w b = some lf := h
    have hn : n = 3 := hn.elim (fun g => absurd (show 39 = 16 from g) (by decide)) (fun g => g)
    subst hn
    cases hi
    obtain ⟨g1, g2, g3, g4, g5, g6, g7, g8⟩ := hm
    exact zg_callI A ih hd g1 g2 g3 g4 g5 g6 g7 g8 h
  | 40 =>
    replace h : xobj rec mi F w b = some lf := h
    have hn : n = 3 := hn.elim (fun g => absurd (show 40 = 16 from g) (by decide)) (fun g => g)
    subst hn
    cases hi
    obtain ⟨g1, g2, g3, g4, g5⟩ := hm
    exact zg_obj ih hd g1 g2 g3 g4 g5 h
  | 41 =>
    replace h : (fun _ mi => xretI M mi) rec mi F w b = some lf := h
    have hn : n = 1 := hn.elim (fun g => absurd (show 41 = 16 from g) (by decide)) (fun g => g)
    subst hn
    cases hi
    exact zg_retI A hd h
  | 42 =>
    replace h : (fun _ mi => xretJ M mi) rec mi F w b = some lf := h
    have hn : n = 1 := hn.elim (fun g => absurd (show 42 = 16 from g) (by decide)) (fun g => g)
    subst hn
    cases hi
    exact zg_retJ A hd h
  | 43 =>
    replace h : (fun _ mi => xretV M mi) rec mi F w b = some lf := h
    have hn : n = 1 := hn.elim (fun g => absurd (show 43 = 16 from g) (by decide)) (fun g => g)
    subst hn
    cases hi
    exact zg_retV A hd h
  | 44 =>
    replace h : xar xf_add (fun a c => a + c) rec mi F w b = some lf := h
    have hn : n = 1 := hn.elim (fun g => absurd (show 44 = 16 from g) (by decide)) (fun g => g)
    subst hn
    cases hi
    exact zg_iadd ih hd h
  | 45 =>
    replace h : xar xf_sub (fun a c => a - c) rec mi F w b = some lf := h
    have hn : n = 1 := hn.elim (fun g => absurd (show 45 = 16 from g) (by decide)) (fun g => g)
    subst hn
    cases hi
    exact zg_isub ih hd h
  | 46 =>
    replace h : xpu 1 (xbip (-2) 6 k) rec mi F w b = some lf := h
    have hn : n = 1 := hn.elim (fun g => absurd (show 46 = 16 from g) (by decide)) (fun g => g)
    subst hn
    cases hi
    unfold xpu xgo at h
    cases hx : (xbip (-2) 6 k) F.2.2.1 with
    | none => rw [hx] at h; cases h
    | some st' =>
      rw [hx] at h
      exact zSt_go (zs_op hd rfl rfl hx) (ih _ _ _ _ _ h)
  | 47 =>
    replace h : xpu 2 (xbip (-129) 128 k) rec mi F w b = some lf := h
    have hn : n = 2 := hn.elim (fun g => absurd (show 47 = 16 from g) (by decide)) (fun g => g)
    subst hn
    cases hi
    unfold xpu xgo at h
    cases hx : (xbip (-129) 128 k) F.2.2.1 with
    | none => rw [hx] at h; cases h
    | some st' =>
      rw [hx] at h
      exact zSt_go (zs_op hd rfl rfl hx) (ih _ _ _ _ _ h)
  | 48 =>
    replace h : xpu 3 (xbip (-32769) 32768 k) rec mi F w b = some lf := h
    have hn : n = 3 := hn.elim (fun g => absurd (show 48 = 16 from g) (by decide)) (fun g => g)
    subst hn
    cases hi
    unfold xpu xgo at h
    cases hx : (xbip (-32769) 32768 k) F.2.2.1 with
    | none => rw [hx] at h; cases h
    | some st' =>
      rw [hx] at h
      exact zSt_go (zs_op hd rfl rfl hx) (ih _ _ _ _ _ h)
  | 49 =>
    replace h : xpu 1 (fun st => some ((1, Int.ofNat (a % 2), 0) :: st)) rec mi F w b = some lf := h
    have hn : n = 1 := hn.elim (fun g => absurd (show 49 = 16 from g) (by decide)) (fun g => g)
    subst hn
    cases hi
    unfold xpu xgo at h
    cases hx : (fun st => some ((1, Int.ofNat (a % 2), 0) :: st)) F.2.2.1 with
    | none => rw [hx] at h; cases h
    | some st' =>
      rw [hx] at h
      exact zSt_go (zs_op hd rfl rfl hx) (ih _ _ _ _ _ h)
  | 50 =>
    replace h : xpu 1 (fun st => some ((2, 0, 0) :: st)) rec mi F w b = some lf := h
    have hn : n = 1 := hn.elim (fun g => absurd (show 50 = 16 from g) (by decide)) (fun g => g)
    subst hn
    cases hi
    unfold xpu xgo at h
    cases hx : (fun st => some ((2, 0, 0) :: st)) F.2.2.1 with
    | none => rw [hx] at h; cases h
    | some st' =>
      rw [hx] at h
      exact zSt_go (zs_op hd rfl rfl hx) (ih _ _ _ _ _ h)
  | 51 =>
    replace h : xpu 1 (xb2 xf_mul) rec mi F w b = some lf := h
    have hn : n = 1 := hn.elim (fun g => absurd (show 51 = 16 from g) (by decide)) (fun g => g)
    subst hn
    cases hi
    unfold xpu xgo at h
    cases hx : (xb2 xf_mul) F.2.2.1 with
    | none => rw [hx] at h; cases h
    | some st' =>
      rw [hx] at h
      exact zSt_go (zs_op hd rfl rfl hx) (ih _ _ _ _ _ h)
  | 52 =>
    replace h : xpu 1 (xb2 xf_and) rec mi F w b = some lf := h
    have hn : n = 1 := hn.elim (fun g => absurd (show 52 = 16 from g) (by decide)) (fun g => g)
    subst hn
    cases hi
    unfold xpu xgo at h
    cases hx : (xb2 xf_and) F.2.2.1 with
    | none => rw [hx] at h; cases h
    | some st' =>
      rw [hx] at h
      exact zSt_go (zs_op hd rfl rfl hx) (ih _ _ _ _ _ h)
  | 53 =>
    replace h : xpu 1 (xb2 xf_land) rec mi F w b = some lf := h
    have hn : n = 1 := hn.elim (fun g => absurd (show 53 = 16 from g) (by decide)) (fun g => g)
    subst hn
    cases hi
    unfold xpu xgo at h
    cases hx : (xb2 xf_land) F.2.2.1 with
    | none => rw [hx] at h; cases h
    | some st' =>
      rw [hx] at h
      exact zSt_go (zs_op hd rfl rfl hx) (ih _ _ _ _ _ h)
  | 54 =>
    replace h : xpu 1 (xb2 xf_lor) rec mi F w b = some lf := h
    have hn : n = 1 := hn.elim (fun g => absurd (show 54 = 16 from g) (by decide)) (fun g => g)
    subst hn
    cases hi
    unfold xpu xgo at h
    cases hx : (xb2 xf_lor) F.2.2.1 with
    | none => rw [hx] at h; cases h
    | some st' =>
      rw [hx] at h
      exact zSt_go (zs_op hd rfl rfl hx) (ih _ _ _ _ _ h)
  | 55 =>
    replace h : xpu 1 (xb2 xf_lshl) rec mi F w b = some lf := h
    have hn : n = 1 := hn.elim (fun g => absurd (show 55 = 16 from g) (by decide)) (fun g => g)
    subst hn
    cases hi
    unfold xpu xgo at h
    cases hx : (xb2 xf_lshl) F.2.2.1 with
    | none => rw [hx] at h; cases h
    | some st' =>
      rw [hx] at h
      exact zSt_go (zs_op hd rfl rfl hx) (ih _ _ _ _ _ h)
  | 56 =>
    replace h : xpu 1 (xb2 xf_lcmp) rec mi F w b = some lf := h
    have hn : n = 1 := hn.elim (fun g => absurd (show 56 = 16 from g) (by decide)) (fun g => g)
    subst hn
    cases hi
    unfold xpu xgo at h
    cases hx : (xb2 xf_lcmp) F.2.2.1 with
    | none => rw [hx] at h; cases h
    | some st' =>
      rw [hx] at h
      exact zSt_go (zs_op hd rfl rfl hx) (ih _ _ _ _ _ h)
  | 57 =>
    replace h : xpu 1 (xu1 xf_i2l) rec mi F w b = some lf := h
    have hn : n = 1 := hn.elim (fun g => absurd (show 57 = 16 from g) (by decide)) (fun g => g)
    subst hn
    cases hi
    unfold xpu xgo at h
    cases hx : (xu1 xf_i2l) F.2.2.1 with
    | none => rw [hx] at h; cases h
    | some st' =>
      rw [hx] at h
      exact zSt_go (zs_op hd rfl rfl hx) (ih _ _ _ _ _ h)
  | 58 =>
    replace h : xpu 1 (xu1 xf_l2i) rec mi F w b = some lf := h
    have hn : n = 1 := hn.elim (fun g => absurd (show 58 = 16 from g) (by decide)) (fun g => g)
    subst hn
    cases hi
    unfold xpu xgo at h
    cases hx : (xu1 xf_l2i) F.2.2.1 with
    | none => rw [hx] at h; cases h
    | some st' =>
      rw [hx] at h
      exact zSt_go (zs_op hd rfl rfl hx) (ih _ _ _ _ _ h)
  | 59 =>
    replace h : xpu 1 (xu1 xf_i2c) rec mi F w b = some lf := h
    have hn : n = 1 := hn.elim (fun g => absurd (show 59 = 16 from g) (by decide)) (fun g => g)
    subst hn
    cases hi
    unfold xpu xgo at h
    cases hx : (xu1 xf_i2c) F.2.2.1 with
    | none => rw [hx] at h; cases h
    | some st' =>
      rw [hx] at h
      exact zSt_go (zs_op hd rfl rfl hx) (ih _ _ _ _ _ h)
  | 60 =>
    replace h : xpu 1 xdup rec mi F w b = some lf := h
    have hn : n = 1 := hn.elim (fun g => absurd (show 60 = 16 from g) (by decide)) (fun g => g)
    subst hn
    cases hi
    unfold xpu xgo at h
    cases hx : xdup F.2.2.1 with
    | none => rw [hx] at h; cases h
    | some st' =>
      rw [hx] at h
      exact zSt_go (zs_op hd rfl rfl hx) (ih _ _ _ _ _ h)
  | 61 =>
    replace h : xpu 1 xdupx1 rec mi F w b = some lf := h
    have hn : n = 1 := hn.elim (fun g => absurd (show 61 = 16 from g) (by decide)) (fun g => g)
    subst hn
    cases hi
    unfold xpu xgo at h
    cases hx : xdupx1 F.2.2.1 with
    | none => rw [hx] at h; cases h
    | some st' =>
      rw [hx] at h
      exact zSt_go (zs_op hd rfl rfl hx) (ih _ _ _ _ _ h)
  | 62 =>
    replace h : xpu 1 xdup2 rec mi F w b = some lf := h
    have hn : n = 1 := hn.elim (fun g => absurd (show 62 = 16 from g) (by decide)) (fun g => g)
    subst hn
    cases hi
    unfold xpu xgo at h
    cases hx : xdup2 F.2.2.1 with
    | none => rw [hx] at h; cases h
    | some st' =>
      rw [hx] at h
      exact zSt_go (zs_op hd rfl rfl hx) (ih _ _ _ _ _ h)
  | 63 =>
    replace h : xpu 1 xpop rec mi F w b = some lf := h
    have hn : n = 1 := hn.elim (fun g => absurd (show 63 = 16 from g) (by decide)) (fun g => g)
    subst hn
    cases hi
    unfold xpu xgo at h
    cases hx : xpop F.2.2.1 with
    | none => rw [hx] at h; cases h
    | some st' =>
      rw [hx] at h
      exact zSt_go (zs_op hd rfl rfl hx) (ih _ _ _ _ _ h)
  | n9 + 64 => cases hi
theorem zmain (A : zall M Y Bt Hh Rt Rm Ex l s0 D ca b0 L xs ty) : ∀ n, zrec M Y Bt Hh Rt Rm Ex l s0 D ca b0 L xs (xrun M n)
  | 0 => fun mi F w b lf h => by cases h
  | n + 1 => fun mi F w b lf h => by
    replace h : xstep M (xrun M n) mi F w b = some lf := h
    unfold xstep at h
    obtain ⟨hpc, h⟩ := cnd_t h
    cases he : zget 11 (M.1 mi) F.1 with
    | none => rw [he] at h; cases h
    | some e =>
      rw [he] at h
      obtain ⟨op, a, bb, cc, k, ll⟩ := e
      exact zdis A (zmain A n) op a bb cc k ll (A.2.2.2.2.2.2.2.2 mi F.1 _ (Nat.ble_eq.mp hpc) he) h
end ZM
