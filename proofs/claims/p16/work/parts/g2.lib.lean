/-! THE LIBRARY'S WORDS, THE LITERALS -/
section ZL
variable {b : Addr} {s0 : State}
theorem xa_214 (H : zts b s0) : plainFor (tY 214) = true ∧ zh s0 (zcode tM.2.1 tY tBt tHh tRt 214) ∧ zmh (tY 214) := by
  rw [tY_214]
  exact ⟨by decide +kernel, zcode_c tY_214 rfl rfl rfl rfl (zw_g H 531 (by decide +kernel) (by decide +kernel)), by decide +kernel, by decide +kernel⟩
theorem xa_215 (H : zts b s0) : plainFor (tY 215) = true ∧ zh s0 (zcode tM.2.1 tY tBt tHh tRt 215) ∧ zmh (tY 215) := by
  rw [tY_215]
  exact ⟨by decide +kernel, zcode_c tY_215 rfl rfl rfl rfl (zw_g H 535 (by decide +kernel) (by decide +kernel)), by decide +kernel, by decide +kernel⟩
theorem xa_216 (H : zts b s0) : plainFor (tY 216) = true ∧ zh s0 (zcode tM.2.1 tY tBt tHh tRt 216) ∧ zmh (tY 216) := by
  rw [tY_216]
  exact ⟨by decide +kernel, zcode_c tY_216 rfl rfl rfl rfl (zw_g H 539 (by decide +kernel) (by decide +kernel)), by decide +kernel, by decide +kernel⟩
theorem xa_217 (H : zts b s0) : plainFor (tY 217) = true ∧ zh s0 (zcode tM.2.1 tY tBt tHh tRt 217) ∧ zmh (tY 217) := by
  rw [tY_217]
  exact ⟨by decide +kernel, zcode_c tY_217 rfl rfl rfl rfl (zw_g H 545 (by decide +kernel) (by decide +kernel)), by decide +kernel, by decide +kernel⟩
theorem xa_218 (H : zts b s0) : plainFor (tY 218) = true ∧ zh s0 (zcode tM.2.1 tY tBt tHh tRt 218) ∧ zmh (tY 218) := by
  rw [tY_218]
  exact ⟨by decide +kernel, zcode_c tY_218 rfl rfl rfl rfl (zw_g H 549 (by decide +kernel) (by decide +kernel)), by decide +kernel, by decide +kernel⟩
theorem xa_219 (H : zts b s0) : plainFor (tY 219) = true ∧ zh s0 (zcode tM.2.1 tY tBt tHh tRt 219) ∧ zmh (tY 219) := by
  rw [tY_219]
  exact ⟨by decide +kernel, zcode_c tY_219 rfl rfl rfl rfl (zw_g H 552 (by decide +kernel) (by decide +kernel)), by decide +kernel, by decide +kernel⟩
theorem xa_220 (H : zts b s0) : plainFor (tY 220) = true ∧ zh s0 (zcode tM.2.1 tY tBt tHh tRt 220) ∧ zmh (tY 220) := by
  rw [tY_220]
  exact ⟨by decide +kernel, zcode_c tY_220 rfl rfl rfl rfl (zw_g H 555 (by decide +kernel) (by decide +kernel)), by decide +kernel, by decide +kernel⟩
theorem xa_221 (H : zts b s0) : plainFor (tY 221) = true ∧ zh s0 (zcode tM.2.1 tY tBt tHh tRt 221) ∧ zmh (tY 221) := by
  rw [tY_221]
  exact ⟨by decide +kernel, zcode_c tY_221 rfl rfl rfl rfl (zw_g H 558 (by decide +kernel) (by decide +kernel)), by decide +kernel, by decide +kernel⟩
theorem xa_222 (H : zts b s0) : plainFor (tY 222) = true ∧ zh s0 (zcode tM.2.1 tY tBt tHh tRt 222) ∧ zmh (tY 222) := by
  rw [tY_222]
  exact ⟨by decide +kernel, zcode_c tY_222 rfl rfl rfl rfl (zw_g H 564 (by decide +kernel) (by decide +kernel)), by decide +kernel, by decide +kernel⟩
theorem xb_214 (H : zts b s0) : (tY 214).cls = "java/lang/String" ∧ zh s0 (.instanceMethod (tY 214)) ∧ zh s0 (.selects (tY 214).cls (tY 214) (tY 214)) := by
  rw [tY_214]
  exact ⟨rfl, zw_g H 529 (by decide +kernel) (by decide +kernel), zw_g H 530 (by decide +kernel) (by decide +kernel)⟩
theorem xb_215 (H : zts b s0) : (tY 215).cls = "java/lang/String" ∧ zh s0 (.instanceMethod (tY 215)) ∧ zh s0 (.selects (tY 215).cls (tY 215) (tY 215)) := by
  rw [tY_215]
  exact ⟨rfl, zw_g H 533 (by decide +kernel) (by decide +kernel), zw_g H 534 (by decide +kernel) (by decide +kernel)⟩
theorem xb_216 (H : zts b s0) : (tY 216).cls = "java/lang/String" ∧ zh s0 (.instanceMethod (tY 216)) ∧ zh s0 (.selects (tY 216).cls (tY 216) (tY 216)) := by
  rw [tY_216]
  exact ⟨rfl, zw_g H 537 (by decide +kernel) (by decide +kernel), zw_g H 538 (by decide +kernel) (by decide +kernel)⟩
theorem xb_217 (H : zts b s0) : (tY 217).cls = "java/lang/String" ∧ zh s0 (.instanceMethod (tY 217)) ∧ zh s0 (.selects (tY 217).cls (tY 217) (tY 217)) := by
  rw [tY_217]
  exact ⟨rfl, zw_g H 543 (by decide +kernel) (by decide +kernel), zw_g H 544 (by decide +kernel) (by decide +kernel)⟩
theorem xb_218 (H : zts b s0) : (tY 218).cls = "java/lang/String" ∧ zh s0 (.instanceMethod (tY 218)) ∧ zh s0 (.selects (tY 218).cls (tY 218) (tY 218)) := by
  rw [tY_218]
  exact ⟨rfl, zw_g H 547 (by decide +kernel) (by decide +kernel), zw_g H 548 (by decide +kernel) (by decide +kernel)⟩
theorem xc_219 (H : zts b s0) : zh s0 (.static (tY 219)) ∧ zh s0 (.initialized (tY 219).cls) := by
  rw [tY_219]
  exact ⟨zw_g H 551 (by decide +kernel) (by decide +kernel), zw_g H 99 (by decide +kernel) (by decide +kernel)⟩
theorem xc_220 (H : zts b s0) : zh s0 (.static (tY 220)) ∧ zh s0 (.initialized (tY 220).cls) := by
  rw [tY_220]
  exact ⟨zw_g H 554 (by decide +kernel) (by decide +kernel), zw_g H 99 (by decide +kernel) (by decide +kernel)⟩
theorem xc_221 (H : zts b s0) : zh s0 (.static (tY 221)) ∧ zh s0 (.initialized (tY 221).cls) := by
  rw [tY_221]
  exact ⟨zw_g H 557 (by decide +kernel) (by decide +kernel), zw_g H 100 (by decide +kernel) (by decide +kernel)⟩
theorem xc_222 (H : zts b s0) : zh s0 (.static (tY 222)) ∧ zh s0 (.initialized (tY 222).cls) := by
  rw [tY_222]
  exact ⟨zw_g H 563 (by decide +kernel) (by decide +kernel), zw_g H 99 (by decide +kernel) (by decide +kernel)⟩
theorem wS_ok (H : zts b s0) (hg : (Jvm.Cond.and given_1 narrow_1).before #[Value.ref b] s0 = true) : wS s0 := by
  have hs := flat_of_before _ hg
  refine ⟨⟨zw_g H 540 (by decide +kernel) (by decide +kernel), zw_g H 1629 (by decide +kernel) (by decide +kernel), zw_g H 1630 (by decide +kernel) (by decide +kernel)⟩, ?_, ?_, ?_, ?_, Or.inl (by rw [tY_215]; exact zw_g H 532 (by decide +kernel) (by decide +kernel)), Or.inl (by rw [tY_216]; exact zw_g H 536 (by decide +kernel) (by decide +kernel)), Or.inl (by rw [tY_217]; exact zw_g H 542 (by decide +kernel) (by decide +kernel)), Or.inl (by rw [tY_218]; exact zw_g H 546 (by decide +kernel) (by decide +kernel)), Or.inl (by rw [tY_219]; exact zw_g H 550 (by decide +kernel) (by decide +kernel)), Or.inl (by rw [tY_220]; exact zw_g H 553 (by decide +kernel) (by decide +kernel)), Or.inl (by rw [tY_221]; exact zw_g H 556 (by decide +kernel) (by decide +kernel)), Or.inl (by rw [tY_61]; exact zw_g H 559 (by decide +kernel) (by decide +kernel)), Or.inl (by rw [tY_222]; exact zw_g H 562 (by decide +kernel) (by decide +kernel)), zB_all H 61 (by decide)⟩
  · exact va_Zof (H _ (List.mem_of_getElem? (i := 541) (by decide +kernel))) (H _ (List.mem_of_getElem? (i := 98) (by decide +kernel))) (va_eqt (hs (Cond.eq (.static "java/lang/String" "COMPACT_STRINGS" "Z") (.int 1)) (by decide +kernel))) (fun a ha g => absurd g (Nat.not_le.mpr ha))
  · intro j h1 h2
    exact pan_ok (p := fun j => plainFor (tY j) = true ∧ zh s0 (zcode tM.2.1 tY tBt tHh tRt j) ∧ zmh (tY j)) (n := 9) (i := 214) ⟨xa_214 H, xa_215 H, xa_216 H, xa_217 H, xa_218 H, xa_219 H, xa_220 H, xa_221 H, xa_222 H, trivial⟩ h1 (by omega)
  · intro j h1 h2
    exact pan_ok (p := fun j => (tY j).cls = "java/lang/String" ∧ zh s0 (.instanceMethod (tY j)) ∧ zh s0 (.selects (tY j).cls (tY j) (tY j))) (n := 5) (i := 214) ⟨xb_214 H, xb_215 H, xb_216 H, xb_217 H, xb_218 H, trivial⟩ h1 (by omega)
  · intro j h1 h2
    exact pan_ok (p := fun j => zh s0 (.static (tY j)) ∧ zh s0 (.initialized (tY j).cls)) (n := 4) (i := 219) ⟨xc_219 H, xc_220 H, xc_221 H, xc_222 H, trivial⟩ h1 (by omega)
def tmS (k : Nat) : Term := .string "ImageTexts$Reader" k
def tmV (k : Nat) : Term := .field (tmS k) "java/lang/String" "value" "[B"
theorem wL_of {A0 : Array Value} {k N : Nat} {byt : Nat → Int32} (hN : N ≤ 15) (hz : ∀ j, j < N → byt j ≠ 0) (h1 : (Cond.exactly (tmS k) "java/lang/String").before A0 s0 = true) (h2 : (Cond.eq (.field (tmS k) "java/lang/String" "coder" "B") (.int 0)).before A0 s0 = true) (h3 : (Cond.arrayOf (tmV k) .byte).before A0 s0 = true) (h4 : (Cond.eq (.length (tmV k)) (.int (Int32.ofNat N))).before A0 s0 = true)
    (h5 : ∀ j, j < N → (Cond.eq (.elem (tmV k) (.int (Int32.ofNat j))) (.int (byt j))).before A0 s0 = true) : ∃ q t, (tmS k).eval A0 s0 none [] s0 = some (.ref q) ∧ wL s0 q t N byt := by
  have hA : ∀ a : Nat, a < s0.heap.size → ¬ s0.heap.size ≤ a := fun a ha g => absurd g (Nat.not_le.mpr ha)
  obtain ⟨a, c, cA, kA, q1, q2, q3, q4, q5, q6, -⟩ := Cond.exactly_spec (args := A0) (first := s0) (o := none) (s := s0) (idx := []) (t := tmS k) (cls := "java/lang/String") h1
  obtain ⟨t, ht, hT⟩ := va_Tof (f := fun j => .int (byt j)) (A := fun x => s0.heap.size ≤ x) (N := N) (by omega) h3 (va_eqt h4) (fun j hj => va_eqt (h5 j hj)) hA
  exact ⟨a, t, q1, ⟨cA, q3, q5, by rw [q6]; exact q2, hA a (Array.getElem?_eq_some_iff.mp q3).1⟩, vk_OFof q1 (va_eqt h2) hA, vk_OFof q1 ht hA, hT, hN, hz⟩
def wV (s0 : State) (ix : Nat) (tx : String) : Prop := ∃ q t N byt, vk_R "ImageTexts$Reader" ix tx q s0 ∧ wL s0 q t N byt
noncomputable def lt_114 (j : Nat) : Int32 := ([88, 90] : List Int32).getD j 0
theorem lv_114 (H : zts b s0) (hs : ∀ w ∈ flatC (Jvm.Cond.and given_1 narrow_1), w.before #[Value.ref b] s0 = true) : wV s0 114 "XZ" := by
  obtain ⟨q, t, h1, h2⟩ := wL_of (s0 := s0) (A0 := #[Value.ref b]) (k := 114) (N := 2) (byt := lt_114) (by decide) (fun j hj => pan_ok (p := fun j => lt_114 j ≠ 0) (n := 2) (i := 0) ⟨by decide +kernel, by decide +kernel, trivial⟩ (Nat.zero_le _) (by omega)) (hs _ (by decide +kernel)) (hs _ (by decide +kernel)) (hs _ (by decide +kernel)) (hs _ (by decide +kernel))
    (fun j hj => pan_ok (p := fun j => (Cond.eq (.elem (tmV 114) (.int (Int32.ofNat j))) (.int (lt_114 j))).before #[Value.ref b] s0 = true) (n := 2) (i := 0) ⟨hs (Cond.eq (.elem (tmV 114) (.int 0)) (.int 88)) (by decide +kernel), hs (Cond.eq (.elem (tmV 114) (.int 1)) (.int 90)) (by decide +kernel), trivial⟩ (Nat.zero_le _) (by omega))
  exact ⟨q, t, _, _, vk_R.of (H _ (List.mem_of_getElem? (i := 526) (by decide +kernel))) h1, h2⟩
noncomputable def lt_116 (j : Nat) : Int32 := ([77, 65, 68, 88, 66, 90, 80, 78, 83, 84, 69] : List Int32).getD j 0
theorem lv_116 (H : zts b s0) (hs : ∀ w ∈ flatC (Jvm.Cond.and given_1 narrow_1), w.before #[Value.ref b] s0 = true) : wV s0 116 "MADXBZPNSTE" := by
  obtain ⟨q, t, h1, h2⟩ := wL_of (s0 := s0) (A0 := #[Value.ref b]) (k := 116) (N := 11) (byt := lt_116) (by decide) (fun j hj => pan_ok (p := fun j => lt_116 j ≠ 0) (n := 11) (i := 0) ⟨by decide +kernel, by decide +kernel, by decide +kernel, by decide +kernel, by decide +kernel, by decide +kernel, by decide +kernel, by decide +kernel, by decide +kernel, by decide +kernel, by decide +kernel, trivial⟩ (Nat.zero_le _) (by omega)) (hs _ (by decide +kernel)) (hs _ (by decide +kernel)) (hs _ (by decide +kernel)) (hs _ (by decide +kernel))
    (fun j hj => pan_ok (p := fun j => (Cond.eq (.elem (tmV 116) (.int (Int32.ofNat j))) (.int (lt_116 j))).before #[Value.ref b] s0 = true) (n := 11) (i := 0) ⟨hs (Cond.eq (.elem (tmV 116) (.int 0)) (.int 77)) (by decide +kernel), hs (Cond.eq (.elem (tmV 116) (.int 1)) (.int 65)) (by decide +kernel), hs (Cond.eq (.elem (tmV 116) (.int 2)) (.int 68)) (by decide +kernel), hs (Cond.eq (.elem (tmV 116) (.int 3)) (.int 88)) (by decide +kernel), hs (Cond.eq (.elem (tmV 116) (.int 4)) (.int 66)) (by decide +kernel), hs (Cond.eq (.elem (tmV 116) (.int 5)) (.int 90)) (by decide +kernel), hs (Cond.eq (.elem (tmV 116) (.int 6)) (.int 80)) (by decide +kernel), hs (Cond.eq (.elem (tmV 116) (.int 7)) (.int 78)) (by decide +kernel), hs (Cond.eq (.elem (tmV 116) (.int 8)) (.int 83)) (by decide +kernel), hs (Cond.eq (.elem (tmV 116) (.int 9)) (.int 84)) (by decide +kernel), hs (Cond.eq (.elem (tmV 116) (.int 10)) (.int 69)) (by decide +kernel), trivial⟩ (Nat.zero_le _) (by omega))
  exact ⟨q, t, _, _, vk_R.of (H _ (List.mem_of_getElem? (i := 527) (by decide +kernel))) h1, h2⟩
noncomputable def lt_191 (j : Nat) : Int32 := ([49, 50, 51] : List Int32).getD j 0
theorem lv_191 (H : zts b s0) (hs : ∀ w ∈ flatC (Jvm.Cond.and given_1 narrow_1), w.before #[Value.ref b] s0 = true) : wV s0 191 "123" := by
  obtain ⟨q, t, h1, h2⟩ := wL_of (s0 := s0) (A0 := #[Value.ref b]) (k := 191) (N := 3) (byt := lt_191) (by decide) (fun j hj => pan_ok (p := fun j => lt_191 j ≠ 0) (n := 3) (i := 0) ⟨by decide +kernel, by decide +kernel, by decide +kernel, trivial⟩ (Nat.zero_le _) (by omega)) (hs _ (by decide +kernel)) (hs _ (by decide +kernel)) (hs _ (by decide +kernel)) (hs _ (by decide +kernel))
    (fun j hj => pan_ok (p := fun j => (Cond.eq (.elem (tmV 191) (.int (Int32.ofNat j))) (.int (lt_191 j))).before #[Value.ref b] s0 = true) (n := 3) (i := 0) ⟨hs (Cond.eq (.elem (tmV 191) (.int 0)) (.int 49)) (by decide +kernel), hs (Cond.eq (.elem (tmV 191) (.int 1)) (.int 50)) (by decide +kernel), hs (Cond.eq (.elem (tmV 191) (.int 2)) (.int 51)) (by decide +kernel), trivial⟩ (Nat.zero_le _) (by omega))
  exact ⟨q, t, _, _, vk_R.of (H _ (List.mem_of_getElem? (i := 724) (by decide +kernel))) h1, h2⟩
noncomputable def lt_150 (j : Nat) : Int32 := ([67, 82, 77] : List Int32).getD j 0
theorem lv_150 (H : zts b s0) (hs : ∀ w ∈ flatC (Jvm.Cond.and given_1 narrow_1), w.before #[Value.ref b] s0 = true) : wV s0 150 "CRM" := by
  obtain ⟨q, t, h1, h2⟩ := wL_of (s0 := s0) (A0 := #[Value.ref b]) (k := 150) (N := 3) (byt := lt_150) (by decide) (fun j hj => pan_ok (p := fun j => lt_150 j ≠ 0) (n := 3) (i := 0) ⟨by decide +kernel, by decide +kernel, by decide +kernel, trivial⟩ (Nat.zero_le _) (by omega)) (hs _ (by decide +kernel)) (hs _ (by decide +kernel)) (hs _ (by decide +kernel)) (hs _ (by decide +kernel))
    (fun j hj => pan_ok (p := fun j => (Cond.eq (.elem (tmV 150) (.int (Int32.ofNat j))) (.int (lt_150 j))).before #[Value.ref b] s0 = true) (n := 3) (i := 0) ⟨hs (Cond.eq (.elem (tmV 150) (.int 0)) (.int 67)) (by decide +kernel), hs (Cond.eq (.elem (tmV 150) (.int 1)) (.int 82)) (by decide +kernel), hs (Cond.eq (.elem (tmV 150) (.int 2)) (.int 77)) (by decide +kernel), trivial⟩ (Nat.zero_le _) (by omega))
  exact ⟨q, t, _, _, vk_R.of (H _ (List.mem_of_getElem? (i := 654) (by decide +kernel))) h1, h2⟩
noncomputable def lt_152 (j : Nat) : Int32 := ([67, 82] : List Int32).getD j 0
theorem lv_152 (H : zts b s0) (hs : ∀ w ∈ flatC (Jvm.Cond.and given_1 narrow_1), w.before #[Value.ref b] s0 = true) : wV s0 152 "CR" := by
  obtain ⟨q, t, h1, h2⟩ := wL_of (s0 := s0) (A0 := #[Value.ref b]) (k := 152) (N := 2) (byt := lt_152) (by decide) (fun j hj => pan_ok (p := fun j => lt_152 j ≠ 0) (n := 2) (i := 0) ⟨by decide +kernel, by decide +kernel, trivial⟩ (Nat.zero_le _) (by omega)) (hs _ (by decide +kernel)) (hs _ (by decide +kernel)) (hs _ (by decide +kernel)) (hs _ (by decide +kernel))
    (fun j hj => pan_ok (p := fun j => (Cond.eq (.elem (tmV 152) (.int (Int32.ofNat j))) (.int (lt_152 j))).before #[Value.ref b] s0 = true) (n := 2) (i := 0) ⟨hs (Cond.eq (.elem (tmV 152) (.int 0)) (.int 67)) (by decide +kernel), hs (Cond.eq (.elem (tmV 152) (.int 1)) (.int 82)) (by decide +kernel), trivial⟩ (Nat.zero_le _) (by omega))
  exact ⟨q, t, _, _, vk_R.of (H _ (List.mem_of_getElem? (i := 655) (by decide +kernel))) h1, h2⟩
theorem wVs_ok (H : zts b s0) (hg : (Jvm.Cond.and given_1 narrow_1).before #[Value.ref b] s0 = true) : wVs (wV s0) := ⟨lv_114 H (flat_of_before _ hg), lv_116 H (flat_of_before _ hg), lv_191 H (flat_of_before _ hg), lv_150 H (flat_of_before _ hg), lv_152 H (flat_of_before _ hg)⟩
theorem cpy_ok (H : zts b s0) : zh s0 (.native arraycopyName) ∧ zh s0 (.static arraycopyName) ∧ zh s0 (.initialized "java/lang/System") := ⟨zw_g H 769 (by decide +kernel) (by decide +kernel), zw_g H 768 (by decide +kernel) (by decide +kernel), zw_g H 104 (by decide +kernel) (by decide +kernel)⟩
end ZL
