/-! THE START, of this code -/
theorem zcl_0 : zcl 0 [349, 351, 353, 355] := ⟨by decide +kernel, by decide +kernel, by decide +kernel, by decide +kernel, by decide +kernel⟩
theorem zdf_0 : zdf 0 := zdf_of (N := 4) (dl := td_0.2) (by decide +kernel) rfl (by decide +kernel)
theorem zcl_1 : zcl 1 [151, 153, 155, 157] := ⟨by decide +kernel, by decide +kernel, by decide +kernel, by decide +kernel, by decide +kernel⟩
theorem zdf_1 : zdf 1 := zdf_of (N := 4) (dl := td_1.2) (by decide +kernel) rfl (by decide +kernel)
theorem zcl_2 : zcl 2 [373, 375, 377, 379, 381] := ⟨by decide +kernel, by decide +kernel, by decide +kernel, by decide +kernel, by decide +kernel⟩
theorem zdf_2 : zdf 2 := zdf_of (N := 5) (dl := td_2.2) (by decide +kernel) rfl (by decide +kernel)
theorem zcl_3 : zcl 3 [240, 242, 244, 246, 248, 250, 252, 254, 256, 258] := ⟨by decide +kernel, by decide +kernel, by decide +kernel, by decide +kernel, by decide +kernel⟩
theorem zdf_3 : zdf 3 := zdf_of (N := 10) (dl := td_3.2) (by decide +kernel) rfl (by decide +kernel)
theorem zcl_4 : zcl 4 [314, 316] := ⟨by decide +kernel, by decide +kernel, by decide +kernel, by decide +kernel, by decide +kernel⟩
theorem zdf_4 : zdf 4 := zdf_of (N := 2) (dl := td_4.2) (by decide +kernel) rfl (by decide +kernel)
theorem zcl_5 : zcl 5 [173, 175] := ⟨by decide +kernel, by decide +kernel, by decide +kernel, by decide +kernel, by decide +kernel⟩
theorem zdf_5 : zdf 5 := zdf_of (N := 2) (dl := td_5.2) (by decide +kernel) rfl (by decide +kernel)
theorem zcl_6 : zcl 6 [292, 294, 296, 298, 300, 302] := ⟨by decide +kernel, by decide +kernel, by decide +kernel, by decide +kernel, by decide +kernel⟩
theorem zdf_6 : zdf 6 := zdf_of (N := 6) (dl := td_6.2) (by decide +kernel) rfl (by decide +kernel)
theorem zcl_7 : zcl 7 [402, 404, 406, 408, 410, 412, 414, 416, 418, 420, 422, 424, 426] := ⟨by decide +kernel, by decide +kernel, by decide +kernel, by decide +kernel, by decide +kernel⟩
theorem zdf_7 : zdf 7 := zdf_of (N := 13) (dl := td_7.2) (by decide +kernel) rfl (by decide +kernel)
theorem zcl_8 : zcl 8 [195, 197, 199] := ⟨by decide +kernel, by decide +kernel, by decide +kernel, by decide +kernel, by decide +kernel⟩
theorem zdf_8 : zdf 8 := zdf_of (N := 3) (dl := td_8.2) (by decide +kernel) rfl (by decide +kernel)
theorem zcl_9 : zcl 9 [441, 443, 445, 447] := ⟨by decide +kernel, by decide +kernel, by decide +kernel, by decide +kernel, by decide +kernel⟩
theorem zdf_9 : zdf 9 := zdf_of (N := 4) (dl := td_9.2) (by decide +kernel) rfl (by decide +kernel)
theorem zcl_10 : zcl 10 [460, 462, 464, 466, 468, 470] := ⟨by decide +kernel, by decide +kernel, by decide +kernel, by decide +kernel, by decide +kernel⟩
theorem zdf_10 : zdf 10 := zdf_of (N := 6) (dl := td_10.2) (by decide +kernel) rfl (by decide +kernel)
theorem zcl_11 : zcl 11 [1266, 1268, 1270, 1272, 1274, 1276, 1278, 1280, 1282, 1284, 1286, 1288, 1290, 1292, 1294, 1296, 1298, 1300, 1302, 1304, 1306, 1308, 1310, 1312, 1314, 1316, 1318, 1320, 1322, 1324, 1326, 1328, 1330, 1332, 1334, 1336] := ⟨by decide +kernel, by decide +kernel, by decide +kernel, by decide +kernel, by decide +kernel⟩
theorem zdf_11 : zdf 11 := zdf_of (N := 36) (dl := td_11.2) (by decide +kernel) rfl (by decide +kernel)
section ZF
variable {b : Addr} {s0 : State} {D : va_G} {ca : Nat → ClassId}
theorem zdf_all : ∀ ci, ci < 12 → zdf ci
  | 0, _ => zdf_0
  | 1, _ => zdf_1
  | 2, _ => zdf_2
  | 3, _ => zdf_3
  | 4, _ => zdf_4
  | 5, _ => zdf_5
  | 6, _ => zdf_6
  | 7, _ => zdf_7
  | 8, _ => zdf_8
  | 9, _ => zdf_9
  | 10, _ => zdf_10
  | 11, _ => zdf_11
  | n + 12, h => absurd h (by omega)
theorem zK_all (H : zts b s0) : ∀ ci, ci < 12 → ∃ (cC : ClassId) (iS : Nat → Nat), u_Kn s0 (tC ci) (tT ci) (xg tt_N ci) cC iS
  | 0, _ => u_known H (zcl_in zcl_0) (wd_332 H _ s0 (State.WarmedH.refl s0))
  | 1, _ => u_known H (zcl_in zcl_1) (wd_132 H _ s0 (State.WarmedH.refl s0))
  | 2, _ => u_known H (zcl_in zcl_2) (wd_320 H _ s0 (State.WarmedH.refl s0))
  | 3, _ => u_known H (zcl_in zcl_3) (wd_126 H _ s0 (State.WarmedH.refl s0))
  | 4, _ => u_known H (zcl_in zcl_4) (wd_262 H _ s0 (State.WarmedH.refl s0))
  | 5, _ => u_known H (zcl_in zcl_5) (wd_162 H _ s0 (State.WarmedH.refl s0))
  | 6, _ => u_known H (zcl_in zcl_6) (wd_269 H _ s0 (State.WarmedH.refl s0))
  | 7, _ => u_known H (zcl_in zcl_7) (wd_120 H _ s0 (State.WarmedH.refl s0))
  | 8, _ => u_known H (zcl_in zcl_8) (wd_179 H _ s0 (State.WarmedH.refl s0))
  | 9, _ => u_known H (zcl_in zcl_9) (wd_430 H _ s0 (State.WarmedH.refl s0))
  | 10, _ => u_known H (zcl_in zcl_10) (wd_112 H _ s0 (State.WarmedH.refl s0))
  | 11, _ => u_known H (zcl_in zcl_11) (wd_1225 H _ s0 (State.WarmedH.refl s0))
  | n + 12, h => absurd h (by omega)
theorem zC_all (H : zts b s0) (hD : ∀ ci, ci < 12 → u_Kn s0 (tC ci) (tT ci) (xg tt_N ci) (D.1 ci) (D.2 ci)) : ∀ ci, ci < 12 → zclo s0 D tty ci (tC ci) (tT ci) (xg tt_N ci) ∧ zh s0 (.instantiable (tC ci) (xg tt_N ci)) ∧ zh s0 (.initialized (tC ci))
  | 0, h => ⟨zcl_ok H zcl_0 (by decide) (hD 0 h), wd_332 H, wd_95 H⟩
  | 1, h => ⟨zcl_ok H zcl_1 (by decide) (hD 1 h), wd_132 H, wd_89 H⟩
  | 2, h => ⟨zcl_ok H zcl_2 (by decide) (hD 2 h), wd_320 H, wd_94 H⟩
  | 3, h => ⟨zcl_ok H zcl_3 (by decide) (hD 3 h), wd_126 H, wd_88 H⟩
  | 4, h => ⟨zcl_ok H zcl_4 (by decide) (hD 4 h), wd_262 H, wd_92 H⟩
  | 5, h => ⟨zcl_ok H zcl_5 (by decide) (hD 5 h), wd_162 H, wd_90 H⟩
  | 6, h => ⟨zcl_ok H zcl_6 (by decide) (hD 6 h), wd_269 H, wd_93 H⟩
  | 7, h => ⟨zcl_ok H zcl_7 (by decide) (hD 7 h), wd_120 H, wd_87 H⟩
  | 8, h => ⟨zcl_ok H zcl_8 (by decide) (hD 8 h), wd_179 H, wd_91 H⟩
  | 9, h => ⟨zcl_ok H zcl_9 (by decide) (hD 9 h), wd_430 H, wd_96 H⟩
  | 10, h => ⟨zcl_ok H zcl_10 (by decide) (hD 10 h), wd_112 H, wd_86 H⟩
  | 11, h => ⟨zcl_ok H zcl_11 (by decide) (hD 11 h), wd_1225 H, wd_97 H⟩
  | n + 12, h => absurd h (by omega)
theorem zA_all (H : zts b s0) (tag : Nat) (ht : 64 ≤ tag) : ∃ cA, ArrOfT s0 cA (tyO tag) ∧ va_RA s0 cA (tyO tag) := by
  unfold tyO
  split
  · exact ze_prim (fun C h => by cases h) (wd_202 H)
  split
  · exact ze_prim (fun C h => by cases h) (wd_160 H)
  split
  · exact ze_prim (fun C h => by cases h) (wd_1340 H)
  split
  · exact ze_prim (fun C h => by cases h) (wd_1339 H)
  unfold tO
  split
  · exact ze_obj (wd_326 H)
  split
  · exact ze_obj (wd_328 H)
  split
  · exact ze_obj (wd_330 H)
  · exact ze_obj (wd_268 H)
theorem zO_all (H : zts b s0) (tag : Nat) : zh s0 (.arrayOver (.object (tO tag))) := by
  unfold tO
  split
  · exact wd_326 H
  split
  · exact wd_328 H
  split
  · exact wd_330 H
  · exact wd_268 H
theorem tyO_o {tag : Nat} (h : 68 ≤ tag) : tyO tag = .object (tO tag) := by
  unfold tyO
  rw [if_neg (by omega), if_neg (by omega), if_neg (by omega), if_neg (by omega)]
theorem zfx_ok (H : zts b s0) (hD : ∀ ci, ci < 12 → u_Kn s0 (tC ci) (tT ci) (xg tt_N ci) (D.1 ci) (D.2 ci)) (hA : ∀ tag, 64 ≤ tag → ArrOfT s0 (ca tag) (tyO tag) ∧ va_RA s0 (ca tag) (tyO tag)) : zfx s0 D ca := by
  refine ⟨zC_all H hD, ⟨⟨by decide, by decide, hA 64 (by decide)⟩, ⟨by decide, by decide, hA 65 (by decide)⟩, ⟨by decide, by decide, hA 66 (by decide)⟩, ⟨by decide, by decide, hA 67 (by decide)⟩⟩, fun tag h1 h2 => ⟨⟨by omega, by omega, ?_⟩, zO_all H tag⟩, ⟨wd_202 H, wd_160 H, wd_1340 H, wd_1339 H⟩, ⟨wd_560 H, wd_100 H, wd_561 H⟩, ⟨wd_117 H, wd_118 H⟩⟩
  rw [← tyO_o h1]
  exact hA tag (by omega)
theorem zB_all (H : zts b s0) (mj : Nat) (h1 : 1 ≤ mj) (h2 : mj < 97) : zcB s0 mj := by
  have hm : mj - 1 ∈ List.range 96 := List.mem_range.mpr (by omega)
  have hl : ∀ j ∈ List.range 96, zcB s0 (j + 1) := by
    rw [show List.range 96 = [0, 1, 2, 3, 4, 5, 6, 7, 8, 9, 10, 11, 12, 13, 14, 15, 16, 17, 18, 19, 20, 21, 22, 23, 24, 25, 26, 27, 28, 29, 30, 31, 32, 33, 34, 35, 36, 37, 38, 39, 40, 41, 42, 43, 44, 45, 46, 47, 48, 49, 50, 51, 52, 53, 54, 55, 56, 57, 58, 59, 60, 61, 62, 63, 64, 65, 66, 67, 68, 69, 70, 71, 72, 73, 74, 75, 76, 77, 78, 79, 80, 81, 82, 83, 84, 85, 86, 87, 88, 89, 90, 91, 92, 93, 94, 95] by decide +kernel]
    exact List.forall_mem_cons.mpr ⟨cb_1 H, List.forall_mem_cons.mpr ⟨cb_2 H, List.forall_mem_cons.mpr ⟨cb_3 H, List.forall_mem_cons.mpr ⟨cb_4 H, List.forall_mem_cons.mpr ⟨cb_5 H, List.forall_mem_cons.mpr ⟨cb_6 H, List.forall_mem_cons.mpr ⟨cb_7 H, List.forall_mem_cons.mpr ⟨cb_8 H, List.forall_mem_cons.mpr ⟨cb_9 H, List.forall_mem_cons.mpr ⟨cb_10 H, List.forall_mem_cons.mpr ⟨cb_11 H, List.forall_mem_cons.mpr ⟨cb_12 H, List.forall_mem_cons.mpr ⟨cb_13 H, List.forall_mem_cons.mpr ⟨cb_14 H, List.forall_mem_cons.mpr ⟨cb_15 H, List.forall_mem_cons.mpr ⟨cb_16 H, List.forall_mem_cons.mpr ⟨cb_17 H, List.forall_mem_cons.mpr ⟨cb_18 H, List.forall_mem_cons.mpr ⟨cb_19 H, List.forall_mem_cons.mpr ⟨cb_20 H, List.forall_mem_cons.mpr ⟨cb_21 H, List.forall_mem_cons.mpr ⟨cb_22 H, List.forall_mem_cons.mpr ⟨cb_23 H, List.forall_mem_cons.mpr ⟨cb_24 H, List.forall_mem_cons.mpr ⟨cb_25 H, List.forall_mem_cons.mpr ⟨cb_26 H, List.forall_mem_cons.mpr ⟨cb_27 H, List.forall_mem_cons.mpr ⟨cb_28 H, List.forall_mem_cons.mpr ⟨cb_29 H, List.forall_mem_cons.mpr ⟨cb_30 H, List.forall_mem_cons.mpr ⟨cb_31 H, List.forall_mem_cons.mpr ⟨cb_32 H, List.forall_mem_cons.mpr ⟨cb_33 H, List.forall_mem_cons.mpr ⟨cb_34 H, List.forall_mem_cons.mpr ⟨cb_35 H, List.forall_mem_cons.mpr ⟨cb_36 H, List.forall_mem_cons.mpr ⟨cb_37 H, List.forall_mem_cons.mpr ⟨cb_38 H, List.forall_mem_cons.mpr ⟨cb_39 H, List.forall_mem_cons.mpr ⟨cb_40 H, List.forall_mem_cons.mpr ⟨cb_41 H, List.forall_mem_cons.mpr ⟨cb_42 H, List.forall_mem_cons.mpr ⟨cb_43 H, List.forall_mem_cons.mpr ⟨cb_44 H, List.forall_mem_cons.mpr ⟨cb_45 H, List.forall_mem_cons.mpr ⟨cb_46 H, List.forall_mem_cons.mpr ⟨cb_47 H, List.forall_mem_cons.mpr ⟨cb_48 H, List.forall_mem_cons.mpr ⟨cb_49 H, List.forall_mem_cons.mpr ⟨cb_50 H, List.forall_mem_cons.mpr ⟨cb_51 H, List.forall_mem_cons.mpr ⟨cb_52 H, List.forall_mem_cons.mpr ⟨cb_53 H, List.forall_mem_cons.mpr ⟨cb_54 H, List.forall_mem_cons.mpr ⟨cb_55 H, List.forall_mem_cons.mpr ⟨cb_56 H, List.forall_mem_cons.mpr ⟨cb_57 H, List.forall_mem_cons.mpr ⟨cb_58 H, List.forall_mem_cons.mpr ⟨cb_59 H, List.forall_mem_cons.mpr ⟨cb_60 H, List.forall_mem_cons.mpr ⟨cb_61 H, List.forall_mem_cons.mpr ⟨cb_62 H, List.forall_mem_cons.mpr ⟨cb_63 H, List.forall_mem_cons.mpr ⟨cb_64 H, List.forall_mem_cons.mpr ⟨cb_65 H, List.forall_mem_cons.mpr ⟨cb_66 H, List.forall_mem_cons.mpr ⟨cb_67 H, List.forall_mem_cons.mpr ⟨cb_68 H, List.forall_mem_cons.mpr ⟨cb_69 H, List.forall_mem_cons.mpr ⟨cb_70 H, List.forall_mem_cons.mpr ⟨cb_71 H, List.forall_mem_cons.mpr ⟨cb_72 H, List.forall_mem_cons.mpr ⟨cb_73 H, List.forall_mem_cons.mpr ⟨cb_74 H, List.forall_mem_cons.mpr ⟨cb_75 H, List.forall_mem_cons.mpr ⟨cb_76 H, List.forall_mem_cons.mpr ⟨cb_77 H, List.forall_mem_cons.mpr ⟨cb_78 H, List.forall_mem_cons.mpr ⟨cb_79 H, List.forall_mem_cons.mpr ⟨cb_80 H, List.forall_mem_cons.mpr ⟨cb_81 H, List.forall_mem_cons.mpr ⟨cb_82 H, List.forall_mem_cons.mpr ⟨cb_83 H, List.forall_mem_cons.mpr ⟨cb_84 H, List.forall_mem_cons.mpr ⟨cb_85 H, List.forall_mem_cons.mpr ⟨cb_86 H, List.forall_mem_cons.mpr ⟨cb_87 H, List.forall_mem_cons.mpr ⟨cb_88 H, List.forall_mem_cons.mpr ⟨cb_89 H, List.forall_mem_cons.mpr ⟨cb_90 H, List.forall_mem_cons.mpr ⟨cb_91 H, List.forall_mem_cons.mpr ⟨cb_92 H, List.forall_mem_cons.mpr ⟨cb_93 H, List.forall_mem_cons.mpr ⟨cb_94 H, List.forall_mem_cons.mpr ⟨cb_95 H, List.forall_mem_cons.mpr ⟨cb_96 H, fun _ h => absurd h List.not_mem_nil⟩⟩⟩⟩⟩⟩⟩⟩⟩⟩⟩⟩⟩⟩⟩⟩⟩⟩⟩⟩⟩⟩⟩⟩⟩⟩⟩⟩⟩⟩⟩⟩⟩⟩⟩⟩⟩⟩⟩⟩⟩⟩⟩⟩⟩⟩⟩⟩⟩⟩⟩⟩⟩⟩⟩⟩⟩⟩⟩⟩⟩⟩⟩⟩⟩⟩⟩⟩⟩⟩⟩⟩⟩⟩⟩⟩⟩⟩⟩⟩⟩⟩⟩⟩⟩⟩⟩⟩⟩⟩⟩⟩⟩⟩⟩⟩
  have h := hl _ hm
  rwa [show mj - 1 + 1 = mj by omega] at h
theorem zcst_ok (H : zts b s0) (hg : (Jvm.Cond.and given_1 narrow_1).before #[Value.ref b] s0 = true) : zcst s0 := by
  have hs := flat_of_before _ hg
  intro k k9 hk hk9 s hW a c ha hc
  have ek : k = 0 ∨ k = 1 ∨ k = 2 := by omega
  have ek9 : k9 = 0 ∨ k9 = 1 ∨ k9 = 2 := by omega
  rcases ek with rfl | rfl | rfl <;> rcases ek9 with rfl | rfl | rfl
  · exact zcst_y (zhS_w H (List.mem_of_getElem? (i := 912) (by decide +kernel)) rfl) hW ha hc
  · exact zcst_n (hs (Cond.not (.castable "java/lang/IndexOutOfBoundsException" "java/lang/IllegalStateException")) (by decide +kernel)) hW ha hc
  · exact zcst_n (hs (Cond.not (.castable "java/lang/IndexOutOfBoundsException" "java/lang/IllegalArgumentException")) (by decide +kernel)) hW ha hc
  · exact zcst_n (hs (Cond.not (.castable "java/lang/IllegalStateException" "java/lang/IndexOutOfBoundsException")) (by decide +kernel)) hW ha hc
  · exact zcst_y (zhS_w H (List.mem_of_getElem? (i := 1036) (by decide +kernel)) rfl) hW ha hc
  · exact zcst_n (hs (Cond.not (.castable "java/lang/IllegalStateException" "java/lang/IllegalArgumentException")) (by decide +kernel)) hW ha hc
  · exact zcst_n (hs (Cond.not (.castable "java/lang/IllegalArgumentException" "java/lang/IndexOutOfBoundsException")) (by decide +kernel)) hW ha hc
  · exact zcst_n (hs (Cond.not (.castable "java/lang/IllegalArgumentException" "java/lang/IllegalStateException")) (by decide +kernel)) hW ha hc
  · exact zcst_y (zhS_w H (List.mem_of_getElem? (i := 1001) (by decide +kernel)) rfl) hW ha hc
noncomputable def thl : List (Nat × List (Nat × Nat × Nat × Nat)) := [(86, [(0, 13, 16, 2)]), (87, [(0, 10, 13, 0)]), (88, [(0, 18, 21, 1), (0, 18, 25, 2)]), (89, [(0, 22, 25, 0), (0, 22, 29, 1), (0, 22, 33, 2)]), (90, [(0, 24, 27, 0), (0, 24, 31, 1), (0, 24, 35, 2)]), (91, [(0, 12, 15, 0), (0, 12, 19, 1), (0, 12, 23, 2)]), (92, [(0, 10, 13, 0)]), (93, [(0, 9, 12, 0)]), (94, [(0, 14, 17, 2)]), (95, [(0, 16, 19, 0)]), (96, [(0, 9, 12, 0)])]
theorem thl_in : ∀ q ∈ zlist 7 tt_hd 0 1, q ∈ thl := by decide +kernel
theorem zlk_0 (H : zts b s0) : zh s0 (Jvm.Cond.classLink "ImageTextsLaw" (13 : Nat) "java/lang/IndexOutOfBoundsException") := zw_g H 901 (by decide +kernel) (by decide +kernel)
theorem zlk_1 (H : zts b s0) : zh s0 (Jvm.Cond.classLink "ImageTextsLaw" (29 : Nat) "java/lang/IllegalStateException") := zw_g H 1023 (by decide +kernel) (by decide +kernel)
theorem zlk_2 (H : zts b s0) : zh s0 (Jvm.Cond.classLink "ImageTextsLaw" (23 : Nat) "java/lang/IllegalArgumentException") := zw_g H 993 (by decide +kernel) (by decide +kernel)
theorem thl_ok (H : zts b s0) : ∀ q ∈ thl, (∃ hh, zhr s0 "ImageTextsLaw" q.2 hh ∧ tHh q.1 = hh) ∧ (tY q.1).cls = "ImageTextsLaw" := by
  unfold thl
  exact List.forall_mem_cons.mpr ⟨⟨⟨_, (show zhr s0 "ImageTextsLaw" [(0, 13, 16, 2)] [(0, 13, 16, 23)] from ⟨rfl, rfl, rfl, by decide, by decide, zlk_2 H, trivial⟩), by decide +kernel⟩, by decide +kernel⟩, List.forall_mem_cons.mpr ⟨⟨⟨_, (show zhr s0 "ImageTextsLaw" [(0, 10, 13, 0)] [(0, 10, 13, 13)] from ⟨rfl, rfl, rfl, by decide, by decide, zlk_0 H, trivial⟩), by decide +kernel⟩, by decide +kernel⟩, List.forall_mem_cons.mpr ⟨⟨⟨_, (show zhr s0 "ImageTextsLaw" [(0, 18, 21, 1), (0, 18, 25, 2)] [(0, 18, 21, 29), (0, 18, 25, 23)] from ⟨rfl, rfl, rfl, by decide, by decide, zlk_1 H, ⟨rfl, rfl, rfl, by decide, by decide, zlk_2 H, trivial⟩⟩), by decide +kernel⟩, by decide +kernel⟩, List.forall_mem_cons.mpr ⟨⟨⟨_, (show zhr s0 "ImageTextsLaw" [(0, 22, 25, 0), (0, 22, 29, 1), (0, 22, 33, 2)] [(0, 22, 25, 13), (0, 22, 29, 29), (0, 22, 33, 23)] from ⟨rfl, rfl, rfl, by decide, by decide, zlk_0 H, ⟨rfl, rfl, rfl, by decide, by decide, zlk_1 H, ⟨rfl, rfl, rfl, by decide, by decide, zlk_2 H, trivial⟩⟩⟩), by decide +kernel⟩, by decide +kernel⟩, List.forall_mem_cons.mpr ⟨⟨⟨_, (show zhr s0 "ImageTextsLaw" [(0, 24, 27, 0), (0, 24, 31, 1), (0, 24, 35, 2)] [(0, 24, 27, 13), (0, 24, 31, 29), (0, 24, 35, 23)] from ⟨rfl, rfl, rfl, by decide, by decide, zlk_0 H, ⟨rfl, rfl, rfl, by decide, by decide, zlk_1 H, ⟨rfl, rfl, rfl, by decide, by decide, zlk_2 H, trivial⟩⟩⟩), by decide +kernel⟩, by decide +kernel⟩, List.forall_mem_cons.mpr ⟨⟨⟨_, (show zhr s0 "ImageTextsLaw" [(0, 12, 15, 0), (0, 12, 19, 1), (0, 12, 23, 2)] [(0, 12, 15, 13), (0, 12, 19, 29), (0, 12, 23, 23)] from ⟨rfl, rfl, rfl, by decide, by decide, zlk_0 H, ⟨rfl, rfl, rfl, by decide, by decide, zlk_1 H, ⟨rfl, rfl, rfl, by decide, by decide, zlk_2 H, trivial⟩⟩⟩), by decide +kernel⟩, by decide +kernel⟩, List.forall_mem_cons.mpr ⟨⟨⟨_, (show zhr s0 "ImageTextsLaw" [(0, 10, 13, 0)] [(0, 10, 13, 13)] from ⟨rfl, rfl, rfl, by decide, by decide, zlk_0 H, trivial⟩), by decide +kernel⟩, by decide +kernel⟩, List.forall_mem_cons.mpr ⟨⟨⟨_, (show zhr s0 "ImageTextsLaw" [(0, 9, 12, 0)] [(0, 9, 12, 13)] from ⟨rfl, rfl, rfl, by decide, by decide, zlk_0 H, trivial⟩), by decide +kernel⟩, by decide +kernel⟩, List.forall_mem_cons.mpr ⟨⟨⟨_, (show zhr s0 "ImageTextsLaw" [(0, 14, 17, 2)] [(0, 14, 17, 23)] from ⟨rfl, rfl, rfl, by decide, by decide, zlk_2 H, trivial⟩), by decide +kernel⟩, by decide +kernel⟩, List.forall_mem_cons.mpr ⟨⟨⟨_, (show zhr s0 "ImageTextsLaw" [(0, 16, 19, 0)] [(0, 16, 19, 13)] from ⟨rfl, rfl, rfl, by decide, by decide, zlk_0 H, trivial⟩), by decide +kernel⟩, by decide +kernel⟩, List.forall_mem_cons.mpr ⟨⟨⟨_, (show zhr s0 "ImageTextsLaw" [(0, 9, 12, 0)] [(0, 9, 12, 13)] from ⟨rfl, rfl, rfl, by decide, by decide, zlk_0 H, trivial⟩), by decide +kernel⟩, by decide +kernel⟩, fun _ h => absurd h List.not_mem_nil⟩⟩⟩⟩⟩⟩⟩⟩⟩⟩⟩
theorem zget_mod {α : Type} : ∀ (n : Nat) (t : zT α n) (i : Nat), zget n t i = zget n t (i % 2 ^ n)
  | 0, _, _ => rfl
  | n + 1, t, i => by
    have e1 : i % 2 ^ (n + 1) % 2 = i % 2 := Nat.mod_mod_of_dvd i (by rw [Nat.pow_succ]; exact Nat.dvd_mul_left 2 (2 ^ n))
    have e2 : i % 2 ^ (n + 1) / 2 = i / 2 % 2 ^ n := by rw [Nat.pow_succ, Nat.mul_comm, Nat.mod_mul_right_div_self]
    cases (t : Option (zT α n × zT α n)) with
    | none => rfl
    | some q => rw [zget_some, zget_some, e1, e2, zget_mod n q.1 (i / 2), zget_mod n q.2 (i / 2)]
theorem xg_mod (t : zT Nat 7) (i : Nat) : xg t i = xg t (i % 128) := by unfold xg; rw [zget_mod 7 t i]
theorem tY_mod (i : Nat) : tY i = tY (i % 128) := by unfold tY; rw [zget_mod 7 tt_Y i]
theorem tBt_mod (i : Nat) : tBt i = tBt (i % 128) := by unfold tBt; rw [zget_mod 7 tt_B i]
theorem tHh_mod (i : Nat) : tHh i = tHh (i % 128) := by unfold tHh; rw [zget_mod 7 tt_H i]
theorem tRm_mod (i : Nat) : tRm i = tRm (i % 128) := by unfold tRm; rw [xg_mod tt_fr i, xg_mod tt_rc i, xg_mod tt_rs i, xg_mod tt_lo i]
theorem tcode_mod (i : Nat) : tcode i = tcode (i % 128) := by unfold tcode; rw [zget_mod 7 tt_code i]
theorem thd_mod (i pc k : Nat) : thd i pc k = thd (i % 128) pc k := by unfold thd; rw [zget_mod 7 tt_hd i]
theorem zhnd_ok (H : zts b s0) (hC : zcst s0) : zhnd tM tY tHh tEx s0 := by
  intro mi pc k h hx s pl hW hpl d thrown hd ht
  replace hx : thd mi pc k = some h := hx
  rw [thd_mod] at hx
  rw [tY_mod] at hd
  rw [tHh_mod]
  have hlt : mi % 128 < 128 := Nat.mod_lt _ (by decide)
  generalize mi % 128 = j at hx hd hlt
  unfold thd at hx
  cases hl : zget 7 tt_hd j with
  | none => rw [hl] at hx; cases hx
  | some l =>
    rw [hl] at hx
    have hm := zlist_mem 7 tt_hd 0 1 j l hlt hl
    rw [show 0 + 1 * j = j by omega] at hm
    obtain ⟨⟨hh, h1, h2⟩, h3⟩ := thl_ok H _ (thl_in _ hm)
    replace h2 : tHh j = hh := h2
    replace h3 : (tY j).cls = "ImageTextsLaw" := h3
    rw [h3] at hd
    rw [h2]
    exact zhr_ok hC hW hpl hd ht (xfh_lt l hh h1 hx) l hh h1 hx
theorem zoa_0 : zoa "ImageTexts" 88 (tEx 0) ["java/lang/RuntimeException", "java/lang/Exception"] = true := by decide +kernel
theorem zoa_1 : zoa "ImageTexts" 135 (tEx 1) ["java/lang/RuntimeException", "java/lang/Exception"] = true := by decide +kernel
theorem zoa_2 : zoa "ImageTexts" 115 (tEx 2) ["java/lang/RuntimeException", "java/lang/Exception"] = true := by decide +kernel
theorem zck_l0 (H : zts b s0) : zhS s0 (.classLink "ImageTexts" 84 (tEx 0)) := zhS_w H (List.mem_of_getElem? (i := 910) (by decide +kernel)) (by decide +kernel)
theorem zck_i0 (H : zts b s0) : zhS s0 (.initialized (tEx 0)) := zhS_w H (List.mem_of_getElem? (i := 108) (by decide +kernel)) (by decide +kernel)
theorem zck_l1 (H : zts b s0) : zhS s0 (.classLink "ImageTexts" 131 (tEx 1)) := zhS_w H (List.mem_of_getElem? (i := 1034) (by decide +kernel)) (by decide +kernel)
theorem zck_i1 (H : zts b s0) : zhS s0 (.initialized (tEx 1)) := zhS_w H (List.mem_of_getElem? (i := 110) (by decide +kernel)) (by decide +kernel)
theorem zck_l2 (H : zts b s0) : zhS s0 (.classLink "ImageTexts" 111 (tEx 2)) := zhS_w H (List.mem_of_getElem? (i := 999) (by decide +kernel)) (by decide +kernel)
theorem zck_i2 (H : zts b s0) : zhS s0 (.initialized (tEx 2)) := zhS_w H (List.mem_of_getElem? (i := 109) (by decide +kernel)) (by decide +kernel)
theorem th_56_4 (H : zts b s0) (h1 : zhS s0 zir1) (h2 : zhS s0 zir2) {c : ClassId} (hown : s0.vm.findClass "ImageTexts" = some c) : zthr s0 "ImageTexts" (tBt 56) 4 (tEx 0) := ⟨84, 211, 88, "no character is ahead of the first", ["java/lang/RuntimeException", "java/lang/Exception"], by decide +kernel, by decide +kernel, by decide +kernel, by decide +kernel, by decide +kernel, by decide +kernel, by decide +kernel, by decide, zck_l0 H, zck_i0 H, zhS_sr H 1093 (by decide +kernel) hown, zoa_ok H h1 h2 zoa_0⟩
theorem th_47_32 (H : zts b s0) (h1 : zhS s0 zir1) (h2 : zhS s0 zir2) {c : ClassId} (hown : s0.vm.findClass "ImageTexts" = some c) : zthr s0 "ImageTexts" (tBt 47) 32 (tEx 0) := ⟨84, 126, 88, "no such primitive, or value of one", ["java/lang/RuntimeException", "java/lang/Exception"], by decide +kernel, by decide +kernel, by decide +kernel, by decide +kernel, by decide +kernel, by decide +kernel, by decide +kernel, by decide, zck_l0 H, zck_i0 H, zhS_sr H 1033 (by decide +kernel) hown, zoa_ok H h1 h2 zoa_0⟩
theorem th_47_64 (H : zts b s0) (h1 : zhS s0 zir1) (h2 : zhS s0 zir2) {c : ClassId} (hown : s0.vm.findClass "ImageTexts" = some c) : zthr s0 "ImageTexts" (tBt 47) 64 (tEx 1) := ⟨131, 133, 135, "there is no macro", ["java/lang/RuntimeException", "java/lang/Exception"], by decide +kernel, by decide +kernel, by decide +kernel, by decide +kernel, by decide +kernel, by decide +kernel, by decide +kernel, by decide, zck_l1 H, zck_i1 H, zhS_sr H 1043 (by decide +kernel) hown, zoa_ok H h1 h2 zoa_1⟩
theorem th_53_11 (H : zts b s0) (h1 : zhS s0 zir1) (h2 : zhS s0 zir2) {c : ClassId} (hown : s0.vm.findClass "ImageTexts" = some c) : zthr s0 "ImageTexts" (tBt 53) 11 (tEx 2) := ⟨111, 236, 115, "no such repeat can be", ["java/lang/RuntimeException", "java/lang/Exception"], by decide +kernel, by decide +kernel, by decide +kernel, by decide +kernel, by decide +kernel, by decide +kernel, by decide +kernel, by decide, zck_l2 H, zck_i2 H, zhS_sr H 1221 (by decide +kernel) hown, zoa_ok H h1 h2 zoa_2⟩
theorem th_40_7 (H : zts b s0) (h1 : zhS s0 zir1) (h2 : zhS s0 zir2) {c : ClassId} (hown : s0.vm.findClass "ImageTexts" = some c) : zthr s0 "ImageTexts" (tBt 40) 7 (tEx 1) := ⟨131, 201, 135, "no region is open", ["java/lang/RuntimeException", "java/lang/Exception"], by decide +kernel, by decide +kernel, by decide +kernel, by decide +kernel, by decide +kernel, by decide +kernel, by decide +kernel, by decide, zck_l1 H, zck_i1 H, zhS_sr H 1084 (by decide +kernel) hown, zoa_ok H h1 h2 zoa_1⟩
theorem th_48_11 (H : zts b s0) (h1 : zhS s0 zir1) (h2 : zhS s0 zir2) {c : ClassId} (hown : s0.vm.findClass "ImageTexts" = some c) : zthr s0 "ImageTexts" (tBt 48) 11 (tEx 0) := ⟨84, 86, 88, "no such object", ["java/lang/RuntimeException", "java/lang/Exception"], by decide +kernel, by decide +kernel, by decide +kernel, by decide +kernel, by decide +kernel, by decide +kernel, by decide +kernel, by decide, zck_l0 H, zck_i0 H, zhS_sr H 951 (by decide +kernel) hown, zoa_ok H h1 h2 zoa_0⟩
theorem th_54_11 (H : zts b s0) (h1 : zhS s0 zir1) (h2 : zhS s0 zir2) {c : ClassId} (hown : s0.vm.findClass "ImageTexts" = some c) : zthr s0 "ImageTexts" (tBt 54) 11 (tEx 0) := ⟨84, 86, 88, "no such object", ["java/lang/RuntimeException", "java/lang/Exception"], by decide +kernel, by decide +kernel, by decide +kernel, by decide +kernel, by decide +kernel, by decide +kernel, by decide +kernel, by decide, zck_l0 H, zck_i0 H, zhS_sr H 951 (by decide +kernel) hown, zoa_ok H h1 h2 zoa_0⟩
theorem th_41_11 (H : zts b s0) (h1 : zhS s0 zir1) (h2 : zhS s0 zir2) {c : ClassId} (hown : s0.vm.findClass "ImageTexts" = some c) : zthr s0 "ImageTexts" (tBt 41) 11 (tEx 0) := ⟨84, 166, 88, "no such aperture", ["java/lang/RuntimeException", "java/lang/Exception"], by decide +kernel, by decide +kernel, by decide +kernel, by decide +kernel, by decide +kernel, by decide +kernel, by decide +kernel, by decide, zck_l0 H, zck_i0 H, zhS_sr H 1062 (by decide +kernel) hown, zoa_ok H h1 h2 zoa_0⟩
theorem th_36_14 (H : zts b s0) (h1 : zhS s0 zir1) (h2 : zhS s0 zir2) {c : ClassId} (hown : s0.vm.findClass "ImageTexts" = some c) : zthr s0 "ImageTexts" (tBt 36) 14 (tEx 2) := ⟨111, 113, 115, "no such aperture can be", ["java/lang/RuntimeException", "java/lang/Exception"], by decide +kernel, by decide +kernel, by decide +kernel, by decide +kernel, by decide +kernel, by decide +kernel, by decide +kernel, by decide, zck_l2 H, zck_i2 H, zhS_sr H 1008 (by decide +kernel) hown, zoa_ok H h1 h2 zoa_2⟩
theorem th_46_11 (H : zts b s0) (h1 : zhS s0 zir1) (h2 : zhS s0 zir2) {c : ClassId} (hown : s0.vm.findClass "ImageTexts" = some c) : zthr s0 "ImageTexts" (tBt 46) 11 (tEx 0) := ⟨84, 166, 88, "no such aperture", ["java/lang/RuntimeException", "java/lang/Exception"], by decide +kernel, by decide +kernel, by decide +kernel, by decide +kernel, by decide +kernel, by decide +kernel, by decide +kernel, by decide, zck_l0 H, zck_i0 H, zhS_sr H 1062 (by decide +kernel) hown, zoa_ok H h1 h2 zoa_0⟩
theorem th_37_11 (H : zts b s0) (h1 : zhS s0 zir1) (h2 : zhS s0 zir2) {c : ClassId} (hown : s0.vm.findClass "ImageTexts" = some c) : zthr s0 "ImageTexts" (tBt 37) 11 (tEx 0) := ⟨84, 86, 88, "no such object", ["java/lang/RuntimeException", "java/lang/Exception"], by decide +kernel, by decide +kernel, by decide +kernel, by decide +kernel, by decide +kernel, by decide +kernel, by decide +kernel, by decide, zck_l0 H, zck_i0 H, zhS_sr H 951 (by decide +kernel) hown, zoa_ok H h1 h2 zoa_0⟩
theorem th_49_13 (H : zts b s0) (h1 : zhS s0 zir1) (h2 : zhS s0 zir2) {c : ClassId} (hown : s0.vm.findClass "ImageTexts" = some c) : zthr s0 "ImageTexts" (tBt 49) 13 (tEx 0) := ⟨84, 105, 88, "no such habit", ["java/lang/RuntimeException", "java/lang/Exception"], by decide +kernel, by decide +kernel, by decide +kernel, by decide +kernel, by decide +kernel, by decide +kernel, by decide +kernel, by decide, zck_l0 H, zck_i0 H, zhS_sr H 989 (by decide +kernel) hown, zoa_ok H h1 h2 zoa_0⟩
end ZF
