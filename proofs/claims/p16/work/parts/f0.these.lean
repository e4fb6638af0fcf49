/-! THE START, of this code -/
theorem zcl_0 : zcl 0 [349, 351, 353, 355] := ⟨by decide +kernel, by decide +kernel, by decide +kernel, by decide +kernel, by decide +kernel⟩
theorem zdf_0 : zdf 0 := zdf_of (N := 4) (dl := te_0.2) (by decide +kernel) rfl (by decide +kernel)
theorem zcl_1 : zcl 1 [151, 153, 155, 157] := ⟨by decide +kernel, by decide +kernel, by decide +kernel, by decide +kernel, by decide +kernel⟩
theorem zdf_1 : zdf 1 := zdf_of (N := 4) (dl := te_1.2) (by decide +kernel) rfl (by decide +kernel)
theorem zcl_2 : zcl 2 [373, 375, 377, 379, 381] := ⟨by decide +kernel, by decide +kernel, by decide +kernel, by decide +kernel, by decide +kernel⟩
theorem zdf_2 : zdf 2 := zdf_of (N := 5) (dl := te_2.2) (by decide +kernel) rfl (by decide +kernel)
theorem zcl_3 : zcl 3 [240, 242, 244, 246, 248, 250, 252, 254, 256, 258] := ⟨by decide +kernel, by decide +kernel, by decide +kernel, by decide +kernel, by decide +kernel⟩
theorem zdf_3 : zdf 3 := zdf_of (N := 10) (dl := te_3.2) (by decide +kernel) rfl (by decide +kernel)
theorem zcl_4 : zcl 4 [314, 316] := ⟨by decide +kernel, by decide +kernel, by decide +kernel, by decide +kernel, by decide +kernel⟩
theorem zdf_4 : zdf 4 := zdf_of (N := 2) (dl := te_4.2) (by decide +kernel) rfl (by decide +kernel)
theorem zcl_5 : zcl 5 [173, 175] := ⟨by decide +kernel, by decide +kernel, by decide +kernel, by decide +kernel, by decide +kernel⟩
theorem zdf_5 : zdf 5 := zdf_of (N := 2) (dl := te_5.2) (by decide +kernel) rfl (by decide +kernel)
theorem zcl_6 : zcl 6 [292, 294, 296, 298, 300, 302] := ⟨by decide +kernel, by decide +kernel, by decide +kernel, by decide +kernel, by decide +kernel⟩
theorem zdf_6 : zdf 6 := zdf_of (N := 6) (dl := te_6.2) (by decide +kernel) rfl (by decide +kernel)
theorem zcl_7 : zcl 7 [402, 404, 406, 408, 410, 412, 414, 416, 418, 420, 422, 424, 426] := ⟨by decide +kernel, by decide +kernel, by decide +kernel, by decide +kernel, by decide +kernel⟩
theorem zdf_7 : zdf 7 := zdf_of (N := 13) (dl := te_7.2) (by decide +kernel) rfl (by decide +kernel)
theorem zcl_8 : zcl 8 [195, 197, 199] := ⟨by decide +kernel, by decide +kernel, by decide +kernel, by decide +kernel, by decide +kernel⟩
theorem zdf_8 : zdf 8 := zdf_of (N := 3) (dl := te_8.2) (by decide +kernel) rfl (by decide +kernel)
theorem zcl_9 : zcl 9 [441, 443, 445, 447] := ⟨by decide +kernel, by decide +kernel, by decide +kernel, by decide +kernel, by decide +kernel⟩
theorem zdf_9 : zdf 9 := zdf_of (N := 4) (dl := te_9.2) (by decide +kernel) rfl (by decide +kernel)
theorem zcl_10 : zcl 10 [460, 462, 464, 466, 468, 470] := ⟨by decide +kernel, by decide +kernel, by decide +kernel, by decide +kernel, by decide +kernel⟩
theorem zdf_10 : zdf 10 := zdf_of (N := 6) (dl := te_10.2) (by decide +kernel) rfl (by decide +kernel)
theorem zcl_11 : zcl 11 [1266, 1268, 1270, 1272, 1274, 1276, 1278, 1280, 1282, 1284, 1286, 1288, 1290, 1292, 1294, 1296, 1298, 1300, 1302, 1304, 1306, 1308, 1310, 1312, 1314, 1316, 1318, 1320, 1322, 1324, 1326, 1328, 1330, 1332, 1334, 1336] := ⟨by decide +kernel, by decide +kernel, by decide +kernel, by decide +kernel, by decide +kernel⟩
theorem zdf_11 : zdf 11 := zdf_of (N := 36) (dl := te_11.2) (by decide +kernel) rfl (by decide +kernel)
section ZF
variable {b : Addr} {s0 : State} {D : va_G} {ca : Nat → ClassId}
theorem zdf_all : ∀ ci, ci < 12 → zdf ci
  | 0, _ => zdf_0
  | 1, _ => zdf_1
  | 2, _ => zdf_2
  | 3, _ => zdf_3
  | 4, _ => zdf_4
  | 5, _ => zdf_5
  | 6, _ => zdf_6
  | 7, _ => zdf_7
  | 8, _ => zdf_8
  | 9, _ => zdf_9
  | 10, _ => zdf_10
  | 11, _ => zdf_11
  | n + 12, h => absurd h (by omega)
theorem zK_all (H : zts b s0) : ∀ ci, ci < 12 → ∃ (cC : ClassId) (iS : Nat → Nat), u_Kn s0 (tC ci) (tT ci) (yg tt_N ci) cC iS
  | 0, _ => u_known H (zcl_in zcl_0) (wd_332 H _ s0 (State.WarmedH.refl s0))
  | 1, _ => u_known H (zcl_in zcl_1) (wd_132 H _ s0 (State.WarmedH.refl s0))
  | 2, _ => u_known H (zcl_in zcl_2) (wd_320 H _ s0 (State.WarmedH.refl s0))
  | 3, _ => u_known H (zcl_in zcl_3) (wd_126 H _ s0 (State.WarmedH.refl s0))
  | 4, _ => u_known H (zcl_in zcl_4) (wd_262 H _ s0 (State.WarmedH.refl s0))
  | 5, _ => u_known H (zcl_in zcl_5) (wd_162 H _ s0 (State.WarmedH.refl s0))
  | 6, _ => u_known H (zcl_in zcl_6) (wd_269 H _ s0 (State.WarmedH.refl s0))
  | 7, _ => u_known H (zcl_in zcl_7) (wd_120 H _ s0 (State.WarmedH.refl s0))
  | 8, _ => u_known H (zcl_in zcl_8) (wd_179 H _ s0 (State.WarmedH.refl s0))
  | 9, _ => u_known H (zcl_in zcl_9) (wd_430 H _ s0 (State.WarmedH.refl s0))
  | 10, _ => u_known H (zcl_in zcl_10) (wd_112 H _ s0 (State.WarmedH.refl s0))
  | 11, _ => u_known H (zcl_in zcl_11) (wd_1225 H _ s0 (State.WarmedH.refl s0))
  | n + 12, h => absurd h (by omega)
theorem zC_all (H : zts b s0) (hD : ∀ ci, ci < 12 → u_Kn s0 (tC ci) (tT ci) (yg tt_N ci) (D.1 ci) (D.2 ci)) : ∀ ci, ci < 12 → zclo s0 D tty ci (tC ci) (tT ci) (yg tt_N ci) ∧ zh s0 (.instantiable (tC ci) (yg tt_N ci)) ∧ zh s0 (.initialized (tC ci))
  | 0, h => ⟨zcl_ok H zcl_0 (by decide) (hD 0 h), wd_332 H, wd_95 H⟩
  | 1, h => ⟨zcl_ok H zcl_1 (by decide) (hD 1 h), wd_132 H, wd_89 H⟩
  | 2, h => ⟨zcl_ok H zcl_2 (by decide) (hD 2 h), wd_320 H, wd_94 H⟩
  | 3, h => ⟨zcl_ok H zcl_3 (by decide) (hD 3 h), wd_126 H, wd_88 H⟩
  | 4, h => ⟨zcl_ok H zcl_4 (by decide) (hD 4 h), wd_262 H, wd_92 H⟩
  | 5, h => ⟨zcl_ok H zcl_5 (by decide) (hD 5 h), wd_162 H, wd_90 H⟩
  | 6, h => ⟨zcl_ok H zcl_6 (by decide) (hD 6 h), wd_269 H, wd_93 H⟩
  | 7, h => ⟨zcl_ok H zcl_7 (by decide) (hD 7 h), wd_120 H, wd_87 H⟩
  | 8, h => ⟨zcl_ok H zcl_8 (by decide) (hD 8 h), wd_179 H, wd_91 H⟩
  | 9, h => ⟨zcl_ok H zcl_9 (by decide) (hD 9 h), wd_430 H, wd_96 H⟩
  | 10, h => ⟨zcl_ok H zcl_10 (by decide) (hD 10 h), wd_112 H, wd_86 H⟩
  | 11, h => ⟨zcl_ok H zcl_11 (by decide) (hD 11 h), wd_1225 H, wd_97 H⟩
  | n + 12, h => absurd h (by omega)
theorem zA_all (H : zts b s0) (tag : Nat) (ht : 64 ≤ tag) : ∃ cA, ArrOfT s0 cA (tyO tag) ∧ va_RA s0 cA (tyO tag) := by
  unfold tyO
  split
  · exact ze_prim (fun C h => by cases h) (wd_202 H)
  split
  · exact ze_prim (fun C h => by cases h) (wd_160 H)
  split
  · exact ze_prim (fun C h => by cases h) (wd_1340 H)
  split
  · exact ze_prim (fun C h => by cases h) (wd_1339 H)
  unfold tO
  split
  · exact ze_obj (wd_326 H)
  split
  · exact ze_obj (wd_328 H)
  split
  · exact ze_obj (wd_330 H)
  · exact ze_obj (wd_268 H)
theorem zO_all (H : zts b s0) (tag : Nat) : zh s0 (.arrayOver (.object (tO tag))) := by
  unfold tO
  split
  · exact wd_326 H
  split
  · exact wd_328 H
  split
  · exact wd_330 H
  · exact wd_268 H
theorem tyO_o {tag : Nat} (h : 68 ≤ tag) : tyO tag = .object (tO tag) := by
  unfold tyO
  rw [if_neg (by omega), if_neg (by omega), if_neg (by omega), if_neg (by omega)]
theorem wfx_ok (H : zts b s0) (hD : ∀ ci, ci < 12 → u_Kn s0 (tC ci) (tT ci) (yg tt_N ci) (D.1 ci) (D.2 ci)) (hA : ∀ tag, 64 ≤ tag → ArrOfT s0 (ca tag) (tyO tag) ∧ va_RA s0 (ca tag) (tyO tag)) : wfx s0 D ca := by
  refine ⟨zC_all H hD, ⟨⟨by decide, by decide, hA 64 (by decide)⟩, ⟨by decide, by decide, hA 65 (by decide)⟩, ⟨by decide, by decide, hA 66 (by decide)⟩, ⟨by decide, by decide, hA 67 (by decide)⟩⟩, fun tag h1 h2 => ⟨⟨by omega, by omega, ?_⟩, zO_all H tag⟩, ⟨wd_202 H, wd_160 H, wd_1340 H, wd_1339 H⟩, ⟨wd_560 H, wd_100 H, wd_561 H⟩, ⟨wd_117 H, wd_118 H⟩⟩
  rw [← tyO_o h1]
  exact hA tag (by omega)
theorem zB_0 (H : zts b s0) : pan (fun j => zcB s0 j) 30 0 := ⟨cb_0 H, cb_1 H, cb_2 H, cb_3 H, cb_4 H, cb_5 H, cb_6 H, cb_7 H, cb_8 H, cb_9 H, cb_10 H, cb_11 H, cb_12 H, cb_13 H, cb_14 H, cb_15 H, cb_16 H, cb_17 H, cb_18 H, cb_19 H, cb_20 H, cb_21 H, cb_22 H, cb_23 H, cb_24 H, cb_25 H, cb_26 H, cb_27 H, cb_28 H, cb_29 H, trivial⟩
theorem zB_30 (H : zts b s0) : pan (fun j => zcB s0 j) 30 30 := ⟨cb_30 H, cb_31 H, cb_32 H, cb_33 H, cb_34 H, cb_35 H, cb_36 H, cb_37 H, cb_38 H, cb_39 H, cb_40 H, cb_41 H, cb_42 H, cb_43 H, cb_44 H, cb_45 H, cb_46 H, cb_47 H, cb_48 H, cb_49 H, cb_50 H, cb_51 H, cb_52 H, cb_53 H, cb_54 H, cb_55 H, cb_56 H, cb_57 H, cb_58 H, cb_59 H, trivial⟩
theorem zB_60 (H : zts b s0) : pan (fun j => zcB s0 j) 30 60 := ⟨cb_60 H, cb_61 H, cb_62 H, cb_63 H, cb_64 H, cb_65 H, cb_66 H, cb_67 H, cb_68 H, cb_69 H, cb_70 H, cb_71 H, cb_72 H, cb_73 H, cb_74 H, cb_75 H, cb_76 H, cb_77 H, cb_78 H, cb_79 H, cb_80 H, cb_81 H, cb_82 H, cb_83 H, cb_84 H, cb_85 H, cb_86 H, cb_87 H, cb_88 H, cb_89 H, trivial⟩
theorem zB_90 (H : zts b s0) : pan (fun j => zcB s0 j) 30 90 := ⟨cb_90 H, cb_91 H, cb_92 H, cb_93 H, cb_94 H, cb_95 H, cb_96 H, cb_97 H, cb_98 H, cb_99 H, cb_100 H, cb_101 H, cb_102 H, cb_103 H, cb_104 H, cb_105 H, cb_106 H, cb_107 H, cb_108 H, cb_109 H, cb_110 H, cb_111 H, cb_112 H, cb_113 H, cb_114 H, cb_115 H, cb_116 H, cb_117 H, cb_118 H, cb_119 H, trivial⟩
theorem zB_120 (H : zts b s0) : pan (fun j => zcB s0 j) 30 120 := ⟨cb_120 H, cb_121 H, cb_122 H, cb_123 H, cb_124 H, cb_125 H, cb_126 H, cb_127 H, cb_128 H, cb_129 H, cb_130 H, cb_131 H, cb_132 H, cb_133 H, cb_134 H, cb_135 H, cb_136 H, cb_137 H, cb_138 H, cb_139 H, cb_140 H, cb_141 H, cb_142 H, cb_143 H, cb_144 H, cb_145 H, cb_146 H, cb_147 H, cb_148 H, cb_149 H, trivial⟩
theorem zB_150 (H : zts b s0) : pan (fun j => zcB s0 j) 30 150 := ⟨cb_150 H, cb_151 H, cb_152 H, cb_153 H, cb_154 H, cb_155 H, cb_156 H, cb_157 H, cb_158 H, cb_159 H, cb_160 H, cb_161 H, cb_162 H, cb_163 H, cb_164 H, cb_165 H, cb_166 H, cb_167 H, cb_168 H, cb_169 H, cb_170 H, cb_171 H, cb_172 H, cb_173 H, cb_174 H, cb_175 H, cb_176 H, cb_177 H, cb_178 H, cb_179 H, trivial⟩
theorem zB_180 (H : zts b s0) : pan (fun j => zcB s0 j) 30 180 := ⟨cb_180 H, cb_181 H, cb_182 H, cb_183 H, cb_184 H, cb_185 H, cb_186 H, cb_187 H, cb_188 H, cb_189 H, cb_190 H, cb_191 H, cb_192 H, cb_193 H, cb_194 H, cb_195 H, cb_196 H, cb_197 H, cb_198 H, cb_199 H, cb_200 H, cb_201 H, cb_202 H, cb_203 H, cb_204 H, cb_205 H, cb_206 H, cb_207 H, cb_208 H, cb_209 H, trivial⟩
theorem zB_210 (H : zts b s0) : pan (fun j => zcB s0 j) 3 210 := ⟨cb_210 H, cb_211 H, cb_212 H, trivial⟩
theorem zB_all (H : zts b s0) (mj : Nat) (h2 : mj < 213) : zcB s0 mj := by
  by_cases g0 : mj < 30
  · exact pan_ok (p := fun j => zcB s0 j) (zB_0 H) (by omega) (by omega)
  by_cases g30 : mj < 60
  · exact pan_ok (p := fun j => zcB s0 j) (zB_30 H) (by omega) (by omega)
  by_cases g60 : mj < 90
  · exact pan_ok (p := fun j => zcB s0 j) (zB_60 H) (by omega) (by omega)
  by_cases g90 : mj < 120
  · exact pan_ok (p := fun j => zcB s0 j) (zB_90 H) (by omega) (by omega)
  by_cases g120 : mj < 150
  · exact pan_ok (p := fun j => zcB s0 j) (zB_120 H) (by omega) (by omega)
  by_cases g150 : mj < 180
  · exact pan_ok (p := fun j => zcB s0 j) (zB_150 H) (by omega) (by omega)
  by_cases g180 : mj < 210
  · exact pan_ok (p := fun j => zcB s0 j) (zB_180 H) (by omega) (by omega)
  exact pan_ok (p := fun j => zcB s0 j) (zB_210 H) (by omega) (by omega)
theorem zcst_ok (H : zts b s0) (hg : (Jvm.Cond.and given_1 narrow_1).before #[Value.ref b] s0 = true) : zcst s0 := by
  have hs := flat_of_before _ hg
  intro k k9 hk hk9 s hW a c ha hc
  have ek : k = 0 ∨ k = 1 ∨ k = 2 := by omega
  have ek9 : k9 = 0 ∨ k9 = 1 ∨ k9 = 2 := by omega
  rcases ek with rfl | rfl | rfl <;> rcases ek9 with rfl | rfl | rfl
  · exact zcst_y (zhS_w H (List.mem_of_getElem? (i := 912) (by decide +kernel)) rfl) hW ha hc
  · exact zcst_n (hs (Cond.not (.castable "java/lang/IndexOutOfBoundsException" "java/lang/IllegalStateException")) (by decide +kernel)) hW ha hc
  · exact zcst_n (hs (Cond.not (.castable "java/lang/IndexOutOfBoundsException" "java/lang/IllegalArgumentException")) (by decide +kernel)) hW ha hc
  · exact zcst_n (hs (Cond.not (.castable "java/lang/IllegalStateException" "java/lang/IndexOutOfBoundsException")) (by decide +kernel)) hW ha hc
  · exact zcst_y (zhS_w H (List.mem_of_getElem? (i := 1036) (by decide +kernel)) rfl) hW ha hc
  · exact zcst_n (hs (Cond.not (.castable "java/lang/IllegalStateException" "java/lang/IllegalArgumentException")) (by decide +kernel)) hW ha hc
  · exact zcst_n (hs (Cond.not (.castable "java/lang/IllegalArgumentException" "java/lang/IndexOutOfBoundsException")) (by decide +kernel)) hW ha hc
  · exact zcst_n (hs (Cond.not (.castable "java/lang/IllegalArgumentException" "java/lang/IllegalStateException")) (by decide +kernel)) hW ha hc
  · exact zcst_y (zhS_w H (List.mem_of_getElem? (i := 1001) (by decide +kernel)) rfl) hW ha hc
noncomputable def thl : List (Nat × List (Nat × Nat × Nat × Nat)) := [(190, [(0, 10, 13, 0)]), (191, [(0, 9, 12, 0)]), (192, [(0, 13, 16, 2)]), (193, [(0, 12, 15, 0), (0, 12, 19, 1), (0, 12, 23, 2)]), (194, [(0, 22, 25, 0), (0, 22, 29, 1), (0, 22, 33, 2)]), (195, [(0, 24, 27, 0), (0, 24, 31, 1), (0, 24, 35, 2)]), (196, [(0, 18, 21, 1), (0, 18, 25, 2)]), (197, [(0, 9, 12, 0)]), (198, [(0, 16, 19, 0)]), (199, [(0, 10, 13, 0)]), (200, [(0, 14, 17, 2)])]
theorem thl_in : ∀ q ∈ zlist 8 tt_hd 0 1, q ∈ thl := by decide +kernel
theorem zlk_0 (H : zts b s0) : zh s0 (Jvm.Cond.classLink "ImageTextsLaw" (13 : Nat) "java/lang/IndexOutOfBoundsException") := zw_g H 901 (by decide +kernel) (by decide +kernel)
theorem zlk_1 (H : zts b s0) : zh s0 (Jvm.Cond.classLink "ImageTextsLaw" (29 : Nat) "java/lang/IllegalStateException") := zw_g H 1023 (by decide +kernel) (by decide +kernel)
theorem zlk_2 (H : zts b s0) : zh s0 (Jvm.Cond.classLink "ImageTextsLaw" (23 : Nat) "java/lang/IllegalArgumentException") := zw_g H 993 (by decide +kernel) (by decide +kernel)
theorem thl_ok (H : zts b s0) : ∀ q ∈ thl, (∃ hh, zhr s0 "ImageTextsLaw" q.2 hh ∧ tHh q.1 = hh) ∧ (tY q.1).cls = "ImageTextsLaw" := by
  unfold thl
  exact List.forall_mem_cons.mpr ⟨⟨⟨_, (show zhr s0 "ImageTextsLaw" [(0, 10, 13, 0)] [(0, 10, 13, 13)] from ⟨rfl, rfl, rfl, by decide, by decide, zlk_0 H, trivial⟩), by decide +kernel⟩, by decide +kernel⟩, List.forall_mem_cons.mpr ⟨⟨⟨_, (show zhr s0 "ImageTextsLaw" [(0, 9, 12, 0)] [(0, 9, 12, 13)] from ⟨rfl, rfl, rfl, by decide, by decide, zlk_0 H, trivial⟩), by decide +kernel⟩, by decide +kernel⟩, List.forall_mem_cons.mpr ⟨⟨⟨_, (show zhr s0 "ImageTextsLaw" [(0, 13, 16, 2)] [(0, 13, 16, 23)] from ⟨rfl, rfl, rfl, by decide, by decide, zlk_2 H, trivial⟩), by decide +kernel⟩, by decide +kernel⟩, List.forall_mem_cons.mpr ⟨⟨⟨_, (show zhr s0 "ImageTextsLaw" [(0, 12, 15, 0), (0, 12, 19, 1), (0, 12, 23, 2)] [(0, 12, 15, 13), (0, 12, 19, 29), (0, 12, 23, 23)] from ⟨rfl, rfl, rfl, by decide, by decide, zlk_0 H, ⟨rfl, rfl, rfl, by decide, by decide, zlk_1 H, ⟨rfl, rfl, rfl, by decide, by decide, zlk_2 H, trivial⟩⟩⟩), by decide +kernel⟩, by decide +kernel⟩, List.forall_mem_cons.mpr ⟨⟨⟨_, (show zhr s0 "ImageTextsLaw" [(0, 22, 25, 0), (0, 22, 29, 1), (0, 22, 33, 2)] [(0, 22, 25, 13), (0, 22, 29, 29), (0, 22, 33, 23)] from ⟨rfl, rfl, rfl, by decide, by decide, zlk_0 H, ⟨rfl, rfl, rfl, by decide, by decide, zlk_1 H, ⟨rfl, rfl, rfl, by decide, by decide, zlk_2 H, trivial⟩⟩⟩), by decide +kernel⟩, by decide +kernel⟩, List.forall_mem_cons.mpr ⟨⟨⟨_, (show zhr s0 "ImageTextsLaw" [(0, 24, 27, 0), (0, 24, 31, 1), (0, 24, 35, 2)] [(0, 24, 27, 13), (0, 24, 31, 29), (0, 24, 35, 23)] from ⟨rfl, rfl, rfl, by decide, by decide, zlk_0 H, ⟨rfl, rfl, rfl, by decide, by decide, zlk_1 H, ⟨rfl, rfl, rfl, by decide, by decide, zlk_2 H, trivial⟩⟩⟩), by decide +kernel⟩, by decide +kernel⟩, List.forall_mem_cons.mpr ⟨⟨⟨_, (show zhr s0 "ImageTextsLaw" [(0, 18, 21, 1), (0, 18, 25, 2)] [(0, 18, 21, 29), (0, 18, 25, 23)] from ⟨rfl, rfl, rfl, by decide, by decide, zlk_1 H, ⟨rfl, rfl, rfl, by decide, by decide, zlk_2 H, trivial⟩⟩), by decide +kernel⟩, by decide +kernel⟩, List.forall_mem_cons.mpr ⟨⟨⟨_, (show zhr s0 "ImageTextsLaw" [(0, 9, 12, 0)] [(0, 9, 12, 13)] from ⟨rfl, rfl, rfl, by decide, by decide, zlk_0 H, trivial⟩), by decide +kernel⟩, by decide +kernel⟩, List.forall_mem_cons.mpr ⟨⟨⟨_, (show zhr s0 "ImageTextsLaw" [(0, 16, 19, 0)] [(0, 16, 19, 13)] from ⟨rfl, rfl, rfl, by decide, by decide, zlk_0 H, trivial⟩), by decide +kernel⟩, by decide +kernel⟩, List.forall_mem_cons.mpr ⟨⟨⟨_, (show zhr s0 "ImageTextsLaw" [(0, 10, 13, 0)] [(0, 10, 13, 13)] from ⟨rfl, rfl, rfl, by decide, by decide, zlk_0 H, trivial⟩), by decide +kernel⟩, by decide +kernel⟩, List.forall_mem_cons.mpr ⟨⟨⟨_, (show zhr s0 "ImageTextsLaw" [(0, 14, 17, 2)] [(0, 14, 17, 23)] from ⟨rfl, rfl, rfl, by decide, by decide, zlk_2 H, trivial⟩), by decide +kernel⟩, by decide +kernel⟩, fun _ h => absurd h List.not_mem_nil⟩⟩⟩⟩⟩⟩⟩⟩⟩⟩⟩
theorem zget_mod {α : Type} : ∀ (n : Nat) (t : zT α n) (i : Nat), zget n t i = zget n t (i % 2 ^ n)
  | 0, _, _ => rfl
  | n + 1, t, i => by
    have e1 : i % 2 ^ (n + 1) % 2 = i % 2 := Nat.mod_mod_of_dvd i (by rw [Nat.pow_succ]; exact Nat.dvd_mul_left 2 (2 ^ n))
    have e2 : i % 2 ^ (n + 1) / 2 = i / 2 % 2 ^ n := by rw [Nat.pow_succ, Nat.mul_comm, Nat.mod_mul_right_div_self]
    cases (t : Option (zT α n × zT α n)) with
    | none => rfl
    | some q => rw [zget_some, zget_some, e1, e2, zget_mod n q.1 (i / 2), zget_mod n q.2 (i / 2)]
theorem xg_mod (t : zT Nat 8) (i : Nat) : yg t i = yg t (i % 256) := by unfold yg; rw [zget_mod 8 t i]
theorem tY_mod (i : Nat) : tY i = tY (i % 256) := by unfold tY; rw [zget_mod 8 tt_Y i]
theorem tBt_mod (i : Nat) : tBt i = tBt (i % 256) := by unfold tBt; rw [zget_mod 8 tt_B i]
theorem tHh_mod (i : Nat) : tHh i = tHh (i % 256) := by unfold tHh; rw [zget_mod 8 tt_H i]
theorem tRm_mod (i : Nat) : tRm i = tRm (i % 256) := by unfold tRm; rw [xg_mod tt_fr i, xg_mod tt_rc i, xg_mod tt_rs i, xg_mod tt_lo i]
theorem tcode_mod (i : Nat) : tcode i = tcode (i % 256) := by unfold tcode; rw [zget_mod 8 tt_code i]
theorem tcod1_mod (i : Nat) : tcod1 i = tcod1 (i % 256) := by unfold tcod1; rw [zget_mod 8 tt_cod1 i]
theorem thd_mod (i pc k : Nat) : thd i pc k = thd (i % 256) pc k := by unfold thd; rw [zget_mod 8 tt_hd i]
theorem zhnd_ok (H : zts b s0) (hC : zcst s0) : zhnd tM tY tHh tEx s0 := by
  intro mi pc k h hx s pl hW hpl d thrown hd ht
  replace hx : thd mi pc k = some h := hx
  rw [thd_mod] at hx
  rw [tY_mod] at hd
  rw [tHh_mod]
  have hlt : mi % 256 < 256 := Nat.mod_lt _ (by decide)
  generalize mi % 256 = j at hx hd hlt
  unfold thd at hx
  cases hl : zget 8 tt_hd j with
  | none => rw [hl] at hx; cases hx
  | some l =>
    rw [hl] at hx
    have hm := zlist_mem 8 tt_hd 0 1 j l hlt hl
    rw [show 0 + 1 * j = j by omega] at hm
    obtain ⟨⟨hh, h1, h2⟩, h3⟩ := thl_ok H _ (thl_in _ hm)
    replace h2 : tHh j = hh := h2
    replace h3 : (tY j).cls = "ImageTextsLaw" := h3
    rw [h3] at hd
    rw [h2]
    exact zhr_ok hC hW hpl hd ht (xfh_lt l hh h1 hx) l hh h1 hx
theorem zoa_0 : zoa "ImageTexts" 88 (tEx 0) ["java/lang/RuntimeException", "java/lang/Exception"] = true := by decide +kernel
theorem zoa_1 : zoa "ImageTexts" 135 (tEx 1) ["java/lang/RuntimeException", "java/lang/Exception"] = true := by decide +kernel
theorem zoa_2 : zoa "ImageTexts" 115 (tEx 2) ["java/lang/RuntimeException", "java/lang/Exception"] = true := by decide +kernel
theorem zck_l0 (H : zts b s0) : zhS s0 (.classLink "ImageTexts" 84 (tEx 0)) := zhS_w H (List.mem_of_getElem? (i := 910) (by decide +kernel)) (by decide +kernel)
theorem zck_i0 (H : zts b s0) : zhS s0 (.initialized (tEx 0)) := zhS_w H (List.mem_of_getElem? (i := 108) (by decide +kernel)) (by decide +kernel)
theorem zck_l1 (H : zts b s0) : zhS s0 (.classLink "ImageTexts" 131 (tEx 1)) := zhS_w H (List.mem_of_getElem? (i := 1034) (by decide +kernel)) (by decide +kernel)
theorem zck_i1 (H : zts b s0) : zhS s0 (.initialized (tEx 1)) := zhS_w H (List.mem_of_getElem? (i := 110) (by decide +kernel)) (by decide +kernel)
theorem zck_l2 (H : zts b s0) : zhS s0 (.classLink "ImageTexts" 111 (tEx 2)) := zhS_w H (List.mem_of_getElem? (i := 999) (by decide +kernel)) (by decide +kernel)
theorem zck_i2 (H : zts b s0) : zhS s0 (.initialized (tEx 2)) := zhS_w H (List.mem_of_getElem? (i := 109) (by decide +kernel)) (by decide +kernel)
theorem th_60_11 (H : zts b s0) (h1 : zhS s0 zir1) (h2 : zhS s0 zir2) {c : ClassId} (hown : s0.vm.findClass "ImageTexts" = some c) : zthr s0 "ImageTexts" (tBt 60) 11 (tEx 0) := ⟨84, 86, 88, "no such object", ["java/lang/RuntimeException", "java/lang/Exception"], by decide +kernel, by decide +kernel, by decide +kernel, by decide +kernel, by decide +kernel, by decide +kernel, by decide +kernel, by decide, zck_l0 H, zck_i0 H, zhS_sr H 951 (by decide +kernel) hown, zoa_ok H h1 h2 zoa_0⟩
theorem th_60_31 (H : zts b s0) (h1 : zhS s0 zir1) (h2 : zhS s0 zir2) {c : ClassId} (hown : s0.vm.findClass "ImageTexts" = some c) : zthr s0 "ImageTexts" (tBt 60) 31 (tEx 0) := ⟨84, 91, 88, "no such value of an object", ["java/lang/RuntimeException", "java/lang/Exception"], by decide +kernel, by decide +kernel, by decide +kernel, by decide +kernel, by decide +kernel, by decide +kernel, by decide +kernel, by decide, zck_l0 H, zck_i0 H, zhS_sr H 977 (by decide +kernel) hown, zoa_ok H h1 h2 zoa_0⟩
theorem th_79_13 (H : zts b s0) (h1 : zhS s0 zir1) (h2 : zhS s0 zir2) {c : ClassId} (hown : s0.vm.findClass "ImageTexts" = some c) : zthr s0 "ImageTexts" (tBt 79) 13 (tEx 0) := ⟨84, 105, 88, "no such habit", ["java/lang/RuntimeException", "java/lang/Exception"], by decide +kernel, by decide +kernel, by decide +kernel, by decide +kernel, by decide +kernel, by decide +kernel, by decide +kernel, by decide, zck_l0 H, zck_i0 H, zhS_sr H 989 (by decide +kernel) hown, zoa_ok H h1 h2 zoa_0⟩
theorem th_81_14 (H : zts b s0) (h1 : zhS s0 zir1) (h2 : zhS s0 zir2) {c : ClassId} (hown : s0.vm.findClass "ImageTexts" = some c) : zthr s0 "ImageTexts" (tBt 81) 14 (tEx 2) := ⟨111, 113, 115, "no such aperture can be", ["java/lang/RuntimeException", "java/lang/Exception"], by decide +kernel, by decide +kernel, by decide +kernel, by decide +kernel, by decide +kernel, by decide +kernel, by decide +kernel, by decide, zck_l2 H, zck_i2 H, zhS_sr H 1008 (by decide +kernel) hown, zoa_ok H h1 h2 zoa_2⟩
theorem th_83_32 (H : zts b s0) (h1 : zhS s0 zir1) (h2 : zhS s0 zir2) {c : ClassId} (hown : s0.vm.findClass "ImageTexts" = some c) : zthr s0 "ImageTexts" (tBt 83) 32 (tEx 0) := ⟨84, 126, 88, "no such primitive, or value of one", ["java/lang/RuntimeException", "java/lang/Exception"], by decide +kernel, by decide +kernel, by decide +kernel, by decide +kernel, by decide +kernel, by decide +kernel, by decide +kernel, by decide, zck_l0 H, zck_i0 H, zhS_sr H 1033 (by decide +kernel) hown, zoa_ok H h1 h2 zoa_0⟩
theorem th_83_64 (H : zts b s0) (h1 : zhS s0 zir1) (h2 : zhS s0 zir2) {c : ClassId} (hown : s0.vm.findClass "ImageTexts" = some c) : zthr s0 "ImageTexts" (tBt 83) 64 (tEx 1) := ⟨131, 133, 135, "there is no macro", ["java/lang/RuntimeException", "java/lang/Exception"], by decide +kernel, by decide +kernel, by decide +kernel, by decide +kernel, by decide +kernel, by decide +kernel, by decide +kernel, by decide, zck_l1 H, zck_i1 H, zhS_sr H 1043 (by decide +kernel) hown, zoa_ok H h1 h2 zoa_1⟩
theorem th_83_82 (H : zts b s0) (h1 : zhS s0 zir1) (h2 : zhS s0 zir2) {c : ClassId} (hown : s0.vm.findClass "ImageTexts" = some c) : zthr s0 "ImageTexts" (tBt 83) 82 (tEx 2) := ⟨111, 142, 115, "no such value can be", ["java/lang/RuntimeException", "java/lang/Exception"], by decide +kernel, by decide +kernel, by decide +kernel, by decide +kernel, by decide +kernel, by decide +kernel, by decide +kernel, by decide, zck_l2 H, zck_i2 H, zhS_sr H 1051 (by decide +kernel) hown, zoa_ok H h1 h2 zoa_2⟩
theorem th_84_11 (H : zts b s0) (h1 : zhS s0 zir1) (h2 : zhS s0 zir2) {c : ClassId} (hown : s0.vm.findClass "ImageTexts" = some c) : zthr s0 "ImageTexts" (tBt 84) 11 (tEx 0) := ⟨84, 166, 88, "no such aperture", ["java/lang/RuntimeException", "java/lang/Exception"], by decide +kernel, by decide +kernel, by decide +kernel, by decide +kernel, by decide +kernel, by decide +kernel, by decide +kernel, by decide, zck_l0 H, zck_i0 H, zhS_sr H 1062 (by decide +kernel) hown, zoa_ok H h1 h2 zoa_0⟩
theorem th_84_28 (H : zts b s0) (h1 : zhS s0 zir1) (h2 : zhS s0 zir2) {c : ClassId} (hown : s0.vm.findClass "ImageTexts" = some c) : zthr s0 "ImageTexts" (tBt 84) 28 (tEx 1) := ⟨131, 168, 135, "a region is open", ["java/lang/RuntimeException", "java/lang/Exception"], by decide +kernel, by decide +kernel, by decide +kernel, by decide +kernel, by decide +kernel, by decide +kernel, by decide +kernel, by decide, zck_l1 H, zck_i1 H, zhS_sr H 1063 (by decide +kernel) hown, zoa_ok H h1 h2 zoa_1⟩
theorem th_84_47 (H : zts b s0) (h1 : zhS s0 zir1) (h2 : zhS s0 zir2) {c : ClassId} (hown : s0.vm.findClass "ImageTexts" = some c) : zthr s0 "ImageTexts" (tBt 84) 47 (tEx 2) := ⟨111, 173, 115, "no place", ["java/lang/RuntimeException", "java/lang/Exception"], by decide +kernel, by decide +kernel, by decide +kernel, by decide +kernel, by decide +kernel, by decide +kernel, by decide +kernel, by decide, zck_l2 H, zck_i2 H, zhS_sr H 1065 (by decide +kernel) hown, zoa_ok H h1 h2 zoa_2⟩
theorem th_85_11 (H : zts b s0) (h1 : zhS s0 zir1) (h2 : zhS s0 zir2) {c : ClassId} (hown : s0.vm.findClass "ImageTexts" = some c) : zthr s0 "ImageTexts" (tBt 85) 11 (tEx 0) := ⟨84, 166, 88, "no such aperture", ["java/lang/RuntimeException", "java/lang/Exception"], by decide +kernel, by decide +kernel, by decide +kernel, by decide +kernel, by decide +kernel, by decide +kernel, by decide +kernel, by decide, zck_l0 H, zck_i0 H, zhS_sr H 1062 (by decide +kernel) hown, zoa_ok H h1 h2 zoa_0⟩
theorem th_85_28 (H : zts b s0) (h1 : zhS s0 zir1) (h2 : zhS s0 zir2) {c : ClassId} (hown : s0.vm.findClass "ImageTexts" = some c) : zthr s0 "ImageTexts" (tBt 85) 28 (tEx 1) := ⟨131, 168, 135, "a region is open", ["java/lang/RuntimeException", "java/lang/Exception"], by decide +kernel, by decide +kernel, by decide +kernel, by decide +kernel, by decide +kernel, by decide +kernel, by decide +kernel, by decide, zck_l1 H, zck_i1 H, zhS_sr H 1063 (by decide +kernel) hown, zoa_ok H h1 h2 zoa_1⟩
theorem th_85_57 (H : zts b s0) (h1 : zhS s0 zir1) (h2 : zhS s0 zir2) {c : ClassId} (hown : s0.vm.findClass "ImageTexts" = some c) : zthr s0 "ImageTexts" (tBt 85) 57 (tEx 2) := ⟨111, 173, 115, "no place", ["java/lang/RuntimeException", "java/lang/Exception"], by decide +kernel, by decide +kernel, by decide +kernel, by decide +kernel, by decide +kernel, by decide +kernel, by decide +kernel, by decide, zck_l2 H, zck_i2 H, zhS_sr H 1065 (by decide +kernel) hown, zoa_ok H h1 h2 zoa_2⟩
theorem th_85_78 (H : zts b s0) (h1 : zhS s0 zir1) (h2 : zhS s0 zir2) {c : ClassId} (hown : s0.vm.findClass "ImageTexts" = some c) : zthr s0 "ImageTexts" (tBt 85) 78 (tEx 2) := ⟨111, 190, 115, "the aperture is no circle", ["java/lang/RuntimeException", "java/lang/Exception"], by decide +kernel, by decide +kernel, by decide +kernel, by decide +kernel, by decide +kernel, by decide +kernel, by decide +kernel, by decide, zck_l2 H, zck_i2 H, zhS_sr H 1075 (by decide +kernel) hown, zoa_ok H h1 h2 zoa_2⟩
theorem th_89_7 (H : zts b s0) (h1 : zhS s0 zir1) (h2 : zhS s0 zir2) {c : ClassId} (hown : s0.vm.findClass "ImageTexts" = some c) : zthr s0 "ImageTexts" (tBt 89) 7 (tEx 1) := ⟨131, 201, 135, "no region is open", ["java/lang/RuntimeException", "java/lang/Exception"], by decide +kernel, by decide +kernel, by decide +kernel, by decide +kernel, by decide +kernel, by decide +kernel, by decide +kernel, by decide, zck_l1 H, zck_i1 H, zhS_sr H 1084 (by decide +kernel) hown, zoa_ok H h1 h2 zoa_1⟩
theorem th_89_25 (H : zts b s0) (h1 : zhS s0 zir1) (h2 : zhS s0 zir2) {c : ClassId} (hown : s0.vm.findClass "ImageTexts" = some c) : zthr s0 "ImageTexts" (tBt 89) 25 (tEx 2) := ⟨111, 173, 115, "no place", ["java/lang/RuntimeException", "java/lang/Exception"], by decide +kernel, by decide +kernel, by decide +kernel, by decide +kernel, by decide +kernel, by decide +kernel, by decide +kernel, by decide, zck_l2 H, zck_i2 H, zhS_sr H 1065 (by decide +kernel) hown, zoa_ok H h1 h2 zoa_2⟩
theorem th_108_4 (H : zts b s0) (h1 : zhS s0 zir1) (h2 : zhS s0 zir2) {c : ClassId} (hown : s0.vm.findClass "ImageTexts" = some c) : zthr s0 "ImageTexts" (tBt 108) 4 (tEx 0) := ⟨84, 211, 88, "no character is ahead of the first", ["java/lang/RuntimeException", "java/lang/Exception"], by decide +kernel, by decide +kernel, by decide +kernel, by decide +kernel, by decide +kernel, by decide +kernel, by decide +kernel, by decide, zck_l0 H, zck_i0 H, zhS_sr H 1093 (by decide +kernel) hown, zoa_ok H h1 h2 zoa_0⟩
theorem th_115_11 (H : zts b s0) (h1 : zhS s0 zir1) (h2 : zhS s0 zir2) {c : ClassId} (hown : s0.vm.findClass "ImageTexts" = some c) : zthr s0 "ImageTexts" (tBt 115) 11 (tEx 0) := ⟨84, 86, 88, "no such object", ["java/lang/RuntimeException", "java/lang/Exception"], by decide +kernel, by decide +kernel, by decide +kernel, by decide +kernel, by decide +kernel, by decide +kernel, by decide +kernel, by decide, zck_l0 H, zck_i0 H, zhS_sr H 951 (by decide +kernel) hown, zoa_ok H h1 h2 zoa_0⟩
theorem th_116_11 (H : zts b s0) (h1 : zhS s0 zir1) (h2 : zhS s0 zir2) {c : ClassId} (hown : s0.vm.findClass "ImageTexts" = some c) : zthr s0 "ImageTexts" (tBt 116) 11 (tEx 0) := ⟨84, 86, 88, "no such object", ["java/lang/RuntimeException", "java/lang/Exception"], by decide +kernel, by decide +kernel, by decide +kernel, by decide +kernel, by decide +kernel, by decide +kernel, by decide +kernel, by decide, zck_l0 H, zck_i0 H, zhS_sr H 951 (by decide +kernel) hown, zoa_ok H h1 h2 zoa_0⟩
theorem th_116_25 (H : zts b s0) (h1 : zhS s0 zir1) (h2 : zhS s0 zir2) {c : ClassId} (hown : s0.vm.findClass "ImageTexts" = some c) : zthr s0 "ImageTexts" (tBt 116) 25 (tEx 0) := ⟨84, 221, 88, "no letter is ahead of the first", ["java/lang/RuntimeException", "java/lang/Exception"], by decide +kernel, by decide +kernel, by decide +kernel, by decide +kernel, by decide +kernel, by decide +kernel, by decide +kernel, by decide, zck_l0 H, zck_i0 H, zhS_sr H 1211 (by decide +kernel) hown, zoa_ok H h1 h2 zoa_0⟩
theorem th_117_11 (H : zts b s0) (h1 : zhS s0 zir1) (h2 : zhS s0 zir2) {c : ClassId} (hown : s0.vm.findClass "ImageTexts" = some c) : zthr s0 "ImageTexts" (tBt 117) 11 (tEx 2) := ⟨111, 236, 115, "no such repeat can be", ["java/lang/RuntimeException", "java/lang/Exception"], by decide +kernel, by decide +kernel, by decide +kernel, by decide +kernel, by decide +kernel, by decide +kernel, by decide +kernel, by decide, zck_l2 H, zck_i2 H, zhS_sr H 1221 (by decide +kernel) hown, zoa_ok H h1 h2 zoa_2⟩
end ZF
