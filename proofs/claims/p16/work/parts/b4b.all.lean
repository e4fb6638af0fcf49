/-! ALL METHODS' CHECKS TOGETHER -/
def pal : List aC → List (List aK) → Nat → Prop
  | [], _, _ => True
  | _ :: _, [], _ => False
  | c :: q, k :: s, mi => tck mi c k = true ∧ pal q s mi
noncomputable def ncu : List (List aK) → Nat → List aK
  | [], _ => []
  | k :: _, 0 => k
  | _ :: s, i + 1 => ncu s i
theorem pal_ok {mi : Nat} {c : aC} : ∀ {q : List aC} {s : List (List aK)} {i : Nat}, pal q s mi → anth q i = some c → tck mi c (ncu s i) = true
  | [], _, _, _, h => by cases h
  | _ :: _, [], _, h, _ => h.elim
  | x :: q, k :: s, 0, h, e => by
    have e2 : x = c := Option.some.inj e
    subst e2
    exact h.1
  | x :: q, k :: s, i + 1, h, e => pal_ok (q := q) (s := s) (i := i) h.2 e
def pan (p : Nat → Prop) : Nat → Nat → Prop
  | 0, _ => True
  | n + 1, i => p i ∧ pan p n (i + 1)
theorem pan_ok {p : Nat → Prop} : ∀ {n i x : Nat}, pan p n i → i ≤ x → x < i + n → p x
  | 0, i, x, _, h1, h2 => by omega
  | n + 1, i, x, h, h1, h2 => by
    by_cases e : x = i
    · subst e; exact h.1
    · exact pan_ok h.2 (by omega) (by omega)
theorem pa_0 : pal (tct 0) (tcu 0) 0 := ⟨ck_0_0, trivial⟩
theorem pa_1 : pal (tct 1) (tcu 1) 1 := ⟨ck_1_0, trivial⟩
theorem pa_2 : pal (tct 2) (tcu 2) 2 := ⟨ck_2_0, trivial⟩
theorem pa_3 : pal (tct 3) (tcu 3) 3 := ⟨ck_3_0, ck_3_1, trivial⟩
theorem pa_4 : pal (tct 4) (tcu 4) 4 := ⟨ck_4_0, ck_4_1, trivial⟩
theorem pa_5 : pal (tct 5) (tcu 5) 5 := ⟨ck_5_0, ck_5_1, trivial⟩
theorem pa_6 : pal (tct 6) (tcu 6) 6 := ⟨ck_6_0, ck_6_1, trivial⟩
theorem pa_7 : pal (tct 7) (tcu 7) 7 := ⟨ck_7_0, trivial⟩
theorem pa_8 : pal (tct 8) (tcu 8) 8 := ⟨ck_8_0, trivial⟩
theorem pa_9 : pal (tct 9) (tcu 9) 9 := ⟨ck_9_0, trivial⟩
theorem pa_10 : pal (tct 10) (tcu 10) 10 := ⟨ck_10_0, trivial⟩
theorem pa_11 : pal (tct 11) (tcu 11) 11 := ⟨ck_11_0, trivial⟩
theorem pa_12 : pal (tct 12) (tcu 12) 12 := ⟨ck_12_0, trivial⟩
theorem pa_13 : pal (tct 13) (tcu 13) 13 := ⟨ck_13_0, trivial⟩
theorem pa_14 : pal (tct 14) (tcu 14) 14 := ⟨ck_14_0, trivial⟩
theorem pa_15 : pal (tct 15) (tcu 15) 15 := ⟨ck_15_0, trivial⟩
theorem pa_16 : pal (tct 16) (tcu 16) 16 := ⟨ck_16_0, ck_16_1, trivial⟩
theorem pa_17 : pal (tct 17) (tcu 17) 17 := ⟨ck_17_0, trivial⟩
theorem pa_18 : pal (tct 18) (tcu 18) 18 := ⟨ck_18_0, trivial⟩
theorem pa_19 : pal (tct 19) (tcu 19) 19 := ⟨ck_19_0, ck_19_1, trivial⟩
theorem pa_20 : pal (tct 20) (tcu 20) 20 := ⟨ck_20_0, ck_20_1, trivial⟩
theorem pa_21 : pal (tct 21) (tcu 21) 21 := ⟨ck_21_0, trivial⟩
theorem pa_22 : pal (tct 22) (tcu 22) 22 := ⟨ck_22_0, trivial⟩
theorem pa_23 : pal (tct 23) (tcu 23) 23 := ⟨ck_23_0, trivial⟩
theorem pa_24 : pal (tct 24) (tcu 24) 24 := ⟨ck_24_0, trivial⟩
theorem pa_25 : pal (tct 25) (tcu 25) 25 := ⟨ck_25_0, trivial⟩
theorem pa_26 : pal (tct 26) (tcu 26) 26 := ⟨ck_26_0, trivial⟩
theorem pa_27 : pal (tct 27) (tcu 27) 27 := ⟨ck_27_0, trivial⟩
theorem pa_28 : pal (tct 28) (tcu 28) 28 := ⟨ck_28_0, trivial⟩
theorem pa_29 : pal (tct 29) (tcu 29) 29 := ⟨ck_29_0, trivial⟩
theorem pa_30 : pal (tct 30) (tcu 30) 30 := ⟨ck_30_0, trivial⟩
theorem pa_31 : pal (tct 31) (tcu 31) 31 := ⟨ck_31_0, trivial⟩
theorem pa_32 : pal (tct 32) (tcu 32) 32 := ⟨ck_32_0, trivial⟩
theorem pa_33 : pal (tct 33) (tcu 33) 33 := ⟨ck_33_0, trivial⟩
theorem pa_34 : pal (tct 34) (tcu 34) 34 := ⟨ck_34_0, trivial⟩
theorem pa_35 : pal (tct 35) (tcu 35) 35 := ⟨ck_35_0, trivial⟩
theorem pa_36 : pal (tct 36) (tcu 36) 36 := ⟨ck_36_0, trivial⟩
theorem pa_37 : pal (tct 37) (tcu 37) 37 := ⟨ck_37_0, trivial⟩
theorem pa_38 : pal (tct 38) (tcu 38) 38 := ⟨ck_38_0, trivial⟩
theorem pa_39 : pal (tct 39) (tcu 39) 39 := ⟨ck_39_0, trivial⟩
theorem pa_40 : pal (tct 40) (tcu 40) 40 := ⟨ck_40_0, trivial⟩
theorem pa_41 : pal (tct 41) (tcu 41) 41 := ⟨ck_41_0, trivial⟩
theorem pa_42 : pal (tct 42) (tcu 42) 42 := ⟨ck_42_0, trivial⟩
theorem pa_43 : pal (tct 43) (tcu 43) 43 := ⟨ck_43_0, trivial⟩
theorem pa_44 : pal (tct 44) (tcu 44) 44 := ⟨ck_44_0, trivial⟩
theorem pa_45 : pal (tct 45) (tcu 45) 45 := ⟨ck_45_0, trivial⟩
theorem pa_46 : pal (tct 46) (tcu 46) 46 := ⟨ck_46_0, trivial⟩
theorem pa_47 : pal (tct 47) (tcu 47) 47 := ⟨ck_47_0, trivial⟩
theorem pa_48 : pal (tct 48) (tcu 48) 48 := ⟨ck_48_0, trivial⟩
theorem pa_49 : pal (tct 49) (tcu 49) 49 := ⟨ck_49_0, trivial⟩
theorem pa_50 : pal (tct 50) (tcu 50) 50 := ⟨ck_50_0, trivial⟩
theorem pa_51 : pal (tct 51) (tcu 51) 51 := ⟨ck_51_0, trivial⟩
theorem pa_52 : pal (tct 52) (tcu 52) 52 := ⟨ck_52_0, trivial⟩
theorem pa_53 : pal (tct 53) (tcu 53) 53 := ⟨ck_53_0, trivial⟩
theorem pa_54 : pal (tct 54) (tcu 54) 54 := ⟨ck_54_0, trivial⟩
theorem pa_55 : pal (tct 55) (tcu 55) 55 := ⟨ck_55_0, trivial⟩
theorem pa_56 : pal (tct 56) (tcu 56) 56 := ⟨ck_56_0, trivial⟩
theorem pa_57 : pal (tct 57) (tcu 57) 57 := ⟨ck_57_0, trivial⟩
theorem pa_58 : pal (tct 58) (tcu 58) 58 := ⟨ck_58_0, trivial⟩
theorem pa_59 : pal (tct 59) (tcu 59) 59 := ⟨ck_59_0, trivial⟩
theorem pa_60 : pal (tct 60) (tcu 60) 60 := ⟨ck_60_0, trivial⟩
theorem pa_61 : pal (tct 61) (tcu 61) 61 := ⟨ck_61_0, trivial⟩
theorem pa_62 : pal (tct 62) (tcu 62) 62 := ⟨ck_62_0, trivial⟩
theorem pa_63 : pal (tct 63) (tcu 63) 63 := ⟨ck_63_0, trivial⟩
theorem pa_64 : pal (tct 64) (tcu 64) 64 := ⟨ck_64_0, trivial⟩
theorem pa_65 : pal (tct 65) (tcu 65) 65 := ⟨ck_65_0, trivial⟩
theorem pa_66 : pal (tct 66) (tcu 66) 66 := ⟨ck_66_0, trivial⟩
theorem pa_67 : pal (tct 67) (tcu 67) 67 := ⟨ck_67_0, trivial⟩
theorem pa_68 : pal (tct 68) (tcu 68) 68 := ⟨ck_68_0, trivial⟩
theorem pa_69 : pal (tct 69) (tcu 69) 69 := ⟨ck_69_0, trivial⟩
theorem pa_70 : pal (tct 70) (tcu 70) 70 := ⟨ck_70_0, trivial⟩
theorem pa_71 : pal (tct 71) (tcu 71) 71 := ⟨ck_71_0, trivial⟩
theorem pa_72 : pal (tct 72) (tcu 72) 72 := ⟨ck_72_0, trivial⟩
theorem pa_73 : pal (tct 73) (tcu 73) 73 := ⟨ck_73_0, trivial⟩
theorem pa_74 : pal (tct 74) (tcu 74) 74 := ⟨ck_74_0, trivial⟩
theorem pa_75 : pal (tct 75) (tcu 75) 75 := ⟨ck_75_0, trivial⟩
theorem pa_76 : pal (tct 76) (tcu 76) 76 := ⟨ck_76_0, trivial⟩
theorem pa_77 : pal (tct 77) (tcu 77) 77 := ⟨ck_77_0, trivial⟩
theorem pa_78 : pal (tct 78) (tcu 78) 78 := ⟨ck_78_0, trivial⟩
theorem pa_79 : pal (tct 79) (tcu 79) 79 := ⟨ck_79_0, trivial⟩
theorem pa_80 : pal (tct 80) (tcu 80) 80 := ⟨ck_80_0, trivial⟩
theorem pa_81 : pal (tct 81) (tcu 81) 81 := ⟨ck_81_0, trivial⟩
theorem pa_82 : pal (tct 82) (tcu 82) 82 := ⟨ck_82_0, trivial⟩
theorem pa_83 : pal (tct 83) (tcu 83) 83 := ⟨ck_83_0, trivial⟩
theorem pa_84 : pal (tct 84) (tcu 84) 84 := ⟨ck_84_0, trivial⟩
theorem pa_85 : pal (tct 85) (tcu 85) 85 := ⟨ck_85_0, trivial⟩
theorem pa_86 : pal (tct 86) (tcu 86) 86 := ⟨ck_86_0, trivial⟩
theorem pa_87 : pal (tct 87) (tcu 87) 87 := ⟨ck_87_0, trivial⟩
theorem pa_88 : pal (tct 88) (tcu 88) 88 := ⟨ck_88_0, trivial⟩
theorem pa_89 : pal (tct 89) (tcu 89) 89 := ⟨ck_89_0, trivial⟩
theorem pa_90 : pal (tct 90) (tcu 90) 90 := ⟨ck_90_0, trivial⟩
theorem pa_91 : pal (tct 91) (tcu 91) 91 := ⟨ck_91_0, trivial⟩
theorem pa_92 : pal (tct 92) (tcu 92) 92 := ⟨ck_92_0, trivial⟩
theorem pa_93 : pal (tct 93) (tcu 93) 93 := ⟨ck_93_0, trivial⟩
theorem pa_94 : pal (tct 94) (tcu 94) 94 := ⟨ck_94_0, trivial⟩
theorem pa_95 : pal (tct 95) (tcu 95) 95 := ⟨ck_95_0, trivial⟩
theorem pa_96 : pal (tct 96) (tcu 96) 96 := ⟨ck_96_0, trivial⟩
theorem pa_97 : pal (tct 97) (tcu 97) 97 := ⟨ck_97_0, ck_97_1, trivial⟩
theorem pa_98 : pal (tct 98) (tcu 98) 98 := ⟨ck_98_0, trivial⟩
theorem pa_99 : pal (tct 99) (tcu 99) 99 := ⟨ck_99_0, trivial⟩
theorem pa_100 : pal (tct 100) (tcu 100) 100 := ⟨ck_100_0, trivial⟩
theorem pa_101 : pal (tct 101) (tcu 101) 101 := ⟨ck_101_0, trivial⟩
theorem pa_102 : pal (tct 102) (tcu 102) 102 := ⟨ck_102_0, trivial⟩
theorem pa_103 : pal (tct 103) (tcu 103) 103 := ⟨ck_103_0, trivial⟩
theorem pa_104 : pal (tct 104) (tcu 104) 104 := ⟨ck_104_0, trivial⟩
theorem pa_105 : pal (tct 105) (tcu 105) 105 := ⟨ck_105_0, trivial⟩
theorem pa_106 : pal (tct 106) (tcu 106) 106 := ⟨ck_106_0, trivial⟩
theorem pa_107 : pal (tct 107) (tcu 107) 107 := ⟨ck_107_0, trivial⟩
theorem pa_108 : pal (tct 108) (tcu 108) 108 := ⟨ck_108_0, trivial⟩
theorem pa_109 : pal (tct 109) (tcu 109) 109 := ⟨ck_109_0, trivial⟩
theorem pa_110 : pal (tct 110) (tcu 110) 110 := ⟨ck_110_0, trivial⟩
theorem pa_111 : pal (tct 111) (tcu 111) 111 := ⟨ck_111_0, trivial⟩
theorem pa_112 : pal (tct 112) (tcu 112) 112 := ⟨ck_112_0, trivial⟩
theorem pa_113 : pal (tct 113) (tcu 113) 113 := ⟨ck_113_0, trivial⟩
theorem pa_114 : pal (tct 114) (tcu 114) 114 := ⟨ck_114_0, trivial⟩
theorem pa_115 : pal (tct 115) (tcu 115) 115 := ⟨ck_115_0, trivial⟩
theorem pa_116 : pal (tct 116) (tcu 116) 116 := ⟨ck_116_0, trivial⟩
theorem pa_117 : pal (tct 117) (tcu 117) 117 := ⟨ck_117_0, trivial⟩
theorem pa_118 : pal (tct 118) (tcu 118) 118 := ⟨ck_118_0, trivial⟩
theorem pa_119 : pal (tct 119) (tcu 119) 119 := ⟨ck_119_0, trivial⟩
theorem pa_120 : pal (tct 120) (tcu 120) 120 := ⟨ck_120_0, ck_120_1, trivial⟩
theorem pa_121 : pal (tct 121) (tcu 121) 121 := ⟨ck_121_0, trivial⟩
theorem pa_122 : pal (tct 122) (tcu 122) 122 := ⟨ck_122_0, trivial⟩
theorem pa_123 : pal (tct 123) (tcu 123) 123 := ⟨ck_123_0, trivial⟩
theorem pa_124 : pal (tct 124) (tcu 124) 124 := ⟨ck_124_0, trivial⟩
theorem pa_125 : pal (tct 125) (tcu 125) 125 := ⟨ck_125_0, trivial⟩
theorem pa_126 : pal (tct 126) (tcu 126) 126 := ⟨ck_126_0, ck_126_1, ck_126_2, ck_126_3, trivial⟩
theorem pa_127 : pal (tct 127) (tcu 127) 127 := ⟨ck_127_0, trivial⟩
theorem pa_128 : pal (tct 128) (tcu 128) 128 := ⟨ck_128_0, trivial⟩
theorem pa_129 : pal (tct 129) (tcu 129) 129 := ⟨ck_129_0, trivial⟩
theorem pa_130 : pal (tct 130) (tcu 130) 130 := ⟨ck_130_0, trivial⟩
theorem pa_131 : pal (tct 131) (tcu 131) 131 := ⟨ck_131_0, trivial⟩
theorem pa_132 : pal (tct 132) (tcu 132) 132 := ⟨ck_132_0, trivial⟩
theorem pa_133 : pal (tct 133) (tcu 133) 133 := ⟨ck_133_0, trivial⟩
theorem pa_134 : pal (tct 134) (tcu 134) 134 := ⟨ck_134_0, trivial⟩
theorem pa_135 : pal (tct 135) (tcu 135) 135 := ⟨ck_135_0, trivial⟩
theorem pa_136 : pal (tct 136) (tcu 136) 136 := ⟨ck_136_0, trivial⟩
theorem pa_137 : pal (tct 137) (tcu 137) 137 := ⟨ck_137_0, trivial⟩
theorem pa_138 : pal (tct 138) (tcu 138) 138 := ⟨ck_138_0, trivial⟩
theorem pa_139 : pal (tct 139) (tcu 139) 139 := ⟨ck_139_0, trivial⟩
theorem pa_140 : pal (tct 140) (tcu 140) 140 := ⟨ck_140_0, ck_140_1, ck_140_2, ck_140_3, trivial⟩
theorem pa_141 : pal (tct 141) (tcu 141) 141 := ⟨ck_141_0, trivial⟩
theorem pa_142 : pal (tct 142) (tcu 142) 142 := ⟨ck_142_0, ck_142_1, trivial⟩
theorem pa_143 : pal (tct 143) (tcu 143) 143 := ⟨ck_143_0, trivial⟩
theorem pa_144 : pal (tct 144) (tcu 144) 144 := ⟨ck_144_0, trivial⟩
theorem pa_145 : pal (tct 145) (tcu 145) 145 := ⟨ck_145_0, trivial⟩
theorem pa_146 : pal (tct 146) (tcu 146) 146 := ⟨ck_146_0, trivial⟩
theorem pa_147 : pal (tct 147) (tcu 147) 147 := ⟨ck_147_0, trivial⟩
theorem pa_148 : pal (tct 148) (tcu 148) 148 := ⟨ck_148_0, trivial⟩
theorem pa_149 : pal (tct 149) (tcu 149) 149 := ⟨ck_149_0, trivial⟩
theorem pa_150 : pal (tct 150) (tcu 150) 150 := ⟨ck_150_0, trivial⟩
theorem pa_151 : pal (tct 151) (tcu 151) 151 := ⟨ck_151_0, trivial⟩
theorem pa_152 : pal (tct 152) (tcu 152) 152 := ⟨ck_152_0, trivial⟩
theorem pa_153 : pal (tct 153) (tcu 153) 153 := ⟨ck_153_0, trivial⟩
theorem pa_154 : pal (tct 154) (tcu 154) 154 := ⟨ck_154_0, trivial⟩
theorem pa_155 : pal (tct 155) (tcu 155) 155 := ⟨ck_155_0, trivial⟩
theorem pa_156 : pal (tct 156) (tcu 156) 156 := ⟨ck_156_0, trivial⟩
theorem pa_157 : pal (tct 157) (tcu 157) 157 := ⟨ck_157_0, trivial⟩
theorem pa_158 : pal (tct 158) (tcu 158) 158 := ⟨ck_158_0, trivial⟩
theorem pa_159 : pal (tct 159) (tcu 159) 159 := ⟨ck_159_0, trivial⟩
theorem pa_160 : pal (tct 160) (tcu 160) 160 := ⟨ck_160_0, trivial⟩
theorem pa_161 : pal (tct 161) (tcu 161) 161 := ⟨ck_161_0, trivial⟩
theorem pa_162 : pal (tct 162) (tcu 162) 162 := ⟨ck_162_0, trivial⟩
theorem pa_163 : pal (tct 163) (tcu 163) 163 := ⟨ck_163_0, trivial⟩
theorem pa_164 : pal (tct 164) (tcu 164) 164 := ⟨ck_164_0, trivial⟩
theorem pa_165 : pal (tct 165) (tcu 165) 165 := ⟨ck_165_0, trivial⟩
theorem pa_166 : pal (tct 166) (tcu 166) 166 := ⟨ck_166_0, trivial⟩
theorem pa_167 : pal (tct 167) (tcu 167) 167 := ⟨ck_167_0, trivial⟩
theorem pa_168 : pal (tct 168) (tcu 168) 168 := ⟨ck_168_0, trivial⟩
theorem pa_169 : pal (tct 169) (tcu 169) 169 := ⟨ck_169_0, trivial⟩
theorem pa_170 : pal (tct 170) (tcu 170) 170 := ⟨ck_170_0, trivial⟩
theorem pa_171 : pal (tct 171) (tcu 171) 171 := ⟨ck_171_0, trivial⟩
theorem pa_172 : pal (tct 172) (tcu 172) 172 := ⟨ck_172_0, trivial⟩
theorem pa_173 : pal (tct 173) (tcu 173) 173 := ⟨ck_173_0, trivial⟩
theorem pa_174 : pal (tct 174) (tcu 174) 174 := ⟨ck_174_0, trivial⟩
theorem pa_175 : pal (tct 175) (tcu 175) 175 := ⟨ck_175_0, trivial⟩
theorem pa_176 : pal (tct 176) (tcu 176) 176 := ⟨ck_176_0, trivial⟩
theorem pa_177 : pal (tct 177) (tcu 177) 177 := ⟨ck_177_0, trivial⟩
theorem pa_178 : pal (tct 178) (tcu 178) 178 := ⟨ck_178_0, trivial⟩
theorem pa_179 : pal (tct 179) (tcu 179) 179 := ⟨ck_179_0, trivial⟩
theorem pa_180 : pal (tct 180) (tcu 180) 180 := ⟨ck_180_0, trivial⟩
theorem pa_181 : pal (tct 181) (tcu 181) 181 := ⟨ck_181_0, trivial⟩
theorem pa_182 : pal (tct 182) (tcu 182) 182 := ⟨ck_182_0, trivial⟩
theorem pa_183 : pal (tct 183) (tcu 183) 183 := ⟨ck_183_0, trivial⟩
theorem pa_184 : pal (tct 184) (tcu 184) 184 := ⟨ck_184_0, trivial⟩
theorem pa_185 : pal (tct 185) (tcu 185) 185 := ⟨ck_185_0, trivial⟩
theorem pa_186 : pal (tct 186) (tcu 186) 186 := ⟨ck_186_0, trivial⟩
theorem pa_187 : pal (tct 187) (tcu 187) 187 := ⟨ck_187_0, trivial⟩
theorem pa_188 : pal (tct 188) (tcu 188) 188 := ⟨ck_188_0, trivial⟩
theorem pa_189 : pal (tct 189) (tcu 189) 189 := ⟨ck_189_0, trivial⟩
theorem pa_190 : pal (tct 190) (tcu 190) 190 := ⟨ck_190_0, trivial⟩
theorem pa_191 : pal (tct 191) (tcu 191) 191 := ⟨ck_191_0, trivial⟩
theorem pa_192 : pal (tct 192) (tcu 192) 192 := ⟨ck_192_0, trivial⟩
theorem pa_193 : pal (tct 193) (tcu 193) 193 := ⟨ck_193_0, trivial⟩
theorem pa_194 : pal (tct 194) (tcu 194) 194 := ⟨ck_194_0, trivial⟩
theorem pa_195 : pal (tct 195) (tcu 195) 195 := ⟨ck_195_0, trivial⟩
theorem pa_196 : pal (tct 196) (tcu 196) 196 := ⟨ck_196_0, trivial⟩
theorem pa_197 : pal (tct 197) (tcu 197) 197 := ⟨ck_197_0, trivial⟩
theorem pa_198 : pal (tct 198) (tcu 198) 198 := ⟨ck_198_0, trivial⟩
theorem pa_199 : pal (tct 199) (tcu 199) 199 := ⟨ck_199_0, trivial⟩
theorem pa_200 : pal (tct 200) (tcu 200) 200 := ⟨ck_200_0, trivial⟩
theorem pa_201 : pal (tct 201) (tcu 201) 201 := trivial
theorem pa_202 : pal (tct 202) (tcu 202) 202 := trivial
theorem pa_203 : pal (tct 203) (tcu 203) 203 := trivial
theorem pa_204 : pal (tct 204) (tcu 204) 204 := trivial
theorem pa_205 : pal (tct 205) (tcu 205) 205 := trivial
theorem pa_206 : pal (tct 206) (tcu 206) 206 := trivial
theorem pa_207 : pal (tct 207) (tcu 207) 207 := trivial
theorem pa_208 : pal (tct 208) (tcu 208) 208 := trivial
theorem pa_209 : pal (tct 209) (tcu 209) 209 := trivial
theorem pa_210 : pal (tct 210) (tcu 210) 210 := trivial
theorem pa_211 : pal (tct 211) (tcu 211) 211 := trivial
theorem pa_212 : pal (tct 212) (tcu 212) 212 := trivial
theorem pa_213 : pal (tct 213) (tcu 213) 213 := trivial
theorem pb_0 : pan (fun x => pal (tct x) (tcu x) x) 30 0 := ⟨pa_0, pa_1, pa_2, pa_3, pa_4, pa_5, pa_6, pa_7, pa_8, pa_9, pa_10, pa_11, pa_12, pa_13, pa_14, pa_15, pa_16, pa_17, pa_18, pa_19, pa_20, pa_21, pa_22, pa_23, pa_24, pa_25, pa_26, pa_27, pa_28, pa_29, trivial⟩
theorem pb_30 : pan (fun x => pal (tct x) (tcu x) x) 30 30 := ⟨pa_30, pa_31, pa_32, pa_33, pa_34, pa_35, pa_36, pa_37, pa_38, pa_39, pa_40, pa_41, pa_42, pa_43, pa_44, pa_45, pa_46, pa_47, pa_48, pa_49, pa_50, pa_51, pa_52, pa_53, pa_54, pa_55, pa_56, pa_57, pa_58, pa_59, trivial⟩
theorem pb_60 : pan (fun x => pal (tct x) (tcu x) x) 30 60 := ⟨pa_60, pa_61, pa_62, pa_63, pa_64, pa_65, pa_66, pa_67, pa_68, pa_69, pa_70, pa_71, pa_72, pa_73, pa_74, pa_75, pa_76, pa_77, pa_78, pa_79, pa_80, pa_81, pa_82, pa_83, pa_84, pa_85, pa_86, pa_87, pa_88, pa_89, trivial⟩
theorem pb_90 : pan (fun x => pal (tct x) (tcu x) x) 30 90 := ⟨pa_90, pa_91, pa_92, pa_93, pa_94, pa_95, pa_96, pa_97, pa_98, pa_99, pa_100, pa_101, pa_102, pa_103, pa_104, pa_105, pa_106, pa_107, pa_108, pa_109, pa_110, pa_111, pa_112, pa_113, pa_114, pa_115, pa_116, pa_117, pa_118, pa_119, trivial⟩
theorem pb_120 : pan (fun x => pal (tct x) (tcu x) x) 30 120 := ⟨pa_120, pa_121, pa_122, pa_123, pa_124, pa_125, pa_126, pa_127, pa_128, pa_129, pa_130, pa_131, pa_132, pa_133, pa_134, pa_135, pa_136, pa_137, pa_138, pa_139, pa_140, pa_141, pa_142, pa_143, pa_144, pa_145, pa_146, pa_147, pa_148, pa_149, trivial⟩
theorem pb_150 : pan (fun x => pal (tct x) (tcu x) x) 30 150 := ⟨pa_150, pa_151, pa_152, pa_153, pa_154, pa_155, pa_156, pa_157, pa_158, pa_159, pa_160, pa_161, pa_162, pa_163, pa_164, pa_165, pa_166, pa_167, pa_168, pa_169, pa_170, pa_171, pa_172, pa_173, pa_174, pa_175, pa_176, pa_177, pa_178, pa_179, trivial⟩
theorem pb_180 : pan (fun x => pal (tct x) (tcu x) x) 30 180 := ⟨pa_180, pa_181, pa_182, pa_183, pa_184, pa_185, pa_186, pa_187, pa_188, pa_189, pa_190, pa_191, pa_192, pa_193, pa_194, pa_195, pa_196, pa_197, pa_198, pa_199, pa_200, pa_201, pa_202, pa_203, pa_204, pa_205, pa_206, pa_207, pa_208, pa_209, trivial⟩
theorem pb_210 : pan (fun x => pal (tct x) (tcu x) x) 4 210 := ⟨pa_210, pa_211, pa_212, pa_213, trivial⟩
theorem pc_all (x : Nat) : pal (tct x) (tcu x) x := by
  by_cases h0 : x < 30
  · exact pan_ok (p := fun x => pal (tct x) (tcu x) x) pb_0 (by omega) (by omega)
  by_cases h30 : x < 60
  · exact pan_ok (p := fun x => pal (tct x) (tcu x) x) pb_30 (by omega) (by omega)
  by_cases h60 : x < 90
  · exact pan_ok (p := fun x => pal (tct x) (tcu x) x) pb_60 (by omega) (by omega)
  by_cases h90 : x < 120
  · exact pan_ok (p := fun x => pal (tct x) (tcu x) x) pb_90 (by omega) (by omega)
  by_cases h120 : x < 150
  · exact pan_ok (p := fun x => pal (tct x) (tcu x) x) pb_120 (by omega) (by omega)
  by_cases h150 : x < 180
  · exact pan_ok (p := fun x => pal (tct x) (tcu x) x) pb_150 (by omega) (by omega)
  by_cases h180 : x < 210
  · exact pan_ok (p := fun x => pal (tct x) (tcu x) x) pb_180 (by omega) (by omega)
  by_cases h210 : x < 214
  · exact pan_ok (p := fun x => pal (tct x) (tcu x) x) pb_210 (by omega) (by omega)
  have h : Nat.ble x 213 = false := by
    rw [Bool.eq_false_iff]
    intro h
    have := Nat.le_of_ble_eq_true h
    omega
  have e : tct x = [] := by
    unfold tct
    rw [h]
    rfl
  rw [e]
  exact trivial
theorem pd_all (mi i : Nat) (c : aC) (h : anth (tct mi) i = some c) : amck tM tsb (fun mj => bif Nat.ble (mj + 1) mi then tct mj else []) mi c (ncu (tcu mi) i) 400 0 (0, []) = true := pal_ok (pc_all mi) h
