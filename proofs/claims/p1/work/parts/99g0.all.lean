/-! ALL OF IT TOGETHER -/
section ZY
variable {b : Addr} {s0 : State} {D : va_G} {ca : Nat → ClassId}
theorem th_one {own : String} {cc : ByteArray} {pc k : Nat} (h : zthr s0 own cc pc (tEx k)) : ∀ q ∈ [((pc, k) : Nat × Nat)], zthr s0 own cc q.1 (tEx q.2) := fun q hq => by
  rw [List.mem_singleton] at hq
  subst hq
  exact h
theorem th_two {own : String} {cc : ByteArray} {pc k pc9 k9 : Nat} (h : zthr s0 own cc pc (tEx k)) (h9 : zthr s0 own cc pc9 (tEx k9)) : ∀ q ∈ [((pc, k) : Nat × Nat), (pc9, k9)], zthr s0 own cc q.1 (tEx q.2) := fun q hq => by
  rcases List.mem_cons.mp hq with hq | hq
  · subst hq
    exact h
  · rw [List.mem_singleton] at hq
    subst hq
    exact h9
def zpk (s0 : State) (D : va_G) (ca : Nat → ClassId) (j : Nat) : Prop := ∀ pc e, pc < 2048 → zget 11 (tM.1 j) pc = some e → zok tM tY tBt tHh tRt tRm tEx s0 D ca tty j pc e
theorem kk_1 (H : zts b s0) (hX : zfx s0 D ca) (hB : ∀ mj, 1 ≤ mj → mj < 97 → zcB s0 mj) : zpk s0 D ca 1 := fun pc e hp he => zen hX zdf_all hB (own := "ImageTexts$Aperture") (by decide +kernel) (by decide +kernel) (dw_0 H) (fun _ h => absurd h List.not_mem_nil) (zck_ok ck_1 hp (Nat.zero_le _) hp he)
theorem kk_2 (H : zts b s0) (hX : zfx s0 D ca) (hB : ∀ mj, 1 ≤ mj → mj < 97 → zcB s0 mj) : zpk s0 D ca 2 := fun pc e hp he => zen hX zdf_all hB (own := "ImageTexts$Grid") (by decide +kernel) (by decide +kernel) (dw_1 H) (fun _ h => absurd h List.not_mem_nil) (zck_ok ck_2 hp (Nat.zero_le _) hp he)
theorem kk_3 (H : zts b s0) (hX : zfx s0 D ca) (hB : ∀ mj, 1 ≤ mj → mj < 97 → zcB s0 mj) : zpk s0 D ca 3 := fun pc e hp he => zen hX zdf_all hB (own := "ImageTexts$Grid") (by decide +kernel) (by decide +kernel) (dw_1 H) (fun _ h => absurd h List.not_mem_nil) (zck_ok ck_3 hp (Nat.zero_le _) hp he)
theorem kk_4 (H : zts b s0) (hX : zfx s0 D ca) (hB : ∀ mj, 1 ≤ mj → mj < 97 → zcB s0 mj) : zpk s0 D ca 4 := fun pc e hp he => zen hX zdf_all hB (own := "ImageTexts$Grid") (by decide +kernel) (by decide +kernel) (dw_1 H) (fun _ h => absurd h List.not_mem_nil) (zck_ok ck_4 hp (Nat.zero_le _) hp he)
theorem kk_5 (H : zts b s0) (hX : zfx s0 D ca) (hB : ∀ mj, 1 ≤ mj → mj < 97 → zcB s0 mj) : zpk s0 D ca 5 := fun pc e hp he => zen hX zdf_all hB (own := "ImageTexts$Grid") (by decide +kernel) (by decide +kernel) (dw_1 H) (fun _ h => absurd h List.not_mem_nil) (zck_ok ck_5 hp (Nat.zero_le _) hp he)
theorem kk_6 (H : zts b s0) (hX : zfx s0 D ca) (hB : ∀ mj, 1 ≤ mj → mj < 97 → zcB s0 mj) : zpk s0 D ca 6 := fun pc e hp he => zen hX zdf_all hB (own := "ImageTexts$Image") (by decide +kernel) (by decide +kernel) (dw_2 H) (fun _ h => absurd h List.not_mem_nil) (zck_ok ck_6 hp (Nat.zero_le _) hp he)
theorem kk_7 (H : zts b s0) (hX : zfx s0 D ca) (hB : ∀ mj, 1 ≤ mj → mj < 97 → zcB s0 mj) : zpk s0 D ca 7 := fun pc e hp he => zen hX zdf_all hB (own := "ImageTexts$Image") (by decide +kernel) (by decide +kernel) (dw_2 H) (fun _ h => absurd h List.not_mem_nil) (zck_ok ck_7 hp (Nat.zero_le _) hp he)
theorem kk_8 (H : zts b s0) (hX : zfx s0 D ca) (hB : ∀ mj, 1 ≤ mj → mj < 97 → zcB s0 mj) : zpk s0 D ca 8 := fun pc e hp he => zen hX zdf_all hB (own := "ImageTexts$Image") (by decide +kernel) (by decide +kernel) (dw_2 H) (fun _ h => absurd h List.not_mem_nil) (zck_ok ck_8 hp (Nat.zero_le _) hp he)
theorem kk_9 (H : zts b s0) (hX : zfx s0 D ca) (hB : ∀ mj, 1 ≤ mj → mj < 97 → zcB s0 mj) : zpk s0 D ca 9 := fun pc e hp he => zen hX zdf_all hB (own := "ImageTexts$Image") (by decide +kernel) (by decide +kernel) (dw_2 H) (fun _ h => absurd h List.not_mem_nil) (zck_ok ck_9 hp (Nat.zero_le _) hp he)
theorem kk_10 (H : zts b s0) (hX : zfx s0 D ca) (hB : ∀ mj, 1 ≤ mj → mj < 97 → zcB s0 mj) : zpk s0 D ca 10 := fun pc e hp he => zen hX zdf_all hB (own := "ImageTexts$Image") (by decide +kernel) (by decide +kernel) (dw_2 H) (fun _ h => absurd h List.not_mem_nil) (zck_ok ck_10 hp (Nat.zero_le _) hp he)
theorem kk_11 (H : zts b s0) (hX : zfx s0 D ca) (hB : ∀ mj, 1 ≤ mj → mj < 97 → zcB s0 mj) : zpk s0 D ca 11 := fun pc e hp he => zen hX zdf_all hB (own := "ImageTexts$Image") (by decide +kernel) (by decide +kernel) (dw_2 H) (fun _ h => absurd h List.not_mem_nil) (zck_ok ck_11 hp (Nat.zero_le _) hp he)
theorem kk_12 (H : zts b s0) (hX : zfx s0 D ca) (hB : ∀ mj, 1 ≤ mj → mj < 97 → zcB s0 mj) : zpk s0 D ca 12 := fun pc e hp he => zen hX zdf_all hB (own := "ImageTexts$Image") (by decide +kernel) (by decide +kernel) (dw_2 H) (fun _ h => absurd h List.not_mem_nil) (zck_ok ck_12 hp (Nat.zero_le _) hp he)
theorem kk_13 (H : zts b s0) (hX : zfx s0 D ca) (hB : ∀ mj, 1 ≤ mj → mj < 97 → zcB s0 mj) : zpk s0 D ca 13 := fun pc e hp he => zen hX zdf_all hB (own := "ImageTexts$Image") (by decide +kernel) (by decide +kernel) (dw_2 H) (fun _ h => absurd h List.not_mem_nil) (zck_ok ck_13 hp (Nat.zero_le _) hp he)
theorem kk_14 (H : zts b s0) (hX : zfx s0 D ca) (hB : ∀ mj, 1 ≤ mj → mj < 97 → zcB s0 mj) : zpk s0 D ca 14 := fun pc e hp he => zen hX zdf_all hB (own := "ImageTexts$Image") (by decide +kernel) (by decide +kernel) (dw_2 H) (fun _ h => absurd h List.not_mem_nil) (zck_ok ck_14 hp (Nat.zero_le _) hp he)
theorem kk_15 (H : zts b s0) (hX : zfx s0 D ca) (hB : ∀ mj, 1 ≤ mj → mj < 97 → zcB s0 mj) : zpk s0 D ca 15 := fun pc e hp he => zen hX zdf_all hB (own := "ImageTexts$Image") (by decide +kernel) (by decide +kernel) (dw_2 H) (fun _ h => absurd h List.not_mem_nil) (zck_ok ck_15 hp (Nat.zero_le _) hp he)
theorem kk_16 (H : zts b s0) (hX : zfx s0 D ca) (hB : ∀ mj, 1 ≤ mj → mj < 97 → zcB s0 mj) : zpk s0 D ca 16 := fun pc e hp he => zen hX zdf_all hB (own := "ImageTexts$Image") (by decide +kernel) (by decide +kernel) (dw_2 H) (fun _ h => absurd h List.not_mem_nil) (zck_ok ck_16 hp (Nat.zero_le _) hp he)
theorem kk_17 (H : zts b s0) (hX : zfx s0 D ca) (hB : ∀ mj, 1 ≤ mj → mj < 97 → zcB s0 mj) : zpk s0 D ca 17 := fun pc e hp he => zen hX zdf_all hB (own := "ImageTexts$Item") (by decide +kernel) (by decide +kernel) (dw_3 H) (fun _ h => absurd h List.not_mem_nil) (zck_ok ck_17 hp (Nat.zero_le _) hp he)
theorem kk_18 (H : zts b s0) (hX : zfx s0 D ca) (hB : ∀ mj, 1 ≤ mj → mj < 97 → zcB s0 mj) : zpk s0 D ca 18 := fun pc e hp he => zen hX zdf_all hB (own := "ImageTexts$Item") (by decide +kernel) (by decide +kernel) (dw_3 H) (fun _ h => absurd h List.not_mem_nil) (zck_ok ck_18 hp (Nat.zero_le _) hp he)
theorem kk_19 (H : zts b s0) (hX : zfx s0 D ca) (hB : ∀ mj, 1 ≤ mj → mj < 97 → zcB s0 mj) : zpk s0 D ca 19 := fun pc e hp he => zen hX zdf_all hB (own := "ImageTexts$Item") (by decide +kernel) (by decide +kernel) (dw_3 H) (fun _ h => absurd h List.not_mem_nil) (zck_ok ck_19 hp (Nat.zero_le _) hp he)
theorem kk_20 (H : zts b s0) (hX : zfx s0 D ca) (hB : ∀ mj, 1 ≤ mj → mj < 97 → zcB s0 mj) : zpk s0 D ca 20 := fun pc e hp he => zen hX zdf_all hB (own := "ImageTexts$Item") (by decide +kernel) (by decide +kernel) (dw_3 H) (fun _ h => absurd h List.not_mem_nil) (zck_ok ck_20 hp (Nat.zero_le _) hp he)
theorem kk_21 (H : zts b s0) (hX : zfx s0 D ca) (hB : ∀ mj, 1 ≤ mj → mj < 97 → zcB s0 mj) : zpk s0 D ca 21 := fun pc e hp he => zen hX zdf_all hB (own := "ImageTexts$Macro") (by decide +kernel) (by decide +kernel) (dw_4 H) (fun _ h => absurd h List.not_mem_nil) (zck_ok ck_21 hp (Nat.zero_le _) hp he)
theorem kk_22 (H : zts b s0) (hX : zfx s0 D ca) (hB : ∀ mj, 1 ≤ mj → mj < 97 → zcB s0 mj) : zpk s0 D ca 22 := fun pc e hp he => zen hX zdf_all hB (own := "ImageTexts$Macro") (by decide +kernel) (by decide +kernel) (dw_4 H) (fun _ h => absurd h List.not_mem_nil) (zck_ok ck_22 hp (Nat.zero_le _) hp he)
theorem kk_23 (H : zts b s0) (hX : zfx s0 D ca) (hB : ∀ mj, 1 ≤ mj → mj < 97 → zcB s0 mj) : zpk s0 D ca 23 := fun pc e hp he => zen hX zdf_all hB (own := "ImageTexts$Name") (by decide +kernel) (by decide +kernel) (dw_5 H) (fun _ h => absurd h List.not_mem_nil) (zck_ok ck_23 hp (Nat.zero_le _) hp he)
theorem kk_24 (H : zts b s0) (hX : zfx s0 D ca) (hB : ∀ mj, 1 ≤ mj → mj < 97 → zcB s0 mj) : zpk s0 D ca 24 := fun pc e hp he => zen hX zdf_all hB (own := "ImageTexts$Primitive") (by decide +kernel) (by decide +kernel) (dw_6 H) (fun _ h => absurd h List.not_mem_nil) (zck_ok ck_24 hp (Nat.zero_le _) hp he)
theorem kk_25 (H : zts b s0) (hX : zfx s0 D ca) (hB : ∀ mj, 1 ≤ mj → mj < 97 → zcB s0 mj) : zpk s0 D ca 25 := fun pc e hp he => zen hX zdf_all hB (own := "ImageTexts$Primitive") (by decide +kernel) (by decide +kernel) (dw_6 H) (fun _ h => absurd h List.not_mem_nil) (zck_ok ck_25 hp (Nat.zero_le _) hp he)
theorem kk_26 (H : zts b s0) (hX : zfx s0 D ca) (hB : ∀ mj, 1 ≤ mj → mj < 97 → zcB s0 mj) : zpk s0 D ca 26 := fun pc e hp he => zen hX zdf_all hB (own := "ImageTexts$Reader") (by decide +kernel) (by decide +kernel) (dw_7 H) (fun _ h => absurd h List.not_mem_nil) (zck_ok ck_26 hp (Nat.zero_le _) hp he)
theorem kk_27 (H : zts b s0) (hX : zfx s0 D ca) (hB : ∀ mj, 1 ≤ mj → mj < 97 → zcB s0 mj) : zpk s0 D ca 27 := fun pc e hp he => zen hX zdf_all hB (own := "ImageTexts$Reader") (by decide +kernel) (by decide +kernel) (dw_7 H) (fun _ h => absurd h List.not_mem_nil) (zck_ok ck_27 hp (Nat.zero_le _) hp he)
theorem kk_28 (H : zts b s0) (hX : zfx s0 D ca) (hB : ∀ mj, 1 ≤ mj → mj < 97 → zcB s0 mj) : zpk s0 D ca 28 := fun pc e hp he => zen hX zdf_all hB (own := "ImageTexts$Reader") (by decide +kernel) (by decide +kernel) (dw_7 H) (fun _ h => absurd h List.not_mem_nil) (zck_ok ck_28 hp (Nat.zero_le _) hp he)
theorem kk_29 (H : zts b s0) (hX : zfx s0 D ca) (hB : ∀ mj, 1 ≤ mj → mj < 97 → zcB s0 mj) : zpk s0 D ca 29 := fun pc e hp he => zen hX zdf_all hB (own := "ImageTexts$Reader") (by decide +kernel) (by decide +kernel) (dw_7 H) (fun _ h => absurd h List.not_mem_nil) (zck_ok ck_29 hp (Nat.zero_le _) hp he)
theorem kk_30 (H : zts b s0) (hX : zfx s0 D ca) (hB : ∀ mj, 1 ≤ mj → mj < 97 → zcB s0 mj) : zpk s0 D ca 30 := fun pc e hp he => zen hX zdf_all hB (own := "ImageTexts$Reader") (by decide +kernel) (by decide +kernel) (dw_7 H) (fun _ h => absurd h List.not_mem_nil) (zck_ok ck_30 hp (Nat.zero_le _) hp he)
theorem kk_31 (H : zts b s0) (hX : zfx s0 D ca) (hB : ∀ mj, 1 ≤ mj → mj < 97 → zcB s0 mj) : zpk s0 D ca 31 := fun pc e hp he => zen hX zdf_all hB (own := "ImageTexts$Ring") (by decide +kernel) (by decide +kernel) (dw_8 H) (fun _ h => absurd h List.not_mem_nil) (zck_ok ck_31 hp (Nat.zero_le _) hp he)
theorem kk_32 (H : zts b s0) (hX : zfx s0 D ca) (hB : ∀ mj, 1 ≤ mj → mj < 97 → zcB s0 mj) : zpk s0 D ca 32 := fun pc e hp he => zen hX zdf_all hB (own := "ImageTexts$Writer") (by decide +kernel) (by decide +kernel) (dw_9 H) (fun _ h => absurd h List.not_mem_nil) (zck_ok ck_32 hp (Nat.zero_le _) hp he)
theorem kk_33 (H : zts b s0) (hX : zfx s0 D ca) (hB : ∀ mj, 1 ≤ mj → mj < 97 → zcB s0 mj) : zpk s0 D ca 33 := fun pc e hp he => zen hX zdf_all hB (own := "ImageTexts$Writer") (by decide +kernel) (by decide +kernel) (dw_9 H) (fun _ h => absurd h List.not_mem_nil) (zck_ok ck_33 hp (Nat.zero_le _) hp he)
theorem kk_34 (H : zts b s0) (hX : zfx s0 D ca) (hB : ∀ mj, 1 ≤ mj → mj < 97 → zcB s0 mj) : zpk s0 D ca 34 := fun pc e hp he => zen hX zdf_all hB (own := "ImageTexts$Writer") (by decide +kernel) (by decide +kernel) (dw_9 H) (fun _ h => absurd h List.not_mem_nil) (zck_ok ck_34 hp (Nat.zero_le _) hp he)
theorem kk_35 (H : zts b s0) (hX : zfx s0 D ca) (hB : ∀ mj, 1 ≤ mj → mj < 97 → zcB s0 mj) : zpk s0 D ca 35 := fun pc e hp he => zen hX zdf_all hB (own := "ImageTexts") (by decide +kernel) (by decide +kernel) (dw_10 H) (fun _ h => absurd h List.not_mem_nil) (zck_ok ck_35 hp (Nat.zero_le _) hp he)
theorem kk_36 (H : zts b s0) (hX : zfx s0 D ca) (hB : ∀ mj, 1 ≤ mj → mj < 97 → zcB s0 mj) (h1 : zhS s0 zir1) (h2 : zhS s0 zir2) {c : ClassId} (hown : s0.vm.findClass "ImageTexts" = some c) : zpk s0 D ca 36 := fun pc e hp he => zen hX zdf_all hB (own := "ImageTexts") (by decide +kernel) (by decide +kernel) (dw_10 H) (th_one (th_36_14 H h1 h2 hown)) (zck_ok ck_36 hp (Nat.zero_le _) hp he)
theorem kk_37 (H : zts b s0) (hX : zfx s0 D ca) (hB : ∀ mj, 1 ≤ mj → mj < 97 → zcB s0 mj) (h1 : zhS s0 zir1) (h2 : zhS s0 zir2) {c : ClassId} (hown : s0.vm.findClass "ImageTexts" = some c) : zpk s0 D ca 37 := fun pc e hp he => zen hX zdf_all hB (own := "ImageTexts") (by decide +kernel) (by decide +kernel) (dw_10 H) (th_one (th_37_11 H h1 h2 hown)) (zck_ok ck_37 hp (Nat.zero_le _) hp he)
theorem kk_38 (H : zts b s0) (hX : zfx s0 D ca) (hB : ∀ mj, 1 ≤ mj → mj < 97 → zcB s0 mj) : zpk s0 D ca 38 := fun pc e hp he => zen hX zdf_all hB (own := "ImageTexts") (by decide +kernel) (by decide +kernel) (dw_10 H) (fun _ h => absurd h List.not_mem_nil) (zck_ok ck_38 hp (Nat.zero_le _) hp he)
theorem kk_39 (H : zts b s0) (hX : zfx s0 D ca) (hB : ∀ mj, 1 ≤ mj → mj < 97 → zcB s0 mj) : zpk s0 D ca 39 := fun pc e hp he => zen hX zdf_all hB (own := "ImageTexts") (by decide +kernel) (by decide +kernel) (dw_10 H) (fun _ h => absurd h List.not_mem_nil) (zck_ok ck_39 hp (Nat.zero_le _) hp he)
theorem kk_40 (H : zts b s0) (hX : zfx s0 D ca) (hB : ∀ mj, 1 ≤ mj → mj < 97 → zcB s0 mj) (h1 : zhS s0 zir1) (h2 : zhS s0 zir2) {c : ClassId} (hown : s0.vm.findClass "ImageTexts" = some c) : zpk s0 D ca 40 := fun pc e hp he => zen hX zdf_all hB (own := "ImageTexts") (by decide +kernel) (by decide +kernel) (dw_10 H) (th_one (th_40_7 H h1 h2 hown)) (zck_ok ck_40 hp (Nat.zero_le _) hp he)
theorem kk_41 (H : zts b s0) (hX : zfx s0 D ca) (hB : ∀ mj, 1 ≤ mj → mj < 97 → zcB s0 mj) (h1 : zhS s0 zir1) (h2 : zhS s0 zir2) {c : ClassId} (hown : s0.vm.findClass "ImageTexts" = some c) : zpk s0 D ca 41 := fun pc e hp he => zen hX zdf_all hB (own := "ImageTexts") (by decide +kernel) (by decide +kernel) (dw_10 H) (th_one (th_41_11 H h1 h2 hown)) (zck_ok ck_41 hp (Nat.zero_le _) hp he)
theorem kk_42 (H : zts b s0) (hX : zfx s0 D ca) (hB : ∀ mj, 1 ≤ mj → mj < 97 → zcB s0 mj) : zpk s0 D ca 42 := fun pc e hp he => zen hX zdf_all hB (own := "ImageTexts") (by decide +kernel) (by decide +kernel) (dw_10 H) (fun _ h => absurd h List.not_mem_nil) (zck_ok ck_42 hp (Nat.zero_le _) hp he)
theorem kk_43 (H : zts b s0) (hX : zfx s0 D ca) (hB : ∀ mj, 1 ≤ mj → mj < 97 → zcB s0 mj) : zpk s0 D ca 43 := fun pc e hp he => zen hX zdf_all hB (own := "ImageTexts") (by decide +kernel) (by decide +kernel) (dw_10 H) (fun _ h => absurd h List.not_mem_nil) (zck_ok ck_43 hp (Nat.zero_le _) hp he)
theorem kk_44 (H : zts b s0) (hX : zfx s0 D ca) (hB : ∀ mj, 1 ≤ mj → mj < 97 → zcB s0 mj) : zpk s0 D ca 44 := fun pc e hp he => zen hX zdf_all hB (own := "ImageTexts") (by decide +kernel) (by decide +kernel) (dw_10 H) (fun _ h => absurd h List.not_mem_nil) (zck_ok ck_44 hp (Nat.zero_le _) hp he)
theorem kk_45 (H : zts b s0) (hX : zfx s0 D ca) (hB : ∀ mj, 1 ≤ mj → mj < 97 → zcB s0 mj) : zpk s0 D ca 45 := fun pc e hp he => zen hX zdf_all hB (own := "ImageTexts") (by decide +kernel) (by decide +kernel) (dw_10 H) (fun _ h => absurd h List.not_mem_nil) (zck_ok ck_45 hp (Nat.zero_le _) hp he)
theorem kk_46 (H : zts b s0) (hX : zfx s0 D ca) (hB : ∀ mj, 1 ≤ mj → mj < 97 → zcB s0 mj) (h1 : zhS s0 zir1) (h2 : zhS s0 zir2) {c : ClassId} (hown : s0.vm.findClass "ImageTexts" = some c) : zpk s0 D ca 46 := fun pc e hp he => zen hX zdf_all hB (own := "ImageTexts") (by decide +kernel) (by decide +kernel) (dw_10 H) (th_one (th_46_11 H h1 h2 hown)) (zck_ok ck_46 hp (Nat.zero_le _) hp he)
theorem kk_47 (H : zts b s0) (hX : zfx s0 D ca) (hB : ∀ mj, 1 ≤ mj → mj < 97 → zcB s0 mj) (h1 : zhS s0 zir1) (h2 : zhS s0 zir2) {c : ClassId} (hown : s0.vm.findClass "ImageTexts" = some c) : zpk s0 D ca 47 := fun pc e hp he => zen hX zdf_all hB (own := "ImageTexts") (by decide +kernel) (by decide +kernel) (dw_10 H) (th_two (th_47_32 H h1 h2 hown) (th_47_64 H h1 h2 hown)) (zck_ok ck_47 hp (Nat.zero_le _) hp he)
theorem kk_48 (H : zts b s0) (hX : zfx s0 D ca) (hB : ∀ mj, 1 ≤ mj → mj < 97 → zcB s0 mj) (h1 : zhS s0 zir1) (h2 : zhS s0 zir2) {c : ClassId} (hown : s0.vm.findClass "ImageTexts" = some c) : zpk s0 D ca 48 := fun pc e hp he => zen hX zdf_all hB (own := "ImageTexts") (by decide +kernel) (by decide +kernel) (dw_10 H) (th_one (th_48_11 H h1 h2 hown)) (zck_ok ck_48 hp (Nat.zero_le _) hp he)
theorem kk_49 (H : zts b s0) (hX : zfx s0 D ca) (hB : ∀ mj, 1 ≤ mj → mj < 97 → zcB s0 mj) (h1 : zhS s0 zir1) (h2 : zhS s0 zir2) {c : ClassId} (hown : s0.vm.findClass "ImageTexts" = some c) : zpk s0 D ca 49 := fun pc e hp he => zen hX zdf_all hB (own := "ImageTexts") (by decide +kernel) (by decide +kernel) (dw_10 H) (th_one (th_49_13 H h1 h2 hown)) (zck_ok ck_49 hp (Nat.zero_le _) hp he)
theorem kk_50 (H : zts b s0) (hX : zfx s0 D ca) (hB : ∀ mj, 1 ≤ mj → mj < 97 → zcB s0 mj) : zpk s0 D ca 50 := fun pc e hp he => zen hX zdf_all hB (own := "ImageTexts") (by decide +kernel) (by decide +kernel) (dw_10 H) (fun _ h => absurd h List.not_mem_nil) (zck_ok ck_50 hp (Nat.zero_le _) hp he)
theorem kk_51 (H : zts b s0) (hX : zfx s0 D ca) (hB : ∀ mj, 1 ≤ mj → mj < 97 → zcB s0 mj) : zpk s0 D ca 51 := fun pc e hp he => zen hX zdf_all hB (own := "ImageTexts") (by decide +kernel) (by decide +kernel) (dw_10 H) (fun _ h => absurd h List.not_mem_nil) (zck_ok ck_51 hp (Nat.zero_le _) hp he)
theorem kk_52 (H : zts b s0) (hX : zfx s0 D ca) (hB : ∀ mj, 1 ≤ mj → mj < 97 → zcB s0 mj) : zpk s0 D ca 52 := fun pc e hp he => zen hX zdf_all hB (own := "ImageTexts") (by decide +kernel) (by decide +kernel) (dw_10 H) (fun _ h => absurd h List.not_mem_nil) (zck_ok ck_52 hp (Nat.zero_le _) hp he)
theorem kk_53 (H : zts b s0) (hX : zfx s0 D ca) (hB : ∀ mj, 1 ≤ mj → mj < 97 → zcB s0 mj) (h1 : zhS s0 zir1) (h2 : zhS s0 zir2) {c : ClassId} (hown : s0.vm.findClass "ImageTexts" = some c) : zpk s0 D ca 53 := fun pc e hp he => zen hX zdf_all hB (own := "ImageTexts") (by decide +kernel) (by decide +kernel) (dw_10 H) (th_one (th_53_11 H h1 h2 hown)) (zck_ok ck_53 hp (Nat.zero_le _) hp he)
theorem kk_54 (H : zts b s0) (hX : zfx s0 D ca) (hB : ∀ mj, 1 ≤ mj → mj < 97 → zcB s0 mj) (h1 : zhS s0 zir1) (h2 : zhS s0 zir2) {c : ClassId} (hown : s0.vm.findClass "ImageTexts" = some c) : zpk s0 D ca 54 := fun pc e hp he => zen hX zdf_all hB (own := "ImageTexts") (by decide +kernel) (by decide +kernel) (dw_10 H) (th_one (th_54_11 H h1 h2 hown)) (zck_ok ck_54 hp (Nat.zero_le _) hp he)
theorem kk_55 (H : zts b s0) (hX : zfx s0 D ca) (hB : ∀ mj, 1 ≤ mj → mj < 97 → zcB s0 mj) : zpk s0 D ca 55 := fun pc e hp he => zen hX zdf_all hB (own := "ImageTexts") (by decide +kernel) (by decide +kernel) (dw_10 H) (fun _ h => absurd h List.not_mem_nil) (zck_ok ck_55 hp (Nat.zero_le _) hp he)
theorem kk_56 (H : zts b s0) (hX : zfx s0 D ca) (hB : ∀ mj, 1 ≤ mj → mj < 97 → zcB s0 mj) (h1 : zhS s0 zir1) (h2 : zhS s0 zir2) {c : ClassId} (hown : s0.vm.findClass "ImageTexts" = some c) : zpk s0 D ca 56 := fun pc e hp he => zen hX zdf_all hB (own := "ImageTexts") (by decide +kernel) (by decide +kernel) (dw_10 H) (th_one (th_56_4 H h1 h2 hown)) (zck_ok ck_56 hp (Nat.zero_le _) hp he)
theorem kk_57 (H : zts b s0) (hX : zfx s0 D ca) (hB : ∀ mj, 1 ≤ mj → mj < 97 → zcB s0 mj) : zpk s0 D ca 57 := fun pc e hp he => zen hX zdf_all hB (own := "ImageTextsModel") (by decide +kernel) (by decide +kernel) (dw_11 H) (fun _ h => absurd h List.not_mem_nil) (zck_ok ck_57 hp (Nat.zero_le _) hp he)
theorem kk_58 (H : zts b s0) (hX : zfx s0 D ca) (hB : ∀ mj, 1 ≤ mj → mj < 97 → zcB s0 mj) : zpk s0 D ca 58 := fun pc e hp he => zen hX zdf_all hB (own := "ImageTextsModel") (by decide +kernel) (by decide +kernel) (dw_11 H) (fun _ h => absurd h List.not_mem_nil) (zck_ok ck_58 hp (Nat.zero_le _) hp he)
theorem kk_59 (H : zts b s0) (hX : zfx s0 D ca) (hB : ∀ mj, 1 ≤ mj → mj < 97 → zcB s0 mj) : zpk s0 D ca 59 := fun pc e hp he => zen hX zdf_all hB (own := "ImageTextsModel") (by decide +kernel) (by decide +kernel) (dw_11 H) (fun _ h => absurd h List.not_mem_nil) (zck_ok ck_59 hp (Nat.zero_le _) hp he)
theorem kk_60 (H : zts b s0) (hX : zfx s0 D ca) (hB : ∀ mj, 1 ≤ mj → mj < 97 → zcB s0 mj) : zpk s0 D ca 60 := fun pc e hp he => zen hX zdf_all hB (own := "ImageTextsModel") (by decide +kernel) (by decide +kernel) (dw_11 H) (fun _ h => absurd h List.not_mem_nil) (zck_ok ck_60 hp (Nat.zero_le _) hp he)
theorem kk_61 (H : zts b s0) (hX : zfx s0 D ca) (hB : ∀ mj, 1 ≤ mj → mj < 97 → zcB s0 mj) : zpk s0 D ca 61 := fun pc e hp he => zen hX zdf_all hB (own := "ImageTextsModel") (by decide +kernel) (by decide +kernel) (dw_11 H) (fun _ h => absurd h List.not_mem_nil) (zck_ok ck_61 hp (Nat.zero_le _) hp he)
theorem kk_62 (H : zts b s0) (hX : zfx s0 D ca) (hB : ∀ mj, 1 ≤ mj → mj < 97 → zcB s0 mj) : zpk s0 D ca 62 := fun pc e hp he => zen hX zdf_all hB (own := "ImageTextsModel") (by decide +kernel) (by decide +kernel) (dw_11 H) (fun _ h => absurd h List.not_mem_nil) (zck_ok ck_62 hp (Nat.zero_le _) hp he)
theorem kk_63 (H : zts b s0) (hX : zfx s0 D ca) (hB : ∀ mj, 1 ≤ mj → mj < 97 → zcB s0 mj) : zpk s0 D ca 63 := fun pc e hp he => zen hX zdf_all hB (own := "ImageTextsModel") (by decide +kernel) (by decide +kernel) (dw_11 H) (fun _ h => absurd h List.not_mem_nil) (zck_ok ck_63 hp (Nat.zero_le _) hp he)
theorem kk_64 (H : zts b s0) (hX : zfx s0 D ca) (hB : ∀ mj, 1 ≤ mj → mj < 97 → zcB s0 mj) : zpk s0 D ca 64 := fun pc e hp he => zen hX zdf_all hB (own := "ImageTextsModel") (by decide +kernel) (by decide +kernel) (dw_11 H) (fun _ h => absurd h List.not_mem_nil) (zck_ok ck_64 hp (Nat.zero_le _) hp he)
theorem kk_65 (H : zts b s0) (hX : zfx s0 D ca) (hB : ∀ mj, 1 ≤ mj → mj < 97 → zcB s0 mj) : zpk s0 D ca 65 := fun pc e hp he => zen hX zdf_all hB (own := "ImageTextsModel") (by decide +kernel) (by decide +kernel) (dw_11 H) (fun _ h => absurd h List.not_mem_nil) (zck_ok ck_65 hp (Nat.zero_le _) hp he)
theorem kk_66 (H : zts b s0) (hX : zfx s0 D ca) (hB : ∀ mj, 1 ≤ mj → mj < 97 → zcB s0 mj) : zpk s0 D ca 66 := fun pc e hp he => zen hX zdf_all hB (own := "ImageTextsModel") (by decide +kernel) (by decide +kernel) (dw_11 H) (fun _ h => absurd h List.not_mem_nil) (zck_ok ck_66 hp (Nat.zero_le _) hp he)
theorem kk_67 (H : zts b s0) (hX : zfx s0 D ca) (hB : ∀ mj, 1 ≤ mj → mj < 97 → zcB s0 mj) : zpk s0 D ca 67 := fun pc e hp he => zen hX zdf_all hB (own := "ImageTextsModel") (by decide +kernel) (by decide +kernel) (dw_11 H) (fun _ h => absurd h List.not_mem_nil) (zck_ok ck_67 hp (Nat.zero_le _) hp he)
theorem kk_68 (H : zts b s0) (hX : zfx s0 D ca) (hB : ∀ mj, 1 ≤ mj → mj < 97 → zcB s0 mj) : zpk s0 D ca 68 := fun pc e hp he => zen hX zdf_all hB (own := "ImageTextsModel") (by decide +kernel) (by decide +kernel) (dw_11 H) (fun _ h => absurd h List.not_mem_nil) (zck_ok ck_68 hp (Nat.zero_le _) hp he)
theorem kk_69 (H : zts b s0) (hX : zfx s0 D ca) (hB : ∀ mj, 1 ≤ mj → mj < 97 → zcB s0 mj) : zpk s0 D ca 69 := fun pc e hp he => zen hX zdf_all hB (own := "ImageTextsModel") (by decide +kernel) (by decide +kernel) (dw_11 H) (fun _ h => absurd h List.not_mem_nil) (zck_ok ck_69 hp (Nat.zero_le _) hp he)
theorem kk_70 (H : zts b s0) (hX : zfx s0 D ca) (hB : ∀ mj, 1 ≤ mj → mj < 97 → zcB s0 mj) : zpk s0 D ca 70 := fun pc e hp he => zen hX zdf_all hB (own := "ImageTextsModel") (by decide +kernel) (by decide +kernel) (dw_11 H) (fun _ h => absurd h List.not_mem_nil) (zck_ok ck_70 hp (Nat.zero_le _) hp he)
theorem kk_71 (H : zts b s0) (hX : zfx s0 D ca) (hB : ∀ mj, 1 ≤ mj → mj < 97 → zcB s0 mj) : zpk s0 D ca 71 := fun pc e hp he => zen hX zdf_all hB (own := "ImageTextsModel") (by decide +kernel) (by decide +kernel) (dw_11 H) (fun _ h => absurd h List.not_mem_nil) (zck_ok ck_71 hp (Nat.zero_le _) hp he)
theorem kk_72 (H : zts b s0) (hX : zfx s0 D ca) (hB : ∀ mj, 1 ≤ mj → mj < 97 → zcB s0 mj) : zpk s0 D ca 72 := fun pc e hp he => zen hX zdf_all hB (own := "ImageTextsModel") (by decide +kernel) (by decide +kernel) (dw_11 H) (fun _ h => absurd h List.not_mem_nil) (zck_ok ck_72 hp (Nat.zero_le _) hp he)
theorem kk_73 (H : zts b s0) (hX : zfx s0 D ca) (hB : ∀ mj, 1 ≤ mj → mj < 97 → zcB s0 mj) : zpk s0 D ca 73 := fun pc e hp he => zen hX zdf_all hB (own := "ImageTextsModel") (by decide +kernel) (by decide +kernel) (dw_11 H) (fun _ h => absurd h List.not_mem_nil) (zck_ok ck_73 hp (Nat.zero_le _) hp he)
theorem kk_74 (H : zts b s0) (hX : zfx s0 D ca) (hB : ∀ mj, 1 ≤ mj → mj < 97 → zcB s0 mj) : zpk s0 D ca 74 := fun pc e hp he => zen hX zdf_all hB (own := "ImageTextsModel") (by decide +kernel) (by decide +kernel) (dw_11 H) (fun _ h => absurd h List.not_mem_nil) (zck_ok ck_74 hp (Nat.zero_le _) hp he)
theorem kk_75 (H : zts b s0) (hX : zfx s0 D ca) (hB : ∀ mj, 1 ≤ mj → mj < 97 → zcB s0 mj) : zpk s0 D ca 75 := fun pc e hp he => zen hX zdf_all hB (own := "ImageTextsModel") (by decide +kernel) (by decide +kernel) (dw_11 H) (fun _ h => absurd h List.not_mem_nil) (zck_ok ck_75 hp (Nat.zero_le _) hp he)
theorem kk_76 (H : zts b s0) (hX : zfx s0 D ca) (hB : ∀ mj, 1 ≤ mj → mj < 97 → zcB s0 mj) : zpk s0 D ca 76 := fun pc e hp he => zen hX zdf_all hB (own := "ImageTextsModel") (by decide +kernel) (by decide +kernel) (dw_11 H) (fun _ h => absurd h List.not_mem_nil) (zck_ok ck_76 hp (Nat.zero_le _) hp he)
theorem kk_77 (H : zts b s0) (hX : zfx s0 D ca) (hB : ∀ mj, 1 ≤ mj → mj < 97 → zcB s0 mj) : zpk s0 D ca 77 := fun pc e hp he => zen hX zdf_all hB (own := "ImageTextsModel") (by decide +kernel) (by decide +kernel) (dw_11 H) (fun _ h => absurd h List.not_mem_nil) (zck_ok ck_77 hp (Nat.zero_le _) hp he)
theorem kk_78 (H : zts b s0) (hX : zfx s0 D ca) (hB : ∀ mj, 1 ≤ mj → mj < 97 → zcB s0 mj) : zpk s0 D ca 78 := fun pc e hp he => zen hX zdf_all hB (own := "ImageTextsModel") (by decide +kernel) (by decide +kernel) (dw_11 H) (fun _ h => absurd h List.not_mem_nil) (zck_ok ck_78 hp (Nat.zero_le _) hp he)
theorem kk_79 (H : zts b s0) (hX : zfx s0 D ca) (hB : ∀ mj, 1 ≤ mj → mj < 97 → zcB s0 mj) : zpk s0 D ca 79 := fun pc e hp he => zen hX zdf_all hB (own := "ImageTextsModel") (by decide +kernel) (by decide +kernel) (dw_11 H) (fun _ h => absurd h List.not_mem_nil) (zck_ok ck_79 hp (Nat.zero_le _) hp he)
theorem kk_80 (H : zts b s0) (hX : zfx s0 D ca) (hB : ∀ mj, 1 ≤ mj → mj < 97 → zcB s0 mj) : zpk s0 D ca 80 := fun pc e hp he => zen hX zdf_all hB (own := "ImageTextsModel") (by decide +kernel) (by decide +kernel) (dw_11 H) (fun _ h => absurd h List.not_mem_nil) (zck_ok ck_80 hp (Nat.zero_le _) hp he)
theorem kk_81 (H : zts b s0) (hX : zfx s0 D ca) (hB : ∀ mj, 1 ≤ mj → mj < 97 → zcB s0 mj) : zpk s0 D ca 81 := fun pc e hp he => zen hX zdf_all hB (own := "ImageTextsModel") (by decide +kernel) (by decide +kernel) (dw_11 H) (fun _ h => absurd h List.not_mem_nil) (zck_ok ck_81 hp (Nat.zero_le _) hp he)
theorem kk_82 (H : zts b s0) (hX : zfx s0 D ca) (hB : ∀ mj, 1 ≤ mj → mj < 97 → zcB s0 mj) : zpk s0 D ca 82 := fun pc e hp he => zen hX zdf_all hB (own := "ImageTextsModel") (by decide +kernel) (by decide +kernel) (dw_11 H) (fun _ h => absurd h List.not_mem_nil) (zck_ok ck_82 hp (Nat.zero_le _) hp he)
theorem kk_83 (H : zts b s0) (hX : zfx s0 D ca) (hB : ∀ mj, 1 ≤ mj → mj < 97 → zcB s0 mj) : zpk s0 D ca 83 := fun pc e hp he => zen hX zdf_all hB (own := "ImageTextsModel") (by decide +kernel) (by decide +kernel) (dw_11 H) (fun _ h => absurd h List.not_mem_nil) (zck_ok ck_83 hp (Nat.zero_le _) hp he)
theorem kk_84 (H : zts b s0) (hX : zfx s0 D ca) (hB : ∀ mj, 1 ≤ mj → mj < 97 → zcB s0 mj) : zpk s0 D ca 84 := fun pc e hp he => zen hX zdf_all hB (own := "ImageTextsModel") (by decide +kernel) (by decide +kernel) (dw_11 H) (fun _ h => absurd h List.not_mem_nil) (zck_ok ck_84 hp (Nat.zero_le _) hp he)
theorem kk_85 (H : zts b s0) (hX : zfx s0 D ca) (hB : ∀ mj, 1 ≤ mj → mj < 97 → zcB s0 mj) : zpk s0 D ca 85 := fun pc e hp he => zen hX zdf_all hB (own := "ImageTextsModel") (by decide +kernel) (by decide +kernel) (dw_11 H) (fun _ h => absurd h List.not_mem_nil) (zck_ok ck_85 hp (Nat.zero_le _) hp he)
theorem kk_86 (H : zts b s0) (hX : zfx s0 D ca) (hB : ∀ mj, 1 ≤ mj → mj < 97 → zcB s0 mj) : zpk s0 D ca 86 := fun pc e hp he => zen hX zdf_all hB (own := "ImageTextsLaw") (by decide +kernel) (by decide +kernel) (dw_12 H) (fun _ h => absurd h List.not_mem_nil) (zck_ok ck_86 hp (Nat.zero_le _) hp he)
theorem kk_87 (H : zts b s0) (hX : zfx s0 D ca) (hB : ∀ mj, 1 ≤ mj → mj < 97 → zcB s0 mj) : zpk s0 D ca 87 := fun pc e hp he => zen hX zdf_all hB (own := "ImageTextsLaw") (by decide +kernel) (by decide +kernel) (dw_12 H) (fun _ h => absurd h List.not_mem_nil) (zck_ok ck_87 hp (Nat.zero_le _) hp he)
theorem kk_88 (H : zts b s0) (hX : zfx s0 D ca) (hB : ∀ mj, 1 ≤ mj → mj < 97 → zcB s0 mj) : zpk s0 D ca 88 := fun pc e hp he => zen hX zdf_all hB (own := "ImageTextsLaw") (by decide +kernel) (by decide +kernel) (dw_12 H) (fun _ h => absurd h List.not_mem_nil) (zck_ok ck_88 hp (Nat.zero_le _) hp he)
theorem kk_89 (H : zts b s0) (hX : zfx s0 D ca) (hB : ∀ mj, 1 ≤ mj → mj < 97 → zcB s0 mj) : zpk s0 D ca 89 := fun pc e hp he => zen hX zdf_all hB (own := "ImageTextsLaw") (by decide +kernel) (by decide +kernel) (dw_12 H) (fun _ h => absurd h List.not_mem_nil) (zck_ok ck_89 hp (Nat.zero_le _) hp he)
theorem kk_90 (H : zts b s0) (hX : zfx s0 D ca) (hB : ∀ mj, 1 ≤ mj → mj < 97 → zcB s0 mj) : zpk s0 D ca 90 := fun pc e hp he => zen hX zdf_all hB (own := "ImageTextsLaw") (by decide +kernel) (by decide +kernel) (dw_12 H) (fun _ h => absurd h List.not_mem_nil) (zck_ok ck_90 hp (Nat.zero_le _) hp he)
theorem kk_91 (H : zts b s0) (hX : zfx s0 D ca) (hB : ∀ mj, 1 ≤ mj → mj < 97 → zcB s0 mj) : zpk s0 D ca 91 := fun pc e hp he => zen hX zdf_all hB (own := "ImageTextsLaw") (by decide +kernel) (by decide +kernel) (dw_12 H) (fun _ h => absurd h List.not_mem_nil) (zck_ok ck_91 hp (Nat.zero_le _) hp he)
theorem kk_92 (H : zts b s0) (hX : zfx s0 D ca) (hB : ∀ mj, 1 ≤ mj → mj < 97 → zcB s0 mj) : zpk s0 D ca 92 := fun pc e hp he => zen hX zdf_all hB (own := "ImageTextsLaw") (by decide +kernel) (by decide +kernel) (dw_12 H) (fun _ h => absurd h List.not_mem_nil) (zck_ok ck_92 hp (Nat.zero_le _) hp he)
theorem kk_93 (H : zts b s0) (hX : zfx s0 D ca) (hB : ∀ mj, 1 ≤ mj → mj < 97 → zcB s0 mj) : zpk s0 D ca 93 := fun pc e hp he => zen hX zdf_all hB (own := "ImageTextsLaw") (by decide +kernel) (by decide +kernel) (dw_12 H) (fun _ h => absurd h List.not_mem_nil) (zck_ok ck_93 hp (Nat.zero_le _) hp he)
theorem kk_94 (H : zts b s0) (hX : zfx s0 D ca) (hB : ∀ mj, 1 ≤ mj → mj < 97 → zcB s0 mj) : zpk s0 D ca 94 := fun pc e hp he => zen hX zdf_all hB (own := "ImageTextsLaw") (by decide +kernel) (by decide +kernel) (dw_12 H) (fun _ h => absurd h List.not_mem_nil) (zck_ok ck_94 hp (Nat.zero_le _) hp he)
theorem kk_95 (H : zts b s0) (hX : zfx s0 D ca) (hB : ∀ mj, 1 ≤ mj → mj < 97 → zcB s0 mj) : zpk s0 D ca 95 := fun pc e hp he => zen hX zdf_all hB (own := "ImageTextsLaw") (by decide +kernel) (by decide +kernel) (dw_12 H) (fun _ h => absurd h List.not_mem_nil) (zck_ok ck_95 hp (Nat.zero_le _) hp he)
theorem kk_96 (H : zts b s0) (hX : zfx s0 D ca) (hB : ∀ mj, 1 ≤ mj → mj < 97 → zcB s0 mj) : zpk s0 D ca 96 := fun pc e hp he => zen hX zdf_all hB (own := "ImageTextsLaw") (by decide +kernel) (by decide +kernel) (dw_12 H) (fun _ h => absurd h List.not_mem_nil) (zck_ok ck_96 hp (Nat.zero_le _) hp he)
theorem ck_0 {pc : Nat} {e : xE} (hp : pc < 2048) (he : zget 11 (tM.1 0) pc = some e) : zdk (tBt 0) pc e = true ∧ zrk dc_12 [] 0 pc e = true := by
  by_cases g0 : pc < 164
  · exact zck_ok ck_0_0 hp (by omega) g0 he
  by_cases g1 : pc < 253
  · exact zck_ok ck_0_1 hp (by omega) g1 he
  by_cases g2 : pc < 319
  · exact zck_ok ck_0_2 hp (by omega) g2 he
  by_cases g3 : pc < 404
  · exact zck_ok ck_0_3 hp (by omega) g3 he
  by_cases g4 : pc < 470
  · exact zck_ok ck_0_4 hp (by omega) g4 he
  by_cases g5 : pc < 549
  · exact zck_ok ck_0_5 hp (by omega) g5 he
  by_cases g6 : pc < 625
  · exact zck_ok ck_0_6 hp (by omega) g6 he
  by_cases g7 : pc < 695
  · exact zck_ok ck_0_7 hp (by omega) g7 he
  by_cases g8 : pc < 763
  · exact zck_ok ck_0_8 hp (by omega) g8 he
  by_cases g9 : pc < 862
  · exact zck_ok ck_0_9 hp (by omega) g9 he
  by_cases g10 : pc < 932
  · exact zck_ok ck_0_10 hp (by omega) g10 he
  by_cases g11 : pc < 999
  · exact zck_ok ck_0_11 hp (by omega) g11 he
  by_cases g12 : pc < 1108
  · exact zck_ok ck_0_12 hp (by omega) g12 he
  by_cases g13 : pc < 1174
  · exact zck_ok ck_0_13 hp (by omega) g13 he
  by_cases g14 : pc < 1273
  · exact zck_ok ck_0_14 hp (by omega) g14 he
  by_cases g15 : pc < 1383
  · exact zck_ok ck_0_15 hp (by omega) g15 he
  by_cases g16 : pc < 1470
  · exact zck_ok ck_0_16 hp (by omega) g16 he
  by_cases g17 : pc < 1537
  · exact zck_ok ck_0_17 hp (by omega) g17 he
  exact zck_ok ck_0_18 hp (by omega) hp he
theorem kk_0 (H : zts b s0) (hX : zfx s0 D ca) (hB : ∀ mj, 1 ≤ mj → mj < 97 → zcB s0 mj) : zpk s0 D ca 0 := fun pc e hp he => zen hX zdf_all hB (own := "ImageTextsLaw") (by decide +kernel) (by decide +kernel) (dw_12 H) (fun _ h => absurd h List.not_mem_nil) (ck_0 hp he)
theorem kk_all (H : zts b s0) (hX : zfx s0 D ca) (hB : ∀ mj, 1 ≤ mj → mj < 97 → zcB s0 mj) (h1 : zhS s0 zir1) (h2 : zhS s0 zir2) {c : ClassId} (hown : s0.vm.findClass "ImageTexts" = some c) (j : Nat) (hj : j < 97) : zpk s0 D ca j := by
  have hl : ∀ j ∈ List.range 97, zpk s0 D ca j := by
    rw [show List.range 97 = [0, 1, 2, 3, 4, 5, 6, 7, 8, 9, 10, 11, 12, 13, 14, 15, 16, 17, 18, 19, 20, 21, 22, 23, 24, 25, 26, 27, 28, 29, 30, 31, 32, 33, 34, 35, 36, 37, 38, 39, 40, 41, 42, 43, 44, 45, 46, 47, 48, 49, 50, 51, 52, 53, 54, 55, 56, 57, 58, 59, 60, 61, 62, 63, 64, 65, 66, 67, 68, 69, 70, 71, 72, 73, 74, 75, 76, 77, 78, 79, 80, 81, 82, 83, 84, 85, 86, 87, 88, 89, 90, 91, 92, 93, 94, 95, 96] by decide +kernel]
    exact List.forall_mem_cons.mpr ⟨kk_0 H hX hB, List.forall_mem_cons.mpr ⟨kk_1 H hX hB, List.forall_mem_cons.mpr ⟨kk_2 H hX hB, List.forall_mem_cons.mpr ⟨kk_3 H hX hB, List.forall_mem_cons.mpr ⟨kk_4 H hX hB, List.forall_mem_cons.mpr ⟨kk_5 H hX hB, List.forall_mem_cons.mpr ⟨kk_6 H hX hB, List.forall_mem_cons.mpr ⟨kk_7 H hX hB, List.forall_mem_cons.mpr ⟨kk_8 H hX hB, List.forall_mem_cons.mpr ⟨kk_9 H hX hB, List.forall_mem_cons.mpr ⟨kk_10 H hX hB, List.forall_mem_cons.mpr ⟨kk_11 H hX hB, List.forall_mem_cons.mpr ⟨kk_12 H hX hB, List.forall_mem_cons.mpr ⟨kk_13 H hX hB, List.forall_mem_cons.mpr ⟨kk_14 H hX hB, List.forall_mem_cons.mpr ⟨kk_15 H hX hB, List.forall_mem_cons.mpr ⟨kk_16 H hX hB, List.forall_mem_cons.mpr ⟨kk_17 H hX hB, List.forall_mem_cons.mpr ⟨kk_18 H hX hB, List.forall_mem_cons.mpr ⟨kk_19 H hX hB, List.forall_mem_cons.mpr ⟨kk_20 H hX hB, List.forall_mem_cons.mpr ⟨kk_21 H hX hB, List.forall_mem_cons.mpr ⟨kk_22 H hX hB, List.forall_mem_cons.mpr ⟨kk_23 H hX hB, List.forall_mem_cons.mpr ⟨kk_24 H hX hB, List.forall_mem_cons.mpr ⟨kk_25 H hX hB, List.forall_mem_cons.mpr ⟨kk_26 H hX hB, List.forall_mem_cons.mpr ⟨kk_27 H hX hB, List.forall_mem_cons.mpr ⟨kk_28 H hX hB, List.forall_mem_cons.mpr ⟨kk_29 H hX hB, List.forall_mem_cons.mpr ⟨kk_30 H hX hB, List.forall_mem_cons.mpr ⟨kk_31 H hX hB, List.forall_mem_cons.mpr ⟨kk_32 H hX hB, List.forall_mem_cons.mpr ⟨kk_33 H hX hB, List.forall_mem_cons.mpr ⟨kk_34 H hX hB, List.forall_mem_cons.mpr ⟨kk_35 H hX hB, List.forall_mem_cons.mpr ⟨kk_36 H hX hB h1 h2 hown, List.forall_mem_cons.mpr ⟨kk_37 H hX hB h1 h2 hown, List.forall_mem_cons.mpr ⟨kk_38 H hX hB, List.forall_mem_cons.mpr ⟨kk_39 H hX hB, List.forall_mem_cons.mpr ⟨kk_40 H hX hB h1 h2 hown, List.forall_mem_cons.mpr ⟨kk_41 H hX hB h1 h2 hown, List.forall_mem_cons.mpr ⟨kk_42 H hX hB, List.forall_mem_cons.mpr ⟨kk_43 H hX hB, List.forall_mem_cons.mpr ⟨kk_44 H hX hB, List.forall_mem_cons.mpr ⟨kk_45 H hX hB, List.forall_mem_cons.mpr ⟨kk_46 H hX hB h1 h2 hown, List.forall_mem_cons.mpr ⟨kk_47 H hX hB h1 h2 hown, List.forall_mem_cons.mpr ⟨kk_48 H hX hB h1 h2 hown, List.forall_mem_cons.mpr ⟨kk_49 H hX hB h1 h2 hown, List.forall_mem_cons.mpr ⟨kk_50 H hX hB, List.forall_mem_cons.mpr ⟨kk_51 H hX hB, List.forall_mem_cons.mpr ⟨kk_52 H hX hB, List.forall_mem_cons.mpr ⟨kk_53 H hX hB h1 h2 hown, List.forall_mem_cons.mpr ⟨kk_54 H hX hB h1 h2 hown, List.forall_mem_cons.mpr ⟨kk_55 H hX hB, List.forall_mem_cons.mpr ⟨kk_56 H hX hB h1 h2 hown, List.forall_mem_cons.mpr ⟨kk_57 H hX hB, List.forall_mem_cons.mpr ⟨kk_58 H hX hB, List.forall_mem_cons.mpr ⟨kk_59 H hX hB, List.forall_mem_cons.mpr ⟨kk_60 H hX hB, List.forall_mem_cons.mpr ⟨kk_61 H hX hB, List.forall_mem_cons.mpr ⟨kk_62 H hX hB, List.forall_mem_cons.mpr ⟨kk_63 H hX hB, List.forall_mem_cons.mpr ⟨kk_64 H hX hB, List.forall_mem_cons.mpr ⟨kk_65 H hX hB, List.forall_mem_cons.mpr ⟨kk_66 H hX hB, List.forall_mem_cons.mpr ⟨kk_67 H hX hB, List.forall_mem_cons.mpr ⟨kk_68 H hX hB, List.forall_mem_cons.mpr ⟨kk_69 H hX hB, List.forall_mem_cons.mpr ⟨kk_70 H hX hB, List.forall_mem_cons.mpr ⟨kk_71 H hX hB, List.forall_mem_cons.mpr ⟨kk_72 H hX hB, List.forall_mem_cons.mpr ⟨kk_73 H hX hB, List.forall_mem_cons.mpr ⟨kk_74 H hX hB, List.forall_mem_cons.mpr ⟨kk_75 H hX hB, List.forall_mem_cons.mpr ⟨kk_76 H hX hB, List.forall_mem_cons.mpr ⟨kk_77 H hX hB, List.forall_mem_cons.mpr ⟨kk_78 H hX hB, List.forall_mem_cons.mpr ⟨kk_79 H hX hB, List.forall_mem_cons.mpr ⟨kk_80 H hX hB, List.forall_mem_cons.mpr ⟨kk_81 H hX hB, List.forall_mem_cons.mpr ⟨kk_82 H hX hB, List.forall_mem_cons.mpr ⟨kk_83 H hX hB, List.forall_mem_cons.mpr ⟨kk_84 H hX hB, List.forall_mem_cons.mpr ⟨kk_85 H hX hB, List.forall_mem_cons.mpr ⟨kk_86 H hX hB, List.forall_mem_cons.mpr ⟨kk_87 H hX hB, List.forall_mem_cons.mpr ⟨kk_88 H hX hB, List.forall_mem_cons.mpr ⟨kk_89 H hX hB, List.forall_mem_cons.mpr ⟨kk_90 H hX hB, List.forall_mem_cons.mpr ⟨kk_91 H hX hB, List.forall_mem_cons.mpr ⟨kk_92 H hX hB, List.forall_mem_cons.mpr ⟨kk_93 H hX hB, List.forall_mem_cons.mpr ⟨kk_94 H hX hB, List.forall_mem_cons.mpr ⟨kk_95 H hX hB, List.forall_mem_cons.mpr ⟨kk_96 H hX hB, fun _ h => absurd h List.not_mem_nil⟩⟩⟩⟩⟩⟩⟩⟩⟩⟩⟩⟩⟩⟩⟩⟩⟩⟩⟩⟩⟩⟩⟩⟩⟩⟩⟩⟩⟩⟩⟩⟩⟩⟩⟩⟩⟩⟩⟩⟩⟩⟩⟩⟩⟩⟩⟩⟩⟩⟩⟩⟩⟩⟩⟩⟩⟩⟩⟩⟩⟩⟩⟩⟩⟩⟩⟩⟩⟩⟩⟩⟩⟩⟩⟩⟩⟩⟩⟩⟩⟩⟩⟩⟩⟩⟩⟩⟩⟩⟩⟩⟩⟩⟩⟩⟩⟩
  exact hl j (List.mem_range.mpr hj)
theorem tcode_lt : (zlist 7 tt_code 0 1).all (fun q => Nat.ble (q.1 + 1) 97) = true := by decide +kernel
theorem zok_mod {mi pc : Nat} {e : xE} (h : zok tM tY tBt tHh tRt tRm tEx s0 D ca tty (mi % 128) pc e) : zok tM tY tBt tHh tRt tRm tEx s0 D ca tty mi pc e := by
  have e1 := tY_mod mi
  have e2 := tBt_mod mi
  have e3 := tHh_mod mi
  have e4 := tRm_mod mi
  obtain ⟨op, a, bb, cc, k, ll⟩ := e
  unfold zok zmore zcal at h ⊢
  rw [e1, e2, e3, e4]
  exact h
theorem zlast (H : zts b s0) (hX : zfx s0 D ca) (hB : ∀ mj, 1 ≤ mj → mj < 97 → zcB s0 mj) (h1 : zhS s0 zir1) (h2 : zhS s0 zir2) {c : ClassId} (hown : s0.vm.findClass "ImageTexts" = some c) : ∀ mi pc e, pc < 2048 → zget 11 (tM.1 mi) pc = some e → zok tM tY tBt tHh tRt tRm tEx s0 D ca tty mi pc e := by
  intro mi pc e hp he
  replace he : zget 11 (tcode mi) pc = some e := he
  rw [tcode_mod] at he
  refine zok_mod ?_
  have hlt : mi % 128 < 128 := Nat.mod_lt _ (by decide)
  generalize mi % 128 = j at he hlt
  have hj : j < 97 := by
    cases ht : zget 7 tt_code j with
    | none =>
      unfold tcode at he
      rw [ht] at he
      replace he : zget 11 (zemp xE 11) pc = some e := he
      rw [zget_emp] at he
      cases he
    | some t =>
      have hm := zlist_mem 7 tt_code 0 1 j t hlt ht
      rw [show 0 + 1 * j = j by omega] at hm
      have g := List.all_eq_true.mp tcode_lt _ hm
      exact Nat.ble_eq.mp g
  exact kk_all H hX hB h1 h2 hown j hj pc e hp he
theorem tRt_ok (mi : Nat) : (xg tt_rt mi = 0 → tRt mi = none) ∧ (xg tt_rt mi = 1 → tRt mi = some .int) ∧ (xg tt_rt mi = 2 → tRt mi = some .boolean) ∧ (xg tt_rt mi = 3 → tRt mi = some .long) := by
  refine ⟨fun h => ?_, fun h => ?_, fun h => ?_, fun h => ?_⟩ <;> (unfold tRt; rw [h]; rfl)
theorem zO_t (hX : zfx s0 D ca) (tag : Nat) (h1 : 68 ≤ tag) (h2 : tag ≤ 127) : ∃ (C : String) (T : u_T) (N : Nat), ztg s0 ca tag (.object C) ∧ zclo s0 D tty (tel tag) C T N := by
  refine ⟨tO tag, tT (tel tag), xg tt_N (tel tag), (hX.2.2.1 tag h1 h2).1, ?_⟩
  have h68 : ∀ ci, ci < 12 → tel tag = ci → tC ci = tO tag → zclo s0 D tty (tel tag) (tO tag) (tT (tel tag)) (xg tt_N (tel tag)) := by
    intro ci hc e1 e2
    rw [e1, ← e2]
    exact (hX.1 ci hc).1
  by_cases g1 : tag = 68
  · subst g1
    exact h68 4 (by decide) (by decide +kernel) (by decide +kernel)
  by_cases g2 : tag = 69
  · subst g2
    exact h68 0 (by decide) (by decide +kernel) (by decide +kernel)
  by_cases g3 : tag = 70
  · subst g3
    exact h68 3 (by decide) (by decide +kernel) (by decide +kernel)
  refine h68 6 (by decide) ?_ ?_
  · unfold tel
    rw [beq_ne g1, beq_ne g2, beq_ne g3]
    rfl
  · unfold tO
    rw [if_neg g1, if_neg g2, if_neg g3]
    decide +kernel
theorem zall_ok {l : Launch} {L : Nat} {xs : Nat → Int32} (hl : l.stackTraces = false) (H : zts b s0) (hg : (Jvm.Cond.and given_1 narrow_1).before #[Value.ref b] s0 = true) (hx : va_X b L xs s0 s0.heap) (hb : b < s0.heap.size) :
    ∃ (D : va_G) (ca : Nat → ClassId), zall tM tY tBt tHh tRt tRm tEx l s0 D ca b L xs tty := by
  obtain ⟨D, hD⟩ := ze_D (zK_all H)
  obtain ⟨ca, hA⟩ := ze_ca (zA_all H)
  have hX := zfx_ok H hD hA
  have hs := flat_of_before _ hg
  have i1 : zhS s0 zir1 := zhS_ir (H _ (List.mem_of_getElem? (i := 937) (by decide +kernel))) (hs zir1 (by decide +kernel))
  have i2 : zhS s0 zir2 := zhS_ir (H _ (List.mem_of_getElem? (i := 939) (by decide +kernel))) (hs zir2 (by decide +kernel))
  obtain ⟨cI, -, hfI, -⟩ := Cond.instantiable_spec (wd_112 H #[] s0 (State.WarmedH.refl s0))
  exact ⟨D, ca, hl, fun mi => ⟨rfl, rfl⟩, zhnd_ok H (zcst_ok H hg), tRt_ok, hX.2.1, zO_t hX, hx, hb, zlast H hX (zB_all H) i1 i2 hfI⟩
end ZY
