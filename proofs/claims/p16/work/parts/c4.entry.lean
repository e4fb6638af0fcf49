/-! the entries' words -/
section ZX
variable {s0 : State} {own C n d : String} {a bb cc ix : Nat}
theorem zx17 {C9 : String} {f : Bool} (hC : tC a = C) (hT : tT a bb = (C9, n, d, f)) (h : zlw s0 own ix C n d) : zmX s0 own (17, a, bb, cc, .ofNat ix, []) := by
  show zlw s0 own ix (tC a) (tT a bb).2.1 (tT a bb).2.2.1
  rw [hC, hT]
  exact h
theorem zx18 {C9 : String} (hC : tC a = C) (hT : tT a bb = (C9, n, d, false)) (h : zlw s0 own ix C n d) : zmX s0 own (18, a, bb, cc, .ofNat ix, []) := by
  refine ⟨?_, Or.inl ?_⟩
  · show zlw s0 own ix (tC a) (tT a bb).2.1 (tT a bb).2.2.1
    rw [hC, hT]
    exact h
  · show (tT a bb).2.2.2 = false
    rw [hT]
theorem zx18f {C9 : String} (hC : tC a = own) (hT : tT a bb = (C9, n, d, true)) (h : zh s0 (.fieldLink own ix own n d)) : zmX s0 own (18, a, bb, cc, .ofNat ix, []) := by
  have h9 : zh s0 (.fieldLink own ix (tC a) (tT a bb).2.1 (tT a bb).2.2.1) := by
    rw [hC, hT]
    exact h
  exact ⟨Or.inl h9, Or.inr ⟨h9, hC⟩⟩
theorem zx19 {v : Int32} {k : Int} (hv : Int32.ofInt k = v) (h : zh s0 (.constant own a v)) : zmX s0 own (19, a, bb, cc, k, []) := by
  show zh s0 (.constant own a (Int32.ofInt k))
  rw [hv]
  exact h
theorem zx20 {v : Int64} {k : Int} (hv : Int64.ofInt k = v) (h : zh s0 (.constantLong own a v)) : zmX s0 own (20, a, bb, cc, k, []) := by
  show zh s0 (.constantLong own a (Int64.ofInt k))
  rw [hv]
  exact h
theorem zx32 (hC : tC a = C) (h : zh s0 (.classLink own ix C)) : zmX s0 own (32, a, bb, cc, .ofNat ix, []) := by
  show zh s0 (.classLink own ix (tC a))
  rw [hC]
  exact h
theorem zx35 (hC : tO a = C) (h : zh s0 (.classLink own ix C)) : zmX s0 own (35, a, bb, cc, .ofNat ix, []) := by
  show zh s0 (.classLink own ix (tO a))
  rw [hC]
  exact h
theorem zx36 {y : MethodName} (hY : tY a = y) (h : zml s0 own ix y) : zmX s0 own (36, a, bb, cc, .ofNat ix, []) := by
  show zml s0 own ix (tY a)
  rw [hY]
  exact h
theorem zx38 {y : MethodName} (hY : tY a = y) (h : zml s0 own ix y) : zmX s0 own (38, a, bb, cc, .ofNat ix, []) := by
  show zml s0 own ix (tY a)
  rw [hY]
  exact h
theorem zx39 {y : MethodName} (hY : tY a = y) (h : zml s0 own ix y) : zmX s0 own (39, a, bb, cc, .ofNat ix, []) := by
  show zml s0 own ix (tY a)
  rw [hY]
  exact h
theorem zx37 (h : zh s0 (.methodLink own ix ⟨"java/lang/Math", "min", "(II)I"⟩)) : zmX s0 own (37, a, bb, cc, .ofNat ix, []) := h
theorem zx40 (h : zh s0 (.methodLink own ix ⟨"java/lang/Object", "<init>", "()V"⟩)) : zmX s0 own (40, a, bb, cc, .ofNat ix, []) := h
theorem zcode_c {mj nlv : Nat} {y : MethodName} {bt : ByteArray} {rt : Option FieldType} (hY : tY mj = y) (hB : tBt mj = bt) (hn : yg tt_nl mj = nlv) (hR : tRt mj = rt) (hH : tHh mj = []) (h : zh s0 (.code y bt nlv rt)) : zh s0 (zcode tM.2.1 tY tBt tHh tRt mj) := by
  unfold zcode
  rw [if_pos hH, hY, hB, hR]
  show zh s0 (.code y bt (yg tt_nl mj) rt)
  rw [hn]
  exact h
theorem zcode_w {mj nlv : Nat} {y : MethodName} {bt : ByteArray} {rt : Option FieldType} {hh : List (Nat × Nat × Nat × Nat)} (hY : tY mj = y) (hB : tBt mj = bt) (hn : yg tt_nl mj = nlv) (hR : tRt mj = rt) (hH : tHh mj = hh ∧ ¬ hh = []) (h : zh s0 (.codeWith y bt nlv rt hh)) : zh s0 (zcode tM.2.1 tY tBt tHh tRt mj) := by
  unfold zcode
  rw [if_neg (by rw [hH.1]; exact hH.2), hY, hB, hR, hH.1]
  show zh s0 (.codeWith y bt (yg tt_nl mj) rt hh)
  rw [hn]
  exact h
theorem zcB_36 {mj np : Nat} {y : MethodName} (hY : tY mj = y) (hp : plainFor y = true) (hc : zh s0 (zcode tM.2.1 tY tBt tHh tRt mj)) (hm : zmh y) (hn : yg tt_pn mj = np) (hd : (parseMethodDescriptor y.desc).map (fun d => d.parameters.length) = some np) (hk : yg tt_kd mj = 36) (w1 : zh s0 (.static y)) (w2 : zh s0 (.initialized y.cls)) : zcB s0 mj := by
  subst hY
  refine ⟨hp, hc, hm, ?_, Or.inl hk, fun _ => ⟨w1, w2⟩, fun g => ?_, fun g => ?_⟩
  · rw [hk, hn]; exact hd
  · rw [hk] at g; cases g
  · rw [hk] at g; cases g
theorem zcB_38 {mj np : Nat} {y : MethodName} (hY : tY mj = y) (hp : plainFor y = true) (hc : zh s0 (zcode tM.2.1 tY tBt tHh tRt mj)) (hm : zmh y) (hn : yg tt_pn mj = np + 1) (hd : (parseMethodDescriptor y.desc).map (fun d => d.parameters.length) = some np) (hk : yg tt_kd mj = 38) (hz : Nat.ble 1 1 = true) (w1 : zh s0 (.instanceMethod y)) (w2 : zh s0 (.selects y.cls y y)) (h1 : Nat.ble (yg tt_ci mj + 1) 12 = true) (h2 : tC (yg tt_ci mj) = y.cls) : zcB s0 mj := by
  subst hY
  refine ⟨hp, hc, hm, ?_, Or.inr (by omega), fun g => ?_, fun _ => ⟨w1, w2, Nat.ble_eq.mp h1, h2⟩, fun g => ?_⟩
  · rw [hk, hn]; exact hd
  · rw [hk] at g; cases g
  · rw [hk] at g; cases g
theorem zcB_39 {mj np : Nat} {y : MethodName} (hY : tY mj = y) (hp : plainFor y = true) (hc : zh s0 (zcode tM.2.1 tY tBt tHh tRt mj)) (hm : zmh y) (hn : yg tt_pn mj = np + 1) (hd : (parseMethodDescriptor y.desc).map (fun d => d.parameters.length) = some np) (hk : yg tt_kd mj = 39) (hz : Nat.ble 1 1 = true) (w1 : zh s0 (.instanceMethod y)) (h1 : y.name = "<init>") (h2 : tHh mj = []) (h3 : tRt mj = none) : zcB s0 mj := by
  subst hY
  refine ⟨hp, hc, hm, ?_, Or.inr (by omega), fun g => ?_, fun g => ?_, fun _ => ⟨w1, h1, h2, h3⟩⟩
  · rw [hk, hn]; exact hd
  · rw [hk] at g; cases g
  · rw [hk] at g; cases g
end ZX
theorem tC_0 : tC 0 = "ImageTexts$Aperture" := by decide +kernel
theorem tT_0_0 : tT 0 0 = ("ImageTexts$Aperture", "told", "Z", false) := by decide +kernel
theorem tT_0_1 : tT 0 1 = ("ImageTexts$Aperture", "kind", "I", false) := by decide +kernel
theorem tT_0_2 : tT 0 2 = ("ImageTexts$Aperture", "a", "I", false) := by decide +kernel
theorem tT_0_3 : tT 0 3 = ("ImageTexts$Aperture", "b", "I", false) := by decide +kernel
theorem tC_1 : tC 1 = "ImageTexts$Grid" := by decide +kernel
theorem tT_1_0 : tT 1 0 = ("ImageTexts$Grid", "columns", "I", false) := by decide +kernel
theorem tT_1_1 : tT 1 1 = ("ImageTexts$Grid", "rows", "I", false) := by decide +kernel
theorem tT_1_2 : tT 1 2 = ("ImageTexts$Grid", "dx", "I", false) := by decide +kernel
theorem tT_1_3 : tT 1 3 = ("ImageTexts$Grid", "dy", "I", false) := by decide +kernel
theorem tC_2 : tC 2 = "ImageTexts$Image" := by decide +kernel
theorem tT_2_0 : tT 2 0 = ("ImageTexts$Image", "macros", "[LImageTexts$Macro;", true) := by decide +kernel
theorem tT_2_1 : tT 2 1 = ("ImageTexts$Image", "apertures", "[LImageTexts$Aperture;", true) := by decide +kernel
theorem tT_2_2 : tT 2 2 = ("ImageTexts$Image", "items", "[LImageTexts$Item;", true) := by decide +kernel
theorem tT_2_3 : tT 2 3 = ("ImageTexts$Image", "macroCount", "I", false) := by decide +kernel
theorem tT_2_4 : tT 2 4 = ("ImageTexts$Image", "count", "I", false) := by decide +kernel
theorem tC_3 : tC 3 = "ImageTexts$Item" := by decide +kernel
theorem tT_3_0 : tT 3 0 = ("ImageTexts$Item", "grid", "LImageTexts$Grid;", true) := by decide +kernel
theorem tT_3_1 : tT 3 1 = ("ImageTexts$Item", "name", "LImageTexts$Name;", true) := by decide +kernel
theorem tT_3_2 : tT 3 2 = ("ImageTexts$Item", "ring", "LImageTexts$Ring;", true) := by decide +kernel
theorem tT_3_3 : tT 3 3 = ("ImageTexts$Item", "kind", "I", false) := by decide +kernel
theorem tT_3_4 : tT 3 4 = ("ImageTexts$Item", "dark", "Z", false) := by decide +kernel
theorem tT_3_5 : tT 3 5 = ("ImageTexts$Item", "aperture", "I", false) := by decide +kernel
theorem tT_3_6 : tT 3 6 = ("ImageTexts$Item", "x", "I", false) := by decide +kernel
theorem tT_3_7 : tT 3 7 = ("ImageTexts$Item", "y", "I", false) := by decide +kernel
theorem tT_3_8 : tT 3 8 = ("ImageTexts$Item", "x2", "I", false) := by decide +kernel
theorem tT_3_9 : tT 3 9 = ("ImageTexts$Item", "y2", "I", false) := by decide +kernel
theorem tC_4 : tC 4 = "ImageTexts$Macro" := by decide +kernel
theorem tT_4_0 : tT 4 0 = ("ImageTexts$Macro", "primitives", "[LImageTexts$Primitive;", true) := by decide +kernel
theorem tT_4_1 : tT 4 1 = ("ImageTexts$Macro", "count", "I", false) := by decide +kernel
theorem tC_5 : tC 5 = "ImageTexts$Name" := by decide +kernel
theorem tT_5_0 : tT 5 0 = ("ImageTexts$Name", "letters", "[C", true) := by decide +kernel
theorem tT_5_1 : tT 5 1 = ("ImageTexts$Name", "count", "I", false) := by decide +kernel
theorem tC_6 : tC 6 = "ImageTexts$Primitive" := by decide +kernel
theorem tT_6_0 : tT 6 0 = ("ImageTexts$Primitive", "kind", "I", false) := by decide +kernel
theorem tT_6_1 : tT 6 1 = ("ImageTexts$Primitive", "on", "Z", false) := by decide +kernel
theorem tT_6_2 : tT 6 2 = ("ImageTexts$Primitive", "size", "I", false) := by decide +kernel
theorem tT_6_3 : tT 6 3 = ("ImageTexts$Primitive", "height", "I", false) := by decide +kernel
theorem tT_6_4 : tT 6 4 = ("ImageTexts$Primitive", "x", "I", false) := by decide +kernel
theorem tT_6_5 : tT 6 5 = ("ImageTexts$Primitive", "y", "I", false) := by decide +kernel
theorem tC_7 : tC 7 = "ImageTexts$Reader" := by decide +kernel
theorem tT_7_0 : tT 7 0 = ("ImageTexts$Reader", "text", "[C", true) := by decide +kernel
theorem tT_7_1 : tT 7 1 = ("ImageTexts$Reader", "held", "LImageTexts$Item;", true) := by decide +kernel
theorem tT_7_2 : tT 7 2 = ("ImageTexts$Reader", "draft", "LImageTexts$Macro;", true) := by decide +kernel
theorem tT_7_3 : tT 7 3 = ("ImageTexts$Reader", "image", "LImageTexts$Image;", false) := by decide +kernel
theorem tT_7_4 : tT 7 4 = ("ImageTexts$Reader", "length", "I", false) := by decide +kernel
theorem tT_7_5 : tT 7 5 = ("ImageTexts$Reader", "place", "I", false) := by decide +kernel
theorem tT_7_6 : tT 7 6 = ("ImageTexts$Reader", "start", "I", false) := by decide +kernel
theorem tT_7_7 : tT 7 7 = ("ImageTexts$Reader", "wrong", "I", false) := by decide +kernel
theorem tT_7_8 : tT 7 8 = ("ImageTexts$Reader", "scale", "I", false) := by decide +kernel
theorem tT_7_9 : tT 7 9 = ("ImageTexts$Reader", "open", "Z", false) := by decide +kernel
theorem tT_7_10 : tT 7 10 = ("ImageTexts$Reader", "ended", "Z", false) := by decide +kernel
theorem tT_7_11 : tT 7 11 = ("ImageTexts$Reader", "feeds", "I", false) := by decide +kernel
theorem tT_7_12 : tT 7 12 = ("ImageTexts$Reader", "zeros", "I", false) := by decide +kernel
theorem tC_8 : tC 8 = "ImageTexts$Ring" := by decide +kernel
theorem tT_8_0 : tT 8 0 = ("ImageTexts$Ring", "xs", "[I", true) := by decide +kernel
theorem tT_8_1 : tT 8 1 = ("ImageTexts$Ring", "ys", "[I", true) := by decide +kernel
theorem tT_8_2 : tT 8 2 = ("ImageTexts$Ring", "count", "I", false) := by decide +kernel
theorem tC_9 : tC 9 = "ImageTexts$Writer" := by decide +kernel
theorem tT_9_0 : tT 9 0 = ("ImageTexts$Writer", "held", "LImageTexts$Item;", true) := by decide +kernel
theorem tT_9_1 : tT 9 1 = ("ImageTexts$Writer", "wanted", "I", false) := by decide +kernel
theorem tT_9_2 : tT 9 2 = ("ImageTexts$Writer", "count", "I", false) := by decide +kernel
theorem tT_9_3 : tT 9 3 = ("ImageTexts$Writer", "found", "I", false) := by decide +kernel
theorem tC_10 : tC 10 = "ImageTexts" := by decide +kernel
theorem tT_10_0 : tT 10 0 = ("ImageTexts", "reader", "LImageTexts$Reader;", true) := by decide +kernel
theorem tT_10_1 : tT 10 1 = ("ImageTexts", "writer", "LImageTexts$Writer;", true) := by decide +kernel
theorem tT_10_2 : tT 10 2 = ("ImageTexts", "habits", "[I", true) := by decide +kernel
theorem tT_10_3 : tT 10 3 = ("ImageTexts", "held", "LImageTexts$Item;", true) := by decide +kernel
theorem tT_10_4 : tT 10 4 = ("ImageTexts", "open", "Z", false) := by decide +kernel
theorem tT_10_5 : tT 10 5 = ("ImageTexts", "image", "LImageTexts$Image;", false) := by decide +kernel
theorem tC_11 : tC 11 = "ImageTextsModel" := by decide +kernel
theorem tT_11_0 : tT 11 0 = ("ImageTextsModel", "thrown", "I", false) := by decide +kernel
theorem tT_11_1 : tT 11 1 = ("ImageTextsModel", "length", "I", false) := by decide +kernel
theorem tT_11_2 : tT 11 2 = ("ImageTextsModel", "text", "[I", true) := by decide +kernel
theorem tT_11_3 : tT 11 3 = ("ImageTextsModel", "macros", "[I", true) := by decide +kernel
theorem tT_11_4 : tT 11 4 = ("ImageTextsModel", "primitives", "[I", true) := by decide +kernel
theorem tT_11_5 : tT 11 5 = ("ImageTextsModel", "primitive", "[J", true) := by decide +kernel
theorem tT_11_6 : tT 11 6 = ("ImageTextsModel", "told", "[Z", true) := by decide +kernel
theorem tT_11_7 : tT 11 7 = ("ImageTextsModel", "shapes", "[I", true) := by decide +kernel
theorem tT_11_8 : tT 11 8 = ("ImageTextsModel", "sizes", "[J", true) := by decide +kernel
theorem tT_11_9 : tT 11 9 = ("ImageTextsModel", "objects", "[I", true) := by decide +kernel
theorem tT_11_10 : tT 11 10 = ("ImageTextsModel", "object", "[J", true) := by decide +kernel
theorem tT_11_11 : tT 11 11 = ("ImageTextsModel", "letters", "[I", true) := by decide +kernel
theorem tT_11_12 : tT 11 12 = ("ImageTextsModel", "habits", "[I", true) := by decide +kernel
theorem tT_11_13 : tT 11 13 = ("ImageTextsModel", "open", "Z", false) := by decide +kernel
theorem tT_11_14 : tT 11 14 = ("ImageTextsModel", "corners", "I", false) := by decide +kernel
theorem tT_11_15 : tT 11 15 = ("ImageTextsModel", "corner", "[J", true) := by decide +kernel
theorem tT_11_16 : tT 11 16 = ("ImageTextsModel", "repeated", "[J", true) := by decide +kernel
theorem tT_11_17 : tT 11 17 = ("ImageTextsModel", "at", "I", false) := by decide +kernel
theorem tT_11_18 : tT 11 18 = ("ImageTextsModel", "began", "I", false) := by decide +kernel
theorem tT_11_19 : tT 11 19 = ("ImageTextsModel", "wrong", "I", false) := by decide +kernel
theorem tT_11_20 : tT 11 20 = ("ImageTextsModel", "scale", "J", false) := by decide +kernel
theorem tT_11_21 : tT 11 21 = ("ImageTextsModel", "means", "Z", false) := by decide +kernel
theorem tT_11_22 : tT 11 22 = ("ImageTextsModel", "numbers", "[J", true) := by decide +kernel
theorem tT_11_23 : tT 11 23 = ("ImageTextsModel", "handX", "J", false) := by decide +kernel
theorem tT_11_24 : tT 11 24 = ("ImageTextsModel", "handY", "J", false) := by decide +kernel
theorem tT_11_25 : tT 11 25 = ("ImageTextsModel", "selected", "I", false) := by decide +kernel
theorem tT_11_26 : tT 11 26 = ("ImageTextsModel", "dark", "J", false) := by decide +kernel
theorem tT_11_27 : tT 11 27 = ("ImageTextsModel", "again", "[J", true) := by decide +kernel
theorem tT_11_28 : tT 11 28 = ("ImageTextsModel", "tag", "[I", true) := by decide +kernel
theorem tT_11_29 : tT 11 29 = ("ImageTextsModel", "inside", "Z", false) := by decide +kernel
theorem tT_11_30 : tT 11 30 = ("ImageTextsModel", "rings", "I", false) := by decide +kernel
theorem tT_11_31 : tT 11 31 = ("ImageTextsModel", "ring", "[J", true) := by decide +kernel
theorem tT_11_32 : tT 11 32 = ("ImageTextsModel", "ended", "Z", false) := by decide +kernel
theorem tT_11_33 : tT 11 33 = ("ImageTextsModel", "wanted", "I", false) := by decide +kernel
theorem tT_11_34 : tT 11 34 = ("ImageTextsModel", "written", "I", false) := by decide +kernel
theorem tT_11_35 : tT 11 35 = ("ImageTextsModel", "found", "I", false) := by decide +kernel
theorem tY_0 : tY 0 = ⟨"ImageTexts$Reader", "add", "(C)Z"⟩ := by decide +kernel
theorem tY_1 : tY 1 = ⟨"ImageTexts", "unit", "(I)Z"⟩ := by decide +kernel
theorem tY_2 : tY 2 = ⟨"ImageTexts$Image", "reset", "()V"⟩ := by decide +kernel
theorem tY_3 : tY 3 = ⟨"ImageTexts$Grid", "put", "(IIJJ)V"⟩ := by decide +kernel
theorem tY_4 : tY 4 = ⟨"ImageTexts$Item", "begin", "(JJ)V"⟩ := by decide +kernel
theorem tY_5 : tY 5 = ⟨"ImageTexts$Item", "end", "(JJ)V"⟩ := by decide +kernel
theorem tY_6 : tY 6 = ⟨"ImageTexts$Item", "reset", "()V"⟩ := by decide +kernel
theorem tY_7 : tY 7 = ⟨"ImageTexts$Reader", "begin", "()V"⟩ := by decide +kernel
theorem tY_8 : tY 8 = ⟨"ImageTexts$Reader", "hasMore", "()Z"⟩ := by decide +kernel
theorem tY_9 : tY 9 = ⟨"ImageTexts$Reader", "finish", "()I"⟩ := by decide +kernel
theorem tY_10 : tY 10 = ⟨"ImageTexts$Reader", "peek", "()C"⟩ := by decide +kernel
theorem tY_11 : tY 11 = ⟨"ImageTexts$Reader", "mayBegin", "(C)Z"⟩ := by decide +kernel
theorem tY_12 : tY 12 = ⟨"ImageTexts$Reader", "fail", "()V"⟩ := by decide +kernel
theorem tY_13 : tY 13 = ⟨"ImageTexts$Reader", "take", "(C)V"⟩ := by decide +kernel
theorem tY_14 : tY 14 = ⟨"ImageTexts$Reader", "ends", "()Z"⟩ := by decide +kernel
theorem tY_15 : tY 15 = ⟨"ImageTexts$Image", "isFull", "()Z"⟩ := by decide +kernel
theorem tY_16 : tY 16 = ⟨"ImageTexts$Grid", "copy", "(LImageTexts$Grid;)V"⟩ := by decide +kernel
theorem tY_17 : tY 17 = ⟨"ImageTexts$Name", "copy", "(LImageTexts$Name;)V"⟩ := by decide +kernel
theorem tY_18 : tY 18 = ⟨"ImageTexts$Ring", "copy", "(LImageTexts$Ring;)V"⟩ := by decide +kernel
theorem tY_19 : tY 19 = ⟨"ImageTexts$Item", "become", "(ILImageTexts$Item;)V"⟩ := by decide +kernel
theorem tY_20 : tY 20 = ⟨"ImageTexts$Image", "add", "(ILImageTexts$Item;)Z"⟩ := by decide +kernel
theorem tY_21 : tY 21 = ⟨"ImageTexts$Reader", "refuse", "()V"⟩ := by decide +kernel
theorem tY_22 : tY 22 = ⟨"ImageTexts$Reader", "readRegionEnd", "()V"⟩ := by decide +kernel
theorem tY_23 : tY 23 = ⟨"ImageTexts$Reader", "amount", "(Z)I"⟩ := by decide +kernel
theorem tY_24 : tY 24 = ⟨"ImageTexts$Reader", "scaled", "(I)J"⟩ := by decide +kernel
theorem tY_25 : tY 25 = ⟨"ImageTexts$Reader", "oneOf", "(Ljava/lang/String;)C"⟩ := by decide +kernel
theorem tY_26 : tY 26 = ⟨"ImageTexts", "isNumber", "(J)Z"⟩ := by decide +kernel
theorem tY_27 : tY 27 = ⟨"ImageTexts", "isPlace", "(JJ)Z"⟩ := by decide +kernel
theorem tY_28 : tY 28 = ⟨"ImageTexts$Ring", "add", "(JJ)Z"⟩ := by decide +kernel
theorem tY_29 : tY 29 = ⟨"ImageTexts$Reader", "addCorner", "(CJJ)Z"⟩ := by decide +kernel
theorem tY_30 : tY 30 = ⟨"ImageTexts$Image", "isAperture", "(I)Z"⟩ := by decide +kernel
theorem tY_31 : tY 31 = ⟨"ImageTexts$Image", "isTold", "(I)Z"⟩ := by decide +kernel
theorem tY_32 : tY 32 = ⟨"ImageTexts$Image", "isCircle", "(I)Z"⟩ := by decide +kernel
theorem tY_33 : tY 33 = ⟨"ImageTexts$Reader", "draw", "(CJJ)Z"⟩ := by decide +kernel
theorem tY_34 : tY 34 = ⟨"ImageTexts$Reader", "readPlace", "()V"⟩ := by decide +kernel
theorem tY_35 : tY 35 = ⟨"ImageTexts$Name", "add", "(C)Z"⟩ := by decide +kernel
theorem tY_36 : tY 36 = ⟨"ImageTexts$Reader", "readAttribute", "()V"⟩ := by decide +kernel
theorem tY_37 : tY 37 = ⟨"ImageTexts$Grid", "allows", "(IIJJ)Z"⟩ := by decide +kernel
theorem tY_38 : tY 38 = ⟨"ImageTexts$Reader", "readRepeat", "()V"⟩ := by decide +kernel
theorem tY_39 : tY 39 = ⟨"ImageTexts$Primitive", "reset", "()V"⟩ := by decide +kernel
theorem tY_40 : tY 40 = ⟨"ImageTexts$Macro", "growTo", "(I)V"⟩ := by decide +kernel
theorem tY_41 : tY 41 = ⟨"ImageTexts", "isSize", "(J)Z"⟩ := by decide +kernel
theorem tY_42 : tY 42 = ⟨"ImageTexts$Primitive", "allows", "(IJ)Z"⟩ := by decide +kernel
theorem tY_43 : tY 43 = ⟨"ImageTexts$Primitive", "put", "(IJ)V"⟩ := by decide +kernel
theorem tY_44 : tY 44 = ⟨"ImageTexts$Reader", "putValue", "(LImageTexts$Primitive;IJ)Z"⟩ := by decide +kernel
theorem tY_45 : tY 45 = ⟨"ImageTexts$Reader", "readPrimitive", "(LImageTexts$Primitive;)Z"⟩ := by decide +kernel
theorem tY_46 : tY 46 = ⟨"ImageTexts$Primitive", "copy", "(LImageTexts$Primitive;)V"⟩ := by decide +kernel
theorem tY_47 : tY 47 = ⟨"ImageTexts$Macro", "copy", "(LImageTexts$Macro;)V"⟩ := by decide +kernel
theorem tY_48 : tY 48 = ⟨"ImageTexts$Image", "addMacro", "(ILImageTexts$Macro;)Z"⟩ := by decide +kernel
theorem tY_49 : tY 49 = ⟨"ImageTexts$Reader", "readMacro", "()V"⟩ := by decide +kernel
theorem tY_50 : tY 50 = ⟨"ImageTexts$Reader", "readFormat", "()V"⟩ := by decide +kernel
theorem tY_51 : tY 51 = ⟨"ImageTexts$Reader", "readSelection", "()V"⟩ := by decide +kernel
theorem tY_52 : tY 52 = ⟨"ImageTexts$Reader", "readRegionBegin", "()V"⟩ := by decide +kernel
theorem tY_53 : tY 53 = ⟨"ImageTexts$Image", "allowsShape", "(IJJ)Z"⟩ := by decide +kernel
theorem tY_54 : tY 54 = ⟨"ImageTexts$Image", "defineAperture", "(IIJJ)Z"⟩ := by decide +kernel
theorem tY_55 : tY 55 = ⟨"ImageTexts$Reader", "readAperture", "()V"⟩ := by decide +kernel
theorem tY_56 : tY 56 = ⟨"ImageTexts$Reader", "step", "()V"⟩ := by decide +kernel
theorem tY_57 : tY 57 = ⟨"ImageTexts", "read", "()I"⟩ := by decide +kernel
theorem tY_58 : tY 58 = ⟨"ImageTexts$Image", "hasItem", "(I)Z"⟩ := by decide +kernel
theorem tY_59 : tY 59 = ⟨"ImageTexts$Item", "valueOf", "(I)I"⟩ := by decide +kernel
theorem tY_60 : tY 60 = ⟨"ImageTexts", "object", "(II)I"⟩ := by decide +kernel
theorem tY_61 : tY 61 = ⟨"java/lang/Math", "min", "(II)I"⟩ := by decide +kernel
theorem tY_62 : tY 62 = ⟨"ImageTexts$Ring", "sideOf", "(IIJJ)J"⟩ := by decide +kernel
theorem tY_63 : tY 63 = ⟨"java/lang/Math", "min", "(JJ)J"⟩ := by decide +kernel
theorem tY_64 : tY 64 = ⟨"java/lang/Math", "max", "(JJ)J"⟩ := by decide +kernel
theorem tY_65 : tY 65 = ⟨"ImageTexts$Ring", "isBetween", "(JJJ)Z"⟩ := by decide +kernel
theorem tY_66 : tY 66 = ⟨"ImageTexts$Ring", "has", "(JJ)Z"⟩ := by decide +kernel
theorem tY_67 : tY 67 = ⟨"java/lang/Math", "abs", "(J)J"⟩ := by decide +kernel
theorem tY_68 : tY 68 = ⟨"ImageTexts", "shapeHas", "(IJJJJ)Z"⟩ := by decide +kernel
theorem tY_69 : tY 69 = ⟨"ImageTexts", "upperProduct", "(JJ)J"⟩ := by decide +kernel
theorem tY_70 : tY 70 = ⟨"ImageTexts", "lowerProduct", "(JJ)J"⟩ := by decide +kernel
theorem tY_71 : tY 71 = ⟨"ImageTexts", "isSquareAtMost", "(JJJ)Z"⟩ := by decide +kernel
theorem tY_72 : tY 72 = ⟨"ImageTexts$Item", "isNear", "(JJJ)Z"⟩ := by decide +kernel
theorem tY_73 : tY 73 = ⟨"ImageTexts$Image", "isMacro", "(I)Z"⟩ := by decide +kernel
theorem tY_74 : tY 74 = ⟨"ImageTexts$Macro", "has", "(JJ)Z"⟩ := by decide +kernel
theorem tY_75 : tY 75 = ⟨"ImageTexts$Image", "hasOnce", "(LImageTexts$Item;JJ)Z"⟩ := by decide +kernel
theorem tY_76 : tY 76 = ⟨"ImageTexts$Image", "hasSomeCopy", "(LImageTexts$Item;JJ)Z"⟩ := by decide +kernel
theorem tY_77 : tY 77 = ⟨"ImageTexts$Image", "hasCopper", "(JJ)Z"⟩ := by decide +kernel
theorem tY_78 : tY 78 = ⟨"ImageTexts", "in", "(JJ)Z"⟩ := by decide +kernel
theorem tY_79 : tY 79 = ⟨"ImageTexts", "odd", "(I)I"⟩ := by decide +kernel
theorem tY_80 : tY 80 = ⟨"ImageTexts$Image", "nextAperture", "()I"⟩ := by decide +kernel
theorem tY_81 : tY 81 = ⟨"ImageTexts", "aperture", "(IJJ)I"⟩ := by decide +kernel
theorem tY_82 : tY 82 = ⟨"ImageTexts$Image", "newMacro", "()I"⟩ := by decide +kernel
theorem tY_83 : tY 83 = ⟨"ImageTexts", "macro", "(IIJ)I"⟩ := by decide +kernel
theorem tY_84 : tY 84 = ⟨"ImageTexts", "flash", "(IJJZ)Z"⟩ := by decide +kernel
theorem tY_85 : tY 85 = ⟨"ImageTexts", "line", "(IJJJJ)Z"⟩ := by decide +kernel
theorem tY_86 : tY 86 = ⟨"ImageTexts", "openRegion", "()Z"⟩ := by decide +kernel
theorem tY_87 : tY 87 = ⟨"ImageTexts", "closeRegion", "()Z"⟩ := by decide +kernel
theorem tY_88 : tY 88 = ⟨"ImageTexts", "region", "(Z)Z"⟩ := by decide +kernel
theorem tY_89 : tY 89 = ⟨"ImageTexts", "corner", "(JJ)Z"⟩ := by decide +kernel
theorem tY_90 : tY 90 = ⟨"ImageTexts$Writer", "put", "(C)V"⟩ := by decide +kernel
theorem tY_91 : tY 91 = ⟨"java/lang/Math", "abs", "(I)I"⟩ := by decide +kernel
theorem tY_92 : tY 92 = ⟨"ImageTexts$Writer", "putNumber", "(I)V"⟩ := by decide +kernel
theorem tY_93 : tY 93 = ⟨"ImageTexts$Writer", "putShapeLetter", "(I)V"⟩ := by decide +kernel
theorem tY_94 : tY 94 = ⟨"ImageTexts$Writer", "putNext", "(I)V"⟩ := by decide +kernel
theorem tY_95 : tY 95 = ⟨"ImageTexts$Writer", "putMacro", "(ILImageTexts$Macro;)V"⟩ := by decide +kernel
theorem tY_96 : tY 96 = ⟨"ImageTexts$Writer", "putAperture", "(ILImageTexts$Aperture;)V"⟩ := by decide +kernel
theorem tY_97 : tY 97 = ⟨"ImageTexts$Grid", "is", "(IIJJ)Z"⟩ := by decide +kernel
theorem tY_98 : tY 98 = ⟨"ImageTexts$Grid", "isLike", "(LImageTexts$Grid;)Z"⟩ := by decide +kernel
theorem tY_99 : tY 99 = ⟨"ImageTexts$Writer", "putGrid", "(LImageTexts$Grid;)V"⟩ := by decide +kernel
theorem tY_100 : tY 100 = ⟨"ImageTexts$Name", "letterAt", "(I)I"⟩ := by decide +kernel
theorem tY_101 : tY 101 = ⟨"ImageTexts$Name", "isLike", "(LImageTexts$Name;)Z"⟩ := by decide +kernel
theorem tY_102 : tY 102 = ⟨"ImageTexts$Writer", "putName", "(LImageTexts$Name;)V"⟩ := by decide +kernel
theorem tY_103 : tY 103 = ⟨"ImageTexts$Writer", "putChanges", "(LImageTexts$Item;)V"⟩ := by decide +kernel
theorem tY_104 : tY 104 = ⟨"ImageTexts$Writer", "putPlace", "(IIC)V"⟩ := by decide +kernel
theorem tY_105 : tY 105 = ⟨"ImageTexts$Writer", "putRing", "(LImageTexts$Ring;)V"⟩ := by decide +kernel
theorem tY_106 : tY 106 = ⟨"ImageTexts$Writer", "putItem", "(LImageTexts$Item;)V"⟩ := by decide +kernel
theorem tY_107 : tY 107 = ⟨"ImageTexts$Writer", "characterOf", "(LImageTexts$Image;I)I"⟩ := by decide +kernel
theorem tY_108 : tY 108 = ⟨"ImageTexts", "write", "(I)I"⟩ := by decide +kernel
theorem tY_109 : tY 109 = ⟨"ImageTexts$Ring", "isLike", "(LImageTexts$Ring;)Z"⟩ := by decide +kernel
theorem tY_110 : tY 110 = ⟨"ImageTexts$Item", "isLikeButAperture", "(LImageTexts$Item;)Z"⟩ := by decide +kernel
theorem tY_111 : tY 111 = ⟨"ImageTexts$Primitive", "isLike", "(LImageTexts$Primitive;)Z"⟩ := by decide +kernel
theorem tY_112 : tY 112 = ⟨"ImageTexts$Macro", "isLike", "(LImageTexts$Macro;)Z"⟩ := by decide +kernel
theorem tY_113 : tY 113 = ⟨"ImageTexts$Image", "areShapesAlike", "(II)Z"⟩ := by decide +kernel
theorem tY_114 : tY 114 = ⟨"ImageTexts$Image", "areAlike", "(II)Z"⟩ := by decide +kernel
theorem tY_115 : tY 115 = ⟨"ImageTexts", "same", "(I)Z"⟩ := by decide +kernel
theorem tY_116 : tY 116 = ⟨"ImageTexts", "attribute", "(II)I"⟩ := by decide +kernel
theorem tY_117 : tY 117 = ⟨"ImageTexts", "repeat", "(IIJJ)I"⟩ := by decide +kernel
theorem tY_118 : tY 118 = ⟨"ImageTexts", "clear", "()V"⟩ := by decide +kernel
theorem tY_119 : tY 119 = ⟨"ImageTextsModel", "thrown", "()I"⟩ := by decide +kernel
theorem tY_120 : tY 120 = ⟨"ImageTextsModel", "empty", "(I)V"⟩ := by decide +kernel
theorem tY_121 : tY 121 = ⟨"ImageTextsModel", "clear", "()V"⟩ := by decide +kernel
theorem tY_122 : tY 122 = ⟨"ImageTextsModel", "unit", "(I)Z"⟩ := by decide +kernel
theorem tY_123 : tY 123 = ⟨"ImageTextsModel", "isPlace", "(J)Z"⟩ := by decide +kernel
theorem tY_124 : tY 124 = ⟨"ImageTextsModel", "isLength", "(J)Z"⟩ := by decide +kernel
theorem tY_125 : tY 125 = ⟨"ImageTextsModel", "place", "(II)I"⟩ := by decide +kernel
theorem tY_126 : tY 126 = ⟨"ImageTextsModel", "add", "(IIJJJJ)I"⟩ := by decide +kernel
theorem tY_127 : tY 127 = ⟨"ImageTextsModel", "repeatObject", "(IZ)V"⟩ := by decide +kernel
theorem tY_128 : tY 128 = ⟨"ImageTextsModel", "now", "()I"⟩ := by decide +kernel
theorem tY_129 : tY 129 = ⟨"ImageTextsModel", "fail", "()V"⟩ := by decide +kernel
theorem tY_130 : tY 130 = ⟨"ImageTextsModel", "isDigit", "(I)Z"⟩ := by decide +kernel
theorem tY_131 : tY 131 = ⟨"ImageTextsModel", "expect", "(I)V"⟩ := by decide +kernel
theorem tY_132 : tY 132 = ⟨"ImageTextsModel", "whole", "()J"⟩ := by decide +kernel
theorem tY_133 : tY 133 = ⟨"ImageTextsModel", "number", "()J"⟩ := by decide +kernel
theorem tY_134 : tY 134 = ⟨"ImageTextsModel", "list", "(III)V"⟩ := by decide +kernel
theorem tY_135 : tY 135 = ⟨"ImageTextsModel", "must", "(Z)V"⟩ := by decide +kernel
theorem tY_136 : tY 136 = ⟨"ImageTextsModel", "finish", "()Z"⟩ := by decide +kernel
theorem tY_137 : tY 137 = ⟨"ImageTextsModel", "tellPrimitive", "(III)V"⟩ := by decide +kernel
theorem tY_138 : tY 138 = ⟨"ImageTextsModel", "readMacro", "()V"⟩ := by decide +kernel
theorem tY_139 : tY 139 = ⟨"ImageTextsModel", "isNumbered", "(J)Z"⟩ := by decide +kernel
theorem tY_140 : tY 140 = ⟨"ImageTextsModel", "tellAperture", "(IIIJJ)V"⟩ := by decide +kernel
theorem tY_141 : tY 141 = ⟨"ImageTextsModel", "readAperture", "()V"⟩ := by decide +kernel
theorem tY_142 : tY 142 = ⟨"ImageTextsModel", "tell", "(IJJJ)I"⟩ := by decide +kernel
theorem tY_143 : tY 143 = ⟨"ImageTextsModel", "readPlace", "()V"⟩ := by decide +kernel
theorem tY_144 : tY 144 = ⟨"ImageTextsModel", "readRepeat", "()V"⟩ := by decide +kernel
theorem tY_145 : tY 145 = ⟨"ImageTextsModel", "readTag", "()V"⟩ := by decide +kernel
theorem tY_146 : tY 146 = ⟨"ImageTextsModel", "endRegion", "()V"⟩ := by decide +kernel
theorem tY_147 : tY 147 = ⟨"ImageTextsModel", "readScale", "()V"⟩ := by decide +kernel
theorem tY_148 : tY 148 = ⟨"ImageTextsModel", "readSelected", "()V"⟩ := by decide +kernel
theorem tY_149 : tY 149 = ⟨"ImageTextsModel", "beginRegion", "()V"⟩ := by decide +kernel
theorem tY_150 : tY 150 = ⟨"ImageTextsModel", "readCommand", "(I)V"⟩ := by decide +kernel
theorem tY_151 : tY 151 = ⟨"ImageTextsModel", "begin", "()V"⟩ := by decide +kernel
theorem tY_152 : tY 152 = ⟨"ImageTextsModel", "tellOver", "(I)V"⟩ := by decide +kernel
theorem tY_153 : tY 153 = ⟨"ImageTextsModel", "take", "()V"⟩ := by decide +kernel
theorem tY_154 : tY 154 = ⟨"ImageTextsModel", "read", "()I"⟩ := by decide +kernel
theorem tY_155 : tY 155 = ⟨"ImageTextsModel", "odd", "(I)I"⟩ := by decide +kernel
theorem tY_156 : tY 156 = ⟨"ImageTextsModel", "aperture", "(IJJ)I"⟩ := by decide +kernel
theorem tY_157 : tY 157 = ⟨"ImageTextsModel", "plainPrimitive", "(I)V"⟩ := by decide +kernel
theorem tY_158 : tY 158 = ⟨"ImageTextsModel", "macro", "(IIJ)I"⟩ := by decide +kernel
theorem tY_159 : tY 159 = ⟨"ImageTextsModel", "isAperture", "(I)Z"⟩ := by decide +kernel
theorem tY_160 : tY 160 = ⟨"ImageTextsModel", "flash", "(IJJZ)Z"⟩ := by decide +kernel
theorem tY_161 : tY 161 = ⟨"ImageTextsModel", "line", "(IJJJJ)Z"⟩ := by decide +kernel
theorem tY_162 : tY 162 = ⟨"ImageTextsModel", "region", "(Z)Z"⟩ := by decide +kernel
theorem tY_163 : tY 163 = ⟨"ImageTextsModel", "corner", "(JJ)Z"⟩ := by decide +kernel
theorem tY_164 : tY 164 = ⟨"ImageTextsModel", "repeat", "(IIJJ)I"⟩ := by decide +kernel
theorem tY_165 : tY 165 = ⟨"ImageTextsModel", "isObject", "(I)Z"⟩ := by decide +kernel
theorem tY_166 : tY 166 = ⟨"ImageTextsModel", "object", "(II)I"⟩ := by decide +kernel
theorem tY_167 : tY 167 = ⟨"ImageTextsModel", "attribute", "(II)I"⟩ := by decide +kernel
theorem tY_168 : tY 168 = ⟨"ImageTextsModel", "upper", "(JJ)J"⟩ := by decide +kernel
theorem tY_169 : tY 169 = ⟨"ImageTextsModel", "isMore", "(JJJJ)Z"⟩ := by decide +kernel
theorem tY_170 : tY 170 = ⟨"ImageTextsModel", "size", "(J)J"⟩ := by decide +kernel
theorem tY_171 : tY 171 = ⟨"ImageTextsModel", "isWithin", "(JJJJJJJ)Z"⟩ := by decide +kernel
theorem tY_172 : tY 172 = ⟨"ImageTextsModel", "has", "(JJJJJ)Z"⟩ := by decide +kernel
theorem tY_173 : tY 173 = ⟨"ImageTextsModel", "apertureHas", "(IJJ)Z"⟩ := by decide +kernel
theorem tY_174 : tY 174 = ⟨"ImageTextsModel", "regionHas", "(IJJ)Z"⟩ := by decide +kernel
theorem tY_175 : tY 175 = ⟨"ImageTextsModel", "objectHas", "(IJJ)Z"⟩ := by decide +kernel
theorem tY_176 : tY 176 = ⟨"ImageTextsModel", "in", "(JJ)Z"⟩ := by decide +kernel
theorem tY_177 : tY 177 = ⟨"ImageTextsModel", "haveOneShape", "(II)Z"⟩ := by decide +kernel
theorem tY_178 : tY 178 = ⟨"ImageTextsModel", "same", "(I)Z"⟩ := by decide +kernel
theorem tY_179 : tY 179 = ⟨"ImageTextsModel", "say", "(I)V"⟩ := by decide +kernel
theorem tY_180 : tY 180 = ⟨"ImageTextsModel", "sayNumber", "(J)V"⟩ := by decide +kernel
theorem tY_181 : tY 181 = ⟨"ImageTextsModel", "sayNext", "(J)V"⟩ := by decide +kernel
theorem tY_182 : tY 182 = ⟨"ImageTextsModel", "sayPlace", "(JJI)V"⟩ := by decide +kernel
theorem tY_183 : tY 183 = ⟨"ImageTextsModel", "sayMacro", "(I)V"⟩ := by decide +kernel
theorem tY_184 : tY 184 = ⟨"ImageTextsModel", "sayAperture", "(I)V"⟩ := by decide +kernel
theorem tY_185 : tY 185 = ⟨"ImageTextsModel", "held", "(II)J"⟩ := by decide +kernel
theorem tY_186 : tY 186 = ⟨"ImageTextsModel", "heldLetter", "(II)I"⟩ := by decide +kernel
theorem tY_187 : tY 187 = ⟨"ImageTextsModel", "sayAhead", "(I)V"⟩ := by decide +kernel
theorem tY_188 : tY 188 = ⟨"ImageTextsModel", "sayObjects", "()V"⟩ := by decide +kernel
theorem tY_189 : tY 189 = ⟨"ImageTextsModel", "write", "(I)I"⟩ := by decide +kernel
theorem tY_190 : tY 190 = ⟨"ImageTextsLaw", "object", "(LImageTexts;II[J)I"⟩ := by decide +kernel
theorem tY_191 : tY 191 = ⟨"ImageTextsLaw", "odd", "(LImageTexts;I[J)I"⟩ := by decide +kernel
theorem tY_192 : tY 192 = ⟨"ImageTextsLaw", "aperture", "(LImageTexts;IJJ[J)I"⟩ := by decide +kernel
theorem tY_193 : tY 193 = ⟨"ImageTextsLaw", "macro", "(LImageTexts;IIJ[J)I"⟩ := by decide +kernel
theorem tY_194 : tY 194 = ⟨"ImageTextsLaw", "flash", "(LImageTexts;IJJZ[J)I"⟩ := by decide +kernel
theorem tY_195 : tY 195 = ⟨"ImageTextsLaw", "line", "(LImageTexts;IJJJJ[J)I"⟩ := by decide +kernel
theorem tY_196 : tY 196 = ⟨"ImageTextsLaw", "corner", "(LImageTexts;JJ[J)I"⟩ := by decide +kernel
theorem tY_197 : tY 197 = ⟨"ImageTextsLaw", "write", "(LImageTexts;I[J)I"⟩ := by decide +kernel
theorem tY_198 : tY 198 = ⟨"ImageTextsLaw", "same", "(LImageTexts;I[J)I"⟩ := by decide +kernel
theorem tY_199 : tY 199 = ⟨"ImageTextsLaw", "attribute", "(LImageTexts;II[J)I"⟩ := by decide +kernel
theorem tY_200 : tY 200 = ⟨"ImageTextsLaw", "repeat", "(LImageTexts;IIJJ[J)I"⟩ := by decide +kernel
theorem tY_201 : tY 201 = ⟨"ImageTexts", "<init>", "()V"⟩ := by decide +kernel
theorem tY_202 : tY 202 = ⟨"ImageTextsModel", "<init>", "()V"⟩ := by decide +kernel
theorem tY_203 : tY 203 = ⟨"ImageTexts$Aperture", "<init>", "()V"⟩ := by decide +kernel
theorem tY_204 : tY 204 = ⟨"ImageTexts$Grid", "<init>", "()V"⟩ := by decide +kernel
theorem tY_205 : tY 205 = ⟨"ImageTexts$Image", "<init>", "()V"⟩ := by decide +kernel
theorem tY_206 : tY 206 = ⟨"ImageTexts$Item", "<init>", "()V"⟩ := by decide +kernel
theorem tY_207 : tY 207 = ⟨"ImageTexts$Macro", "<init>", "()V"⟩ := by decide +kernel
theorem tY_208 : tY 208 = ⟨"ImageTexts$Name", "<init>", "()V"⟩ := by decide +kernel
theorem tY_209 : tY 209 = ⟨"ImageTexts$Primitive", "<init>", "()V"⟩ := by decide +kernel
theorem tY_210 : tY 210 = ⟨"ImageTexts$Reader", "<init>", "()V"⟩ := by decide +kernel
theorem tY_211 : tY 211 = ⟨"ImageTexts$Ring", "<init>", "()V"⟩ := by decide +kernel
theorem tY_212 : tY 212 = ⟨"ImageTexts$Writer", "<init>", "()V"⟩ := by decide +kernel
theorem tY_213 : tY 213 = ⟨"ImageTextsLaw", "law", "([I)Z"⟩ := by decide +kernel
theorem tY_214 : tY 214 = ⟨"java/lang/String", "indexOf", "(I)I"⟩ := by decide +kernel
theorem tY_215 : tY 215 = ⟨"java/lang/String", "indexOf", "(II)I"⟩ := by decide +kernel
theorem tY_216 : tY 216 = ⟨"java/lang/String", "isLatin1", "()Z"⟩ := by decide +kernel
theorem tY_217 : tY 217 = ⟨"java/lang/String", "length", "()I"⟩ := by decide +kernel
theorem tY_218 : tY 218 = ⟨"java/lang/String", "coder", "()B"⟩ := by decide +kernel
theorem tY_219 : tY 219 = ⟨"java/lang/StringLatin1", "indexOf", "([BIII)I"⟩ := by decide +kernel
theorem tY_220 : tY 220 = ⟨"java/lang/StringLatin1", "canEncode", "(I)Z"⟩ := by decide +kernel
theorem tY_221 : tY 221 = ⟨"java/lang/Math", "max", "(II)I"⟩ := by decide +kernel
theorem tY_222 : tY 222 = ⟨"java/lang/StringLatin1", "indexOfChar", "([BIII)I"⟩ := by decide +kernel
