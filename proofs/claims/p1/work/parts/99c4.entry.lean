/-! the entries' words -/
section ZX
variable {s0 : State} {own C n d : String} {a bb cc ix : Nat}
theorem zx17 {C9 : String} {f : Bool} (hC : tC a = C) (hT : tT a bb = (C9, n, d, f)) (h : zlw s0 own ix C n d) : zmX s0 own (17, a, bb, cc, .ofNat ix, []) := by
  show zlw s0 own ix (tC a) (tT a bb).2.1 (tT a bb).2.2.1
  rw [hC, hT]
  exact h
theorem zx18 {C9 : String} (hC : tC a = C) (hT : tT a bb = (C9, n, d, false)) (h : zlw s0 own ix C n d) : zmX s0 own (18, a, bb, cc, .ofNat ix, []) := by
  refine ⟨?_, Or.inl ?_⟩
  · show zlw s0 own ix (tC a) (tT a bb).2.1 (tT a bb).2.2.1
    rw [hC, hT]
    exact h
  · show (tT a bb).2.2.2 = false
    rw [hT]
theorem zx18f {C9 : String} (hC : tC a = own) (hT : tT a bb = (C9, n, d, true)) (h : zh s0 (.fieldLink own ix own n d)) : zmX s0 own (18, a, bb, cc, .ofNat ix, []) := by
  have h9 : zh s0 (.fieldLink own ix (tC a) (tT a bb).2.1 (tT a bb).2.2.1) := by
    rw [hC, hT]
    exact h
  exact ⟨Or.inl h9, Or.inr ⟨h9, hC⟩⟩
theorem zx19 {v : Int32} {k : Int} (hv : Int32.ofInt k = v) (h : zh s0 (.constant own a v)) : zmX s0 own (19, a, bb, cc, k, []) := by
  show zh s0 (.constant own a (Int32.ofInt k))
  rw [hv]
  exact h
theorem zx20 {v : Int64} {k : Int} (hv : Int64.ofInt k = v) (h : zh s0 (.constantLong own a v)) : zmX s0 own (20, a, bb, cc, k, []) := by
  show zh s0 (.constantLong own a (Int64.ofInt k))
  rw [hv]
  exact h
theorem zx32 (hC : tC a = C) (h : zh s0 (.classLink own ix C)) : zmX s0 own (32, a, bb, cc, .ofNat ix, []) := by
  show zh s0 (.classLink own ix (tC a))
  rw [hC]
  exact h
theorem zx35 (hC : tO a = C) (h : zh s0 (.classLink own ix C)) : zmX s0 own (35, a, bb, cc, .ofNat ix, []) := by
  show zh s0 (.classLink own ix (tO a))
  rw [hC]
  exact h
theorem zx36 {y : MethodName} (hY : tY a = y) (h : zml s0 own ix y) : zmX s0 own (36, a, bb, cc, .ofNat ix, []) := by
  show zml s0 own ix (tY a)
  rw [hY]
  exact h
theorem zx38 {y : MethodName} (hY : tY a = y) (h : zml s0 own ix y) : zmX s0 own (38, a, bb, cc, .ofNat ix, []) := by
  show zml s0 own ix (tY a)
  rw [hY]
  exact h
theorem zx39 {y : MethodName} (hY : tY a = y) (h : zml s0 own ix y) : zmX s0 own (39, a, bb, cc, .ofNat ix, []) := by
  show zml s0 own ix (tY a)
  rw [hY]
  exact h
theorem zx37 (h : zh s0 (.methodLink own ix ⟨"java/lang/Math", "min", "(II)I"⟩)) : zmX s0 own (37, a, bb, cc, .ofNat ix, []) := h
theorem zx40 (h : zh s0 (.methodLink own ix ⟨"java/lang/Object", "<init>", "()V"⟩)) : zmX s0 own (40, a, bb, cc, .ofNat ix, []) := h
theorem zcode_c {mj nlv : Nat} {y : MethodName} {bt : ByteArray} {rt : Option FieldType} (hY : tY mj = y) (hB : tBt mj = bt) (hn : xg tt_nl mj = nlv) (hR : tRt mj = rt) (hH : tHh mj = []) (h : zh s0 (.code y bt nlv rt)) : zh s0 (zcode tM.2.1 tY tBt tHh tRt mj) := by
  unfold zcode
  rw [if_pos hH, hY, hB, hR]
  show zh s0 (.code y bt (xg tt_nl mj) rt)
  rw [hn]
  exact h
theorem zcode_w {mj nlv : Nat} {y : MethodName} {bt : ByteArray} {rt : Option FieldType} {hh : List (Nat × Nat × Nat × Nat)} (hY : tY mj = y) (hB : tBt mj = bt) (hn : xg tt_nl mj = nlv) (hR : tRt mj = rt) (hH : tHh mj = hh ∧ ¬ hh = []) (h : zh s0 (.codeWith y bt nlv rt hh)) : zh s0 (zcode tM.2.1 tY tBt tHh tRt mj) := by
  unfold zcode
  rw [if_neg (by rw [hH.1]; exact hH.2), hY, hB, hR, hH.1]
  show zh s0 (.codeWith y bt (xg tt_nl mj) rt hh)
  rw [hn]
  exact h
theorem zcB_36 {mj np : Nat} {y : MethodName} (hY : tY mj = y) (hp : plainFor y = true) (hc : zh s0 (zcode tM.2.1 tY tBt tHh tRt mj)) (hm : zmh y) (hn : xg tt_pn mj = np) (hd : (parseMethodDescriptor y.desc).map (fun d => d.parameters.length) = some np) (hk : xg tt_kd mj = 36) (w1 : zh s0 (.static y)) (w2 : zh s0 (.initialized y.cls)) : zcB s0 mj := by
  subst hY
  refine ⟨hp, hc, hm, ?_, Or.inl hk, fun _ => ⟨w1, w2⟩, fun g => ?_, fun g => ?_⟩
  · rw [hk, hn]; exact hd
  · rw [hk] at g; cases g
  · rw [hk] at g; cases g
theorem zcB_38 {mj np : Nat} {y : MethodName} (hY : tY mj = y) (hp : plainFor y = true) (hc : zh s0 (zcode tM.2.1 tY tBt tHh tRt mj)) (hm : zmh y) (hn : xg tt_pn mj = np + 1) (hd : (parseMethodDescriptor y.desc).map (fun d => d.parameters.length) = some np) (hk : xg tt_kd mj = 38) (hz : Nat.ble 1 1 = true) (w1 : zh s0 (.instanceMethod y)) (w2 : zh s0 (.selects y.cls y y)) (h1 : Nat.ble (xg tt_ci mj + 1) 12 = true) (h2 : tC (xg tt_ci mj) = y.cls) : zcB s0 mj := by
  subst hY
  refine ⟨hp, hc, hm, ?_, Or.inr (by omega), fun g => ?_, fun _ => ⟨w1, w2, Nat.ble_eq.mp h1, h2⟩, fun g => ?_⟩
  · rw [hk, hn]; exact hd
  · rw [hk] at g; cases g
  · rw [hk] at g; cases g
theorem zcB_39 {mj np : Nat} {y : MethodName} (hY : tY mj = y) (hp : plainFor y = true) (hc : zh s0 (zcode tM.2.1 tY tBt tHh tRt mj)) (hm : zmh y) (hn : xg tt_pn mj = np + 1) (hd : (parseMethodDescriptor y.desc).map (fun d => d.parameters.length) = some np) (hk : xg tt_kd mj = 39) (hz : Nat.ble 1 1 = true) (w1 : zh s0 (.instanceMethod y)) (h1 : y.name = "<init>") (h2 : tHh mj = []) (h3 : tRt mj = none) : zcB s0 mj := by
  subst hY
  refine ⟨hp, hc, hm, ?_, Or.inr (by omega), fun g => ?_, fun g => ?_, fun _ => ⟨w1, h1, h2, h3⟩⟩
  · rw [hk, hn]; exact hd
  · rw [hk] at g; cases g
  · rw [hk] at g; cases g
end ZX
theorem tC_0 : tC 0 = "ImageTexts$Aperture" := by decide +kernel
theorem tT_0_0 : tT 0 0 = ("ImageTexts$Aperture", "told", "Z", false) := by decide +kernel
theorem tT_0_1 : tT 0 1 = ("ImageTexts$Aperture", "kind", "I", false) := by decide +kernel
theorem tT_0_2 : tT 0 2 = ("ImageTexts$Aperture", "a", "I", false) := by decide +kernel
theorem tT_0_3 : tT 0 3 = ("ImageTexts$Aperture", "b", "I", false) := by decide +kernel
theorem tC_1 : tC 1 = "ImageTexts$Grid" := by decide +kernel
theorem tT_1_0 : tT 1 0 = ("ImageTexts$Grid", "columns", "I", false) := by decide +kernel
theorem tT_1_1 : tT 1 1 = ("ImageTexts$Grid", "rows", "I", false) := by decide +kernel
theorem tT_1_2 : tT 1 2 = ("ImageTexts$Grid", "dx", "I", false) := by decide +kernel
theorem tT_1_3 : tT 1 3 = ("ImageTexts$Grid", "dy", "I", false) := by decide +kernel
theorem tC_2 : tC 2 = "ImageTexts$Image" := by decide +kernel
theorem tT_2_0 : tT 2 0 = ("ImageTexts$Image", "macros", "[LImageTexts$Macro;", true) := by decide +kernel
theorem tT_2_1 : tT 2 1 = ("ImageTexts$Image", "apertures", "[LImageTexts$Aperture;", true) := by decide +kernel
theorem tT_2_2 : tT 2 2 = ("ImageTexts$Image", "items", "[LImageTexts$Item;", true) := by decide +kernel
theorem tT_2_3 : tT 2 3 = ("ImageTexts$Image", "macroCount", "I", false) := by decide +kernel
theorem tT_2_4 : tT 2 4 = ("ImageTexts$Image", "count", "I", false) := by decide +kernel
theorem tC_3 : tC 3 = "ImageTexts$Item" := by decide +kernel
theorem tT_3_0 : tT 3 0 = ("ImageTexts$Item", "grid", "LImageTexts$Grid;", true) := by decide +kernel
theorem tT_3_1 : tT 3 1 = ("ImageTexts$Item", "name", "LImageTexts$Name;", true) := by decide +kernel
theorem tT_3_2 : tT 3 2 = ("ImageTexts$Item", "ring", "LImageTexts$Ring;", true) := by decide +kernel
theorem tT_3_3 : tT 3 3 = ("ImageTexts$Item", "kind", "I", false) := by decide +kernel
theorem tT_3_4 : tT 3 4 = ("ImageTexts$Item", "dark", "Z", false) := by decide +kernel
theorem tT_3_5 : tT 3 5 = ("ImageTexts$Item", "aperture", "I", false) := by decide +kernel
theorem tT_3_6 : tT 3 6 = ("ImageTexts$Item", "x", "I", false) := by decide +kernel
theorem tT_3_7 : tT 3 7 = ("ImageTexts$Item", "y", "I", false) := by decide +kernel
theorem tT_3_8 : tT 3 8 = ("ImageTexts$Item", "x2", "I", false) := by decide +kernel
theorem tT_3_9 : tT 3 9 = ("ImageTexts$Item", "y2", "I", false) := by decide +kernel
theorem tC_4 : tC 4 = "ImageTexts$Macro" := by decide +kernel
theorem tT_4_0 : tT 4 0 = ("ImageTexts$Macro", "primitives", "[LImageTexts$Primitive;", true) := by decide +kernel
theorem tT_4_1 : tT 4 1 = ("ImageTexts$Macro", "count", "I", false) := by decide +kernel
theorem tC_5 : tC 5 = "ImageTexts$Name" := by decide +kernel
theorem tT_5_0 : tT 5 0 = ("ImageTexts$Name", "letters", "[C", true) := by decide +kernel
theorem tT_5_1 : tT 5 1 = ("ImageTexts$Name", "count", "I", false) := by decide +kernel
theorem tC_6 : tC 6 = "ImageTexts$Primitive" := by decide +kernel
theorem tT_6_0 : tT 6 0 = ("ImageTexts$Primitive", "kind", "I", false) := by decide +kernel
theorem tT_6_1 : tT 6 1 = ("ImageTexts$Primitive", "on", "Z", false) := by decide +kernel
theorem tT_6_2 : tT 6 2 = ("ImageTexts$Primitive", "size", "I", false) := by decide +kernel
theorem tT_6_3 : tT 6 3 = ("ImageTexts$Primitive", "height", "I", false) := by decide +kernel
theorem tT_6_4 : tT 6 4 = ("ImageTexts$Primitive", "x", "I", false) := by decide +kernel
theorem tT_6_5 : tT 6 5 = ("ImageTexts$Primitive", "y", "I", false) := by decide +kernel
theorem tC_7 : tC 7 = "ImageTexts$Reader" := by decide +kernel
theorem tT_7_0 : tT 7 0 = ("ImageTexts$Reader", "text", "[C", true) := by decide +kernel
theorem tT_7_1 : tT 7 1 = ("ImageTexts$Reader", "held", "LImageTexts$Item;", true) := by decide +kernel
theorem tT_7_2 : tT 7 2 = ("ImageTexts$Reader", "draft", "LImageTexts$Macro;", true) := by decide +kernel
theorem tT_7_3 : tT 7 3 = ("ImageTexts$Reader", "image", "LImageTexts$Image;", false) := by decide +kernel
theorem tT_7_4 : tT 7 4 = ("ImageTexts$Reader", "length", "I", false) := by decide +kernel
theorem tT_7_5 : tT 7 5 = ("ImageTexts$Reader", "place", "I", false) := by decide +kernel
theorem tT_7_6 : tT 7 6 = ("ImageTexts$Reader", "start", "I", false) := by decide +kernel
theorem tT_7_7 : tT 7 7 = ("ImageTexts$Reader", "wrong", "I", false) := by decide +kernel
theorem tT_7_8 : tT 7 8 = ("ImageTexts$Reader", "scale", "I", false) := by decide +kernel
theorem tT_7_9 : tT 7 9 = ("ImageTexts$Reader", "open", "Z", false) := by decide +kernel
theorem tT_7_10 : tT 7 10 = ("ImageTexts$Reader", "ended", "Z", false) := by decide +kernel
theorem tT_7_11 : tT 7 11 = ("ImageTexts$Reader", "feeds", "I", false) := by decide +kernel
theorem tT_7_12 : tT 7 12 = ("ImageTexts$Reader", "zeros", "I", false) := by decide +kernel
theorem tC_8 : tC 8 = "ImageTexts$Ring" := by decide +kernel
theorem tT_8_0 : tT 8 0 = ("ImageTexts$Ring", "xs", "[I", true) := by decide +kernel
theorem tT_8_1 : tT 8 1 = ("ImageTexts$Ring", "ys", "[I", true) := by decide +kernel
theorem tT_8_2 : tT 8 2 = ("ImageTexts$Ring", "count", "I", false) := by decide +kernel
theorem tC_9 : tC 9 = "ImageTexts$Writer" := by decide +kernel
theorem tT_9_0 : tT 9 0 = ("ImageTexts$Writer", "held", "LImageTexts$Item;", true) := by decide +kernel
theorem tT_9_1 : tT 9 1 = ("ImageTexts$Writer", "wanted", "I", false) := by decide +kernel
theorem tT_9_2 : tT 9 2 = ("ImageTexts$Writer", "count", "I", false) := by decide +kernel
theorem tT_9_3 : tT 9 3 = ("ImageTexts$Writer", "found", "I", false) := by decide +kernel
theorem tC_10 : tC 10 = "ImageTexts" := by decide +kernel
theorem tT_10_0 : tT 10 0 = ("ImageTexts", "reader", "LImageTexts$Reader;", true) := by decide +kernel
theorem tT_10_1 : tT 10 1 = ("ImageTexts", "writer", "LImageTexts$Writer;", true) := by decide +kernel
theorem tT_10_2 : tT 10 2 = ("ImageTexts", "habits", "[I", true) := by decide +kernel
theorem tT_10_3 : tT 10 3 = ("ImageTexts", "held", "LImageTexts$Item;", true) := by decide +kernel
theorem tT_10_4 : tT 10 4 = ("ImageTexts", "open", "Z", false) := by decide +kernel
theorem tT_10_5 : tT 10 5 = ("ImageTexts", "image", "LImageTexts$Image;", false) := by decide +kernel
theorem tC_11 : tC 11 = "ImageTextsModel" := by decide +kernel
theorem tT_11_0 : tT 11 0 = ("ImageTextsModel", "thrown", "I", false) := by decide +kernel
theorem tT_11_1 : tT 11 1 = ("ImageTextsModel", "length", "I", false) := by decide +kernel
theorem tT_11_2 : tT 11 2 = ("ImageTextsModel", "text", "[I", true) := by decide +kernel
theorem tT_11_3 : tT 11 3 = ("ImageTextsModel", "macros", "[I", true) := by decide +kernel
theorem tT_11_4 : tT 11 4 = ("ImageTextsModel", "primitives", "[I", true) := by decide +kernel
theorem tT_11_5 : tT 11 5 = ("ImageTextsModel", "primitive", "[J", true) := by decide +kernel
theorem tT_11_6 : tT 11 6 = ("ImageTextsModel", "told", "[Z", true) := by decide +kernel
theorem tT_11_7 : tT 11 7 = ("ImageTextsModel", "shapes", "[I", true) := by decide +kernel
theorem tT_11_8 : tT 11 8 = ("ImageTextsModel", "sizes", "[J", true) := by decide +kernel
theorem tT_11_9 : tT 11 9 = ("ImageTextsModel", "objects", "[I", true) := by decide +kernel
theorem tT_11_10 : tT 11 10 = ("ImageTextsModel", "object", "[J", true) := by decide +kernel
theorem tT_11_11 : tT 11 11 = ("ImageTextsModel", "letters", "[I", true) := by decide +kernel
theorem tT_11_12 : tT 11 12 = ("ImageTextsModel", "habits", "[I", true) := by decide +kernel
theorem tT_11_13 : tT 11 13 = ("ImageTextsModel", "open", "Z", false) := by decide +kernel
theorem tT_11_14 : tT 11 14 = ("ImageTextsModel", "corners", "I", false) := by decide +kernel
theorem tT_11_15 : tT 11 15 = ("ImageTextsModel", "corner", "[J", true) := by decide +kernel
theorem tT_11_16 : tT 11 16 = ("ImageTextsModel", "repeated", "[J", true) := by decide +kernel
theorem tT_11_17 : tT 11 17 = ("ImageTextsModel", "at", "I", false) := by decide +kernel
theorem tT_11_18 : tT 11 18 = ("ImageTextsModel", "began", "I", false) := by decide +kernel
theorem tT_11_19 : tT 11 19 = ("ImageTextsModel", "wrong", "I", false) := by decide +kernel
theorem tT_11_20 : tT 11 20 = ("ImageTextsModel", "scale", "J", false) := by decide +kernel
theorem tT_11_21 : tT 11 21 = ("ImageTextsModel", "means", "Z", false) := by decide +kernel
theorem tT_11_22 : tT 11 22 = ("ImageTextsModel", "numbers", "[J", true) := by decide +kernel
theorem tT_11_23 : tT 11 23 = ("ImageTextsModel", "handX", "J", false) := by decide +kernel
theorem tT_11_24 : tT 11 24 = ("ImageTextsModel", "handY", "J", false) := by decide +kernel
theorem tT_11_25 : tT 11 25 = ("ImageTextsModel", "selected", "I", false) := by decide +kernel
theorem tT_11_26 : tT 11 26 = ("ImageTextsModel", "dark", "J", false) := by decide +kernel
theorem tT_11_27 : tT 11 27 = ("ImageTextsModel", "again", "[J", true) := by decide +kernel
theorem tT_11_28 : tT 11 28 = ("ImageTextsModel", "tag", "[I", true) := by decide +kernel
theorem tT_11_29 : tT 11 29 = ("ImageTextsModel", "inside", "Z", false) := by decide +kernel
theorem tT_11_30 : tT 11 30 = ("ImageTextsModel", "rings", "I", false) := by decide +kernel
theorem tT_11_31 : tT 11 31 = ("ImageTextsModel", "ring", "[J", true) := by decide +kernel
theorem tT_11_32 : tT 11 32 = ("ImageTextsModel", "ended", "Z", false) := by decide +kernel
theorem tT_11_33 : tT 11 33 = ("ImageTextsModel", "wanted", "I", false) := by decide +kernel
theorem tT_11_34 : tT 11 34 = ("ImageTextsModel", "written", "I", false) := by decide +kernel
theorem tT_11_35 : tT 11 35 = ("ImageTextsModel", "found", "I", false) := by decide +kernel
theorem tY_0 : tY 0 = ⟨"ImageTextsLaw", "law", "([I)Z"⟩ := by decide +kernel
theorem tY_1 : tY 1 = ⟨"ImageTexts$Aperture", "<init>", "()V"⟩ := by decide +kernel
theorem tY_2 : tY 2 = ⟨"ImageTexts$Grid", "<init>", "()V"⟩ := by decide +kernel
theorem tY_3 : tY 3 = ⟨"ImageTexts$Grid", "allows", "(IIJJ)Z"⟩ := by decide +kernel
theorem tY_4 : tY 4 = ⟨"ImageTexts$Grid", "is", "(IIJJ)Z"⟩ := by decide +kernel
theorem tY_5 : tY 5 = ⟨"ImageTexts$Grid", "put", "(IIJJ)V"⟩ := by decide +kernel
theorem tY_6 : tY 6 = ⟨"ImageTexts$Image", "<init>", "()V"⟩ := by decide +kernel
theorem tY_7 : tY 7 = ⟨"ImageTexts$Image", "allowsShape", "(IJJ)Z"⟩ := by decide +kernel
theorem tY_8 : tY 8 = ⟨"ImageTexts$Image", "defineAperture", "(IIJJ)Z"⟩ := by decide +kernel
theorem tY_9 : tY 9 = ⟨"ImageTexts$Image", "hasCopper", "(JJ)Z"⟩ := by decide +kernel
theorem tY_10 : tY 10 = ⟨"ImageTexts$Image", "hasItem", "(I)Z"⟩ := by decide +kernel
theorem tY_11 : tY 11 = ⟨"ImageTexts$Image", "isAperture", "(I)Z"⟩ := by decide +kernel
theorem tY_12 : tY 12 = ⟨"ImageTexts$Image", "isFull", "()Z"⟩ := by decide +kernel
theorem tY_13 : tY 13 = ⟨"ImageTexts$Image", "isTold", "(I)Z"⟩ := by decide +kernel
theorem tY_14 : tY 14 = ⟨"ImageTexts$Image", "newMacro", "()I"⟩ := by decide +kernel
theorem tY_15 : tY 15 = ⟨"ImageTexts$Image", "nextAperture", "()I"⟩ := by decide +kernel
theorem tY_16 : tY 16 = ⟨"ImageTexts$Image", "reset", "()V"⟩ := by decide +kernel
theorem tY_17 : tY 17 = ⟨"ImageTexts$Item", "<init>", "()V"⟩ := by decide +kernel
theorem tY_18 : tY 18 = ⟨"ImageTexts$Item", "begin", "(JJ)V"⟩ := by decide +kernel
theorem tY_19 : tY 19 = ⟨"ImageTexts$Item", "end", "(JJ)V"⟩ := by decide +kernel
theorem tY_20 : tY 20 = ⟨"ImageTexts$Item", "reset", "()V"⟩ := by decide +kernel
theorem tY_21 : tY 21 = ⟨"ImageTexts$Macro", "<init>", "()V"⟩ := by decide +kernel
theorem tY_22 : tY 22 = ⟨"ImageTexts$Macro", "growTo", "(I)V"⟩ := by decide +kernel
theorem tY_23 : tY 23 = ⟨"ImageTexts$Name", "<init>", "()V"⟩ := by decide +kernel
theorem tY_24 : tY 24 = ⟨"ImageTexts$Primitive", "<init>", "()V"⟩ := by decide +kernel
theorem tY_25 : tY 25 = ⟨"ImageTexts$Primitive", "reset", "()V"⟩ := by decide +kernel
theorem tY_26 : tY 26 = ⟨"ImageTexts$Reader", "<init>", "()V"⟩ := by decide +kernel
theorem tY_27 : tY 27 = ⟨"ImageTexts$Reader", "add", "(C)Z"⟩ := by decide +kernel
theorem tY_28 : tY 28 = ⟨"ImageTexts$Reader", "begin", "()V"⟩ := by decide +kernel
theorem tY_29 : tY 29 = ⟨"ImageTexts$Reader", "finish", "()I"⟩ := by decide +kernel
theorem tY_30 : tY 30 = ⟨"ImageTexts$Reader", "hasMore", "()Z"⟩ := by decide +kernel
theorem tY_31 : tY 31 = ⟨"ImageTexts$Ring", "<init>", "()V"⟩ := by decide +kernel
theorem tY_32 : tY 32 = ⟨"ImageTexts$Writer", "<init>", "()V"⟩ := by decide +kernel
theorem tY_33 : tY 33 = ⟨"ImageTexts$Writer", "characterOf", "(LImageTexts$Image;I)I"⟩ := by decide +kernel
theorem tY_34 : tY 34 = ⟨"ImageTexts$Writer", "put", "(C)V"⟩ := by decide +kernel
theorem tY_35 : tY 35 = ⟨"ImageTexts", "<init>", "()V"⟩ := by decide +kernel
theorem tY_36 : tY 36 = ⟨"ImageTexts", "aperture", "(IJJ)I"⟩ := by decide +kernel
theorem tY_37 : tY 37 = ⟨"ImageTexts", "attribute", "(II)I"⟩ := by decide +kernel
theorem tY_38 : tY 38 = ⟨"ImageTexts", "clear", "()V"⟩ := by decide +kernel
theorem tY_39 : tY 39 = ⟨"ImageTexts", "closeRegion", "()Z"⟩ := by decide +kernel
theorem tY_40 : tY 40 = ⟨"ImageTexts", "corner", "(JJ)Z"⟩ := by decide +kernel
theorem tY_41 : tY 41 = ⟨"ImageTexts", "flash", "(IJJZ)Z"⟩ := by decide +kernel
theorem tY_42 : tY 42 = ⟨"ImageTexts", "in", "(JJ)Z"⟩ := by decide +kernel
theorem tY_43 : tY 43 = ⟨"ImageTexts", "isNumber", "(J)Z"⟩ := by decide +kernel
theorem tY_44 : tY 44 = ⟨"ImageTexts", "isPlace", "(JJ)Z"⟩ := by decide +kernel
theorem tY_45 : tY 45 = ⟨"ImageTexts", "isSize", "(J)Z"⟩ := by decide +kernel
theorem tY_46 : tY 46 = ⟨"ImageTexts", "line", "(IJJJJ)Z"⟩ := by decide +kernel
theorem tY_47 : tY 47 = ⟨"ImageTexts", "macro", "(IIJ)I"⟩ := by decide +kernel
theorem tY_48 : tY 48 = ⟨"ImageTexts", "object", "(II)I"⟩ := by decide +kernel
theorem tY_49 : tY 49 = ⟨"ImageTexts", "odd", "(I)I"⟩ := by decide +kernel
theorem tY_50 : tY 50 = ⟨"ImageTexts", "openRegion", "()Z"⟩ := by decide +kernel
theorem tY_51 : tY 51 = ⟨"ImageTexts", "read", "()I"⟩ := by decide +kernel
theorem tY_52 : tY 52 = ⟨"ImageTexts", "region", "(Z)Z"⟩ := by decide +kernel
theorem tY_53 : tY 53 = ⟨"ImageTexts", "repeat", "(IIJJ)I"⟩ := by decide +kernel
theorem tY_54 : tY 54 = ⟨"ImageTexts", "same", "(I)Z"⟩ := by decide +kernel
theorem tY_55 : tY 55 = ⟨"ImageTexts", "unit", "(I)Z"⟩ := by decide +kernel
theorem tY_56 : tY 56 = ⟨"ImageTexts", "write", "(I)I"⟩ := by decide +kernel
theorem tY_57 : tY 57 = ⟨"ImageTextsModel", "<init>", "()V"⟩ := by decide +kernel
theorem tY_58 : tY 58 = ⟨"ImageTextsModel", "aperture", "(IJJ)I"⟩ := by decide +kernel
theorem tY_59 : tY 59 = ⟨"ImageTextsModel", "attribute", "(II)I"⟩ := by decide +kernel
theorem tY_60 : tY 60 = ⟨"ImageTextsModel", "begin", "()V"⟩ := by decide +kernel
theorem tY_61 : tY 61 = ⟨"ImageTextsModel", "clear", "()V"⟩ := by decide +kernel
theorem tY_62 : tY 62 = ⟨"ImageTextsModel", "corner", "(JJ)Z"⟩ := by decide +kernel
theorem tY_63 : tY 63 = ⟨"ImageTextsModel", "empty", "(I)V"⟩ := by decide +kernel
theorem tY_64 : tY 64 = ⟨"ImageTextsModel", "fail", "()V"⟩ := by decide +kernel
theorem tY_65 : tY 65 = ⟨"ImageTextsModel", "flash", "(IJJZ)Z"⟩ := by decide +kernel
theorem tY_66 : tY 66 = ⟨"ImageTextsModel", "in", "(JJ)Z"⟩ := by decide +kernel
theorem tY_67 : tY 67 = ⟨"ImageTextsModel", "isAperture", "(I)Z"⟩ := by decide +kernel
theorem tY_68 : tY 68 = ⟨"ImageTextsModel", "isLength", "(J)Z"⟩ := by decide +kernel
theorem tY_69 : tY 69 = ⟨"ImageTextsModel", "isObject", "(I)Z"⟩ := by decide +kernel
theorem tY_70 : tY 70 = ⟨"ImageTextsModel", "isPlace", "(J)Z"⟩ := by decide +kernel
theorem tY_71 : tY 71 = ⟨"ImageTextsModel", "line", "(IJJJJ)Z"⟩ := by decide +kernel
theorem tY_72 : tY 72 = ⟨"ImageTextsModel", "macro", "(IIJ)I"⟩ := by decide +kernel
theorem tY_73 : tY 73 = ⟨"ImageTextsModel", "object", "(II)I"⟩ := by decide +kernel
theorem tY_74 : tY 74 = ⟨"ImageTextsModel", "odd", "(I)I"⟩ := by decide +kernel
theorem tY_75 : tY 75 = ⟨"ImageTextsModel", "plainPrimitive", "(I)V"⟩ := by decide +kernel
theorem tY_76 : tY 76 = ⟨"ImageTextsModel", "read", "()I"⟩ := by decide +kernel
theorem tY_77 : tY 77 = ⟨"ImageTextsModel", "region", "(Z)Z"⟩ := by decide +kernel
theorem tY_78 : tY 78 = ⟨"ImageTextsModel", "repeat", "(IIJJ)I"⟩ := by decide +kernel
theorem tY_79 : tY 79 = ⟨"ImageTextsModel", "same", "(I)Z"⟩ := by decide +kernel
theorem tY_80 : tY 80 = ⟨"ImageTextsModel", "say", "(I)V"⟩ := by decide +kernel
theorem tY_81 : tY 81 = ⟨"ImageTextsModel", "sayObjects", "()V"⟩ := by decide +kernel
theorem tY_82 : tY 82 = ⟨"ImageTextsModel", "tellAperture", "(IIIJJ)V"⟩ := by decide +kernel
theorem tY_83 : tY 83 = ⟨"ImageTextsModel", "thrown", "()I"⟩ := by decide +kernel
theorem tY_84 : tY 84 = ⟨"ImageTextsModel", "unit", "(I)Z"⟩ := by decide +kernel
theorem tY_85 : tY 85 = ⟨"ImageTextsModel", "write", "(I)I"⟩ := by decide +kernel
theorem tY_86 : tY 86 = ⟨"ImageTextsLaw", "aperture", "(LImageTexts;IJJ[J)I"⟩ := by decide +kernel
theorem tY_87 : tY 87 = ⟨"ImageTextsLaw", "attribute", "(LImageTexts;II[J)I"⟩ := by decide +kernel
theorem tY_88 : tY 88 = ⟨"ImageTextsLaw", "corner", "(LImageTexts;JJ[J)I"⟩ := by decide +kernel
theorem tY_89 : tY 89 = ⟨"ImageTextsLaw", "flash", "(LImageTexts;IJJZ[J)I"⟩ := by decide +kernel
theorem tY_90 : tY 90 = ⟨"ImageTextsLaw", "line", "(LImageTexts;IJJJJ[J)I"⟩ := by decide +kernel
theorem tY_91 : tY 91 = ⟨"ImageTextsLaw", "macro", "(LImageTexts;IIJ[J)I"⟩ := by decide +kernel
theorem tY_92 : tY 92 = ⟨"ImageTextsLaw", "object", "(LImageTexts;II[J)I"⟩ := by decide +kernel
theorem tY_93 : tY 93 = ⟨"ImageTextsLaw", "odd", "(LImageTexts;I[J)I"⟩ := by decide +kernel
theorem tY_94 : tY 94 = ⟨"ImageTextsLaw", "repeat", "(LImageTexts;IIJJ[J)I"⟩ := by decide +kernel
theorem tY_95 : tY 95 = ⟨"ImageTextsLaw", "same", "(LImageTexts;I[J)I"⟩ := by decide +kernel
theorem tY_96 : tY 96 = ⟨"ImageTextsLaw", "write", "(LImageTexts;I[J)I"⟩ := by decide +kernel
