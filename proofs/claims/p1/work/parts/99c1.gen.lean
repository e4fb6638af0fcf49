/-! THE TABLES, SECOND PART: names, bytes, fields (written by a program) -/
noncomputable def tt_Y : zT MethodName 7 := (zn (zn (zn (zn (zn (zn (zn (zl (⟨"ImageTextsLaw", "law", "([I)Z"⟩ : MethodName)) (zl (⟨"ImageTextsModel", "fail", "()V"⟩ : MethodName))) (zn (zl (⟨"ImageTexts$Writer", "<init>", "()V"⟩ : MethodName)) (zl (⟨"ImageTextsLaw", "write", "(LImageTexts;I[J)I"⟩ : MethodName)))) (zn (zn (zl (⟨"ImageTexts$Image", "reset", "()V"⟩ : MethodName)) (zl (⟨"ImageTextsModel", "say", "(I)V"⟩ : MethodName))) (zn (zl (⟨"ImageTexts", "object", "(II)I"⟩ : MethodName)) ze))) (zn (zn (zn (zl (⟨"ImageTexts$Image", "defineAperture", "(IIJJ)Z"⟩ : MethodName)) (zl (⟨"ImageTextsModel", "macro", "(IIJ)I"⟩ : MethodName))) (zn (zl (⟨"ImageTexts", "corner", "(JJ)Z"⟩ : MethodName)) ze)) (zn (zn (zl (⟨"ImageTexts$Primitive", "<init>", "()V"⟩ : MethodName)) (zl (⟨"ImageTextsLaw", "corner", "(LImageTexts;JJ[J)I"⟩ : MethodName))) (zn (zl (⟨"ImageTexts", "write", "(I)I"⟩ : MethodName)) ze)))) (zn (zn (zn (zn (zl (⟨"ImageTexts$Grid", "is", "(IIJJ)Z"⟩ : MethodName)) (zl (⟨"ImageTextsModel", "isLength", "(J)Z"⟩ : MethodName))) (zn (zl (⟨"ImageTexts", "aperture", "(IJJ)I"⟩ : MethodName)) ze)) (zn (zn (zl (⟨"ImageTexts$Item", "reset", "()V"⟩ : MethodName)) (zl (⟨"ImageTextsModel", "unit", "(I)Z"⟩ : MethodName))) (zn (zl (⟨"ImageTexts", "region", "(Z)Z"⟩ : MethodName)) ze))) (zn (zn (zn (zl (⟨"ImageTexts$Image", "isFull", "()Z"⟩ : MethodName)) (zl (⟨"ImageTextsModel", "read", "()I"⟩ : MethodName))) (zn (zl (⟨"ImageTexts", "isPlace", "(JJ)Z"⟩ : MethodName)) ze)) (zn (zn (zl (⟨"ImageTexts$Reader", "begin", "()V"⟩ : MethodName)) (zl (⟨"ImageTextsLaw", "object", "(LImageTexts;II[J)I"⟩ : MethodName))) (zn (zl (⟨"ImageTextsModel", "begin", "()V"⟩ : MethodName)) ze))))) (zn (zn (zn (zn (zn (zl (⟨"ImageTexts$Grid", "<init>", "()V"⟩ : MethodName)) (zl (⟨"ImageTextsModel", "in", "(JJ)Z"⟩ : MethodName))) (zn (zl (⟨"ImageTexts$Writer", "put", "(C)V"⟩ : MethodName)) ze)) (zn (zn (zl (⟨"ImageTexts$Item", "begin", "(JJ)V"⟩ : MethodName)) (zl (⟨"ImageTextsModel", "tellAperture", "(IIIJJ)V"⟩ : MethodName))) (zn (zl (⟨"ImageTexts", "openRegion", "()Z"⟩ : MethodName)) ze))) (zn (zn (zn (zl (⟨"ImageTexts$Image", "hasItem", "(I)Z"⟩ : MethodName)) (zl (⟨"ImageTextsModel", "odd", "(I)I"⟩ : MethodName))) (zn (zl (⟨"ImageTexts", "in", "(JJ)Z"⟩ : MethodName)) ze)) (zn (zn (zl (⟨"ImageTexts$Reader", "<init>", "()V"⟩ : MethodName)) (zl (⟨"ImageTextsLaw", "line", "(LImageTexts;IJJJJ[J)I"⟩ : MethodName))) (zn (zl (⟨"ImageTextsModel", "aperture", "(IJJ)I"⟩ : MethodName)) ze)))) (zn (zn (zn (zn (zl (⟨"ImageTexts$Image", "<init>", "()V"⟩ : MethodName)) (zl (⟨"ImageTextsModel", "isPlace", "(J)Z"⟩ : MethodName))) (zn (zl (⟨"ImageTexts", "clear", "()V"⟩ : MethodName)) ze)) (zn (zn (zl (⟨"ImageTexts$Macro", "growTo", "(I)V"⟩ : MethodName)) (zl (⟨"ImageTextsLaw", "aperture", "(LImageTexts;IJJ[J)I"⟩ : MethodName))) (zn (zl (⟨"ImageTexts", "same", "(I)Z"⟩ : MethodName)) ze))) (zn (zn (zn (zl (⟨"ImageTexts$Image", "newMacro", "()I"⟩ : MethodName)) (zl (⟨"ImageTextsModel", "repeat", "(IIJJ)I"⟩ : MethodName))) (zn (zl (⟨"ImageTexts", "line", "(IJJJJ)Z"⟩ : MethodName)) ze)) (zn (zn (zl (⟨"ImageTexts$Reader", "hasMore", "()Z"⟩ : MethodName)) (zl (⟨"ImageTextsLaw", "repeat", "(LImageTexts;IIJJ[J)I"⟩ : MethodName))) (zn (zl (⟨"ImageTextsModel", "corner", "(JJ)Z"⟩ : MethodName)) ze)))))) (zn (zn (zn (zn (zn (zn (zl (⟨"ImageTexts$Aperture", "<init>", "()V"⟩ : MethodName)) (zl (⟨"ImageTextsModel", "flash", "(IJJZ)Z"⟩ : MethodName))) (zn (zl (⟨"ImageTexts$Writer", "characterOf", "(LImageTexts$Image;I)I"⟩ : MethodName)) ze)) (zn (zn (zl (⟨"ImageTexts$Item", "<init>", "()V"⟩ : MethodName)) (zl (⟨"ImageTextsModel", "sayObjects", "()V"⟩ : MethodName))) (zn (zl (⟨"ImageTexts", "odd", "(I)I"⟩ : MethodName)) ze))) (zn (zn (zn (zl (⟨"ImageTexts$Image", "hasCopper", "(JJ)Z"⟩ : MethodName)) (zl (⟨"ImageTextsModel", "object", "(II)I"⟩ : MethodName))) (zn (zl (⟨"ImageTexts", "flash", "(IJJZ)Z"⟩ : MethodName)) ze)) (zn (zn (zl (⟨"ImageTexts$Primitive", "reset", "()V"⟩ : MethodName)) (zl (⟨"ImageTextsLaw", "flash", "(LImageTexts;IJJZ[J)I"⟩ : MethodName))) (zn (zl (⟨"ImageTextsModel", "<init>", "()V"⟩ : MethodName)) ze)))) (zn (zn (zn (zn (zl (⟨"ImageTexts$Grid", "put", "(IIJJ)V"⟩ : MethodName)) (zl (⟨"ImageTextsModel", "isObject", "(I)Z"⟩ : MethodName))) (zn (zl (⟨"ImageTexts", "attribute", "(II)I"⟩ : MethodName)) ze)) (zn (zn (zl (⟨"ImageTexts$Macro", "<init>", "()V"⟩ : MethodName)) (zl (⟨"ImageTextsModel", "write", "(I)I"⟩ : MethodName))) (zn (zl (⟨"ImageTexts", "repeat", "(IIJJ)I"⟩ : MethodName)) ze))) (zn (zn (zn (zl (⟨"ImageTexts$Image", "isTold", "(I)Z"⟩ : MethodName)) (zl (⟨"ImageTextsModel", "region", "(Z)Z"⟩ : MethodName))) (zn (zl (⟨"ImageTexts", "isSize", "(J)Z"⟩ : MethodName)) ze)) (zn (zn (zl (⟨"ImageTexts$Reader", "finish", "()I"⟩ : MethodName)) (zl (⟨"ImageTextsLaw", "odd", "(LImageTexts;I[J)I"⟩ : MethodName))) (zn (zl (⟨"ImageTextsModel", "clear", "()V"⟩ : MethodName)) ze))))) (zn (zn (zn (zn (zn (zl (⟨"ImageTexts$Grid", "allows", "(IIJJ)Z"⟩ : MethodName)) (zl (⟨"ImageTextsModel", "isAperture", "(I)Z"⟩ : MethodName))) (zn (zl (⟨"ImageTexts", "<init>", "()V"⟩ : MethodName)) ze)) (zn (zn (zl (⟨"ImageTexts$Item", "end", "(JJ)V"⟩ : MethodName)) (zl (⟨"ImageTextsModel", "thrown", "()I"⟩ : MethodName))) (zn (zl (⟨"ImageTexts", "read", "()I"⟩ : MethodName)) ze))) (zn (zn (zn (zl (⟨"ImageTexts$Image", "isAperture", "(I)Z"⟩ : MethodName)) (zl (⟨"ImageTextsModel", "plainPrimitive", "(I)V"⟩ : MethodName))) (zn (zl (⟨"ImageTexts", "isNumber", "(J)Z"⟩ : MethodName)) ze)) (zn (zn (zl (⟨"ImageTexts$Reader", "add", "(C)Z"⟩ : MethodName)) (zl (⟨"ImageTextsLaw", "macro", "(LImageTexts;IIJ[J)I"⟩ : MethodName))) (zn (zl (⟨"ImageTextsModel", "attribute", "(II)I"⟩ : MethodName)) ze)))) (zn (zn (zn (zn (zl (⟨"ImageTexts$Image", "allowsShape", "(IJJ)Z"⟩ : MethodName)) (zl (⟨"ImageTextsModel", "line", "(IJJJJ)Z"⟩ : MethodName))) (zn (zl (⟨"ImageTexts", "closeRegion", "()Z"⟩ : MethodName)) ze)) (zn (zn (zl (⟨"ImageTexts$Name", "<init>", "()V"⟩ : MethodName)) (zl (⟨"ImageTextsLaw", "attribute", "(LImageTexts;II[J)I"⟩ : MethodName))) (zn (zl (⟨"ImageTexts", "unit", "(I)Z"⟩ : MethodName)) ze))) (zn (zn (zn (zl (⟨"ImageTexts$Image", "nextAperture", "()I"⟩ : MethodName)) (zl (⟨"ImageTextsModel", "same", "(I)Z"⟩ : MethodName))) (zn (zl (⟨"ImageTexts", "macro", "(IIJ)I"⟩ : MethodName)) ze)) (zn (zn (zl (⟨"ImageTexts$Ring", "<init>", "()V"⟩ : MethodName)) (zl (⟨"ImageTextsLaw", "same", "(LImageTexts;I[J)I"⟩ : MethodName))) (zn (zl (⟨"ImageTextsModel", "empty", "(I)V"⟩ : MethodName)) ze)))))))
noncomputable def tY (mi : Nat) : MethodName := match zget 7 tt_Y mi with
  | some y => y
  | none => ⟨"", "", ""⟩
noncomputable def tt_B : zT ByteArray 7 := (zn (zn (zn (zn (zn (zn (zn (zl code) (zl prog_13_method_12_code)) (zn (zl prog_11_method_1_code) (zl method_10_code))) (zn (zn (zl prog_4_method_2_code) (zl prog_13_method_62_code)) (zn (zl prog_1_method_4_code) ze))) (zn (zn (zn (zl prog_4_method_13_code) (zl prog_13_method_41_code)) (zn (zl prog_1_method_12_code) ze)) (zn (zn (zl prog_8_method_1_code) (zl method_9_code)) (zn (zl prog_1_method_13_code) ze)))) (zn (zn (zn (zn (zl prog_3_method_3_code) (zl prog_13_method_7_code)) (zn (zl prog_1_method_7_code) ze)) (zn (zn (zl prog_5_method_2_code) (zl prog_13_method_5_code)) (zn (zl prog_1_method_11_code) ze))) (zn (zn (zn (zl prog_4_method_4_code) (zl prog_13_method_35_code)) (zn (zl prog_1_method_21_code) ze)) (zn (zn (zl prog_9_method_3_code) (zl method_3_code)) (zn (zl prog_13_method_34_code) ze))))) (zn (zn (zn (zn (zn (zl prog_3_method_1_code) (zl prog_13_method_59_code)) (zn (zl prog_11_method_14_code) ze)) (zn (zn (zl prog_5_method_3_code) (zl prog_13_method_23_code)) (zn (zl prog_1_method_18_code) ze))) (zn (zn (zn (zl prog_4_method_3_code) (zl prog_13_method_38_code)) (zn (zl prog_1_method_5_code) ze)) (zn (zn (zl prog_9_method_1_code) (zl method_8_code)) (zn (zl prog_13_method_39_code) ze)))) (zn (zn (zn (zn (zl prog_4_method_1_code) (zl prog_13_method_6_code)) (zn (zl prog_1_method_17_code) ze)) (zn (zn (zl prog_6_method_2_code) (zl method_5_code)) (zn (zl prog_1_method_14_code) ze))) (zn (zn (zn (zl prog_4_method_6_code) (zl prog_13_method_47_code)) (zn (zl prog_1_method_10_code) ze)) (zn (zn (zl prog_9_method_4_code) (zl method_13_code)) (zn (zl prog_13_method_46_code) ze)))))) (zn (zn (zn (zn (zn (zn (zl prog_2_method_1_code) (zl prog_13_method_43_code)) (zn (zl prog_11_method_2_code) ze)) (zn (zn (zl prog_5_method_1_code) (zl prog_13_method_71_code)) (zn (zl prog_1_method_6_code) ze))) (zn (zn (zn (zl prog_4_method_17_code) (zl prog_13_method_49_code)) (zn (zl prog_1_method_9_code) ze)) (zn (zn (zl prog_8_method_4_code) (zl method_7_code)) (zn (zl prog_13_method_1_code) ze)))) (zn (zn (zn (zn (zl prog_3_method_5_code) (zl prog_13_method_48_code)) (zn (zl prog_1_method_15_code) ze)) (zn (zn (zl prog_6_method_1_code) (zl prog_13_method_72_code)) (zn (zl prog_1_method_16_code) ze))) (zn (zn (zn (zl prog_4_method_9_code) (zl prog_13_method_45_code)) (zn (zl prog_1_method_22_code) ze)) (zn (zn (zl prog_9_method_5_code) (zl method_4_code)) (zn (zl prog_13_method_3_code) ze))))) (zn (zn (zn (zn (zn (zl prog_3_method_2_code) (zl prog_13_method_42_code)) (zn (zl prog_1_method_1_code) ze)) (zn (zn (zl prog_5_method_4_code) (zl prog_13_method_2_code)) (zn (zl prog_1_method_3_code) ze))) (zn (zn (zn (zl prog_4_method_8_code) (zl prog_13_method_40_code)) (zn (zl prog_1_method_20_code) ze)) (zn (zn (zl prog_9_method_2_code) (zl method_6_code)) (zn (zl prog_13_method_50_code) ze)))) (zn (zn (zn (zn (zl prog_4_method_12_code) (zl prog_13_method_44_code)) (zn (zl prog_1_method_19_code) ze)) (zn (zn (zl prog_7_method_1_code) (zl method_12_code)) (zn (zl prog_1_method_2_code) ze))) (zn (zn (zn (zl prog_4_method_11_code) (zl prog_13_method_61_code)) (zn (zl prog_1_method_8_code) ze)) (zn (zn (zl prog_10_method_1_code) (zl method_11_code)) (zn (zl prog_13_method_4_code) ze)))))))
noncomputable def tBt (mi : Nat) : ByteArray := match zget 7 tt_B mi with
  | some y => y
  | none => code
noncomputable def tt_H : zT (List (Nat × Nat × Nat × Nat)) 7 := (zn (zn (zn (zn (zn (zn ze (zn ze (zl [(0, 9, 12, 13)]))) ze) (zn ze (zn (zn ze (zl [(0, 18, 21, 29), (0, 18, 25, 23)])) ze))) (zn ze (zn ze (zn (zn ze (zl [(0, 10, 13, 13)])) ze)))) (zn (zn ze (zn ze (zn (zn ze (zl [(0, 24, 27, 13), (0, 24, 31, 29), (0, 24, 35, 23)])) ze))) (zn (zn ze (zn (zn ze (zl [(0, 13, 16, 23)])) ze)) (zn ze (zn (zn ze (zl [(0, 14, 17, 23)])) ze))))) (zn (zn (zn ze (zn ze (zn (zn ze (zl [(0, 22, 25, 13), (0, 22, 29, 29), (0, 22, 33, 23)])) ze))) (zn ze (zn ze (zn (zn ze (zl [(0, 9, 12, 13)])) ze)))) (zn (zn ze (zn ze (zn (zn ze (zl [(0, 12, 15, 13), (0, 12, 19, 29), (0, 12, 23, 23)])) ze))) (zn (zn ze (zn (zn ze (zl [(0, 10, 13, 13)])) ze)) (zn ze (zn (zn ze (zl [(0, 16, 19, 13)])) ze))))))
noncomputable def tHh (mi : Nat) : List (Nat × Nat × Nat × Nat) := match zget 7 tt_H mi with
  | some y => y
  | none => []
noncomputable def tRt (mi : Nat) : Option FieldType := bif Nat.beq (xg tt_rt mi) 0 then none else bif Nat.beq (xg tt_rt mi) 1 then some .int else bif Nat.beq (xg tt_rt mi) 2 then some .boolean else some .long
noncomputable def tRm (mi : Nat) : Room := { frames := xg tt_fr mi, cells := xg tt_rc mi, slots := xg tt_rs mi, locals := xg tt_lo mi }
def tEx (k : Nat) : String := if k = 0 then "java/lang/IndexOutOfBoundsException" else if k = 1 then "java/lang/IllegalStateException" else "java/lang/IllegalArgumentException"
noncomputable def tt_kd : zT Nat 7 := (zn (zn (zn (zn (zn (zn (zn ze (zl 38)) (zn (zl 39) (zl 36))) (zn (zn (zl 38) (zl 38)) (zn (zl 38) ze))) (zn (zn (zn (zl 38) (zl 38)) (zn (zl 38) ze)) (zn (zn (zl 39) (zl 36)) (zn (zl 38) ze)))) (zn (zn (zn (zn (zl 38) (zl 36)) (zn (zl 38) ze)) (zn (zn (zl 38) (zl 38)) (zn (zl 38) ze))) (zn (zn (zn (zl 38) (zl 38)) (zn (zl 36) ze)) (zn (zn (zl 38) (zl 36)) (zn (zl 38) ze))))) (zn (zn (zn (zn (zn (zl 39) (zl 38)) (zn (zl 38) ze)) (zn (zn (zl 38) (zl 38)) (zn (zl 38) ze))) (zn (zn (zn (zl 38) (zl 38)) (zn (zl 38) ze)) (zn (zn (zl 39) (zl 36)) (zn (zl 38) ze)))) (zn (zn (zn (zn (zl 39) (zl 36)) (zn (zl 38) ze)) (zn (zn (zl 38) (zl 36)) (zn (zl 38) ze))) (zn (zn (zn (zl 38) (zl 38)) (zn (zl 38) ze)) (zn (zn (zl 38) (zl 36)) (zn (zl 38) ze)))))) (zn (zn (zn (zn (zn (zn (zl 39) (zl 38)) (zn (zl 38) ze)) (zn (zn (zl 39) (zl 38)) (zn (zl 38) ze))) (zn (zn (zn (zl 38) (zl 38)) (zn (zl 38) ze)) (zn (zn (zl 38) (zl 36)) (zn (zl 39) ze)))) (zn (zn (zn (zn (zl 38) (zl 38)) (zn (zl 38) ze)) (zn (zn (zl 39) (zl 38)) (zn (zl 38) ze))) (zn (zn (zn (zl 38) (zl 38)) (zn (zl 36) ze)) (zn (zn (zl 38) (zl 36)) (zn (zl 38) ze))))) (zn (zn (zn (zn (zn (zl 36) (zl 38)) (zn (zl 39) ze)) (zn (zn (zl 38) (zl 38)) (zn (zl 38) ze))) (zn (zn (zn (zl 38) (zl 38)) (zn (zl 36) ze)) (zn (zn (zl 38) (zl 36)) (zn (zl 38) ze)))) (zn (zn (zn (zn (zl 38) (zl 38)) (zn (zl 38) ze)) (zn (zn (zl 39) (zl 36)) (zn (zl 38) ze))) (zn (zn (zn (zl 38) (zl 38)) (zn (zl 38) ze)) (zn (zn (zl 39) (zl 36)) (zn (zl 38) ze)))))))
noncomputable def tt_pn : zT Nat 7 := (zn (zn (zn (zn (zn (zn (zn ze (zl 1)) (zn (zl 1) (zl 3))) (zn (zn (zl 1) (zl 2)) (zn (zl 3) ze))) (zn (zn (zn (zl 5) (zl 4)) (zn (zl 3) ze)) (zn (zn (zl 1) (zl 4)) (zn (zl 2) ze)))) (zn (zn (zn (zn (zl 5) (zl 1)) (zn (zl 4) ze)) (zn (zn (zl 1) (zl 2)) (zn (zl 2) ze))) (zn (zn (zn (zl 1) (zl 1)) (zn (zl 2) ze)) (zn (zn (zl 1) (zl 4)) (zn (zl 1) ze))))) (zn (zn (zn (zn (zn (zl 1) (zl 3)) (zn (zl 2) ze)) (zn (zn (zl 3) (zl 6)) (zn (zl 1) ze))) (zn (zn (zn (zl 2) (zl 2)) (zn (zl 3) ze)) (zn (zn (zl 1) (zl 7)) (zn (zl 4) ze)))) (zn (zn (zn (zn (zl 1) (zl 1)) (zn (zl 1) ze)) (zn (zn (zl 2) (zl 5)) (zn (zl 2) ze))) (zn (zn (zn (zl 1) (zl 5)) (zn (zl 6) ze)) (zn (zn (zl 1) (zl 6)) (zn (zl 3) ze)))))) (zn (zn (zn (zn (zn (zn (zl 1) (zl 5)) (zn (zl 3) ze)) (zn (zn (zl 1) (zl 1)) (zn (zl 2) ze))) (zn (zn (zn (zl 3) (zl 3)) (zn (zl 5) ze)) (zn (zn (zl 1) (zl 6)) (zn (zl 1) ze)))) (zn (zn (zn (zn (zl 5) (zl 2)) (zn (zl 3) ze)) (zn (zn (zl 1) (zl 2)) (zn (zl 5) ze))) (zn (zn (zn (zl 2) (zl 2)) (zn (zl 1) ze)) (zn (zn (zl 1) (zl 3)) (zn (zl 1) ze))))) (zn (zn (zn (zn (zn (zl 4) (zl 2)) (zn (zl 1) ze)) (zn (zn (zl 3) (zl 1)) (zn (zl 1) ze))) (zn (zn (zn (zl 2) (zl 2)) (zn (zl 1) ze)) (zn (zn (zl 2) (zl 5)) (zn (zl 3) ze)))) (zn (zn (zn (zn (zl 4) (zl 6)) (zn (zl 1) ze)) (zn (zn (zl 1) (zl 4)) (zn (zl 2) ze))) (zn (zn (zn (zl 1) (zl 2)) (zn (zl 4) ze)) (zn (zn (zl 1) (zl 3)) (zn (zl 2) ze)))))))
noncomputable def tt_in : zT Nat 7 := (zn (zn (zn (zn (zn (zn ze (zn (zl 1) ze)) ze) (zn ze (zn (zn (zl 1) ze) ze))) ze) (zn (zn (zn (zn (zn (zl 1) ze) ze) ze) (zn ze (zn (zn (zl 1) ze) ze))) (zn (zn (zn (zn (zl 1) ze) ze) ze) ze))) (zn (zn (zn (zn (zn (zn (zl 1) ze) ze) (zn (zn (zl 1) ze) ze)) (zn ze (zn ze (zn (zl 1) ze)))) (zn (zn ze (zn (zn (zl 1) ze) ze)) ze)) (zn (zn (zn (zn ze (zn (zl 1) ze)) ze) ze) (zn (zn ze (zn (zn (zl 1) ze) ze)) (zn ze (zn (zn (zl 1) ze) ze))))))
noncomputable def tt_C : zT String 7 := (zn (zn (zn (zn (zn (zn (zn (zl "ImageTexts$Aperture") ze) ze) ze) (zn (zn (zn (zl "ImageTexts$Ring") ze) ze) ze)) (zn (zn (zn (zn (zl "ImageTexts$Macro") ze) ze) ze) ze)) (zn (zn (zn (zn (zn (zl "ImageTexts$Image") ze) ze) ze) (zn (zn (zn (zl "ImageTexts") ze) ze) ze)) (zn (zn (zn (zn (zl "ImageTexts$Primitive") ze) ze) ze) ze))) (zn (zn (zn (zn (zn (zn (zl "ImageTexts$Grid") ze) ze) ze) (zn (zn (zn (zl "ImageTexts$Writer") ze) ze) ze)) (zn (zn (zn (zn (zl "ImageTexts$Name") ze) ze) ze) ze)) (zn (zn (zn (zn (zn (zl "ImageTexts$Item") ze) ze) ze) (zn (zn (zn (zl "ImageTextsModel") ze) ze) ze)) (zn (zn (zn (zn (zl "ImageTexts$Reader") ze) ze) ze) ze))))
noncomputable def tC (ci : Nat) : String := match zget 7 tt_C ci with
  | some y => y
  | none => ""
noncomputable def tf_0 : List (String × String × String × Bool) := [("ImageTexts$Aperture", "told", "Z", false), ("ImageTexts$Aperture", "kind", "I", false), ("ImageTexts$Aperture", "a", "I", false), ("ImageTexts$Aperture", "b", "I", false)]
noncomputable def tf_1 : List (String × String × String × Bool) := [("ImageTexts$Grid", "columns", "I", false), ("ImageTexts$Grid", "rows", "I", false), ("ImageTexts$Grid", "dx", "I", false), ("ImageTexts$Grid", "dy", "I", false)]
noncomputable def tf_2 : List (String × String × String × Bool) := [("ImageTexts$Image", "macros", "[LImageTexts$Macro;", true), ("ImageTexts$Image", "apertures", "[LImageTexts$Aperture;", true), ("ImageTexts$Image", "items", "[LImageTexts$Item;", true), ("ImageTexts$Image", "macroCount", "I", false), ("ImageTexts$Image", "count", "I", false)]
noncomputable def tf_3 : List (String × String × String × Bool) := [("ImageTexts$Item", "grid", "LImageTexts$Grid;", true), ("ImageTexts$Item", "name", "LImageTexts$Name;", true), ("ImageTexts$Item", "ring", "LImageTexts$Ring;", true), ("ImageTexts$Item", "kind", "I", false), ("ImageTexts$Item", "dark", "Z", false), ("ImageTexts$Item", "aperture", "I", false), ("ImageTexts$Item", "x", "I", false), ("ImageTexts$Item", "y", "I", false), ("ImageTexts$Item", "x2", "I", false), ("ImageTexts$Item", "y2", "I", false)]
noncomputable def tf_4 : List (String × String × String × Bool) := [("ImageTexts$Macro", "primitives", "[LImageTexts$Primitive;", true), ("ImageTexts$Macro", "count", "I", false)]
noncomputable def tf_5 : List (String × String × String × Bool) := [("ImageTexts$Name", "letters", "[C", true), ("ImageTexts$Name", "count", "I", false)]
noncomputable def tf_6 : List (String × String × String × Bool) := [("ImageTexts$Primitive", "kind", "I", false), ("ImageTexts$Primitive", "on", "Z", false), ("ImageTexts$Primitive", "size", "I", false), ("ImageTexts$Primitive", "height", "I", false), ("ImageTexts$Primitive", "x", "I", false), ("ImageTexts$Primitive", "y", "I", false)]
noncomputable def tf_7 : List (String × String × String × Bool) := [("ImageTexts$Reader", "text", "[C", true), ("ImageTexts$Reader", "held", "LImageTexts$Item;", true), ("ImageTexts$Reader", "draft", "LImageTexts$Macro;", true), ("ImageTexts$Reader", "image", "LImageTexts$Image;", false), ("ImageTexts$Reader", "length", "I", false), ("ImageTexts$Reader", "place", "I", false), ("ImageTexts$Reader", "start", "I", false), ("ImageTexts$Reader", "wrong", "I", false), ("ImageTexts$Reader", "scale", "I", false), ("ImageTexts$Reader", "open", "Z", false), ("ImageTexts$Reader", "ended", "Z", false), ("ImageTexts$Reader", "feeds", "I", false), ("ImageTexts$Reader", "zeros", "I", false)]
noncomputable def tf_8 : List (String × String × String × Bool) := [("ImageTexts$Ring", "xs", "[I", true), ("ImageTexts$Ring", "ys", "[I", true), ("ImageTexts$Ring", "count", "I", false)]
noncomputable def tf_9 : List (String × String × String × Bool) := [("ImageTexts$Writer", "held", "LImageTexts$Item;", true), ("ImageTexts$Writer", "wanted", "I", false), ("ImageTexts$Writer", "count", "I", false), ("ImageTexts$Writer", "found", "I", false)]
noncomputable def tf_10 : List (String × String × String × Bool) := [("ImageTexts", "reader", "LImageTexts$Reader;", true), ("ImageTexts", "writer", "LImageTexts$Writer;", true), ("ImageTexts", "habits", "[I", true), ("ImageTexts", "held", "LImageTexts$Item;", true), ("ImageTexts", "open", "Z", false), ("ImageTexts", "image", "LImageTexts$Image;", false)]
noncomputable def tf_11 : List (String × String × String × Bool) := [("ImageTextsModel", "thrown", "I", false), ("ImageTextsModel", "length", "I", false), ("ImageTextsModel", "text", "[I", true), ("ImageTextsModel", "macros", "[I", true), ("ImageTextsModel", "primitives", "[I", true), ("ImageTextsModel", "primitive", "[J", true), ("ImageTextsModel", "told", "[Z", true), ("ImageTextsModel", "shapes", "[I", true), ("ImageTextsModel", "sizes", "[J", true), ("ImageTextsModel", "objects", "[I", true), ("ImageTextsModel", "object", "[J", true), ("ImageTextsModel", "letters", "[I", true), ("ImageTextsModel", "habits", "[I", true), ("ImageTextsModel", "open", "Z", false), ("ImageTextsModel", "corners", "I", false), ("ImageTextsModel", "corner", "[J", true), ("ImageTextsModel", "repeated", "[J", true), ("ImageTextsModel", "at", "I", false), ("ImageTextsModel", "began", "I", false), ("ImageTextsModel", "wrong", "I", false), ("ImageTextsModel", "scale", "J", false), ("ImageTextsModel", "means", "Z", false), ("ImageTextsModel", "numbers", "[J", true), ("ImageTextsModel", "handX", "J", false), ("ImageTextsModel", "handY", "J", false), ("ImageTextsModel", "selected", "I", false), ("ImageTextsModel", "dark", "J", false), ("ImageTextsModel", "again", "[J", true), ("ImageTextsModel", "tag", "[I", true), ("ImageTextsModel", "inside", "Z", false), ("ImageTextsModel", "rings", "I", false), ("ImageTextsModel", "ring", "[J", true), ("ImageTextsModel", "ended", "Z", false), ("ImageTextsModel", "wanted", "I", false), ("ImageTextsModel", "written", "I", false), ("ImageTextsModel", "found", "I", false)]
noncomputable def tt_T : zT (List (String × String × String × Bool)) 7 := (zn (zn (zn (zn (zn (zn (zn (zl tf_0) ze) ze) ze) (zn (zn (zn (zl tf_8) ze) ze) ze)) (zn (zn (zn (zn (zl tf_4) ze) ze) ze) ze)) (zn (zn (zn (zn (zn (zl tf_2) ze) ze) ze) (zn (zn (zn (zl tf_10) ze) ze) ze)) (zn (zn (zn (zn (zl tf_6) ze) ze) ze) ze))) (zn (zn (zn (zn (zn (zn (zl tf_1) ze) ze) ze) (zn (zn (zn (zl tf_9) ze) ze) ze)) (zn (zn (zn (zn (zl tf_5) ze) ze) ze) ze)) (zn (zn (zn (zn (zn (zl tf_3) ze) ze) ze) (zn (zn (zn (zl tf_11) ze) ze) ze)) (zn (zn (zn (zn (zl tf_7) ze) ze) ze) ze))))
noncomputable def tT (ci : Nat) : u_T := fun k => (match zget 7 tt_T ci with
  | some y => y
  | none => []).getD k ("", "", "", false)
noncomputable def ty_0 : List FieldType := [.boolean, .int, .int, .int]
noncomputable def ty_1 : List FieldType := [.int, .int, .int, .int]
noncomputable def ty_2 : List FieldType := [(.array (.object "ImageTexts$Macro")), (.array (.object "ImageTexts$Aperture")), (.array (.object "ImageTexts$Item")), .int, .int]
noncomputable def ty_3 : List FieldType := [(.object "ImageTexts$Grid"), (.object "ImageTexts$Name"), (.object "ImageTexts$Ring"), .int, .boolean, .int, .int, .int, .int, .int]
noncomputable def ty_4 : List FieldType := [(.array (.object "ImageTexts$Primitive")), .int]
noncomputable def ty_5 : List FieldType := [(.array .char), .int]
noncomputable def ty_6 : List FieldType := [.int, .boolean, .int, .int, .int, .int]
noncomputable def ty_7 : List FieldType := [(.array .char), (.object "ImageTexts$Item"), (.object "ImageTexts$Macro"), (.object "ImageTexts$Image"), .int, .int, .int, .int, .int, .boolean, .boolean, .int, .int]
noncomputable def ty_8 : List FieldType := [(.array .int), (.array .int), .int]
noncomputable def ty_9 : List FieldType := [(.object "ImageTexts$Item"), .int, .int, .int]
noncomputable def ty_10 : List FieldType := [(.object "ImageTexts$Reader"), (.object "ImageTexts$Writer"), (.array .int), (.object "ImageTexts$Item"), .boolean, (.object "ImageTexts$Image")]
noncomputable def ty_11 : List FieldType := [.int, .int, (.array .int), (.array .int), (.array .int), (.array .long), (.array .boolean), (.array .int), (.array .long), (.array .int), (.array .long), (.array .int), (.array .int), .boolean, .int, (.array .long), (.array .long), .int, .int, .int, .long, .boolean, (.array .long), .long, .long, .int, .long, (.array .long), (.array .int), .boolean, .int, (.array .long), .boolean, .int, .int, .int]
noncomputable def tt_ty : zT (List FieldType) 7 := (zn (zn (zn (zn (zn (zn (zn (zl ty_0) ze) ze) ze) (zn (zn (zn (zl ty_8) ze) ze) ze)) (zn (zn (zn (zn (zl ty_4) ze) ze) ze) ze)) (zn (zn (zn (zn (zn (zl ty_2) ze) ze) ze) (zn (zn (zn (zl ty_10) ze) ze) ze)) (zn (zn (zn (zn (zl ty_6) ze) ze) ze) ze))) (zn (zn (zn (zn (zn (zn (zl ty_1) ze) ze) ze) (zn (zn (zn (zl ty_9) ze) ze) ze)) (zn (zn (zn (zn (zl ty_5) ze) ze) ze) ze)) (zn (zn (zn (zn (zn (zl ty_3) ze) ze) ze) (zn (zn (zn (zl ty_11) ze) ze) ze)) (zn (zn (zn (zn (zl ty_7) ze) ze) ze) ze))))
noncomputable def tty (ci k : Nat) : FieldType := (match zget 7 tt_ty ci with
  | some y => y
  | none => []).getD k .int
noncomputable def tt_N : zT Nat 7 := (zn (zn (zn (zn (zn (zn (zn (zl 4) ze) ze) ze) (zn (zn (zn (zl 3) ze) ze) ze)) (zn (zn (zn (zn (zl 2) ze) ze) ze) ze)) (zn (zn (zn (zn (zn (zl 5) ze) ze) ze) (zn (zn (zn (zl 6) ze) ze) ze)) (zn (zn (zn (zn (zl 6) ze) ze) ze) ze))) (zn (zn (zn (zn (zn (zn (zl 4) ze) ze) ze) (zn (zn (zn (zl 4) ze) ze) ze)) (zn (zn (zn (zn (zl 2) ze) ze) ze) ze)) (zn (zn (zn (zn (zn (zl 10) ze) ze) ze) (zn (zn (zn (zl 36) ze) ze) ze)) (zn (zn (zn (zn (zl 13) ze) ze) ze) ze))))
def tO (t : Nat) : String := if t = 68 then "ImageTexts$Macro" else if t = 69 then "ImageTexts$Aperture" else if t = 70 then "ImageTexts$Item" else "ImageTexts$Primitive"
/-! what the words say, entry by entry -/
def zmX (s0 : State) (own : String) (e : xE) : Prop := match e.1 with
  | 17 => zlw s0 own e.2.2.2.2.1.toNat (tC e.2.1) (tT e.2.1 e.2.2.1).2.1 (tT e.2.1 e.2.2.1).2.2.1
  | 18 => zlw s0 own e.2.2.2.2.1.toNat (tC e.2.1) (tT e.2.1 e.2.2.1).2.1 (tT e.2.1 e.2.2.1).2.2.1 ∧ ((tT e.2.1 e.2.2.1).2.2.2 = false ∨ (zh s0 (.fieldLink own e.2.2.2.2.1.toNat (tC e.2.1) (tT e.2.1 e.2.2.1).2.1 (tT e.2.1 e.2.2.1).2.2.1) ∧ tC e.2.1 = own))
  | 19 => zh s0 (.constant own e.2.1 (Int32.ofInt e.2.2.2.2.1))
  | 20 => zh s0 (.constantLong own e.2.1 (Int64.ofInt e.2.2.2.2.1))
  | 32 => zh s0 (.classLink own e.2.2.2.2.1.toNat (tC e.2.1))
  | 35 => zh s0 (.classLink own e.2.2.2.2.1.toNat (tO e.2.1))
  | 36 => zml s0 own e.2.2.2.2.1.toNat (tY e.2.1)
  | 37 => zh s0 (.methodLink own e.2.2.2.2.1.toNat Lib.Math.min.name)
  | 38 => zml s0 own e.2.2.2.2.1.toNat (tY e.2.1)
  | 39 => zml s0 own e.2.2.2.2.1.toNat (tY e.2.1)
  | 40 => zh s0 (.methodLink own e.2.2.2.2.1.toNat Lib.objectInit)
  | _ => False
/-- what holds of a callee -/
def zcB (s0 : State) (mj : Nat) : Prop := plainFor (tY mj) = true ∧ zh s0 (zcode tM.2.1 tY tBt tHh tRt mj) ∧ zmh (tY mj) ∧ (parseMethodDescriptor (tY mj).desc).map (fun d => d.parameters.length) = some (bif Nat.beq (xg tt_kd mj) 36 then xg tt_pn mj else xg tt_pn mj - 1) ∧ (xg tt_kd mj = 36 ∨ 1 ≤ xg tt_pn mj) ∧
  (xg tt_kd mj = 36 → zh s0 (.static (tY mj)) ∧ zh s0 (.initialized (tY mj).cls)) ∧ (xg tt_kd mj = 38 → zh s0 (.instanceMethod (tY mj)) ∧ zh s0 (.selects (tY mj).cls (tY mj) (tY mj)) ∧ xg tt_ci mj < 12 ∧ tC (xg tt_ci mj) = (tY mj).cls) ∧
  (xg tt_kd mj = 39 → zh s0 (.instanceMethod (tY mj)) ∧ (tY mj).name = "<init>" ∧ tHh mj = [] ∧ tRt mj = none)
/-- what holds of the tables at the start -/
def zfx (s0 : State) (D : va_G) (ca : Nat → ClassId) : Prop :=
  (∀ ci, ci < 12 → zclo s0 D tty ci (tC ci) (tT ci) (xg tt_N ci) ∧ zh s0 (.instantiable (tC ci) (xg tt_N ci)) ∧ zh s0 (.initialized (tC ci))) ∧
  (ztg s0 ca 64 .int ∧ ztg s0 ca 65 .char ∧ ztg s0 ca 66 .boolean ∧ ztg s0 ca 67 .long) ∧ (∀ tag, 68 ≤ tag → tag ≤ 127 → ztg s0 ca tag (.object (tO tag)) ∧ zh s0 (.arrayOver (.object (tO tag)))) ∧
  (zh s0 (.arrayClass .int) ∧ zh s0 (.arrayClass .char) ∧ zh s0 (.arrayClass .boolean) ∧ zh s0 (.arrayClass .long)) ∧
  (zh s0 (.static Lib.Math.min.name) ∧ zh s0 (.initialized "java/lang/Math") ∧ zh s0 (.code Lib.Math.min.name Lib.Math.min.code 2 (some .int))) ∧
  (zh s0 (.instanceMethod Lib.objectInit) ∧ zh s0 (.code Lib.objectInit ⟨#[0xb1]⟩ 1 none))
def zdf (ci : Nat) : Prop := ∃ dl, tM.2.2.2.2.2.2.1 ci = some (xg tt_N ci, dl) ∧ ∀ k, k < xg tt_N ci → ∀ B b0 ν, xden B b0 ν (xget (2, 0, 0) dl k) (defaultValue (tty ci k))
/-! the check of an entry -/
noncomputable def zdk (cc : ByteArray) (pc : Nat) (e : xE) : Bool := match zins e with
  | none => false
  | some i => (match decode cc pc with
    | .ok r => decide (r.1 = i) && (Nat.beq e.1 16 || Nat.beq r.2 (zlnn e.1))
    | .error _ => false)
theorem zdk_ok {cc : ByteArray} {pc : Nat} {e : xE} (h : zdk cc pc e = true) : ∃ i n, zins e = some i ∧ decode cc pc = .ok (i, n) ∧ (e.1 = 16 ∨ n = zlnn e.1) := by
  unfold zdk at h
  cases hi : zins e with
  | none => rw [hi] at h; cases h
  | some i =>
    rw [hi] at h
    cases hd : decode cc pc with
    | error x => rw [hd] at h; cases h
    | ok r =>
      rw [hd] at h
      simp only [Bool.and_eq_true, Bool.or_eq_true, decide_eq_true_eq, Nat.beq_eq] at h
      obtain ⟨j, n⟩ := r
      obtain ⟨h1, h2⟩ := h
      exact ⟨i, n, rfl, by rw [← h1], h2⟩
noncomputable def xeq (e f : xE) : Bool := Nat.beq e.1 f.1 && (Nat.beq e.2.1 f.2.1 && (Nat.beq e.2.2.1 f.2.2.1 && (Nat.beq e.2.2.2.1 f.2.2.2.1 && (ieq e.2.2.2.2.1 f.2.2.2.2.1 && (e.2.2.2.2.2.isEmpty && f.2.2.2.2.2.isEmpty)))))
theorem xeq_ok {e f : xE} (h : xeq e f = true) : e = f := by
  obtain ⟨a1, a2, a3, a4, a5, a6⟩ := e
  obtain ⟨b1, b2, b3, b4, b5, b6⟩ := f
  simp only [xeq, Bool.and_eq_true, Nat.beq_eq, ieq_iff, List.isEmpty_iff] at h
  obtain ⟨rfl, rfl, rfl, rfl, rfl, rfl, rfl⟩ := h
  rfl
noncomputable def xmem (l : List xE) (e : xE) : Bool := l.any (xeq e)
theorem xmem_ok {l : List xE} {e : xE} (h : xmem l e = true) : e ∈ l := by
  obtain ⟨f, hf, hx⟩ := List.any_eq_true.mp h
  rw [xeq_ok hx]
  exact hf
noncomputable def zfb (ft : Nat) (t : FieldType) : Bool := match t with
  | .int => Nat.beq ft 0
  | .boolean => Nat.beq ft 1
  | .long => Nat.beq ft 2
  | .object _ => Nat.beq ft 3
  | .array _ => Nat.beq ft 3
  | _ => false
theorem zfb_ok {ft : Nat} {t : FieldType} (h : zfb ft t = true) : zft ft t := by
  cases t <;> simp only [zfb, Nat.beq_eq] at h
  all_goals first | (cases h; done) | skip
  · exact Or.inl ⟨h, rfl⟩
  · exact Or.inr (Or.inr (Or.inl ⟨h, rfl⟩))
  · exact Or.inr (Or.inl ⟨h, rfl⟩)
  · exact Or.inr (Or.inr (Or.inr ⟨h, Or.inl ⟨_, rfl⟩⟩))
  · exact Or.inr (Or.inr (Or.inr ⟨h, Or.inr ⟨_, rfl⟩⟩))
noncomputable def zcr (mi mj : Nat) : Bool := Nat.ble (xg tt_fr mj + 1) (xg tt_fr mi) && (Nat.ble (8 + (xg tt_nl mj + 11) + xg tt_lo mj) (xg tt_lo mi) && (Nat.ble 1 mj && Nat.ble (mj + 1) 97))
noncomputable def zrk (dict : List xE) (th : List (Nat × Nat)) (mi pc : Nat) (e : xE) : Bool := match e.1 with
  | 17 => Nat.ble (e.2.1 + 1) 12 && (Nat.beq (e.2.2.2.1 / 16) (xg tt_N e.2.1) && (Nat.ble (e.2.2.1 + 1) (xg tt_N e.2.1) && xmem dict e))
  | 18 => Nat.ble (e.2.1 + 1) 12 && (Nat.beq (e.2.2.2.1 / 16) (xg tt_N e.2.1) && (Nat.ble (e.2.2.1 + 1) (xg tt_N e.2.1) && (zfb (e.2.2.2.1 % 16) (tty e.2.1 e.2.2.1) && ((!(tT e.2.1 e.2.2.1).2.2.2 || Nat.beq (xg tt_in mi) 1) && xmem dict e))))
  | 19 => xmem dict e
  | 20 => xmem dict e
  | 32 => Nat.ble (e.2.1 + 1) 12 && xmem dict e
  | 33 => th.any (fun q => Nat.beq q.1 pc && Nat.beq q.2 e.2.1) && (Nat.ble 8 (xg tt_fr mi) && (Nat.ble 128 (xg tt_lo mi) && (tHh mi).isEmpty))
  | 34 => Nat.ble 64 e.2.1 && Nat.ble e.2.1 67
  | 35 => Nat.ble 68 e.2.1 && (Nat.ble e.2.1 71 && xmem dict e)
  | 36 => zcr mi e.2.1 && (Nat.beq (xg tt_kd e.2.1) 36 && (Nat.beq (xg tt_pn e.2.1) e.2.2.1 && xmem dict e))
  | 37 => Nat.ble 1 (xg tt_fr mi) && (Nat.ble 21 (xg tt_lo mi) && xmem dict e)
  | 38 => zcr mi e.2.1 && (Nat.beq (xg tt_kd e.2.1) 38 && (Nat.beq (xg tt_pn e.2.1) e.2.2.1 && xmem dict e))
  | 39 => zcr mi e.2.1 && (Nat.beq (xg tt_kd e.2.1) 39 && (Nat.beq (xg tt_pn e.2.1) e.2.2.1 && xmem dict e))
  | 40 => Nat.ble 1 (xg tt_fr mi) && (Nat.ble 20 (xg tt_lo mi) && xmem dict e)
  | _ => true
section ZR
variable {s0 : State} {D : va_G} {ca : Nat → ClassId} {mi pc : Nat} {own : String} {dict : List xE} {th : List (Nat × Nat)}
theorem zcr_ok {mj : Nat} (hB : ∀ mj, 1 ≤ mj → mj < 97 → zcB s0 mj) (h : zcr mi mj = true) : zcB s0 mj ∧ zcal tM tY tBt tHh tRt tRm s0 mi mj := by
  simp only [zcr, Bool.and_eq_true, Nat.ble_eq] at h
  obtain ⟨h1, h2, h3, h4⟩ := h
  have g := hB mj h3 h4
  exact ⟨g, g.1, g.2.1, h1, h2⟩
set_option maxHeartbeats 2000000 in
theorem zrk_ok (hX : zfx s0 D ca) (hF : ∀ ci, ci < 12 → zdf ci) (hB : ∀ mj, 1 ≤ mj → mj < 97 → zcB s0 mj) (hY : (tY mi).cls = own) (hI : xg tt_in mi = 1 → (tY mi).name = "<init>") (hd : ∀ e ∈ dict, zmX s0 own e) (ht : ∀ q ∈ th, zthr s0 own (tBt mi) q.1 (tEx q.2))
    (op a bb cc : Nat) (k : Int) (ll : List Int) (h : zrk dict th mi pc (op, a, bb, cc, k, ll) = true) : zmore tM tY tBt tHh tRt tRm tEx s0 D ca tty mi pc (op, a, bb, cc, k, ll) := by
  subst hY
  match op with
  | 17 =>
    replace h : (Nat.ble (a + 1) 12 && (Nat.beq (cc / 16) (xg tt_N a) && (Nat.ble (bb + 1) (xg tt_N a) && xmem dict (17, a, bb, cc, k, ll)))) = true := h
    simp only [Bool.and_eq_true, Nat.ble_eq, Nat.beq_eq] at h
    obtain ⟨h1, h2, h3, h4⟩ := h
    have g := hd _ (xmem_ok h4)
    refine ⟨tC a, tT a, ?_, ?_, g⟩
    · show zclo s0 D tty a (tC a) (tT a) (cc / 16)
      rw [h2]
      exact (hX.1 a h1).1
    · show bb < cc / 16
      rw [h2]
      exact h3
  | 18 =>
    replace h : (Nat.ble (a + 1) 12 && (Nat.beq (cc / 16) (xg tt_N a) && (Nat.ble (bb + 1) (xg tt_N a) && (zfb (cc % 16) (tty a bb) && ((!(tT a bb).2.2.2 || Nat.beq (xg tt_in mi) 1) && xmem dict (18, a, bb, cc, k, ll)))))) = true := h
    simp only [Bool.and_eq_true, Bool.or_eq_true, Bool.not_eq_true', Nat.ble_eq, Nat.beq_eq] at h
    obtain ⟨h1, h2, h3, h4, h5, h6⟩ := h
    obtain ⟨g1, g2⟩ := hd _ (xmem_ok h6)
    refine ⟨tC a, tT a, ?_, ?_, g1, zfb_ok h4, ?_⟩
    · show zclo s0 D tty a (tC a) (tT a) (cc / 16)
      rw [h2]
      exact (hX.1 a h1).1
    · show bb < cc / 16
      rw [h2]
      exact h3
    · rcases g2 with g2 | ⟨g2, g3⟩
      · exact Or.inl g2
      · rcases h5 with h5 | h5
        · exact Or.inl h5
        · cases hf : (tT a bb).2.2.2 with
          | false => exact Or.inl rfl
          | true => exact Or.inr ⟨g2, rfl, hI h5, g3⟩
  | 19 => exact hd _ (xmem_ok h)
  | 20 => exact hd _ (xmem_ok h)
  | 32 =>
    replace h : (Nat.ble (a + 1) 12 && xmem dict (32, a, bb, cc, k, ll)) = true := h
    simp only [Bool.and_eq_true, Nat.ble_eq] at h
    obtain ⟨dl, f1, f2⟩ := hF a h.1
    obtain ⟨c1, c2, c3⟩ := hX.1 a h.1
    exact ⟨tC a, tT a, xg tt_N a, dl, c1, f1, f2, hd _ (xmem_ok h.2), c2, c3⟩
  | 33 =>
    replace h : (th.any (fun q => Nat.beq q.1 pc && Nat.beq q.2 a) && (Nat.ble 8 (xg tt_fr mi) && (Nat.ble 128 (xg tt_lo mi) && (tHh mi).isEmpty))) = true := h
    simp only [Bool.and_eq_true, Nat.ble_eq, List.any_eq_true, Nat.beq_eq, List.isEmpty_iff] at h
    obtain ⟨⟨q, hq, rfl, rfl⟩, h2, h3, h4⟩ := h
    exact ⟨ht q hq, h2, h3, h4⟩
  | 34 =>
    replace h : (Nat.ble 64 a && Nat.ble a 67) = true := h
    simp only [Bool.and_eq_true, Nat.ble_eq] at h
    exact ⟨h.1, h.2, hX.2.2.2.1⟩
  | 35 =>
    replace h : (Nat.ble 68 a && (Nat.ble a 71 && xmem dict (35, a, bb, cc, k, ll))) = true := h
    simp only [Bool.and_eq_true, Nat.ble_eq] at h
    obtain ⟨h1, h2, h3⟩ := h
    obtain ⟨g1, g2⟩ := hX.2.2.1 a h1 (by omega)
    exact ⟨tO a, g1, hd _ (xmem_ok h3), g2⟩
  | 36 =>
    replace h : (zcr mi a && (Nat.beq (xg tt_kd a) 36 && (Nat.beq (xg tt_pn a) bb && xmem dict (36, a, bb, cc, k, ll)))) = true := h
    simp only [Bool.and_eq_true, Nat.beq_eq] at h
    obtain ⟨h1, h2, h3, h4⟩ := h
    obtain ⟨⟨-, -, b3, b4, b5, b6, b7, b8⟩, gc⟩ := zcr_ok hB h1
    obtain ⟨w1, w2⟩ := b6 h2
    refine ⟨gc, hd _ (xmem_ok h4), b3, w1, w2, ?_⟩
    rw [h2, h3] at b4
    exact b4
  | 37 =>
    replace h : (Nat.ble 1 (xg tt_fr mi) && (Nat.ble 21 (xg tt_lo mi) && xmem dict (37, a, bb, cc, k, ll))) = true := h
    simp only [Bool.and_eq_true, Nat.ble_eq] at h
    obtain ⟨h1, h2, h3⟩ := h
    obtain ⟨w1, w2, w3⟩ := hX.2.2.2.2.1
    exact ⟨hd _ (xmem_ok h3), w1, w2, w3, h1, h2⟩
  | 38 =>
    replace h : (zcr mi a && (Nat.beq (xg tt_kd a) 38 && (Nat.beq (xg tt_pn a) bb && xmem dict (38, a, bb, cc, k, ll)))) = true := h
    simp only [Bool.and_eq_true, Nat.beq_eq] at h
    obtain ⟨h1, h2, h3, h4⟩ := h
    obtain ⟨⟨-, -, b3, b4, b5, b6, b7, b8⟩, gc⟩ := zcr_ok hB h1
    obtain ⟨w1, w2, w3, w4⟩ := b7 h2
    have hp : 1 ≤ bb := by
      rcases b5 with g | g
      · rw [h2] at g; cases g
      · rw [h3] at g; exact g
    refine ⟨gc, hd _ (xmem_ok h4), b3, w1, w2, ?_, tT (xg tt_ci a), xg tt_N (xg tt_ci a), ?_⟩
    · rw [h2, h3] at b4
      show (parseMethodDescriptor (tY a).desc).map (fun d => d.parameters.length + 1) = some bb
      cases hpd : parseMethodDescriptor (tY a).desc with
      | none => rw [hpd] at b4; cases b4
      | some sg =>
        rw [hpd] at b4
        have g1 : sg.parameters.length = bb - 1 := Option.some.inj b4
        show some (sg.parameters.length + 1) = some bb
        congr 1
        omega
    · show zclo s0 D tty (xg tt_ci a) (tY a).cls _ _
      rw [← w4]
      exact (hX.1 _ w3).1
  | 39 =>
    replace h : (zcr mi a && (Nat.beq (xg tt_kd a) 39 && (Nat.beq (xg tt_pn a) bb && xmem dict (39, a, bb, cc, k, ll)))) = true := h
    simp only [Bool.and_eq_true, Nat.beq_eq] at h
    obtain ⟨h1, h2, h3, h4⟩ := h
    obtain ⟨⟨-, -, b3, b4, b5, b6, b7, b8⟩, gc⟩ := zcr_ok hB h1
    obtain ⟨w1, w2, w3, w4⟩ := b8 h2
    have hp : 1 ≤ bb := by
      rcases b5 with g | g
      · rw [h2] at g; cases g
      · rw [h3] at g; exact g
    refine ⟨gc, hd _ (xmem_ok h4), b3, w1, w2, w3, w4, ?_⟩
    rw [h2, h3] at b4
    show (parseMethodDescriptor (tY a).desc).map (fun d => d.parameters.length + 1) = some bb
    cases hpd : parseMethodDescriptor (tY a).desc with
    | none => rw [hpd] at b4; cases b4
    | some sg =>
      rw [hpd] at b4
      have g1 : sg.parameters.length = bb - 1 := Option.some.inj b4
      show some (sg.parameters.length + 1) = some bb
      congr 1
      omega
  | 40 =>
    replace h : (Nat.ble 1 (xg tt_fr mi) && (Nat.ble 20 (xg tt_lo mi) && xmem dict (40, a, bb, cc, k, ll))) = true := h
    simp only [Bool.and_eq_true, Nat.ble_eq] at h
    obtain ⟨h1, h2, h3⟩ := h
    obtain ⟨w1, w2⟩ := hX.2.2.2.2.2
    exact ⟨hd _ (xmem_ok h3), w1, w2, h1, h2⟩
  | 0 => trivial
  | 1 => trivial
  | 2 => trivial
  | 3 => trivial
  | 4 => trivial
  | 5 => trivial
  | 6 => trivial
  | 7 => trivial
  | 8 => trivial
  | 9 => trivial
  | 10 => trivial
  | 11 => trivial
  | 12 => trivial
  | 13 => trivial
  | 14 => trivial
  | 15 => trivial
  | 16 => trivial
  | 21 => trivial
  | 22 => trivial
  | 23 => trivial
  | 24 => trivial
  | 25 => trivial
  | 26 => trivial
  | 27 => trivial
  | 28 => trivial
  | 29 => trivial
  | 30 => trivial
  | 31 => trivial
  | n9 + 41 => trivial
/-! all entries of a tree -/
noncomputable def zlist {α : Type} (n : Nat) : zT α n → Nat → Nat → List (Nat × α) := Nat.rec (motive := fun n => zT α n → Nat → Nat → List (Nat × α)) (fun t off _ => match (show Option α from t) with
  | none => []
  | some v => [(off, v)]) (fun n ih t off mul => match (show Option (zT α n × zT α n) from t) with
  | none => []
  | some q => ih q.1 off (2 * mul) ++ ih q.2 (off + mul) (2 * mul)) n
theorem zlist_mem {α : Type} : ∀ (n : Nat) (t : zT α n) (off mul i : Nat) (v : α), i < 2 ^ n → zget n t i = some v → (off + mul * i, v) ∈ zlist n t off mul
  | 0, t, off, mul, i, v, hi, h => by
    have h1 : i = 0 := by simpa using hi
    subst h1
    have h2 : t = (some v : Option α) := h
    subst h2
    show (off + mul * 0, v) ∈ [(off, v)]
    rw [Nat.mul_zero, Nat.add_zero]
    exact List.mem_cons_self
  | n + 1, t, off, mul, i, v, hi, h => by
    have hi2 : i / 2 < 2 ^ n := by rw [Nat.pow_succ] at hi; omega
    cases (t : Option (zT α n × zT α n)) with
    | none => rw [zget_none] at h; cases h
    | some q =>
      rw [zget_some] at h
      show (off + mul * i, v) ∈ zlist n q.1 off (2 * mul) ++ zlist n q.2 (off + mul) (2 * mul)
      have ei : i % 2 = 0 ∨ i % 2 = 1 := by omega
      rcases ei with ei | ei
      · rw [ei] at h
        have e : off + mul * i = off + 2 * mul * (i / 2) := by
          have : i = 2 * (i / 2) := by omega
          rw [Nat.mul_assoc, Nat.mul_left_comm, ← this]
        rw [e]
        exact List.mem_append_left _ (zlist_mem n q.1 off (2 * mul) (i / 2) v hi2 h)
      · rw [ei] at h
        have e : off + mul * i = off + mul + 2 * mul * (i / 2) := by
          have h9 : i = 2 * (i / 2) + 1 := by omega
          have h8 : mul * i = mul * (2 * (i / 2)) + mul := by rw [← Nat.mul_succ]; congr 1
          rw [h8, Nat.mul_assoc, Nat.mul_left_comm]
          omega
        rw [e]
        exact List.mem_append_right _ (zlist_mem n q.2 (off + mul) (2 * mul) (i / 2) v hi2 h)
/-- the check of the entries from lo on, below hi -/
noncomputable def zck (dict : List xE) (th : List (Nat × Nat)) (mi lo hi : Nat) : Bool := (zlist 11 (tM.1 mi) 0 1).all (fun q => !(Nat.ble lo q.1 && Nat.ble (q.1 + 1) hi) || (zdk (tBt mi) q.1 q.2 && zrk dict th mi q.1 q.2))
theorem zck_ok {lo hi : Nat} (h : zck dict th mi lo hi = true) {e : xE} (hp : pc < 2048) (hl : lo ≤ pc) (hh : pc < hi) (he : zget 11 (tM.1 mi) pc = some e) : zdk (tBt mi) pc e = true ∧ zrk dict th mi pc e = true := by
  have hm := zlist_mem 11 (tM.1 mi) 0 1 pc e hp he
  have h1 := List.all_eq_true.mp h _ hm
  have e0 : 0 + 1 * pc = pc := by omega
  rw [e0] at h1
  simp only [Bool.or_eq_true, Bool.not_eq_true', Bool.and_eq_false_iff, Bool.and_eq_true] at h1
  rcases h1 with (g | g) | g
  · rw [Nat.ble_eq.mpr hl] at g; cases g
  · rw [Nat.ble_eq.mpr (show pc + 1 ≤ hi from hh)] at g; cases g
  · exact g
theorem zen (hX : zfx s0 D ca) (hF : ∀ ci, ci < 12 → zdf ci) (hB : ∀ mj, 1 ≤ mj → mj < 97 → zcB s0 mj) (hY : (tY mi).cls = own) (hI : xg tt_in mi = 1 → (tY mi).name = "<init>") (hd : ∀ e ∈ dict, zmX s0 own e) (ht : ∀ q ∈ th, zthr s0 own (tBt mi) q.1 (tEx q.2))
    {e : xE} (h : zdk (tBt mi) pc e = true ∧ zrk dict th mi pc e = true) : zok tM tY tBt tHh tRt tRm tEx s0 D ca tty mi pc e := by
  obtain ⟨op, a, bb, cc, k, ll⟩ := e
  exact ⟨zdk_ok h.1, zrk_ok hX hF hB hY hI hd ht op a bb cc k ll h.2⟩
end ZR
