/-! THE TABLES, SECOND PART: names, bytes, fields (written by a program) -/
noncomputable def tt_Y : zT MethodName 8 := (yn (yn (yn (yn (yn (yn (yn (yn (yl (⟨"ImageTexts$Reader", "add", "(C)Z"⟩ : MethodName)) (yl (⟨"ImageTextsModel", "now", "()I"⟩ : MethodName))) (yn (yl (⟨"java/lang/Math", "max", "(JJ)J"⟩ : MethodName)) (yl (⟨"ImageTextsLaw", "aperture", "(LImageTexts;IJJ[J)I"⟩ : MethodName)))) (yn (yn (yl (⟨"ImageTexts$Image", "isCircle", "(I)Z"⟩ : MethodName)) (yl (⟨"ImageTextsModel", "flash", "(IJJZ)Z"⟩ : MethodName))) (yn (yl (⟨"ImageTexts$Writer", "putAperture", "(ILImageTexts$Aperture;)V"⟩ : MethodName)) ye))) (yn (yn (yn (yl (⟨"ImageTexts$Grid", "copy", "(LImageTexts$Grid;)V"⟩ : MethodName)) (yl (⟨"ImageTextsModel", "readRepeat", "()V"⟩ : MethodName))) (yn (yl (⟨"ImageTexts$Image", "nextAperture", "()I"⟩ : MethodName)) (yl (⟨"ImageTexts$Name", "<init>", "()V"⟩ : MethodName)))) (yn (yn (yl (⟨"ImageTexts$Image", "addMacro", "(ILImageTexts$Macro;)Z"⟩ : MethodName)) (yl (⟨"ImageTextsModel", "in", "(JJ)Z"⟩ : MethodName))) (yn (yl (⟨"ImageTexts$Macro", "isLike", "(LImageTexts$Macro;)Z"⟩ : MethodName)) ye)))) (yn (yn (yn (yn (yl (⟨"ImageTexts$Reader", "hasMore", "()Z"⟩ : MethodName)) (yl (⟨"ImageTextsModel", "finish", "()Z"⟩ : MethodName))) (yn (yl (⟨"ImageTexts$Item", "isNear", "(JJJ)Z"⟩ : MethodName)) (yl (⟨"ImageTextsLaw", "repeat", "(LImageTexts;IIJJ[J)I"⟩ : MethodName)))) (yn (yn (yl (⟨"ImageTexts$Macro", "growTo", "(I)V"⟩ : MethodName)) (yl (⟨"ImageTextsModel", "upper", "(JJ)J"⟩ : MethodName))) (yn (yl (⟨"ImageTexts$Writer", "putPlace", "(IIC)V"⟩ : MethodName)) ye))) (yn (yn (yn (yl (⟨"ImageTexts$Reader", "scaled", "(I)J"⟩ : MethodName)) (yl (⟨"ImageTextsModel", "tellOver", "(I)V"⟩ : MethodName))) (yn (yl (⟨"ImageTexts", "region", "(Z)Z"⟩ : MethodName)) (yl (⟨"java/lang/String", "isLatin1", "()Z"⟩ : MethodName)))) (yn (yn (yl (⟨"ImageTexts$Reader", "step", "()V"⟩ : MethodName)) (yl (⟨"ImageTextsModel", "sayAperture", "(I)V"⟩ : MethodName))) (yn (yl (⟨"ImageTextsModel", "empty", "(I)V"⟩ : MethodName)) ye))))) (yn (yn (yn (yn (yn (yl (⟨"ImageTexts$Item", "begin", "(JJ)V"⟩ : MethodName)) (yl (⟨"ImageTextsModel", "whole", "()J"⟩ : MethodName))) (yn (yl (⟨"ImageTexts", "shapeHas", "(IJJJJ)Z"⟩ : MethodName)) (yl (⟨"ImageTextsLaw", "corner", "(LImageTexts;JJ[J)I"⟩ : MethodName)))) (yn (yn (yl (⟨"ImageTexts$Reader", "readAttribute", "()V"⟩ : MethodName)) (yl (⟨"ImageTextsModel", "repeat", "(IIJJ)I"⟩ : MethodName))) (yn (yl (⟨"ImageTexts$Name", "letterAt", "(I)I"⟩ : MethodName)) ye))) (yn (yn (yn (yl (⟨"ImageTexts$Image", "add", "(ILImageTexts$Item;)Z"⟩ : MethodName)) (yl (⟨"ImageTextsModel", "readSelected", "()V"⟩ : MethodName))) (yn (yl (⟨"ImageTexts", "flash", "(IJJZ)Z"⟩ : MethodName)) (yl (⟨"ImageTexts$Writer", "<init>", "()V"⟩ : MethodName)))) (yn (yn (yl (⟨"ImageTexts$Reader", "readRegionBegin", "()V"⟩ : MethodName)) (yl (⟨"ImageTextsModel", "sayNumber", "(J)V"⟩ : MethodName))) (yn (yl (⟨"ImageTexts", "attribute", "(II)I"⟩ : MethodName)) ye)))) (yn (yn (yn (yn (yl (⟨"ImageTexts$Reader", "fail", "()V"⟩ : MethodName)) (yl (⟨"ImageTextsModel", "tellAperture", "(IIIJJ)V"⟩ : MethodName))) (yn (yl (⟨"ImageTexts$Image", "hasSomeCopy", "(LImageTexts$Item;JJ)Z"⟩ : MethodName)) (yl (⟨"ImageTexts$Grid", "<init>", "()V"⟩ : MethodName)))) (yn (yn (yl (⟨"ImageTexts$Reader", "putValue", "(LImageTexts$Primitive;IJ)Z"⟩ : MethodName)) (yl (⟨"ImageTextsModel", "has", "(JJJJJ)Z"⟩ : MethodName))) (yn (yl (⟨"ImageTexts", "write", "(I)I"⟩ : MethodName)) ye))) (yn (yn (yn (yl (⟨"ImageTexts$Ring", "add", "(JJ)Z"⟩ : MethodName)) (yl (⟨"ImageTextsModel", "aperture", "(IJJ)I"⟩ : MethodName))) (yn (yl (⟨"ImageTexts$Writer", "putNumber", "(I)V"⟩ : MethodName)) (yl (⟨"java/lang/StringLatin1", "canEncode", "(I)Z"⟩ : MethodName)))) (yn (yn (yl (⟨"ImageTexts", "object", "(II)I"⟩ : MethodName)) (yl (⟨"ImageTextsModel", "sayObjects", "()V"⟩ : MethodName))) (yn (yl (⟨"ImageTextsModel", "isLength", "(J)Z"⟩ : MethodName)) ye)))))) (yn (yn (yn (yn (yn (yn (yl (⟨"ImageTexts$Image", "reset", "()V"⟩ : MethodName)) (yl (⟨"ImageTextsModel", "isDigit", "(I)Z"⟩ : MethodName))) (yn (yl (⟨"ImageTexts$Ring", "has", "(JJ)Z"⟩ : MethodName)) (yl (⟨"ImageTextsLaw", "flash", "(LImageTexts;IJJZ[J)I"⟩ : MethodName)))) (yn (yn (yl (⟨"ImageTexts$Reader", "readPlace", "()V"⟩ : MethodName)) (yl (⟨"ImageTextsModel", "region", "(Z)Z"⟩ : MethodName))) (yn (yl (⟨"ImageTexts$Grid", "isLike", "(LImageTexts$Grid;)Z"⟩ : MethodName)) ye))) (yn (yn (yn (yl (⟨"ImageTexts$Ring", "copy", "(LImageTexts$Ring;)V"⟩ : MethodName)) (yl (⟨"ImageTextsModel", "endRegion", "()V"⟩ : MethodName))) (yn (yl (⟨"ImageTexts$Image", "newMacro", "()I"⟩ : MethodName)) (yl (⟨"ImageTexts$Reader", "<init>", "()V"⟩ : MethodName)))) (yn (yn (yl (⟨"ImageTexts$Reader", "readFormat", "()V"⟩ : MethodName)) (yl (⟨"ImageTextsModel", "same", "(I)Z"⟩ : MethodName))) (yn (yl (⟨"ImageTexts$Image", "areAlike", "(II)Z"⟩ : MethodName)) ye)))) (yn (yn (yn (yn (yl (⟨"ImageTexts$Reader", "peek", "()C"⟩ : MethodName)) (yl (⟨"ImageTextsModel", "readMacro", "()V"⟩ : MethodName))) (yn (yl (⟨"ImageTexts$Macro", "has", "(JJ)Z"⟩ : MethodName)) (yl (⟨"ImageTextsModel", "<init>", "()V"⟩ : MethodName)))) (yn (yn (yl (⟨"ImageTexts$Primitive", "allows", "(IJ)Z"⟩ : MethodName)) (yl (⟨"ImageTextsModel", "size", "(J)J"⟩ : MethodName))) (yn (yl (⟨"ImageTexts$Writer", "putItem", "(LImageTexts$Item;)V"⟩ : MethodName)) ye))) (yn (yn (yn (yl (⟨"ImageTexts", "isNumber", "(J)Z"⟩ : MethodName)) (yl (⟨"ImageTextsModel", "read", "()I"⟩ : MethodName))) (yn (yl (⟨"ImageTexts$Writer", "put", "(C)V"⟩ : MethodName)) (yl (⟨"java/lang/String", "coder", "()B"⟩ : MethodName)))) (yn (yn (yl (⟨"ImageTexts$Image", "hasItem", "(I)Z"⟩ : MethodName)) (yl (⟨"ImageTextsModel", "heldLetter", "(II)I"⟩ : MethodName))) (yn (yl (⟨"ImageTextsModel", "unit", "(I)Z"⟩ : MethodName)) ye))))) (yn (yn (yn (yn (yn (yl (⟨"ImageTexts$Item", "reset", "()V"⟩ : MethodName)) (yl (⟨"ImageTextsModel", "list", "(III)V"⟩ : MethodName))) (yn (yl (⟨"ImageTexts", "lowerProduct", "(JJ)J"⟩ : MethodName)) (yl (⟨"ImageTextsLaw", "same", "(LImageTexts;I[J)I"⟩ : MethodName)))) (yn (yn (yl (⟨"ImageTexts$Reader", "readRepeat", "()V"⟩ : MethodName)) (yl (⟨"ImageTextsModel", "object", "(II)I"⟩ : MethodName))) (yn (yl (⟨"ImageTexts$Writer", "putName", "(LImageTexts$Name;)V"⟩ : MethodName)) ye))) (yn (yn (yn (yl (⟨"ImageTexts$Reader", "readRegionEnd", "()V"⟩ : MethodName)) (yl (⟨"ImageTextsModel", "readCommand", "(I)V"⟩ : MethodName))) (yn (yl (⟨"ImageTexts", "openRegion", "()Z"⟩ : MethodName)) (yl (⟨"java/lang/String", "indexOf", "(I)I"⟩ : MethodName)))) (yn (yn (yl (⟨"ImageTexts$Image", "defineAperture", "(IIJJ)Z"⟩ : MethodName)) (yl (⟨"ImageTextsModel", "sayPlace", "(JJI)V"⟩ : MethodName))) (yn (yl (⟨"ImageTexts", "clear", "()V"⟩ : MethodName)) ye)))) (yn (yn (yn (yn (yl (⟨"ImageTexts$Reader", "ends", "()Z"⟩ : MethodName)) (yl (⟨"ImageTextsModel", "tell", "(IJJJ)I"⟩ : MethodName))) (yn (yl (⟨"ImageTexts", "in", "(JJ)Z"⟩ : MethodName)) (yl (⟨"ImageTexts$Item", "<init>", "()V"⟩ : MethodName)))) (yn (yn (yl (⟨"ImageTexts$Primitive", "copy", "(LImageTexts$Primitive;)V"⟩ : MethodName)) (yl (⟨"ImageTextsModel", "regionHas", "(IJJ)Z"⟩ : MethodName))) (yn (yl (⟨"ImageTexts$Item", "isLikeButAperture", "(LImageTexts$Item;)Z"⟩ : MethodName)) ye))) (yn (yn (yn (yl (⟨"ImageTexts$Image", "isAperture", "(I)Z"⟩ : MethodName)) (yl (⟨"ImageTextsModel", "macro", "(IIJ)I"⟩ : MethodName))) (yn (yl (⟨"ImageTexts$Writer", "putNext", "(I)V"⟩ : MethodName)) (yl (⟨"java/lang/StringLatin1", "indexOfChar", "([BIII)I"⟩ : MethodName)))) (yn (yn (yl (⟨"ImageTexts$Ring", "sideOf", "(IIJJ)J"⟩ : MethodName)) (yl (⟨"ImageTextsLaw", "object", "(LImageTexts;II[J)I"⟩ : MethodName))) (yn (yl (⟨"ImageTextsModel", "add", "(IIJJJJ)I"⟩ : MethodName)) ye))))))) (yn (yn (yn (yn (yn (yn (yn (yl (⟨"ImageTexts", "unit", "(I)Z"⟩ : MethodName)) (yl (⟨"ImageTextsModel", "fail", "()V"⟩ : MethodName))) (yn (yl (⟨"ImageTexts$Ring", "isBetween", "(JJJ)Z"⟩ : MethodName)) (yl (⟨"ImageTextsLaw", "macro", "(LImageTexts;IIJ[J)I"⟩ : MethodName)))) (yn (yn (yl (⟨"ImageTexts$Reader", "draw", "(CJJ)Z"⟩ : MethodName)) (yl (⟨"ImageTextsModel", "line", "(IJJJJ)Z"⟩ : MethodName))) (yn (yl (⟨"ImageTexts$Grid", "is", "(IIJJ)Z"⟩ : MethodName)) ye))) (yn (yn (yn (yl (⟨"ImageTexts$Name", "copy", "(LImageTexts$Name;)V"⟩ : MethodName)) (yl (⟨"ImageTextsModel", "readTag", "()V"⟩ : MethodName))) (yn (yl (⟨"ImageTexts", "aperture", "(IJJ)I"⟩ : MethodName)) (yl (⟨"ImageTexts$Primitive", "<init>", "()V"⟩ : MethodName)))) (yn (yn (yl (⟨"ImageTexts$Reader", "readMacro", "()V"⟩ : MethodName)) (yl (⟨"ImageTextsModel", "haveOneShape", "(II)Z"⟩ : MethodName))) (yn (yl (⟨"ImageTexts$Image", "areShapesAlike", "(II)Z"⟩ : MethodName)) ye)))) (yn (yn (yn (yn (yl (⟨"ImageTexts$Reader", "finish", "()I"⟩ : MethodName)) (yl (⟨"ImageTextsModel", "tellPrimitive", "(III)V"⟩ : MethodName))) (yn (yl (⟨"ImageTexts$Image", "isMacro", "(I)Z"⟩ : MethodName)) (yl (⟨"ImageTexts", "<init>", "()V"⟩ : MethodName)))) (yn (yn (yl (⟨"ImageTexts", "isSize", "(J)Z"⟩ : MethodName)) (yl (⟨"ImageTextsModel", "isMore", "(JJJJ)Z"⟩ : MethodName))) (yn (yl (⟨"ImageTexts$Writer", "putRing", "(LImageTexts$Ring;)V"⟩ : MethodName)) ye))) (yn (yn (yn (yl (⟨"ImageTexts$Reader", "oneOf", "(Ljava/lang/String;)C"⟩ : MethodName)) (yl (⟨"ImageTextsModel", "take", "()V"⟩ : MethodName))) (yn (yl (⟨"ImageTexts", "corner", "(JJ)Z"⟩ : MethodName)) (yl (⟨"java/lang/String", "length", "()I"⟩ : MethodName)))) (yn (yn (yl (⟨"ImageTexts", "read", "()I"⟩ : MethodName)) (yl (⟨"ImageTextsModel", "held", "(II)J"⟩ : MethodName))) (yn (yl (⟨"ImageTextsModel", "clear", "()V"⟩ : MethodName)) ye))))) (yn (yn (yn (yn (yn (yl (⟨"ImageTexts$Item", "end", "(JJ)V"⟩ : MethodName)) (yl (⟨"ImageTextsModel", "number", "()J"⟩ : MethodName))) (yn (yl (⟨"ImageTexts", "upperProduct", "(JJ)J"⟩ : MethodName)) (yl (⟨"ImageTextsLaw", "write", "(LImageTexts;I[J)I"⟩ : MethodName)))) (yn (yn (yl (⟨"ImageTexts$Grid", "allows", "(IIJJ)Z"⟩ : MethodName)) (yl (⟨"ImageTextsModel", "isObject", "(I)Z"⟩ : MethodName))) (yn (yl (⟨"ImageTexts$Name", "isLike", "(LImageTexts$Name;)Z"⟩ : MethodName)) ye))) (yn (yn (yn (yl (⟨"ImageTexts$Reader", "refuse", "()V"⟩ : MethodName)) (yl (⟨"ImageTextsModel", "beginRegion", "()V"⟩ : MethodName))) (yn (yl (⟨"ImageTexts", "line", "(IJJJJ)Z"⟩ : MethodName)) (yl (⟨"ImageTextsLaw", "law", "([I)Z"⟩ : MethodName)))) (yn (yn (yl (⟨"ImageTexts$Image", "allowsShape", "(IJJ)Z"⟩ : MethodName)) (yl (⟨"ImageTextsModel", "sayNext", "(J)V"⟩ : MethodName))) (yn (yl (⟨"ImageTexts", "repeat", "(IIJJ)I"⟩ : MethodName)) ye)))) (yn (yn (yn (yn (yl (⟨"ImageTexts$Reader", "take", "(C)V"⟩ : MethodName)) (yl (⟨"ImageTextsModel", "readAperture", "()V"⟩ : MethodName))) (yn (yl (⟨"ImageTexts$Image", "hasCopper", "(JJ)Z"⟩ : MethodName)) (yl (⟨"ImageTexts$Image", "<init>", "()V"⟩ : MethodName)))) (yn (yn (yl (⟨"ImageTexts$Reader", "readPrimitive", "(LImageTexts$Primitive;)Z"⟩ : MethodName)) (yl (⟨"ImageTextsModel", "apertureHas", "(IJJ)Z"⟩ : MethodName))) (yn (yl (⟨"ImageTexts$Ring", "isLike", "(LImageTexts$Ring;)Z"⟩ : MethodName)) ye))) (yn (yn (yn (yl (⟨"ImageTexts$Reader", "addCorner", "(CJJ)Z"⟩ : MethodName)) (yl (⟨"ImageTextsModel", "plainPrimitive", "(I)V"⟩ : MethodName))) (yn (yl (⟨"ImageTexts$Writer", "putShapeLetter", "(I)V"⟩ : MethodName)) (yl (⟨"java/lang/Math", "max", "(II)I"⟩ : MethodName)))) (yn (yn (yl (⟨"java/lang/Math", "min", "(II)I"⟩ : MethodName)) (yl (⟨"ImageTextsModel", "write", "(I)I"⟩ : MethodName))) (yn (yl (⟨"ImageTextsModel", "place", "(II)I"⟩ : MethodName)) ye)))))) (yn (yn (yn (yn (yn (yn (yl (⟨"ImageTexts$Grid", "put", "(IIJJ)V"⟩ : MethodName)) (yl (⟨"ImageTextsModel", "expect", "(I)V"⟩ : MethodName))) (yn (yl (⟨"java/lang/Math", "abs", "(J)J"⟩ : MethodName)) (yl (⟨"ImageTextsLaw", "line", "(LImageTexts;IJJJJ[J)I"⟩ : MethodName)))) (yn (yn (yl (⟨"ImageTexts$Name", "add", "(C)Z"⟩ : MethodName)) (yl (⟨"ImageTextsModel", "corner", "(JJ)Z"⟩ : MethodName))) (yn (yl (⟨"ImageTexts$Writer", "putGrid", "(LImageTexts$Grid;)V"⟩ : MethodName)) ye))) (yn (yn (yn (yl (⟨"ImageTexts$Item", "become", "(ILImageTexts$Item;)V"⟩ : MethodName)) (yl (⟨"ImageTextsModel", "readScale", "()V"⟩ : MethodName))) (yn (yl (⟨"ImageTexts", "macro", "(IIJ)I"⟩ : MethodName)) (yl (⟨"ImageTexts$Ring", "<init>", "()V"⟩ : MethodName)))) (yn (yn (yl (⟨"ImageTexts$Reader", "readSelection", "()V"⟩ : MethodName)) (yl (⟨"ImageTextsModel", "say", "(I)V"⟩ : MethodName))) (yn (yl (⟨"ImageTexts", "same", "(I)Z"⟩ : MethodName)) ye)))) (yn (yn (yn (yn (yl (⟨"ImageTexts$Reader", "mayBegin", "(C)Z"⟩ : MethodName)) (yl (⟨"ImageTextsModel", "isNumbered", "(J)Z"⟩ : MethodName))) (yn (yl (⟨"ImageTexts$Image", "hasOnce", "(LImageTexts$Item;JJ)Z"⟩ : MethodName)) (yl (⟨"ImageTexts$Aperture", "<init>", "()V"⟩ : MethodName)))) (yn (yn (yl (⟨"ImageTexts$Primitive", "put", "(IJ)V"⟩ : MethodName)) (yl (⟨"ImageTextsModel", "isWithin", "(JJJJJJJ)Z"⟩ : MethodName))) (yn (yl (⟨"ImageTexts$Writer", "characterOf", "(LImageTexts$Image;I)I"⟩ : MethodName)) ye))) (yn (yn (yn (yl (⟨"ImageTexts", "isPlace", "(JJ)Z"⟩ : MethodName)) (yl (⟨"ImageTextsModel", "odd", "(I)I"⟩ : MethodName))) (yn (yl (⟨"java/lang/Math", "abs", "(I)I"⟩ : MethodName)) (yl (⟨"java/lang/StringLatin1", "indexOf", "([BIII)I"⟩ : MethodName)))) (yn (yn (yl (⟨"ImageTexts$Item", "valueOf", "(I)I"⟩ : MethodName)) (yl (⟨"ImageTextsModel", "sayAhead", "(I)V"⟩ : MethodName))) (yn (yl (⟨"ImageTextsModel", "isPlace", "(J)Z"⟩ : MethodName)) ye))))) (yn (yn (yn (yn (yn (yl (⟨"ImageTexts$Reader", "begin", "()V"⟩ : MethodName)) (yl (⟨"ImageTextsModel", "must", "(Z)V"⟩ : MethodName))) (yn (yl (⟨"ImageTexts", "isSquareAtMost", "(JJJ)Z"⟩ : MethodName)) (yl (⟨"ImageTextsLaw", "attribute", "(LImageTexts;II[J)I"⟩ : MethodName)))) (yn (yn (yl (⟨"ImageTexts$Primitive", "reset", "()V"⟩ : MethodName)) (yl (⟨"ImageTextsModel", "attribute", "(II)I"⟩ : MethodName))) (yn (yl (⟨"ImageTexts$Writer", "putChanges", "(LImageTexts$Item;)V"⟩ : MethodName)) ye))) (yn (yn (yn (yl (⟨"ImageTexts$Reader", "amount", "(Z)I"⟩ : MethodName)) (yl (⟨"ImageTextsModel", "begin", "()V"⟩ : MethodName))) (yn (yl (⟨"ImageTexts", "closeRegion", "()Z"⟩ : MethodName)) (yl (⟨"java/lang/String", "indexOf", "(II)I"⟩ : MethodName)))) (yn (yn (yl (⟨"ImageTexts$Reader", "readAperture", "()V"⟩ : MethodName)) (yl (⟨"ImageTextsModel", "sayMacro", "(I)V"⟩ : MethodName))) (yn (yl (⟨"ImageTextsModel", "thrown", "()I"⟩ : MethodName)) ye)))) (yn (yn (yn (yn (yl (⟨"ImageTexts$Image", "isFull", "()Z"⟩ : MethodName)) (yl (⟨"ImageTextsModel", "readPlace", "()V"⟩ : MethodName))) (yn (yl (⟨"ImageTexts", "odd", "(I)I"⟩ : MethodName)) (yl (⟨"ImageTexts$Macro", "<init>", "()V"⟩ : MethodName)))) (yn (yn (yl (⟨"ImageTexts$Macro", "copy", "(LImageTexts$Macro;)V"⟩ : MethodName)) (yl (⟨"ImageTextsModel", "objectHas", "(IJJ)Z"⟩ : MethodName))) (yn (yl (⟨"ImageTexts$Primitive", "isLike", "(LImageTexts$Primitive;)Z"⟩ : MethodName)) ye))) (yn (yn (yn (yl (⟨"ImageTexts$Image", "isTold", "(I)Z"⟩ : MethodName)) (yl (⟨"ImageTextsModel", "isAperture", "(I)Z"⟩ : MethodName))) (yn (yl (⟨"ImageTexts$Writer", "putMacro", "(ILImageTexts$Macro;)V"⟩ : MethodName)) ye)) (yn (yn (yl (⟨"java/lang/Math", "min", "(JJ)J"⟩ : MethodName)) (yl (⟨"ImageTextsLaw", "odd", "(LImageTexts;I[J)I"⟩ : MethodName))) (yn (yl (⟨"ImageTextsModel", "repeatObject", "(IZ)V"⟩ : MethodName)) ye))))))))
noncomputable def tY (mi : Nat) : MethodName := match zget 8 tt_Y mi with
  | some y => y
  | none => ⟨"", "", ""⟩
noncomputable def tt_B : zT ByteArray 8 := (yn (yn (yn (yn (yn (yn (yn (yn (yl prog_9_method_2_code) (yl prog_13_method_11_code)) (yn (yl prog_19_method_66_code) (yl method_5_code))) (yn (yn (yl prog_4_method_10_code) (yl prog_13_method_43_code)) (yn (yl prog_11_method_4_code) ye))) (yn (yn (yn (yl prog_3_method_6_code) (yl prog_13_method_26_code)) (yn (yl prog_4_method_11_code) (yl prog_7_method_1_code))) (yn (yn (yl prog_4_method_7_code) (yl prog_13_method_59_code)) (yn (yl prog_6_method_4_code) ye)))) (yn (yn (yn (yn (yl prog_9_method_4_code) (yl prog_13_method_29_code)) (yn (yl prog_5_method_8_code) (yl method_13_code))) (yn (yn (yl prog_6_method_2_code) (yl prog_13_method_51_code)) (yn (yl prog_11_method_10_code) ye))) (yn (yn (yn (yl prog_9_method_22_code) (yl prog_13_method_37_code)) (yn (yl prog_1_method_11_code) (yl prog_21_method_154_code))) (yn (yn (yl prog_9_method_6_code) (yl prog_13_method_67_code)) (yn (yl prog_13_method_4_code) ye))))) (yn (yn (yn (yn (yn (yl prog_5_method_3_code) (yl prog_13_method_15_code)) (yn (yl prog_1_method_23_code) (yl method_9_code))) (yn (yn (yl prog_9_method_20_code) (yl prog_13_method_47_code)) (yn (yl prog_7_method_3_code) ye))) (yn (yn (yn (yl prog_4_method_5_code) (yl prog_13_method_32_code)) (yn (yl prog_1_method_9_code) (yl prog_11_method_1_code))) (yn (yn (yl prog_9_method_17_code) (yl prog_13_method_63_code)) (yn (yl prog_1_method_15_code) ye)))) (yn (yn (yn (yn (yl prog_9_method_27_code) (yl prog_13_method_23_code)) (yn (yl prog_4_method_18_code) (yl prog_3_method_1_code))) (yn (yn (yl prog_9_method_11_code) (yl prog_13_method_55_code)) (yn (yl prog_1_method_13_code) ye))) (yn (yn (yn (yl prog_10_method_2_code) (yl prog_13_method_39_code)) (yn (yl prog_11_method_13_code) (yl prog_22_method_4_code))) (yn (yn (yl prog_1_method_4_code) (yl prog_13_method_71_code)) (yn (yl prog_13_method_7_code) ye)))))) (yn (yn (yn (yn (yn (yn (yl prog_4_method_2_code) (yl prog_13_method_13_code)) (yn (yl prog_10_method_5_code) (yl method_7_code))) (yn (yn (yl prog_9_method_14_code) (yl prog_13_method_45_code)) (yn (yl prog_3_method_4_code) ye))) (yn (yn (yn (yl prog_10_method_3_code) (yl prog_13_method_28_code)) (yn (yl prog_4_method_6_code) (yl prog_9_method_1_code))) (yn (yn (yl prog_9_method_8_code) (yl prog_13_method_61_code)) (yn (yl prog_4_method_14_code) ye)))) (yn (yn (yn (yn (yl prog_9_method_26_code) (yl prog_13_method_19_code)) (yn (yl prog_6_method_5_code) (yl prog_13_method_1_code))) (yn (yn (yl prog_8_method_2_code) (yl prog_13_method_53_code)) (yn (yl prog_11_method_8_code) ye))) (yn (yn (yn (yl prog_1_method_20_code) (yl prog_13_method_35_code)) (yn (yl prog_11_method_14_code) (yl prog_21_method_152_code))) (yn (yn (yl prog_4_method_3_code) (yl prog_13_method_69_code)) (yn (yl prog_13_method_5_code) ye))))) (yn (yn (yn (yn (yn (yl prog_5_method_2_code) (yl prog_13_method_17_code)) (yn (yl prog_1_method_26_code) (yl method_11_code))) (yn (yn (yl prog_9_method_19_code) (yl prog_13_method_49_code)) (yn (yl prog_11_method_7_code) ye))) (yn (yn (yn (yl prog_9_method_18_code) (yl prog_13_method_30_code)) (yn (yl prog_1_method_18_code) (yl prog_21_method_79_code))) (yn (yn (yl prog_4_method_13_code) (yl prog_13_method_65_code)) (yn (yl prog_1_method_17_code) ye)))) (yn (yn (yn (yn (yl prog_9_method_25_code) (yl prog_13_method_25_code)) (yn (yl prog_1_method_5_code) (yl prog_5_method_1_code))) (yn (yn (yl prog_8_method_5_code) (yl prog_13_method_57_code)) (yn (yl prog_5_method_7_code) ye))) (yn (yn (yn (yl prog_4_method_8_code) (yl prog_13_method_41_code)) (yn (yl prog_11_method_12_code) (yl prog_22_method_23_code))) (yn (yn (yl prog_10_method_6_code) (yl method_3_code)) (yn (yl prog_13_method_9_code) ye))))))) (yn (yn (yn (yn (yn (yn (yn (yl prog_1_method_2_code) (yl prog_13_method_12_code)) (yn (yl prog_10_method_7_code) (yl method_6_code))) (yn (yn (yl prog_9_method_16_code) (yl prog_13_method_44_code)) (yn (yl prog_3_method_3_code) ye))) (yn (yn (yn (yl prog_7_method_5_code) (yl prog_13_method_27_code)) (yn (yl prog_1_method_7_code) (yl prog_8_method_1_code))) (yn (yn (yl prog_9_method_9_code) (yl prog_13_method_60_code)) (yn (yl prog_4_method_15_code) ye)))) (yn (yn (yn (yn (yl prog_9_method_5_code) (yl prog_13_method_20_code)) (yn (yl prog_4_method_16_code) (yl prog_1_method_1_code))) (yn (yn (yl prog_1_method_22_code) (yl prog_13_method_52_code)) (yn (yl prog_11_method_9_code) ye))) (yn (yn (yn (yl prog_9_method_23_code) (yl prog_13_method_36_code)) (yn (yl prog_1_method_12_code) (yl prog_21_method_54_code))) (yn (yn (yl prog_1_method_3_code) (yl prog_13_method_68_code)) (yn (yl prog_13_method_3_code) ye))))) (yn (yn (yn (yn (yn (yl prog_5_method_4_code) (yl prog_13_method_16_code)) (yn (yl prog_1_method_25_code) (yl method_10_code))) (yn (yn (yl prog_3_method_2_code) (yl prog_13_method_48_code)) (yn (yl prog_7_method_4_code) ye))) (yn (yn (yn (yl prog_9_method_28_code) (yl prog_13_method_33_code)) (yn (yl prog_1_method_10_code) (yl code))) (yn (yn (yl prog_4_method_12_code) (yl prog_13_method_64_code)) (yn (yl prog_1_method_16_code) ye)))) (yn (yn (yn (yn (yl prog_9_method_24_code) (yl prog_13_method_22_code)) (yn (yl prog_4_method_17_code) (yl prog_4_method_1_code))) (yn (yn (yl prog_9_method_10_code) (yl prog_13_method_56_code)) (yn (yl prog_10_method_4_code) ye))) (yn (yn (yn (yl prog_9_method_15_code) (yl prog_13_method_40_code)) (yn (yl prog_11_method_11_code) (yl prog_19_method_65_code))) (yn (yn (yl prog_19_method_69_code) (yl prog_13_method_72_code)) (yn (yl prog_13_method_8_code) ye)))))) (yn (yn (yn (yn (yn (yn (yl prog_3_method_5_code) (yl prog_13_method_14_code)) (yn (yl prog_19_method_61_code) (yl method_8_code))) (yn (yn (yl prog_7_method_2_code) (yl prog_13_method_46_code)) (yn (yl prog_11_method_6_code) ye))) (yn (yn (yn (yl prog_5_method_5_code) (yl prog_13_method_31_code)) (yn (yl prog_1_method_8_code) (yl prog_10_method_1_code))) (yn (yn (yl prog_9_method_13_code) (yl prog_13_method_62_code)) (yn (yl prog_1_method_14_code) ye)))) (yn (yn (yn (yn (yl prog_9_method_7_code) (yl prog_13_method_21_code)) (yn (yl prog_4_method_19_code) (yl prog_2_method_1_code))) (yn (yn (yl prog_8_method_3_code) (yl prog_13_method_54_code)) (yn (yl prog_11_method_2_code) ye))) (yn (yn (yn (yl prog_1_method_21_code) (yl prog_13_method_38_code)) (yn (yl prog_19_method_59_code) (yl prog_22_method_22_code))) (yn (yn (yl prog_5_method_6_code) (yl prog_13_method_70_code)) (yn (yl prog_13_method_6_code) ye))))) (yn (yn (yn (yn (yn (yl prog_9_method_3_code) (yl prog_13_method_18_code)) (yn (yl prog_1_method_24_code) (yl method_12_code))) (yn (yn (yl prog_8_method_4_code) (yl prog_13_method_50_code)) (yn (yl prog_11_method_5_code) ye))) (yn (yn (yn (yl prog_9_method_21_code) (yl prog_13_method_34_code)) (yn (yl prog_1_method_19_code) (yl prog_21_method_80_code))) (yn (yn (yl prog_9_method_12_code) (yl prog_13_method_66_code)) (yn (yl prog_13_method_2_code) ye)))) (yn (yn (yn (yn (yl prog_4_method_4_code) (yl prog_13_method_24_code)) (yn (yl prog_1_method_6_code) (yl prog_6_method_1_code))) (yn (yn (yl prog_6_method_3_code) (yl prog_13_method_58_code)) (yn (yl prog_8_method_6_code) ye))) (yn (yn (yn (yl prog_4_method_9_code) (yl prog_13_method_42_code)) (yn (yl prog_11_method_3_code) ye)) (yn (yn (yl prog_19_method_70_code) (yl method_4_code)) (yn (yl prog_13_method_10_code) ye))))))))
noncomputable def tBt (mi : Nat) : ByteArray := match zget 8 tt_B mi with
  | some y => y
  | none => code
noncomputable def tt_H : zT (List (Nat × Nat × Nat × Nat)) 8 := (yn (yn (yn (yn (yn (yn (yn ye (yn ye (yl [(0, 13, 16, 23)]))) ye) ye) (yn (yn (yn ye (yn ye (yl [(0, 14, 17, 23)]))) ye) ye)) (yn (yn (yn (yn ye (yn ye (yl [(0, 18, 21, 29), (0, 18, 25, 23)]))) ye) ye) ye)) (yn (yn (yn (yn (yn ye (yn ye (yl [(0, 22, 25, 13), (0, 22, 29, 29), (0, 22, 33, 23)]))) ye) ye) ye) (yn (yn (yn (yn ye (yn ye (yl [(0, 16, 19, 13)]))) ye) ye) (yn ye (yn ye (yn (yn ye (yl [(0, 10, 13, 13)])) ye)))))) (yn (yn (yn (yn (yn (yn ye (yn ye (yl [(0, 12, 15, 13), (0, 12, 19, 29), (0, 12, 23, 23)]))) ye) ye) ye) (yn (yn (yn (yn ye (yn ye (yl [(0, 9, 12, 13)]))) ye) ye) ye)) (yn (yn (yn (yn (yn ye (yn ye (yl [(0, 24, 27, 13), (0, 24, 31, 29), (0, 24, 35, 23)]))) ye) ye) ye) (yn (yn (yn (yn ye (yn ye (yl [(0, 10, 13, 13)]))) ye) ye) (yn ye (yn ye (yn (yn ye (yl [(0, 9, 12, 13)])) ye)))))))
noncomputable def tHh (mi : Nat) : List (Nat × Nat × Nat × Nat) := match zget 8 tt_H mi with
  | some y => y
  | none => []
noncomputable def tRt (mi : Nat) : Option FieldType := bif Nat.beq (yg tt_rt mi) 0 then none else bif Nat.beq (yg tt_rt mi) 1 then some .int else bif Nat.beq (yg tt_rt mi) 2 then some .boolean else bif Nat.beq (yg tt_rt mi) 3 then some .long else bif Nat.beq (yg tt_rt mi) 4 then some .char else some .byte
noncomputable def tRm (mi : Nat) : Room := { frames := yg tt_fr mi, cells := yg tt_rc mi, slots := yg tt_rs mi, locals := yg tt_lo mi }
def tEx (k : Nat) : String := if k = 0 then "java/lang/IndexOutOfBoundsException" else if k = 1 then "java/lang/IllegalStateException" else "java/lang/IllegalArgumentException"
noncomputable def tt_kd : zT Nat 8 := (yn (yn (yn (yn (yn (yn (yn (yn (yl 38) (yl 38)) (yn (yl 36) (yl 36))) (yn (yn (yl 38) (yl 38)) (yn (yl 38) ye))) (yn (yn (yn (yl 38) (yl 38)) (yn (yl 38) (yl 39))) (yn (yn (yl 38) (yl 38)) (yn (yl 38) ye)))) (yn (yn (yn (yn (yl 38) (yl 38)) (yn (yl 38) (yl 36))) (yn (yn (yl 38) (yl 36)) (yn (yl 38) ye))) (yn (yn (yn (yl 38) (yl 38)) (yn (yl 38) ye)) (yn (yn (yl 38) (yl 38)) (yn (yl 38) ye))))) (yn (yn (yn (yn (yn (yl 38) (yl 38)) (yn (yl 36) (yl 36))) (yn (yn (yl 38) (yl 38)) (yn (yl 38) ye))) (yn (yn (yn (yl 38) (yl 38)) (yn (yl 38) (yl 39))) (yn (yn (yl 38) (yl 38)) (yn (yl 38) ye)))) (yn (yn (yn (yn (yl 38) (yl 38)) (yn (yl 38) (yl 39))) (yn (yn (yl 36) (yl 36)) (yn (yl 38) ye))) (yn (yn (yn (yl 38) (yl 38)) (yn (yl 38) ye)) (yn (yn (yl 38) (yl 38)) (yn (yl 36) ye)))))) (yn (yn (yn (yn (yn (yn (yl 38) (yl 36)) (yn (yl 38) (yl 36))) (yn (yn (yl 38) (yl 38)) (yn (yl 38) ye))) (yn (yn (yn (yl 38) (yl 38)) (yn (yl 38) (yl 39))) (yn (yn (yl 38) (yl 38)) (yn (yl 38) ye)))) (yn (yn (yn (yn (yl 38) (yl 38)) (yn (yl 38) (yl 39))) (yn (yn (yl 36) (yl 36)) (yn (yl 38) ye))) (yn (yn (yn (yl 36) (yl 38)) (yn (yl 38) ye)) (yn (yn (yl 38) (yl 38)) (yn (yl 38) ye))))) (yn (yn (yn (yn (yn (yl 38) (yl 38)) (yn (yl 36) (yl 36))) (yn (yn (yl 38) (yl 38)) (yn (yl 38) ye))) (yn (yn (yn (yl 38) (yl 38)) (yn (yl 38) ye)) (yn (yn (yl 38) (yl 38)) (yn (yl 38) ye)))) (yn (yn (yn (yn (yl 38) (yl 38)) (yn (yl 38) (yl 39))) (yn (yn (yl 38) (yl 38)) (yn (yl 38) ye))) (yn (yn (yn (yl 38) (yl 38)) (yn (yl 38) ye)) (yn (yn (yl 38) (yl 36)) (yn (yl 38) ye))))))) (yn (yn (yn (yn (yn (yn (yn (yl 38) (yl 38)) (yn (yl 36) (yl 36))) (yn (yn (yl 38) (yl 38)) (yn (yl 38) ye))) (yn (yn (yn (yl 38) (yl 38)) (yn (yl 38) (yl 39))) (yn (yn (yl 38) (yl 38)) (yn (yl 38) ye)))) (yn (yn (yn (yn (yl 38) (yl 38)) (yn (yl 38) (yl 39))) (yn (yn (yl 36) (yl 36)) (yn (yl 38) ye))) (yn (yn (yn (yl 38) (yl 38)) (yn (yl 38) ye)) (yn (yn (yl 38) (yl 38)) (yn (yl 38) ye))))) (yn (yn (yn (yn (yn (yl 38) (yl 38)) (yn (yl 36) (yl 36))) (yn (yn (yl 36) (yl 38)) (yn (yl 38) ye))) (yn (yn (yn (yl 38) (yl 38)) (yn (yl 38) ye)) (yn (yn (yl 38) (yl 38)) (yn (yl 38) ye)))) (yn (yn (yn (yn (yl 38) (yl 38)) (yn (yl 38) (yl 39))) (yn (yn (yl 38) (yl 38)) (yn (yl 38) ye))) (yn (yn (yn (yl 38) (yl 38)) (yn (yl 38) ye)) (yn (yn (yl 36) (yl 38)) (yn (yl 36) ye)))))) (yn (yn (yn (yn (yn (yn (yl 38) (yl 38)) (yn (yl 36) (yl 36))) (yn (yn (yl 38) (yl 38)) (yn (yl 38) ye))) (yn (yn (yn (yl 38) (yl 38)) (yn (yl 38) (yl 39))) (yn (yn (yl 38) (yl 38)) (yn (yl 38) ye)))) (yn (yn (yn (yn (yl 38) (yl 36)) (yn (yl 38) (yl 39))) (yn (yn (yl 38) (yl 36)) (yn (yl 38) ye))) (yn (yn (yn (yl 36) (yl 38)) (yn (yl 36) ye)) (yn (yn (yl 38) (yl 38)) (yn (yl 36) ye))))) (yn (yn (yn (yn (yn (yl 38) (yl 38)) (yn (yl 36) (yl 36))) (yn (yn (yl 38) (yl 38)) (yn (yl 38) ye))) (yn (yn (yn (yl 38) (yl 38)) (yn (yl 38) ye)) (yn (yn (yl 38) (yl 38)) (yn (yl 38) ye)))) (yn (yn (yn (yn (yl 38) (yl 38)) (yn (yl 38) (yl 39))) (yn (yn (yl 38) (yl 38)) (yn (yl 38) ye))) (yn (yn (yn (yl 38) (yl 38)) (yn (yl 38) ye)) (yn (yn (yl 36) (yl 36)) (yn (yl 38) ye))))))))
noncomputable def tt_pn : zT Nat 8 := (yn (yn (yn (yn (yn (yn (yn (yn (yl 2) (yl 1)) (yn (yl 2) (yl 5))) (yn (yn (yl 2) (yl 5)) (yn (yl 3) ye))) (yn (yn (yn (yl 2) (yl 1)) (yn (yl 1) (yl 1))) (yn (yn (yl 3) (yl 3)) (yn (yl 2) ye)))) (yn (yn (yn (yn (yl 1) (yl 1)) (yn (yl 4) (yl 6))) (yn (yn (yl 2) (yl 2)) (yn (yl 4) ye))) (yn (yn (yn (yl 2) (yl 2)) (yn (yl 2) ye)) (yn (yn (yl 1) (yl 2)) (yn (yl 2) ye))))) (yn (yn (yn (yn (yn (yl 3) (yl 1)) (yn (yl 5) (yl 4))) (yn (yn (yl 1) (yl 5)) (yn (yl 2) ye))) (yn (yn (yn (yl 3) (yl 1)) (yn (yl 5) (yl 1))) (yn (yn (yl 1) (yl 2)) (yn (yl 3) ye)))) (yn (yn (yn (yn (yl 1) (yl 6)) (yn (yl 4) (yl 1))) (yn (yn (yl 3) (yl 5)) (yn (yl 2) ye))) (yn (yn (yn (yl 3) (yl 4)) (yn (yl 2) ye)) (yn (yn (yl 3) (yl 1)) (yn (yl 1) ye)))))) (yn (yn (yn (yn (yn (yn (yl 1) (yl 1)) (yn (yl 3) (yl 6))) (yn (yn (yl 1) (yl 2)) (yn (yl 2) ye))) (yn (yn (yn (yl 2) (yl 1)) (yn (yl 1) (yl 1))) (yn (yn (yl 1) (yl 2)) (yn (yl 3) ye)))) (yn (yn (yn (yn (yl 1) (yl 1)) (yn (yl 3) (yl 1))) (yn (yn (yl 2) (yl 1)) (yn (yl 2) ye))) (yn (yn (yn (yl 1) (yl 1)) (yn (yl 2) ye)) (yn (yn (yl 2) (yl 3)) (yn (yl 2) ye))))) (yn (yn (yn (yn (yn (yl 1) (yl 4)) (yn (yl 2) (yl 3))) (yn (yn (yl 1) (yl 3)) (yn (yl 2) ye))) (yn (yn (yn (yl 1) (yl 2)) (yn (yl 1) ye)) (yn (yn (yl 5) (yl 4)) (yn (yl 1) ye)))) (yn (yn (yn (yn (yl 1) (yl 5)) (yn (yl 3) (yl 1))) (yn (yn (yl 2) (yl 4)) (yn (yl 2) ye))) (yn (yn (yn (yl 2) (yl 4)) (yn (yl 2) ye)) (yn (yn (yl 5) (yl 4)) (yn (yl 7) ye))))))) (yn (yn (yn (yn (yn (yn (yn (yl 2) (yl 1)) (yn (yl 3) (yl 5))) (yn (yn (yl 4) (yl 6)) (yn (yl 5) ye))) (yn (yn (yn (yl 2) (yl 1)) (yn (yl 4) (yl 1))) (yn (yn (yl 1) (yl 3)) (yn (yl 3) ye)))) (yn (yn (yn (yn (yl 1) (yl 4)) (yn (yl 2) (yl 1))) (yn (yn (yl 1) (yl 4)) (yn (yl 2) ye))) (yn (yn (yn (yl 2) (yl 1)) (yn (yl 3) ye)) (yn (yn (yl 1) (yl 3)) (yn (yl 1) ye))))) (yn (yn (yn (yn (yn (yl 3) (yl 1)) (yn (yl 2) (yl 3))) (yn (yn (yl 4) (yl 2)) (yn (yl 2) ye))) (yn (yn (yn (yl 1) (yl 1)) (yn (yl 6) ye)) (yn (yn (yl 4) (yl 2)) (yn (yl 5) ye)))) (yn (yn (yn (yn (yl 2) (yl 1)) (yn (yl 3) (yl 1))) (yn (yn (yl 2) (yl 4)) (yn (yl 2) ye))) (yn (yn (yn (yl 4) (yl 2)) (yn (yl 2) ye)) (yn (yn (yl 2) (yl 2)) (yn (yl 2) ye)))))) (yn (yn (yn (yn (yn (yn (yl 5) (yl 2)) (yn (yl 1) (yl 7))) (yn (yn (yl 2) (yl 3)) (yn (yl 2) ye))) (yn (yn (yn (yl 3) (yl 1)) (yn (yl 4) (yl 1))) (yn (yn (yl 1) (yl 2)) (yn (yl 2) ye)))) (yn (yn (yn (yn (yl 2) (yl 1)) (yn (yl 4) (yl 1))) (yn (yn (yl 3) (yl 7)) (yn (yl 3) ye))) (yn (yn (yn (yl 2) (yl 2)) (yn (yl 1) ye)) (yn (yn (yl 2) (yl 2)) (yn (yl 1) ye))))) (yn (yn (yn (yn (yn (yl 1) (yl 2)) (yn (yl 3) (yl 4))) (yn (yn (yl 1) (yl 3)) (yn (yl 2) ye))) (yn (yn (yn (yl 2) (yl 1)) (yn (yl 1) ye)) (yn (yn (yl 1) (yl 2)) (yn (yl 1) ye)))) (yn (yn (yn (yn (yl 1) (yl 1)) (yn (yl 2) (yl 1))) (yn (yn (yl 2) (yl 4)) (yn (yl 2) ye))) (yn (yn (yn (yl 2) (yl 2)) (yn (yl 3) ye)) (yn (yn (yl 2) (yl 3)) (yn (yl 3) ye))))))))
noncomputable def tt_in : zT Nat 8 := (yn (yn (yn (yn (yn ye (yn (yn ye (yn ye (yl 1))) ye)) ye) (yn (yn ye (yn (yn ye (yn ye (yl 1))) ye)) (yn (yn (yn ye (yn ye (yl 1))) ye) ye))) (yn (yn (yn ye (yn (yn ye (yn ye (yl 1))) ye)) (yn (yn (yn ye (yn ye (yl 1))) ye) ye)) (yn ye (yn (yn (yn ye (yn ye (yl 1))) ye) ye)))) (yn (yn (yn (yn ye (yn (yn ye (yn ye (yl 1))) ye)) (yn (yn (yn ye (yn ye (yl 1))) ye) ye)) (yn ye (yn (yn (yn ye (yn ye (yl 1))) ye) ye))) (yn (yn (yn ye (yn (yn ye (yn ye (yl 1))) ye)) (yn (yn (yn ye (yn ye (yl 1))) ye) ye)) (yn ye (yn (yn (yn ye (yn ye (yl 1))) ye) ye)))))
noncomputable def tt_C : zT String 7 := (yn (yn (yn (yn (yn (yn (yn (yl "ImageTexts$Aperture") ye) ye) ye) (yn (yn (yn (yl "ImageTexts$Ring") ye) ye) ye)) (yn (yn (yn (yn (yl "ImageTexts$Macro") ye) ye) ye) ye)) (yn (yn (yn (yn (yn (yl "ImageTexts$Image") ye) ye) ye) (yn (yn (yn (yl "ImageTexts") ye) ye) ye)) (yn (yn (yn (yn (yl "ImageTexts$Primitive") ye) ye) ye) ye))) (yn (yn (yn (yn (yn (yn (yl "ImageTexts$Grid") ye) ye) ye) (yn (yn (yn (yl "ImageTexts$Writer") ye) ye) ye)) (yn (yn (yn (yn (yl "ImageTexts$Name") ye) ye) ye) ye)) (yn (yn (yn (yn (yn (yl "ImageTexts$Item") ye) ye) ye) (yn (yn (yn (yl "ImageTextsModel") ye) ye) ye)) (yn (yn (yn (yn (yl "ImageTexts$Reader") ye) ye) ye) ye))))
noncomputable def tC (ci : Nat) : String := match zget 7 tt_C ci with
  | some y => y
  | none => ""
noncomputable def tf_0 : List (String × String × String × Bool) := [("ImageTexts$Aperture", "told", "Z", false), ("ImageTexts$Aperture", "kind", "I", false), ("ImageTexts$Aperture", "a", "I", false), ("ImageTexts$Aperture", "b", "I", false)]
noncomputable def tf_1 : List (String × String × String × Bool) := [("ImageTexts$Grid", "columns", "I", false), ("ImageTexts$Grid", "rows", "I", false), ("ImageTexts$Grid", "dx", "I", false), ("ImageTexts$Grid", "dy", "I", false)]
noncomputable def tf_2 : List (String × String × String × Bool) := [("ImageTexts$Image", "macros", "[LImageTexts$Macro;", true), ("ImageTexts$Image", "apertures", "[LImageTexts$Aperture;", true), ("ImageTexts$Image", "items", "[LImageTexts$Item;", true), ("ImageTexts$Image", "macroCount", "I", false), ("ImageTexts$Image", "count", "I", false)]
noncomputable def tf_3 : List (String × String × String × Bool) := [("ImageTexts$Item", "grid", "LImageTexts$Grid;", true), ("ImageTexts$Item", "name", "LImageTexts$Name;", true), ("ImageTexts$Item", "ring", "LImageTexts$Ring;", true), ("ImageTexts$Item", "kind", "I", false), ("ImageTexts$Item", "dark", "Z", false), ("ImageTexts$Item", "aperture", "I", false), ("ImageTexts$Item", "x", "I", false), ("ImageTexts$Item", "y", "I", false), ("ImageTexts$Item", "x2", "I", false), ("ImageTexts$Item", "y2", "I", false)]
noncomputable def tf_4 : List (String × String × String × Bool) := [("ImageTexts$Macro", "primitives", "[LImageTexts$Primitive;", true), ("ImageTexts$Macro", "count", "I", false)]
noncomputable def tf_5 : List (String × String × String × Bool) := [("ImageTexts$Name", "letters", "[C", true), ("ImageTexts$Name", "count", "I", false)]
noncomputable def tf_6 : List (String × String × String × Bool) := [("ImageTexts$Primitive", "kind", "I", false), ("ImageTexts$Primitive", "on", "Z", false), ("ImageTexts$Primitive", "size", "I", false), ("ImageTexts$Primitive", "height", "I", false), ("ImageTexts$Primitive", "x", "I", false), ("ImageTexts$Primitive", "y", "I", false)]
noncomputable def tf_7 : List (String × String × String × Bool) := [("ImageTexts$Reader", "text", "[C", true), ("ImageTexts$Reader", "held", "LImageTexts$Item;", true), ("ImageTexts$Reader", "draft", "LImageTexts$Macro;", true), ("ImageTexts$Reader", "image", "LImageTexts$Image;", false), ("ImageTexts$Reader", "length", "I", false), ("ImageTexts$Reader", "place", "I", false), ("ImageTexts$Reader", "start", "I", false), ("ImageTexts$Reader", "wrong", "I", false), ("ImageTexts$Reader", "scale", "I", false), ("ImageTexts$Reader", "open", "Z", false), ("ImageTexts$Reader", "ended", "Z", false), ("ImageTexts$Reader", "feeds", "I", false), ("ImageTexts$Reader", "zeros", "I", false)]
noncomputable def tf_8 : List (String × String × String × Bool) := [("ImageTexts$Ring", "xs", "[I", true), ("ImageTexts$Ring", "ys", "[I", true), ("ImageTexts$Ring", "count", "I", false)]
noncomputable def tf_9 : List (String × String × String × Bool) := [("ImageTexts$Writer", "held", "LImageTexts$Item;", true), ("ImageTexts$Writer", "wanted", "I", false), ("ImageTexts$Writer", "count", "I", false), ("ImageTexts$Writer", "found", "I", false)]
noncomputable def tf_10 : List (String × String × String × Bool) := [("ImageTexts", "reader", "LImageTexts$Reader;", true), ("ImageTexts", "writer", "LImageTexts$Writer;", true), ("ImageTexts", "habits", "[I", true), ("ImageTexts", "held", "LImageTexts$Item;", true), ("ImageTexts", "open", "Z", false), ("ImageTexts", "image", "LImageTexts$Image;", false)]
noncomputable def tf_11 : List (String × String × String × Bool) := [("ImageTextsModel", "thrown", "I", false), ("ImageTextsModel", "length", "I", false), ("ImageTextsModel", "text", "[I", true), ("ImageTextsModel", "macros", "[I", true), ("ImageTextsModel", "primitives", "[I", true), ("ImageTextsModel", "primitive", "[J", true), ("ImageTextsModel", "told", "[Z", true), ("ImageTextsModel", "shapes", "[I", true), ("ImageTextsModel", "sizes", "[J", true), ("ImageTextsModel", "objects", "[I", true), ("ImageTextsModel", "object", "[J", true), ("ImageTextsModel", "letters", "[I", true), ("ImageTextsModel", "habits", "[I", true), ("ImageTextsModel", "open", "Z", false), ("ImageTextsModel", "corners", "I", false), ("ImageTextsModel", "corner", "[J", true), ("ImageTextsModel", "repeated", "[J", true), ("ImageTextsModel", "at", "I", false), ("ImageTextsModel", "began", "I", false), ("ImageTextsModel", "wrong", "I", false), ("ImageTextsModel", "scale", "J", false), ("ImageTextsModel", "means", "Z", false), ("ImageTextsModel", "numbers", "[J", true), ("ImageTextsModel", "handX", "J", false), ("ImageTextsModel", "handY", "J", false), ("ImageTextsModel", "selected", "I", false), ("ImageTextsModel", "dark", "J", false), ("ImageTextsModel", "again", "[J", true), ("ImageTextsModel", "tag", "[I", true), ("ImageTextsModel", "inside", "Z", false), ("ImageTextsModel", "rings", "I", false), ("ImageTextsModel", "ring", "[J", true), ("ImageTextsModel", "ended", "Z", false), ("ImageTextsModel", "wanted", "I", false), ("ImageTextsModel", "written", "I", false), ("ImageTextsModel", "found", "I", false)]
noncomputable def tt_T : zT (List (String × String × String × Bool)) 7 := (yn (yn (yn (yn (yn (yn (yn (yl tf_0) ye) ye) ye) (yn (yn (yn (yl tf_8) ye) ye) ye)) (yn (yn (yn (yn (yl tf_4) ye) ye) ye) ye)) (yn (yn (yn (yn (yn (yl tf_2) ye) ye) ye) (yn (yn (yn (yl tf_10) ye) ye) ye)) (yn (yn (yn (yn (yl tf_6) ye) ye) ye) ye))) (yn (yn (yn (yn (yn (yn (yl tf_1) ye) ye) ye) (yn (yn (yn (yl tf_9) ye) ye) ye)) (yn (yn (yn (yn (yl tf_5) ye) ye) ye) ye)) (yn (yn (yn (yn (yn (yl tf_3) ye) ye) ye) (yn (yn (yn (yl tf_11) ye) ye) ye)) (yn (yn (yn (yn (yl tf_7) ye) ye) ye) ye))))
noncomputable def tT (ci : Nat) : u_T := fun k => (match zget 7 tt_T ci with
  | some y => y
  | none => []).getD k ("", "", "", false)
noncomputable def ty_0 : List FieldType := [.boolean, .int, .int, .int]
noncomputable def ty_1 : List FieldType := [.int, .int, .int, .int]
noncomputable def ty_2 : List FieldType := [(.array (.object "ImageTexts$Macro")), (.array (.object "ImageTexts$Aperture")), (.array (.object "ImageTexts$Item")), .int, .int]
noncomputable def ty_3 : List FieldType := [(.object "ImageTexts$Grid"), (.object "ImageTexts$Name"), (.object "ImageTexts$Ring"), .int, .boolean, .int, .int, .int, .int, .int]
noncomputable def ty_4 : List FieldType := [(.array (.object "ImageTexts$Primitive")), .int]
noncomputable def ty_5 : List FieldType := [(.array .char), .int]
noncomputable def ty_6 : List FieldType := [.int, .boolean, .int, .int, .int, .int]
noncomputable def ty_7 : List FieldType := [(.array .char), (.object "ImageTexts$Item"), (.object "ImageTexts$Macro"), (.object "ImageTexts$Image"), .int, .int, .int, .int, .int, .boolean, .boolean, .int, .int]
noncomputable def ty_8 : List FieldType := [(.array .int), (.array .int), .int]
noncomputable def ty_9 : List FieldType := [(.object "ImageTexts$Item"), .int, .int, .int]
noncomputable def ty_10 : List FieldType := [(.object "ImageTexts$Reader"), (.object "ImageTexts$Writer"), (.array .int), (.object "ImageTexts$Item"), .boolean, (.object "ImageTexts$Image")]
noncomputable def ty_11 : List FieldType := [.int, .int, (.array .int), (.array .int), (.array .int), (.array .long), (.array .boolean), (.array .int), (.array .long), (.array .int), (.array .long), (.array .int), (.array .int), .boolean, .int, (.array .long), (.array .long), .int, .int, .int, .long, .boolean, (.array .long), .long, .long, .int, .long, (.array .long), (.array .int), .boolean, .int, (.array .long), .boolean, .int, .int, .int]
noncomputable def tt_ty : zT (List FieldType) 7 := (yn (yn (yn (yn (yn (yn (yn (yl ty_0) ye) ye) ye) (yn (yn (yn (yl ty_8) ye) ye) ye)) (yn (yn (yn (yn (yl ty_4) ye) ye) ye) ye)) (yn (yn (yn (yn (yn (yl ty_2) ye) ye) ye) (yn (yn (yn (yl ty_10) ye) ye) ye)) (yn (yn (yn (yn (yl ty_6) ye) ye) ye) ye))) (yn (yn (yn (yn (yn (yn (yl ty_1) ye) ye) ye) (yn (yn (yn (yl ty_9) ye) ye) ye)) (yn (yn (yn (yn (yl ty_5) ye) ye) ye) ye)) (yn (yn (yn (yn (yn (yl ty_3) ye) ye) ye) (yn (yn (yn (yl ty_11) ye) ye) ye)) (yn (yn (yn (yn (yl ty_7) ye) ye) ye) ye))))
noncomputable def tty (ci k : Nat) : FieldType := (match zget 7 tt_ty ci with
  | some y => y
  | none => []).getD k .int
noncomputable def tt_N : zT Nat 8 := (yn (yn (yn (yn (yn (yn (yn (yn (yl 4) ye) ye) ye) ye) (yn (yn (yn (yn (yl 3) ye) ye) ye) ye)) (yn (yn (yn (yn (yn (yl 2) ye) ye) ye) ye) ye)) (yn (yn (yn (yn (yn (yn (yl 5) ye) ye) ye) ye) (yn (yn (yn (yn (yl 6) ye) ye) ye) ye)) (yn (yn (yn (yn (yn (yl 6) ye) ye) ye) ye) ye))) (yn (yn (yn (yn (yn (yn (yn (yl 4) ye) ye) ye) ye) (yn (yn (yn (yn (yl 4) ye) ye) ye) ye)) (yn (yn (yn (yn (yn (yl 2) ye) ye) ye) ye) ye)) (yn (yn (yn (yn (yn (yn (yl 10) ye) ye) ye) ye) (yn (yn (yn (yn (yl 36) ye) ye) ye) ye)) (yn (yn (yn (yn (yn (yl 13) ye) ye) ye) ye) ye))))
def tO (t : Nat) : String := if t = 68 then "ImageTexts$Macro" else if t = 69 then "ImageTexts$Aperture" else if t = 70 then "ImageTexts$Item" else "ImageTexts$Primitive"
/-! what the words say, entry by entry -/
def zmX (s0 : State) (own : String) (e : xE) : Prop := match e.1 with
  | 17 => zlw s0 own e.2.2.2.2.1.toNat (tC e.2.1) (tT e.2.1 e.2.2.1).2.1 (tT e.2.1 e.2.2.1).2.2.1
  | 18 => zlw s0 own e.2.2.2.2.1.toNat (tC e.2.1) (tT e.2.1 e.2.2.1).2.1 (tT e.2.1 e.2.2.1).2.2.1 ∧ ((tT e.2.1 e.2.2.1).2.2.2 = false ∨ (zh s0 (.fieldLink own e.2.2.2.2.1.toNat (tC e.2.1) (tT e.2.1 e.2.2.1).2.1 (tT e.2.1 e.2.2.1).2.2.1) ∧ tC e.2.1 = own))
  | 19 => zh s0 (.constant own e.2.1 (Int32.ofInt e.2.2.2.2.1))
  | 20 => zh s0 (.constantLong own e.2.1 (Int64.ofInt e.2.2.2.2.1))
  | 32 => zh s0 (.classLink own e.2.2.2.2.1.toNat (tC e.2.1))
  | 35 => zh s0 (.classLink own e.2.2.2.2.1.toNat (tO e.2.1))
  | 36 => zml s0 own e.2.2.2.2.1.toNat (tY e.2.1)
  | 37 => zh s0 (.methodLink own e.2.2.2.2.1.toNat Lib.Math.min.name)
  | 38 => zml s0 own e.2.2.2.2.1.toNat (tY e.2.1)
  | 39 => zml s0 own e.2.2.2.2.1.toNat (tY e.2.1)
  | 40 => zh s0 (.methodLink own e.2.2.2.2.1.toNat Lib.objectInit)
  | _ => False
/-- what holds of a callee -/
def zcB (s0 : State) (mj : Nat) : Prop := plainFor (tY mj) = true ∧ zh s0 (zcode tM.2.1 tY tBt tHh tRt mj) ∧ zmh (tY mj) ∧ (parseMethodDescriptor (tY mj).desc).map (fun d => d.parameters.length) = some (bif Nat.beq (yg tt_kd mj) 36 then yg tt_pn mj else yg tt_pn mj - 1) ∧ (yg tt_kd mj = 36 ∨ 1 ≤ yg tt_pn mj) ∧
  (yg tt_kd mj = 36 → zh s0 (.static (tY mj)) ∧ zh s0 (.initialized (tY mj).cls)) ∧ (yg tt_kd mj = 38 → zh s0 (.instanceMethod (tY mj)) ∧ zh s0 (.selects (tY mj).cls (tY mj) (tY mj)) ∧ yg tt_ci mj < 12 ∧ tC (yg tt_ci mj) = (tY mj).cls) ∧
  (yg tt_kd mj = 39 → zh s0 (.instanceMethod (tY mj)) ∧ (tY mj).name = "<init>" ∧ tHh mj = [] ∧ tRt mj = none)
/-- what holds of the tables at the start -/
def wfx (s0 : State) (D : va_G) (ca : Nat → ClassId) : Prop :=
  (∀ ci, ci < 12 → zclo s0 D tty ci (tC ci) (tT ci) (yg tt_N ci) ∧ zh s0 (.instantiable (tC ci) (yg tt_N ci)) ∧ zh s0 (.initialized (tC ci))) ∧
  (ztg s0 ca 64 .int ∧ ztg s0 ca 65 .char ∧ ztg s0 ca 66 .boolean ∧ ztg s0 ca 67 .long) ∧ (∀ tag, 68 ≤ tag → tag ≤ 127 → ztg s0 ca tag (.object (tO tag)) ∧ zh s0 (.arrayOver (.object (tO tag)))) ∧
  (zh s0 (.arrayClass .int) ∧ zh s0 (.arrayClass .char) ∧ zh s0 (.arrayClass .boolean) ∧ zh s0 (.arrayClass .long)) ∧
  (zh s0 (.static Lib.Math.min.name) ∧ zh s0 (.initialized "java/lang/Math") ∧ zh s0 (.code Lib.Math.min.name Lib.Math.min.code 2 (some .int))) ∧
  (zh s0 (.instanceMethod Lib.objectInit) ∧ zh s0 (.code Lib.objectInit ⟨#[0xb1]⟩ 1 none))
def zdf (ci : Nat) : Prop := ∃ dl, tM.2.2.2.2.2.2.1 ci = some (yg tt_N ci, dl) ∧ ∀ k, k < yg tt_N ci → ∀ B b0 ν, xden B b0 ν (xget (2, 0, 0) dl k) (defaultValue (tty ci k))
/-! the check of an entry -/
noncomputable def zdk (cc : ByteArray) (pc : Nat) (e : xE) : Bool := match zins e with
  | none => false
  | some i => (match decode cc pc with
    | .ok r => decide (r.1 = i) && (Nat.beq e.1 16 || Nat.beq r.2 (zlnn e.1))
    | .error _ => false)
theorem zdk_ok {cc : ByteArray} {pc : Nat} {e : xE} (h : zdk cc pc e = true) : ∃ i n, zins e = some i ∧ decode cc pc = .ok (i, n) ∧ (e.1 = 16 ∨ n = zlnn e.1) := by
  unfold zdk at h
  cases hi : zins e with
  | none => rw [hi] at h; cases h
  | some i =>
    rw [hi] at h
    cases hd : decode cc pc with
    | error x => rw [hd] at h; cases h
    | ok r =>
      rw [hd] at h
      simp only [Bool.and_eq_true, Bool.or_eq_true, decide_eq_true_eq, Nat.beq_eq] at h
      obtain ⟨j, n⟩ := r
      obtain ⟨h1, h2⟩ := h
      exact ⟨i, n, rfl, by rw [← h1], h2⟩
noncomputable def xeq (e f : xE) : Bool := Nat.beq e.1 f.1 && (Nat.beq e.2.1 f.2.1 && (Nat.beq e.2.2.1 f.2.2.1 && (Nat.beq e.2.2.2.1 f.2.2.2.1 && (ieq e.2.2.2.2.1 f.2.2.2.2.1 && (e.2.2.2.2.2.isEmpty && f.2.2.2.2.2.isEmpty)))))
theorem xeq_ok {e f : xE} (h : xeq e f = true) : e = f := by
  obtain ⟨a1, a2, a3, a4, a5, a6⟩ := e
  obtain ⟨b1, b2, b3, b4, b5, b6⟩ := f
  simp only [xeq, Bool.and_eq_true, Nat.beq_eq, ieq_iff, List.isEmpty_iff] at h
  obtain ⟨rfl, rfl, rfl, rfl, rfl, rfl, rfl⟩ := h
  rfl
noncomputable def xmem (l : List xE) (e : xE) : Bool := l.any (xeq e)
theorem xmem_ok {l : List xE} {e : xE} (h : xmem l e = true) : e ∈ l := by
  obtain ⟨f, hf, hx⟩ := List.any_eq_true.mp h
  rw [xeq_ok hx]
  exact hf
noncomputable def zfb (ft : Nat) (t : FieldType) : Bool := match t with
  | .int => Nat.beq ft 0
  | .boolean => Nat.beq ft 1
  | .long => Nat.beq ft 2
  | .object _ => Nat.beq ft 3
  | .array _ => Nat.beq ft 3
  | _ => false
theorem zfb_ok {ft : Nat} {t : FieldType} (h : zfb ft t = true) : zft ft t := by
  cases t <;> simp only [zfb, Nat.beq_eq] at h
  all_goals first | (cases h; done) | skip
  · exact Or.inl ⟨h, rfl⟩
  · exact Or.inr (Or.inr (Or.inl ⟨h, rfl⟩))
  · exact Or.inr (Or.inl ⟨h, rfl⟩)
  · exact Or.inr (Or.inr (Or.inr ⟨h, Or.inl ⟨_, rfl⟩⟩))
  · exact Or.inr (Or.inr (Or.inr ⟨h, Or.inr ⟨_, rfl⟩⟩))
noncomputable def zcr (mi mj : Nat) : Bool := Nat.ble (yg tt_fr mj + 1) (yg tt_fr mi) && (Nat.ble (8 + (yg tt_nl mj + 11) + yg tt_lo mj) (yg tt_lo mi) && Nat.ble (mj + 1) 213)
noncomputable def zrk (dict : List xE) (th : List (Nat × Nat)) (mi pc : Nat) (e : xE) : Bool := match e.1 with
  | 17 => Nat.ble (e.2.1 + 1) 12 && (Nat.beq (e.2.2.2.1 / 16) (yg tt_N e.2.1) && (Nat.ble (e.2.2.1 + 1) (yg tt_N e.2.1) && xmem dict e))
  | 18 => Nat.ble (e.2.1 + 1) 12 && (Nat.beq (e.2.2.2.1 / 16) (yg tt_N e.2.1) && (Nat.ble (e.2.2.1 + 1) (yg tt_N e.2.1) && (zfb (e.2.2.2.1 % 16) (tty e.2.1 e.2.2.1) && ((!(tT e.2.1 e.2.2.1).2.2.2 || Nat.beq (yg tt_in mi) 1) && xmem dict e))))
  | 19 => xmem dict e
  | 20 => xmem dict e
  | 32 => Nat.ble (e.2.1 + 1) 12 && xmem dict e
  | 33 => th.any (fun q => Nat.beq q.1 pc && Nat.beq q.2 e.2.1) && (Nat.ble 8 (yg tt_fr mi) && (Nat.ble 128 (yg tt_lo mi) && (tHh mi).isEmpty))
  | 34 => Nat.ble 64 e.2.1 && Nat.ble e.2.1 67
  | 35 => Nat.ble 68 e.2.1 && (Nat.ble e.2.1 71 && xmem dict e)
  | 36 => zcr mi e.2.1 && (Nat.beq (yg tt_kd e.2.1) 36 && (Nat.beq (yg tt_pn e.2.1) e.2.2.1 && xmem dict e))
  | 37 => Nat.ble 1 (yg tt_fr mi) && (Nat.ble 21 (yg tt_lo mi) && xmem dict e)
  | 38 => zcr mi e.2.1 && (Nat.beq (yg tt_kd e.2.1) 38 && (Nat.beq (yg tt_pn e.2.1) e.2.2.1 && xmem dict e))
  | 39 => zcr mi e.2.1 && (Nat.beq (yg tt_kd e.2.1) 39 && (Nat.beq (yg tt_pn e.2.1) e.2.2.1 && xmem dict e))
  | 40 => Nat.ble 1 (yg tt_fr mi) && (Nat.ble 20 (yg tt_lo mi) && xmem dict e)
  | _ => true
section ZR
variable {s0 : State} {D : va_G} {ca : Nat → ClassId} {mi pc : Nat} {own : String} {dict : List xE} {th : List (Nat × Nat)}
theorem zcr_ok {mj : Nat} (hB : ∀ mj, mj < 213 → zcB s0 mj) (h : zcr mi mj = true) : zcB s0 mj ∧ zcal tM tY tBt tHh tRt tRm s0 mi mj := by
  simp only [zcr, Bool.and_eq_true, Nat.ble_eq] at h
  obtain ⟨h1, h2, h3⟩ := h
  have g := hB mj h3
  exact ⟨g, g.1, g.2.1, h1, h2⟩
set_option maxHeartbeats 2000000 in
theorem zrk_ok (hX : wfx s0 D ca) (hF : ∀ ci, ci < 12 → zdf ci) (hB : ∀ mj, mj < 213 → zcB s0 mj) (hY : (tY mi).cls = own) (hI : yg tt_in mi = 1 → (tY mi).name = "<init>") (hd : ∀ e ∈ dict, zmX s0 own e) (ht : ∀ q ∈ th, zthr s0 own (tBt mi) q.1 (tEx q.2))
    (op a bb cc : Nat) (k : Int) (ll : List Int) (h : zrk dict th mi pc (op, a, bb, cc, k, ll) = true) : zmore tM tY tBt tHh tRt tRm tEx s0 D ca tty mi pc (op, a, bb, cc, k, ll) := by
  subst hY
  match op with
  | 17 =>
    replace h : (Nat.ble (a + 1) 12 && (Nat.beq (cc / 16) (yg tt_N a) && (Nat.ble (bb + 1) (yg tt_N a) && xmem dict (17, a, bb, cc, k, ll)))) = true := h
    simp only [Bool.and_eq_true, Nat.ble_eq, Nat.beq_eq] at h
    obtain ⟨h1, h2, h3, h4⟩ := h
    have g := hd _ (xmem_ok h4)
    refine ⟨tC a, tT a, ?_, ?_, g⟩
    · show zclo s0 D tty a (tC a) (tT a) (cc / 16)
      rw [h2]
      exact (hX.1 a h1).1
    · show bb < cc / 16
      rw [h2]
      exact h3
  | 18 =>
    replace h : (Nat.ble (a + 1) 12 && (Nat.beq (cc / 16) (yg tt_N a) && (Nat.ble (bb + 1) (yg tt_N a) && (zfb (cc % 16) (tty a bb) && ((!(tT a bb).2.2.2 || Nat.beq (yg tt_in mi) 1) && xmem dict (18, a, bb, cc, k, ll)))))) = true := h
    simp only [Bool.and_eq_true, Bool.or_eq_true, Bool.not_eq_true', Nat.ble_eq, Nat.beq_eq] at h
    obtain ⟨h1, h2, h3, h4, h5, h6⟩ := h
    obtain ⟨g1, g2⟩ := hd _ (xmem_ok h6)
    refine ⟨tC a, tT a, ?_, ?_, g1, zfb_ok h4, ?_⟩
    · show zclo s0 D tty a (tC a) (tT a) (cc / 16)
      rw [h2]
      exact (hX.1 a h1).1
    · show bb < cc / 16
      rw [h2]
      exact h3
    · rcases g2 with g2 | ⟨g2, g3⟩
      · exact Or.inl g2
      · rcases h5 with h5 | h5
        · exact Or.inl h5
        · cases hf : (tT a bb).2.2.2 with
          | false => exact Or.inl rfl
          | true => exact Or.inr ⟨g2, rfl, hI h5, g3⟩
  | 19 => exact hd _ (xmem_ok h)
  | 20 => exact hd _ (xmem_ok h)
  | 32 =>
    replace h : (Nat.ble (a + 1) 12 && xmem dict (32, a, bb, cc, k, ll)) = true := h
    simp only [Bool.and_eq_true, Nat.ble_eq] at h
    obtain ⟨dl, f1, f2⟩ := hF a h.1
    obtain ⟨c1, c2, c3⟩ := hX.1 a h.1
    exact ⟨tC a, tT a, yg tt_N a, dl, c1, f1, f2, hd _ (xmem_ok h.2), c2, c3⟩
  | 33 =>
    replace h : (th.any (fun q => Nat.beq q.1 pc && Nat.beq q.2 a) && (Nat.ble 8 (yg tt_fr mi) && (Nat.ble 128 (yg tt_lo mi) && (tHh mi).isEmpty))) = true := h
    simp only [Bool.and_eq_true, Nat.ble_eq, List.any_eq_true, Nat.beq_eq, List.isEmpty_iff] at h
    obtain ⟨⟨q, hq, rfl, rfl⟩, h2, h3, h4⟩ := h
    exact ⟨ht q hq, h2, h3, h4⟩
  | 34 =>
    replace h : (Nat.ble 64 a && Nat.ble a 67) = true := h
    simp only [Bool.and_eq_true, Nat.ble_eq] at h
    exact ⟨h.1, h.2, hX.2.2.2.1⟩
  | 35 =>
    replace h : (Nat.ble 68 a && (Nat.ble a 71 && xmem dict (35, a, bb, cc, k, ll))) = true := h
    simp only [Bool.and_eq_true, Nat.ble_eq] at h
    obtain ⟨h1, h2, h3⟩ := h
    obtain ⟨g1, g2⟩ := hX.2.2.1 a h1 (by omega)
    exact ⟨tO a, g1, hd _ (xmem_ok h3), g2⟩
  | 36 =>
    replace h : (zcr mi a && (Nat.beq (yg tt_kd a) 36 && (Nat.beq (yg tt_pn a) bb && xmem dict (36, a, bb, cc, k, ll)))) = true := h
    simp only [Bool.and_eq_true, Nat.beq_eq] at h
    obtain ⟨h1, h2, h3, h4⟩ := h
    obtain ⟨⟨-, -, b3, b4, b5, b6, b7, b8⟩, gc⟩ := zcr_ok hB h1
    obtain ⟨w1, w2⟩ := b6 h2
    refine ⟨gc, hd _ (xmem_ok h4), b3, w1, w2, ?_⟩
    rw [h2, h3] at b4
    exact b4
  | 37 =>
    replace h : (Nat.ble 1 (yg tt_fr mi) && (Nat.ble 21 (yg tt_lo mi) && xmem dict (37, a, bb, cc, k, ll))) = true := h
    simp only [Bool.and_eq_true, Nat.ble_eq] at h
    obtain ⟨h1, h2, h3⟩ := h
    obtain ⟨w1, w2, w3⟩ := hX.2.2.2.2.1
    exact ⟨hd _ (xmem_ok h3), w1, w2, w3, h1, h2⟩
  | 38 =>
    replace h : (zcr mi a && (Nat.beq (yg tt_kd a) 38 && (Nat.beq (yg tt_pn a) bb && xmem dict (38, a, bb, cc, k, ll)))) = true := h
    simp only [Bool.and_eq_true, Nat.beq_eq] at h
    obtain ⟨h1, h2, h3, h4⟩ := h
    obtain ⟨⟨-, -, b3, b4, b5, b6, b7, b8⟩, gc⟩ := zcr_ok hB h1
    obtain ⟨w1, w2, w3, w4⟩ := b7 h2
    have hp : 1 ≤ bb := by
      rcases b5 with g | g
      · rw [h2] at g; cases g
      · rw [h3] at g; exact g
    refine ⟨gc, hd _ (xmem_ok h4), b3, w1, w2, ?_, tT (yg tt_ci a), yg tt_N (yg tt_ci a), ?_⟩
    · rw [h2, h3] at b4
      show (parseMethodDescriptor (tY a).desc).map (fun d => d.parameters.length + 1) = some bb
      cases hpd : parseMethodDescriptor (tY a).desc with
      | none => rw [hpd] at b4; cases b4
      | some sg =>
        rw [hpd] at b4
        have g1 : sg.parameters.length = bb - 1 := Option.some.inj b4
        show some (sg.parameters.length + 1) = some bb
        congr 1
        omega
    · show zclo s0 D tty (yg tt_ci a) (tY a).cls _ _
      rw [← w4]
      exact (hX.1 _ w3).1
  | 39 =>
    replace h : (zcr mi a && (Nat.beq (yg tt_kd a) 39 && (Nat.beq (yg tt_pn a) bb && xmem dict (39, a, bb, cc, k, ll)))) = true := h
    simp only [Bool.and_eq_true, Nat.beq_eq] at h
    obtain ⟨h1, h2, h3, h4⟩ := h
    obtain ⟨⟨-, -, b3, b4, b5, b6, b7, b8⟩, gc⟩ := zcr_ok hB h1
    obtain ⟨w1, w2, w3, w4⟩ := b8 h2
    have hp : 1 ≤ bb := by
      rcases b5 with g | g
      · rw [h2] at g; cases g
      · rw [h3] at g; exact g
    refine ⟨gc, hd _ (xmem_ok h4), b3, w1, w2, w3, w4, ?_⟩
    rw [h2, h3] at b4
    show (parseMethodDescriptor (tY a).desc).map (fun d => d.parameters.length + 1) = some bb
    cases hpd : parseMethodDescriptor (tY a).desc with
    | none => rw [hpd] at b4; cases b4
    | some sg =>
      rw [hpd] at b4
      have g1 : sg.parameters.length = bb - 1 := Option.some.inj b4
      show some (sg.parameters.length + 1) = some bb
      congr 1
      omega
  | 40 =>
    replace h : (Nat.ble 1 (yg tt_fr mi) && (Nat.ble 20 (yg tt_lo mi) && xmem dict (40, a, bb, cc, k, ll))) = true := h
    simp only [Bool.and_eq_true, Nat.ble_eq] at h
    obtain ⟨h1, h2, h3⟩ := h
    obtain ⟨w1, w2⟩ := hX.2.2.2.2.2
    exact ⟨hd _ (xmem_ok h3), w1, w2, h1, h2⟩
  | 0 => trivial
  | 1 => trivial
  | 2 => trivial
  | 3 => trivial
  | 4 => trivial
  | 5 => trivial
  | 6 => trivial
  | 7 => trivial
  | 8 => trivial
  | 9 => trivial
  | 10 => trivial
  | 11 => trivial
  | 12 => trivial
  | 13 => trivial
  | 14 => trivial
  | 15 => trivial
  | 16 => trivial
  | 21 => trivial
  | 22 => trivial
  | 23 => trivial
  | 24 => trivial
  | 25 => trivial
  | 26 => trivial
  | 27 => trivial
  | 28 => trivial
  | 29 => trivial
  | 30 => trivial
  | 31 => trivial
  | n9 + 41 => trivial
/-! all entries of a tree -/
noncomputable def zlist {α : Type} (n : Nat) : zT α n → Nat → Nat → List (Nat × α) := Nat.rec (motive := fun n => zT α n → Nat → Nat → List (Nat × α)) (fun t off _ => match (show Option α from t) with
  | none => []
  | some v => [(off, v)]) (fun n ih t off mul => match (show Option (zT α n × zT α n) from t) with
  | none => []
  | some q => ih q.1 off (2 * mul) ++ ih q.2 (off + mul) (2 * mul)) n
theorem zlist_mem {α : Type} : ∀ (n : Nat) (t : zT α n) (off mul i : Nat) (v : α), i < 2 ^ n → zget n t i = some v → (off + mul * i, v) ∈ zlist n t off mul
  | 0, t, off, mul, i, v, hi, h => by
    have h1 : i = 0 := by simpa using hi
    subst h1
    have h2 : t = (some v : Option α) := h
    subst h2
    show (off + mul * 0, v) ∈ [(off, v)]
    rw [Nat.mul_zero, Nat.add_zero]
    exact List.mem_cons_self
  | n + 1, t, off, mul, i, v, hi, h => by
    have hi2 : i / 2 < 2 ^ n := by rw [Nat.pow_succ] at hi; omega
    cases (t : Option (zT α n × zT α n)) with
    | none => rw [zget_none] at h; cases h
    | some q =>
      rw [zget_some] at h
      show (off + mul * i, v) ∈ zlist n q.1 off (2 * mul) ++ zlist n q.2 (off + mul) (2 * mul)
      have ei : i % 2 = 0 ∨ i % 2 = 1 := by omega
      rcases ei with ei | ei
      · rw [ei] at h
        have e : off + mul * i = off + 2 * mul * (i / 2) := by
          have : i = 2 * (i / 2) := by omega
          rw [Nat.mul_assoc, Nat.mul_left_comm, ← this]
        rw [e]
        exact List.mem_append_left _ (zlist_mem n q.1 off (2 * mul) (i / 2) v hi2 h)
      · rw [ei] at h
        have e : off + mul * i = off + mul + 2 * mul * (i / 2) := by
          have h9 : i = 2 * (i / 2) + 1 := by omega
          have h8 : mul * i = mul * (2 * (i / 2)) + mul := by rw [← Nat.mul_succ]; congr 1
          rw [h8, Nat.mul_assoc, Nat.mul_left_comm]
          omega
        rw [e]
        exact List.mem_append_right _ (zlist_mem n q.2 (off + mul) (2 * mul) (i / 2) v hi2 h)
/-- the check of the entries of a tree -/
noncomputable def wdk (cc : ByteArray) (pc : Nat) (e : xE) : Bool := match zin2 e with
  | none => false
  | some i => (match decode cc pc with
    | .ok r => decide (r.1 = i) && (Nat.beq e.1 16 || (Nat.beq e.1 73 || Nat.beq r.2 (zln2 e.1)))
    | .error _ => false)
theorem wdk_ok {cc : ByteArray} {pc : Nat} {e : xE} (h : wdk cc pc e = true) : ∃ i n, zin2 e = some i ∧ decode cc pc = .ok (i, n) ∧ (e.1 = 16 ∨ e.1 = 73 ∨ n = zln2 e.1) := by
  unfold wdk at h
  cases hi : zin2 e with
  | none => rw [hi] at h; cases h
  | some i =>
    rw [hi] at h
    cases hd : decode cc pc with
    | error x => rw [hd] at h; cases h
    | ok r =>
      rw [hd] at h
      simp only [Bool.and_eq_true, Bool.or_eq_true, decide_eq_true_eq, Nat.beq_eq] at h
      obtain ⟨j, n⟩ := r
      obtain ⟨h1, h2⟩ := h
      exact ⟨i, n, rfl, by rw [← h1], h2⟩
/-- of the constructors -/
noncomputable def wc1 (dict : List xE) (mi : Nat) : Bool := (zlist 11 (tM1.1 mi) 0 1).all (fun q => zdk (tBt mi) q.1 q.2 && zrk dict [] mi q.1 q.2)
theorem wc1_ok (h : wc1 dict mi = true) {e : xE} (hp : pc < 2048) (he : zget 11 (tM1.1 mi) pc = some e) : zdk (tBt mi) pc e = true ∧ zrk dict [] mi pc e = true := by
  have hm := zlist_mem 11 (tM1.1 mi) 0 1 pc e hp he
  have h1 := List.all_eq_true.mp h _ hm
  have e0 : 0 + 1 * pc = pc := by omega
  rw [e0] at h1
  simp only [Bool.and_eq_true] at h1
  exact h1
/-- of the others: a number of 74, 75, 76 must be among those that were shown -/
noncomputable def wrk (dict : List xE) (th ex : List (Nat × Nat)) (mi pc : Nat) (e : xE) : Bool := bif Nat.ble 74 e.1 && Nat.ble e.1 76 then ex.any (fun q => Nat.beq q.1 pc && Nat.beq q.2 e.1) else zrk dict th mi pc e
noncomputable def wc2 (dict : List xE) (th ex : List (Nat × Nat)) (mi lo hi : Nat) : Bool := (zlist 11 (tM.1 mi) 0 1).all (fun q => !(Nat.ble lo q.1 && Nat.ble (q.1 + 1) hi) || (wdk (tBt mi) q.1 q.2 && wrk dict th ex mi q.1 q.2))
theorem wc2_ok {ex : List (Nat × Nat)} {lo hi : Nat} (h : wc2 dict th ex mi lo hi = true) {e : xE} (hp : pc < 2048) (hl : lo ≤ pc) (hh : pc < hi) (he : zget 11 (tM.1 mi) pc = some e) : wdk (tBt mi) pc e = true ∧ wrk dict th ex mi pc e = true := by
  have hm := zlist_mem 11 (tM.1 mi) 0 1 pc e hp he
  have h1 := List.all_eq_true.mp h _ hm
  have e0 : 0 + 1 * pc = pc := by omega
  rw [e0] at h1
  simp only [Bool.or_eq_true, Bool.not_eq_true', Bool.and_eq_false_iff, Bool.and_eq_true] at h1
  rcases h1 with (g | g) | g
  · rw [Nat.ble_eq.mpr hl] at g; cases g
  · rw [Nat.ble_eq.mpr (show pc + 1 ≤ hi from hh)] at g; cases g
  · exact g
theorem tsb_0 {mj : Nat} (h : mj < 213) : tsb mj = 0 := by
  unfold tsb
  have h9 : Nat.beq mj 213 = false := by
    rw [Bool.eq_false_iff]
    intro g
    rw [Nat.beq_eq] at g
    omega
  rw [h9]
  rfl
theorem wen1 (hX : wfx s0 D ca) (hF : ∀ ci, ci < 12 → zdf ci) (hB : ∀ mj, mj < 213 → zcB s0 mj) (hY : (tY mi).cls = own) (hI : yg tt_in mi = 1 → (tY mi).name = "<init>") (hd : ∀ e ∈ dict, zmX s0 own e)
    {e : xE} (h : zdk (tBt mi) pc e = true ∧ zrk dict [] mi pc e = true) : zok tM1 tY tBt tHh tRt tRm tEx s0 D ca tty mi pc e := by
  obtain ⟨op, a, bb, cc, k, ll⟩ := e
  exact ⟨zdk_ok h.1, zrk_ok hX hF hB hY hI hd (fun _ h => absurd h List.not_mem_nil) op a bb cc k ll h.2⟩
/-- what a number of 74, 75, 76 rests on -/
def wxo (s0 : State) (V : Nat → String → Prop) (mi pc op : Nat) : Prop := match op with
  | 74 => ∃ ix, decode (tBt mi) pc = .ok (.invokestatic ix, 3) ∧ zh s0 (.methodLink (tY mi).cls ix ⟨"java/lang/System", "arraycopy", "(Ljava/lang/Object;ILjava/lang/Object;II)V"⟩) ∧ 1 ≤ (tRm mi).frames ∧ 40 ≤ (tRm mi).locals
  | 75 => ∃ ix, decode (tBt mi) pc = .ok (.invokevirtual ix, 3) ∧ zh s0 (.methodLink (tY mi).cls ix ⟨"java/lang/String", "indexOf", "(I)I"⟩) ∧ 6 ≤ (tRm mi).frames ∧ 180 ≤ (tRm mi).locals
  | 76 => ∃ ix tx, decode (tBt mi) pc = .ok (.ldc ix, 2) ∧ (tY mi).cls = "ImageTexts$Reader" ∧ V ix tx
  | _ => False
def wok (s0 : State) (D : va_G) (ca : Nat → ClassId) (V : Nat → String → Prop) (mi pc : Nat) (e : xE) : Prop := (∃ i n, zin2 e = some i ∧ decode (tBt mi) pc = .ok (i, n) ∧ (e.1 = 16 ∨ e.1 = 73 ∨ n = zln2 e.1)) ∧ (if 74 ≤ e.1 ∧ e.1 ≤ 76 then wxo s0 V mi pc e.1 else zmore tM tY tBt tHh tRt tRm tEx s0 D ca tty mi pc e) ∧ ((e.1 = 36 ∨ e.1 = 38) → tsb e.2.1 = 0)
theorem wen2 {ex : List (Nat × Nat)} {V : Nat → String → Prop} (hX : wfx s0 D ca) (hF : ∀ ci, ci < 12 → zdf ci) (hB : ∀ mj, mj < 213 → zcB s0 mj) (hY : (tY mi).cls = own) (hI : yg tt_in mi = 1 → (tY mi).name = "<init>") (hd : ∀ e ∈ dict, zmX s0 own e) (ht : ∀ q ∈ th, zthr s0 own (tBt mi) q.1 (tEx q.2)) (hx : ∀ q ∈ ex, wxo s0 V mi q.1 q.2)
    {e : xE} (h : wdk (tBt mi) pc e = true ∧ wrk dict th ex mi pc e = true) : wok s0 D ca V mi pc e := by
  obtain ⟨op, a, bb, cc, k, ll⟩ := e
  refine ⟨wdk_ok h.1, ?_, ?_⟩
  · have h2 := h.2
    unfold wrk at h2
    by_cases hop : 74 ≤ op ∧ op ≤ 76
    · rw [if_pos hop]
      rw [Nat.ble_eq.mpr hop.1, Nat.ble_eq.mpr hop.2] at h2
      simp only [Bool.and_self, cond_true, List.any_eq_true, Bool.and_eq_true, Nat.beq_eq] at h2
      obtain ⟨q, hq, rfl, h3⟩ := h2
      rw [← h3]
      exact hx q hq
    · rw [if_neg hop]
      have hf : (Nat.ble 74 op && Nat.ble op 76) = false := by
        rw [Bool.eq_false_iff]
        intro g
        rw [Bool.and_eq_true, Nat.ble_eq, Nat.ble_eq] at g
        exact hop g
      rw [show (Nat.ble 74 (op, a, bb, cc, k, ll).1 && Nat.ble (op, a, bb, cc, k, ll).1 76) = false from hf] at h2
      exact zrk_ok hX hF hB hY hI hd ht op a bb cc k ll h2
  · intro hop
    have h2 := h.2
    unfold wrk at h2
    rcases hop with hop | hop
    · replace hop : op = 36 := hop
      subst hop
      replace h2 : (zcr mi a && (Nat.beq (yg tt_kd a) 36 && (Nat.beq (yg tt_pn a) bb && xmem dict (36, a, bb, cc, k, ll)))) = true := h2
      rw [Bool.and_eq_true] at h2
      have g := h2.1
      simp only [zcr, Bool.and_eq_true, Nat.ble_eq] at g
      exact tsb_0 g.2.2
    · replace hop : op = 38 := hop
      subst hop
      replace h2 : (zcr mi a && (Nat.beq (yg tt_kd a) 38 && (Nat.beq (yg tt_pn a) bb && xmem dict (38, a, bb, cc, k, ll)))) = true := h2
      rw [Bool.and_eq_true] at h2
      have g := h2.1
      simp only [zcr, Bool.and_eq_true, Nat.ble_eq] at g
      exact tsb_0 g.2.2
end ZR
