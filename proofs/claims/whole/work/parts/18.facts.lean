/-! facts of fields, calls and throws; names, records and words that the earlier parts lack (by program: wip/whole/gen) -/
abbrev cJ0_checkIndex_df160 : ByteArray := prog_26_method_155_code
def yJ0_checkIndex_df160 : MethodName := ⟨RJ0, "checkIndex", "(II)V"⟩
abbrev rJ0_checkIndex_df160 : am_Rec := (yJ0_checkIndex_df160, cJ0_checkIndex_df160, 2, none, [])
abbrev cJ0_coder_7d493 : ByteArray := prog_26_method_152_code
def yJ0_coder_7d493 : MethodName := ⟨RJ0, "coder", "()B"⟩
abbrev rJ0_coder_7d493 : am_Rec := (yJ0_coder_7d493, cJ0_coder_7d493, 1, some (.byte), [])
abbrev cJ0_isLatin1_aae02 : ByteArray := prog_26_method_154_code
def yJ0_isLatin1_aae02 : MethodName := ⟨RJ0, "isLatin1", "()Z"⟩
abbrev rJ0_isLatin1_aae02 : am_Rec := (yJ0_isLatin1_aae02, cJ0_isLatin1_aae02, 1, some (.boolean), [])
abbrev cJ1_canEncode_fc78d : ByteArray := prog_29_method_3_code
def yJ1_canEncode_fc78d : MethodName := ⟨RJ1, "canEncode", "(C)Z"⟩
abbrev rJ1_canEncode_fc78d : am_Rec := (yJ1_canEncode_fc78d, cJ1_canEncode_fc78d, 1, some (.boolean), [])
abbrev cJ1_charAt_3b067 : ByteArray := prog_29_method_2_code
def yJ1_charAt_3b067 : MethodName := ⟨RJ1, "charAt", "([BI)C"⟩
abbrev rJ1_charAt_3b067 : am_Rec := (yJ1_charAt_3b067, cJ1_charAt_3b067, 2, some (.char), [])
abbrev cJ1_fillNull_b72d1 : ByteArray := prog_29_method_48_code
def yJ1_fillNull_b72d1 : MethodName := ⟨RJ1, "fillNull", "([BII)V"⟩
abbrev rJ1_fillNull_b72d1 : am_Rec := (yJ1_fillNull_b72d1, cJ1_fillNull_b72d1, 3, none, [])
abbrev cJ2_charAt_3b067 : ByteArray := prog_30_method_83_code
def yJ2_charAt_3b067 : MethodName := ⟨RJ2, "charAt", "([BI)C"⟩
abbrev rJ2_charAt_3b067 : am_Rec := (yJ2_charAt_3b067, cJ2_charAt_3b067, 2, some (.char), [])
abbrev cJ2_fillNull_b72d1 : ByteArray := prog_30_method_70_code
def yJ2_fillNull_b72d1 : MethodName := ⟨RJ2, "fillNull", "([BII)V"⟩
abbrev rJ2_fillNull_b72d1 : am_Rec := (yJ2_fillNull_b72d1, cJ2_fillNull_b72d1, 3, none, [])
abbrev cJ2_getChar_3b067 : ByteArray := prog_30_method_5_code
def yJ2_getChar_3b067 : MethodName := ⟨RJ2, "getChar", "([BI)C"⟩
abbrev rJ2_getChar_3b067 : am_Rec := (yJ2_getChar_3b067, cJ2_getChar_3b067, 2, some (.char), [])
abbrev cJ2_getChars_46870 : ByteArray := prog_30_method_77_code
def yJ2_getChars_46870 : MethodName := ⟨RJ2, "getChars", "(III[B)I"⟩
abbrev rJ2_getChars_46870 : am_Rec := (yJ2_getChars_46870, cJ2_getChars_46870, 5, some (.int), [])
abbrev cJ2_newBytesFor_77867 : ByteArray := prog_30_method_2_code
def yJ2_newBytesFor_77867 : MethodName := ⟨RJ2, "newBytesFor", "(I)[B"⟩
abbrev rJ2_newBytesFor_77867 : am_Rec := (yJ2_newBytesFor_77867, cJ2_newBytesFor_77867, 1, some ((.array .byte)), [])
abbrev cJ2_putCharSB_b72d1 : ByteArray := prog_30_method_71_code
def yJ2_putCharSB_b72d1 : MethodName := ⟨RJ2, "putCharSB", "([BII)V"⟩
abbrev rJ2_putCharSB_b72d1 : am_Rec := (yJ2_putCharSB_b72d1, cJ2_putCharSB_b72d1, 3, none, [])
abbrev cJ3_checkIndex_8e157 : ByteArray := prog_39_method_11_code
def yJ3_checkIndex_8e157 : MethodName := ⟨RJ3, "checkIndex", "(IILjava/util/function/BiFunction;)I"⟩
abbrev rJ3_checkIndex_8e157 : am_Rec := (yJ3_checkIndex_8e157, cJ3_checkIndex_8e157, 3, some (.int), [])
abbrev cJ5_append_3fe6f : ByteArray := prog_11_method_31_code
def yJ5_append_3fe6f : MethodName := ⟨RJ5, "append", "(C)Ljava/lang/AbstractStringBuilder;"⟩
abbrev rJ5_append_3fe6f : am_Rec := (yJ5_append_3fe6f, cJ5_append_3fe6f, 2, some ((.object "java/lang/AbstractStringBuilder")), [])
abbrev cJ5_append_c97b9 : ByteArray := prog_11_method_32_code
def yJ5_append_c97b9 : MethodName := ⟨RJ5, "append", "(I)Ljava/lang/AbstractStringBuilder;"⟩
abbrev rJ5_append_c97b9 : am_Rec := (yJ5_append_c97b9, cJ5_append_c97b9, 4, some ((.object "java/lang/AbstractStringBuilder")), [])
abbrev cJ5_charAt_5068e : ByteArray := prog_11_method_14_code
def yJ5_charAt_5068e : MethodName := ⟨RJ5, "charAt", "(I)C"⟩
abbrev rJ5_charAt_5068e : am_Rec := (yJ5_charAt_5068e, cJ5_charAt_5068e, 5, some (.char), [])
abbrev cJ5_ensureCapacityInternal_d00df : ByteArray := prog_11_method_9_code
def yJ5_ensureCapacityInternal_d00df : MethodName := ⟨RJ5, "ensureCapacityInternal", "(I)V"⟩
abbrev rJ5_ensureCapacityInternal_d00df : am_Rec := (yJ5_ensureCapacityInternal_d00df, cJ5_ensureCapacityInternal_d00df, 3, none, [])
abbrev cJ5_inflate_da8c8 : ByteArray := prog_11_method_11_code
def yJ5_inflate_da8c8 : MethodName := ⟨RJ5, "inflate", "()V"⟩
abbrev rJ5_inflate_da8c8 : am_Rec := (yJ5_inflate_da8c8, cJ5_inflate_da8c8, 2, none, [])
abbrev cJ5_init_d00df : ByteArray := prog_11_method_2_code
def yJ5_init_d00df : MethodName := ⟨RJ5, "<init>", "(I)V"⟩
abbrev rJ5_init_d00df : am_Rec := (yJ5_init_d00df, cJ5_init_d00df, 2, none, [])
abbrev cJ5_isLatin1_aae02 : ByteArray := prog_11_method_68_code
def yJ5_isLatin1_aae02 : MethodName := ⟨RJ5, "isLatin1", "()Z"⟩
abbrev rJ5_isLatin1_aae02 : am_Rec := (yJ5_isLatin1_aae02, cJ5_isLatin1_aae02, 1, some (.boolean), [])
abbrev cJ5_length_8abf5 : ByteArray := prog_11_method_6_code
def yJ5_length_8abf5 : MethodName := ⟨RJ5, "length", "()I"⟩
abbrev rJ5_length_8abf5 : am_Rec := (yJ5_length_8abf5, cJ5_length_8abf5, 1, some (.int), [])
abbrev cJ5_newCapacity_0f7a4 : ByteArray := prog_11_method_10_code
def yJ5_newCapacity_0f7a4 : MethodName := ⟨RJ5, "newCapacity", "(I)I"⟩
abbrev rJ5_newCapacity_0f7a4 : am_Rec := (yJ5_newCapacity_0f7a4, cJ5_newCapacity_0f7a4, 6, some (.int), [])
abbrev cJ5_setLength_d00df : ByteArray := prog_11_method_13_code
def yJ5_setLength_d00df : MethodName := ⟨RJ5, "setLength", "(I)V"⟩
abbrev rJ5_setLength_d00df : am_Rec := (yJ5_setLength_d00df, cJ5_setLength_d00df, 2, none, [])
abbrev cJ6_getChars_ba4f3 : ByteArray := prog_22_method_12_code
def yJ6_getChars_ba4f3 : MethodName := ⟨RJ6, "getChars", "(II[B)I"⟩
abbrev rJ6_getChars_ba4f3 : am_Rec := (yJ6_getChars_ba4f3, cJ6_getChars_ba4f3, 7, some (.int), [])
abbrev cJ6_stringSize_0f7a4 : ByteArray := prog_22_method_13_code
def yJ6_stringSize_0f7a4 : MethodName := ⟨RJ6, "stringSize", "(I)I"⟩
abbrev rJ6_stringSize_0f7a4 : am_Rec := (yJ6_stringSize_0f7a4, cJ6_stringSize_0f7a4, 4, some (.int), [])
abbrev cJ7_copyOf_9075b : ByteArray := prog_36_method_121_code
def yJ7_copyOf_9075b : MethodName := ⟨RJ7, "copyOf", "([BI)[B"⟩
abbrev rJ7_copyOf_9075b : am_Rec := (yJ7_copyOf_9075b, cJ7_copyOf_9075b, 3, some ((.array .byte)), [])
abbrev cJ8_hugeLength_7cf53 : ByteArray := prog_38_method_28_code
def yJ8_hugeLength_7cf53 : MethodName := ⟨RJ8, "hugeLength", "(II)I"⟩
abbrev rJ8_hugeLength_7cf53 : am_Rec := (yJ8_hugeLength_7cf53, cJ8_hugeLength_7cf53, 3, some (.int), [])
abbrev cJ8_newLength_cabcc : ByteArray := prog_38_method_27_code
def yJ8_newLength_cabcc : MethodName := ⟨RJ8, "newLength", "(III)I"⟩
abbrev rJ8_newLength_cabcc : am_Rec := (yJ8_newLength_cabcc, cJ8_newLength_cabcc, 4, some (.int), [])
theorem tw_8 : (Jvm.Cond.initialized "java/lang/AbstractStringBuilder") ∈ am_gt := am_in (List.mem_append_right _ (List.mem_of_getElem? (l := tables_1) (i := 8) (by decide +kernel))) (by decide +kernel)
theorem tw_11 : (Jvm.Cond.initialized "java/lang/StringUTF16") ∈ am_gt := am_in (List.mem_append_right _ (List.mem_of_getElem? (l := tables_1) (i := 11) (by decide +kernel))) (by decide +kernel)
theorem tw_28 : (Jvm.Cond.initialized "jdk/internal/util/ArraysSupport") ∈ am_gt := am_in (List.mem_append_right _ (List.mem_of_getElem? (l := tables_1) (i := 28) (by decide +kernel))) (by decide +kernel)
theorem tw_29 : (Jvm.Cond.initialized "java/util/Arrays") ∈ am_gt := am_in (List.mem_append_right _ (List.mem_of_getElem? (l := tables_1) (i := 29) (by decide +kernel))) (by decide +kernel)
theorem tw_30 : (Jvm.Cond.initialized "jdk/internal/util/Preconditions") ∈ am_gt := am_in (List.mem_append_right _ (List.mem_of_getElem? (l := tables_1) (i := 30) (by decide +kernel))) (by decide +kernel)
theorem tw_31 : (Jvm.Cond.initialized "java/lang/StringLatin1") ∈ am_gt := am_in (List.mem_append_right _ (List.mem_of_getElem? (l := tables_1) (i := 31) (by decide +kernel))) (by decide +kernel)
theorem tw_236 : (Jvm.Cond.methodLink "java/lang/StringBuilder" (1 : Nat) ({ cls := "java/lang/AbstractStringBuilder", name := "<init>", desc := "(I)V" } : Jvm.MethodName)) ∈ am_gt := am_in (List.mem_append_right _ (List.mem_of_getElem? (l := tables_1) (i := 236) (by decide +kernel))) (by decide +kernel)
theorem tw_237 : (Jvm.Cond.instanceMethod ({ cls := "java/lang/AbstractStringBuilder", name := "<init>", desc := "(I)V" } : Jvm.MethodName)) ∈ am_gt := am_in (List.mem_append_right _ (List.mem_of_getElem? (l := tables_1) (i := 237) (by decide +kernel))) (by decide +kernel)
theorem tw_238 : (Jvm.Cond.code ({ cls := "java/lang/AbstractStringBuilder", name := "<init>", desc := "(I)V" } : Jvm.MethodName) prog_11_method_2_code (2 : Nat) (Option.none : Option Jvm.ClassFile.FieldType)) ∈ am_gt := am_in (List.mem_append_right _ (List.mem_of_getElem? (l := tables_1) (i := 238) (by decide +kernel))) (by decide +kernel)
theorem tw_239 : (Jvm.Cond.methodLink "java/lang/AbstractStringBuilder" (3 : Nat) ({ cls := "java/lang/Object", name := "<init>", desc := "()V" } : Jvm.MethodName)) ∈ am_gt := am_in (List.mem_append_right _ (List.mem_of_getElem? (l := tables_1) (i := 239) (by decide +kernel))) (by decide +kernel)
theorem tw_240 : (Jvm.Cond.fieldLink "java/lang/AbstractStringBuilder" (18 : Nat) "java/lang/String" "COMPACT_STRINGS" "Z") ∈ am_gt := am_in (List.mem_append_right _ (List.mem_of_getElem? (l := tables_1) (i := 240) (by decide +kernel))) (by decide +kernel)
theorem tw_242 : (Jvm.Cond.methodLink "java/lang/AbstractStringBuilder" (26 : Nat) ({ cls := "java/lang/StringUTF16", name := "newBytesFor", desc := "(I)[B" } : Jvm.MethodName)) ∈ am_gt := am_in (List.mem_append_right _ (List.mem_of_getElem? (l := tables_1) (i := 242) (by decide +kernel))) (by decide +kernel)
theorem tw_243 : (Jvm.Cond.static ({ cls := "java/lang/StringUTF16", name := "newBytesFor", desc := "(I)[B" } : Jvm.MethodName)) ∈ am_gt := am_in (List.mem_append_right _ (List.mem_of_getElem? (l := tables_1) (i := 243) (by decide +kernel))) (by decide +kernel)
theorem tw_244 : (Jvm.Cond.code ({ cls := "java/lang/StringUTF16", name := "newBytesFor", desc := "(I)[B" } : Jvm.MethodName) prog_30_method_2_code (1 : Nat) (Option.some (Jvm.ClassFile.FieldType.array Jvm.ClassFile.FieldType.byte))) ∈ am_gt := am_in (List.mem_append_right _ (List.mem_of_getElem? (l := tables_1) (i := 244) (by decide +kernel))) (by decide +kernel)
theorem tw_249 : (Jvm.Cond.fieldLink "java/lang/AbstractStringBuilder" (15 : Nat) "java/lang/AbstractStringBuilder" "value" "[B") ∈ am_gt := am_in (List.mem_append_right _ (List.mem_of_getElem? (l := tables_1) (i := 249) (by decide +kernel))) (by decide +kernel)
theorem tw_250 : (Jvm.Cond.fieldLink "java/lang/AbstractStringBuilder" (22 : Nat) "java/lang/AbstractStringBuilder" "coder" "B") ∈ am_gt := am_in (List.mem_append_right _ (List.mem_of_getElem? (l := tables_1) (i := 250) (by decide +kernel))) (by decide +kernel)
theorem tw_251 : (Jvm.Cond.fieldLink "java/lang/AbstractStringBuilder" (73 : Nat) "java/lang/AbstractStringBuilder" "maybeLatin1" "Z") ∈ am_gt := am_in (List.mem_append_right _ (List.mem_of_getElem? (l := tables_1) (i := 251) (by decide +kernel))) (by decide +kernel)
theorem tw_253 : (Jvm.Cond.fieldLink "java/lang/AbstractStringBuilder" (79 : Nat) "java/lang/AbstractStringBuilder" "count" "I") ∈ am_gt := am_in (List.mem_append_right _ (List.mem_of_getElem? (l := tables_1) (i := 253) (by decide +kernel))) (by decide +kernel)
theorem tw_262 : (Jvm.Cond.superclass "java/lang/StringBuilder" "java/lang/AbstractStringBuilder") ∈ am_gt := am_in (List.mem_append_right _ (List.mem_of_getElem? (l := tables_1) (i := 262) (by decide +kernel))) (by decide +kernel)
theorem tw_263 : (Jvm.Cond.arrayClass Jvm.ClassFile.FieldType.byte) ∈ am_gt := am_in (List.mem_append_right _ (List.mem_of_getElem? (l := tables_1) (i := 263) (by decide +kernel))) (by decide +kernel)
theorem tw_409 : (Jvm.Cond.methodLink "java/lang/StringBuilder" (333 : Nat) ({ cls := "java/lang/AbstractStringBuilder", name := "setLength", desc := "(I)V" } : Jvm.MethodName)) ∈ am_gt := am_in (List.mem_append_right _ (List.mem_of_getElem? (l := tables_1) (i := 409) (by decide +kernel))) (by decide +kernel)
theorem tw_410 : (Jvm.Cond.instanceMethod ({ cls := "java/lang/AbstractStringBuilder", name := "setLength", desc := "(I)V" } : Jvm.MethodName)) ∈ am_gt := am_in (List.mem_append_right _ (List.mem_of_getElem? (l := tables_1) (i := 410) (by decide +kernel))) (by decide +kernel)
theorem tw_411 : (Jvm.Cond.code ({ cls := "java/lang/AbstractStringBuilder", name := "setLength", desc := "(I)V" } : Jvm.MethodName) prog_11_method_13_code (2 : Nat) (Option.none : Option Jvm.ClassFile.FieldType)) ∈ am_gt := am_in (List.mem_append_right _ (List.mem_of_getElem? (l := tables_1) (i := 411) (by decide +kernel))) (by decide +kernel)
theorem tw_431 : (Jvm.Cond.methodLink "java/lang/AbstractStringBuilder" (100 : Nat) ({ cls := "java/lang/AbstractStringBuilder", name := "ensureCapacityInternal", desc := "(I)V" } : Jvm.MethodName)) ∈ am_gt := am_in (List.mem_append_right _ (List.mem_of_getElem? (l := tables_1) (i := 431) (by decide +kernel))) (by decide +kernel)
theorem tn_432 : (Jvm.Cond.privateMethod ({ cls := "java/lang/AbstractStringBuilder", name := "ensureCapacityInternal", desc := "(I)V" } : Jvm.MethodName)) ∈ am_nw := am_inN (List.mem_append_right _ (List.mem_of_getElem? (l := tables_1) (i := 432) (by decide +kernel))) (by decide +kernel)
theorem tw_433 : (Jvm.Cond.instanceMethod ({ cls := "java/lang/AbstractStringBuilder", name := "ensureCapacityInternal", desc := "(I)V" } : Jvm.MethodName)) ∈ am_gt := am_in (List.mem_append_right _ (List.mem_of_getElem? (l := tables_1) (i := 433) (by decide +kernel))) (by decide +kernel)
theorem tw_434 : (Jvm.Cond.code ({ cls := "java/lang/AbstractStringBuilder", name := "ensureCapacityInternal", desc := "(I)V" } : Jvm.MethodName) prog_11_method_9_code (3 : Nat) (Option.none : Option Jvm.ClassFile.FieldType)) ∈ am_gt := am_in (List.mem_append_right _ (List.mem_of_getElem? (l := tables_1) (i := 434) (by decide +kernel))) (by decide +kernel)
theorem tw_435 : (Jvm.Cond.methodLink "java/lang/AbstractStringBuilder" (104 : Nat) ({ cls := "java/lang/AbstractStringBuilder", name := "newCapacity", desc := "(I)I" } : Jvm.MethodName)) ∈ am_gt := am_in (List.mem_append_right _ (List.mem_of_getElem? (l := tables_1) (i := 435) (by decide +kernel))) (by decide +kernel)
theorem tn_436 : (Jvm.Cond.privateMethod ({ cls := "java/lang/AbstractStringBuilder", name := "newCapacity", desc := "(I)I" } : Jvm.MethodName)) ∈ am_nw := am_inN (List.mem_append_right _ (List.mem_of_getElem? (l := tables_1) (i := 436) (by decide +kernel))) (by decide +kernel)
theorem tw_437 : (Jvm.Cond.instanceMethod ({ cls := "java/lang/AbstractStringBuilder", name := "newCapacity", desc := "(I)I" } : Jvm.MethodName)) ∈ am_gt := am_in (List.mem_append_right _ (List.mem_of_getElem? (l := tables_1) (i := 437) (by decide +kernel))) (by decide +kernel)
theorem tw_438 : (Jvm.Cond.code ({ cls := "java/lang/AbstractStringBuilder", name := "newCapacity", desc := "(I)I" } : Jvm.MethodName) prog_11_method_10_code (6 : Nat) (Option.some Jvm.ClassFile.FieldType.int)) ∈ am_gt := am_in (List.mem_append_right _ (List.mem_of_getElem? (l := tables_1) (i := 438) (by decide +kernel))) (by decide +kernel)
theorem tw_439 : (Jvm.Cond.methodLink "java/lang/AbstractStringBuilder" (114 : Nat) ({ cls := "jdk/internal/util/ArraysSupport", name := "newLength", desc := "(III)I" } : Jvm.MethodName)) ∈ am_gt := am_in (List.mem_append_right _ (List.mem_of_getElem? (l := tables_1) (i := 439) (by decide +kernel))) (by decide +kernel)
theorem tw_440 : (Jvm.Cond.static ({ cls := "jdk/internal/util/ArraysSupport", name := "newLength", desc := "(III)I" } : Jvm.MethodName)) ∈ am_gt := am_in (List.mem_append_right _ (List.mem_of_getElem? (l := tables_1) (i := 440) (by decide +kernel))) (by decide +kernel)
theorem tw_441 : (Jvm.Cond.code ({ cls := "jdk/internal/util/ArraysSupport", name := "newLength", desc := "(III)I" } : Jvm.MethodName) prog_38_method_27_code (4 : Nat) (Option.some Jvm.ClassFile.FieldType.int)) ∈ am_gt := am_in (List.mem_append_right _ (List.mem_of_getElem? (l := tables_1) (i := 441) (by decide +kernel))) (by decide +kernel)
theorem tw_442 : (Jvm.Cond.methodLink "jdk/internal/util/ArraysSupport" (194 : Nat) ({ cls := "java/lang/Math", name := "max", desc := "(II)I" } : Jvm.MethodName)) ∈ am_gt := am_in (List.mem_append_right _ (List.mem_of_getElem? (l := tables_1) (i := 442) (by decide +kernel))) (by decide +kernel)
theorem tw_445 : (Jvm.Cond.constant "jdk/internal/util/ArraysSupport" (200 : Nat) (2147483639 : Int32)) ∈ am_gt := am_in (List.mem_append_right _ (List.mem_of_getElem? (l := tables_1) (i := 445) (by decide +kernel))) (by decide +kernel)
theorem tw_446 : (Jvm.Cond.methodLink "jdk/internal/util/ArraysSupport" (201 : Nat) ({ cls := "jdk/internal/util/ArraysSupport", name := "hugeLength", desc := "(II)I" } : Jvm.MethodName)) ∈ am_gt := am_in (List.mem_append_right _ (List.mem_of_getElem? (l := tables_1) (i := 446) (by decide +kernel))) (by decide +kernel)
theorem tw_447 : (Jvm.Cond.static ({ cls := "jdk/internal/util/ArraysSupport", name := "hugeLength", desc := "(II)I" } : Jvm.MethodName)) ∈ am_gt := am_in (List.mem_append_right _ (List.mem_of_getElem? (l := tables_1) (i := 447) (by decide +kernel))) (by decide +kernel)
theorem tw_448 : (Jvm.Cond.code ({ cls := "jdk/internal/util/ArraysSupport", name := "hugeLength", desc := "(II)I" } : Jvm.MethodName) prog_38_method_28_code (3 : Nat) (Option.some Jvm.ClassFile.FieldType.int)) ∈ am_gt := am_in (List.mem_append_right _ (List.mem_of_getElem? (l := tables_1) (i := 448) (by decide +kernel))) (by decide +kernel)
theorem tw_449 : (Jvm.Cond.constant "java/lang/AbstractStringBuilder" (39 : Nat) (2147483647 : Int32)) ∈ am_gt := am_in (List.mem_append_right _ (List.mem_of_getElem? (l := tables_1) (i := 449) (by decide +kernel))) (by decide +kernel)
theorem tw_450 : (Jvm.Cond.methodLink "java/lang/AbstractStringBuilder" (108 : Nat) ({ cls := "java/util/Arrays", name := "copyOf", desc := "([BI)[B" } : Jvm.MethodName)) ∈ am_gt := am_in (List.mem_append_right _ (List.mem_of_getElem? (l := tables_1) (i := 450) (by decide +kernel))) (by decide +kernel)
theorem tw_451 : (Jvm.Cond.static ({ cls := "java/util/Arrays", name := "copyOf", desc := "([BI)[B" } : Jvm.MethodName)) ∈ am_gt := am_in (List.mem_append_right _ (List.mem_of_getElem? (l := tables_1) (i := 451) (by decide +kernel))) (by decide +kernel)
theorem tw_452 : (Jvm.Cond.code ({ cls := "java/util/Arrays", name := "copyOf", desc := "([BI)[B" } : Jvm.MethodName) prog_36_method_121_code (3 : Nat) (Option.some (Jvm.ClassFile.FieldType.array Jvm.ClassFile.FieldType.byte))) ∈ am_gt := am_in (List.mem_append_right _ (List.mem_of_getElem? (l := tables_1) (i := 452) (by decide +kernel))) (by decide +kernel)
theorem tw_460 : (Jvm.Cond.methodLink "java/util/Arrays" (304 : Nat) ({ cls := "java/lang/Math", name := "min", desc := "(II)I" } : Jvm.MethodName)) ∈ am_gt := am_in (List.mem_append_right _ (List.mem_of_getElem? (l := tables_1) (i := 460) (by decide +kernel))) (by decide +kernel)
theorem tw_463 : (Jvm.Cond.methodLink "java/util/Arrays" (150 : Nat) ({ cls := "java/lang/System", name := "arraycopy", desc := "(Ljava/lang/Object;ILjava/lang/Object;II)V" } : Jvm.MethodName)) ∈ am_gt := am_in (List.mem_append_right _ (List.mem_of_getElem? (l := tables_1) (i := 463) (by decide +kernel))) (by decide +kernel)
theorem tw_466 : (Jvm.Cond.methodLink "java/lang/AbstractStringBuilder" (83 : Nat) ({ cls := "java/lang/AbstractStringBuilder", name := "isLatin1", desc := "()Z" } : Jvm.MethodName)) ∈ am_gt := am_in (List.mem_append_right _ (List.mem_of_getElem? (l := tables_1) (i := 466) (by decide +kernel))) (by decide +kernel)
theorem tw_467 : (Jvm.Cond.instanceMethod ({ cls := "java/lang/AbstractStringBuilder", name := "isLatin1", desc := "()Z" } : Jvm.MethodName)) ∈ am_gt := am_in (List.mem_append_right _ (List.mem_of_getElem? (l := tables_1) (i := 467) (by decide +kernel))) (by decide +kernel)
theorem tw_468 : (Jvm.Cond.sameMethod "java/lang/AbstractStringBuilder" "java/lang/AbstractStringBuilder" "isLatin1" "()Z") ∈ am_gt := am_in (List.mem_append_right _ (List.mem_of_getElem? (l := tables_1) (i := 468) (by decide +kernel))) (by decide +kernel)
theorem tw_469 : (Jvm.Cond.selects "java/lang/StringBuilder" ({ cls := "java/lang/AbstractStringBuilder", name := "isLatin1", desc := "()Z" } : Jvm.MethodName) ({ cls := "java/lang/AbstractStringBuilder", name := "isLatin1", desc := "()Z" } : Jvm.MethodName)) ∈ am_gt := am_in (List.mem_append_right _ (List.mem_of_getElem? (l := tables_1) (i := 469) (by decide +kernel))) (by decide +kernel)
theorem tw_470 : (Jvm.Cond.code ({ cls := "java/lang/AbstractStringBuilder", name := "isLatin1", desc := "()Z" } : Jvm.MethodName) prog_11_method_68_code (1 : Nat) (Option.some Jvm.ClassFile.FieldType.boolean)) ∈ am_gt := am_in (List.mem_append_right _ (List.mem_of_getElem? (l := tables_1) (i := 470) (by decide +kernel))) (by decide +kernel)
theorem tw_483 : (Jvm.Cond.fieldLink "java/lang/String" (1053 : Nat) "jdk/internal/util/Preconditions" "SIOOBE_FORMATTER" "Ljava/util/function/BiFunction;") ∈ am_gt := am_in (List.mem_append_right _ (List.mem_of_getElem? (l := tables_1) (i := 483) (by decide +kernel))) (by decide +kernel)
theorem tw_501 : (Jvm.Cond.methodLink "java/lang/String" (335 : Nat) ({ cls := "java/lang/String", name := "coder", desc := "()B" } : Jvm.MethodName)) ∈ am_gt := am_in (List.mem_append_right _ (List.mem_of_getElem? (l := tables_1) (i := 501) (by decide +kernel))) (by decide +kernel)
theorem tw_502 : (Jvm.Cond.instanceMethod ({ cls := "java/lang/String", name := "coder", desc := "()B" } : Jvm.MethodName)) ∈ am_gt := am_in (List.mem_append_right _ (List.mem_of_getElem? (l := tables_1) (i := 502) (by decide +kernel))) (by decide +kernel)
theorem tw_503 : (Jvm.Cond.selects "java/lang/String" ({ cls := "java/lang/String", name := "coder", desc := "()B" } : Jvm.MethodName) ({ cls := "java/lang/String", name := "coder", desc := "()B" } : Jvm.MethodName)) ∈ am_gt := am_in (List.mem_append_right _ (List.mem_of_getElem? (l := tables_1) (i := 503) (by decide +kernel))) (by decide +kernel)
theorem tw_504 : (Jvm.Cond.code ({ cls := "java/lang/String", name := "coder", desc := "()B" } : Jvm.MethodName) prog_26_method_152_code (1 : Nat) (Option.some Jvm.ClassFile.FieldType.byte)) ∈ am_gt := am_in (List.mem_append_right _ (List.mem_of_getElem? (l := tables_1) (i := 504) (by decide +kernel))) (by decide +kernel)
theorem tw_505 : (Jvm.Cond.fieldLink "java/lang/String" (38 : Nat) "java/lang/String" "COMPACT_STRINGS" "Z") ∈ am_gt := am_in (List.mem_append_right _ (List.mem_of_getElem? (l := tables_1) (i := 505) (by decide +kernel))) (by decide +kernel)
theorem tw_515 : (Jvm.Cond.methodLink "java/lang/AbstractStringBuilder" (195 : Nat) ({ cls := "java/lang/AbstractStringBuilder", name := "inflate", desc := "()V" } : Jvm.MethodName)) ∈ am_gt := am_in (List.mem_append_right _ (List.mem_of_getElem? (l := tables_1) (i := 515) (by decide +kernel))) (by decide +kernel)
theorem tn_516 : (Jvm.Cond.privateMethod ({ cls := "java/lang/AbstractStringBuilder", name := "inflate", desc := "()V" } : Jvm.MethodName)) ∈ am_nw := am_inN (List.mem_append_right _ (List.mem_of_getElem? (l := tables_1) (i := 516) (by decide +kernel))) (by decide +kernel)
theorem tw_517 : (Jvm.Cond.instanceMethod ({ cls := "java/lang/AbstractStringBuilder", name := "inflate", desc := "()V" } : Jvm.MethodName)) ∈ am_gt := am_in (List.mem_append_right _ (List.mem_of_getElem? (l := tables_1) (i := 517) (by decide +kernel))) (by decide +kernel)
theorem tw_518 : (Jvm.Cond.code ({ cls := "java/lang/AbstractStringBuilder", name := "inflate", desc := "()V" } : Jvm.MethodName) prog_11_method_11_code (2 : Nat) (Option.none : Option Jvm.ClassFile.FieldType)) ∈ am_gt := am_in (List.mem_append_right _ (List.mem_of_getElem? (l := tables_1) (i := 518) (by decide +kernel))) (by decide +kernel)
theorem tw_544 : (Jvm.Cond.methodLink "java/lang/StringBuilder" (53 : Nat) ({ cls := "java/lang/AbstractStringBuilder", name := "append", desc := "(I)Ljava/lang/AbstractStringBuilder;" } : Jvm.MethodName)) ∈ am_gt := am_in (List.mem_append_right _ (List.mem_of_getElem? (l := tables_1) (i := 544) (by decide +kernel))) (by decide +kernel)
theorem tw_545 : (Jvm.Cond.instanceMethod ({ cls := "java/lang/AbstractStringBuilder", name := "append", desc := "(I)Ljava/lang/AbstractStringBuilder;" } : Jvm.MethodName)) ∈ am_gt := am_in (List.mem_append_right _ (List.mem_of_getElem? (l := tables_1) (i := 545) (by decide +kernel))) (by decide +kernel)
theorem tw_546 : (Jvm.Cond.code ({ cls := "java/lang/AbstractStringBuilder", name := "append", desc := "(I)Ljava/lang/AbstractStringBuilder;" } : Jvm.MethodName) prog_11_method_32_code (4 : Nat) (Option.some (Jvm.ClassFile.FieldType.object "java/lang/AbstractStringBuilder"))) ∈ am_gt := am_in (List.mem_append_right _ (List.mem_of_getElem? (l := tables_1) (i := 546) (by decide +kernel))) (by decide +kernel)
theorem tw_547 : (Jvm.Cond.methodLink "java/lang/AbstractStringBuilder" (245 : Nat) ({ cls := "java/lang/Integer", name := "stringSize", desc := "(I)I" } : Jvm.MethodName)) ∈ am_gt := am_in (List.mem_append_right _ (List.mem_of_getElem? (l := tables_1) (i := 547) (by decide +kernel))) (by decide +kernel)
theorem tw_548 : (Jvm.Cond.static ({ cls := "java/lang/Integer", name := "stringSize", desc := "(I)I" } : Jvm.MethodName)) ∈ am_gt := am_in (List.mem_append_right _ (List.mem_of_getElem? (l := tables_1) (i := 548) (by decide +kernel))) (by decide +kernel)
theorem tw_549 : (Jvm.Cond.code ({ cls := "java/lang/Integer", name := "stringSize", desc := "(I)I" } : Jvm.MethodName) prog_22_method_13_code (4 : Nat) (Option.some Jvm.ClassFile.FieldType.int)) ∈ am_gt := am_in (List.mem_append_right _ (List.mem_of_getElem? (l := tables_1) (i := 549) (by decide +kernel))) (by decide +kernel)
theorem tw_550 : (Jvm.Cond.methodLink "java/lang/AbstractStringBuilder" (248 : Nat) ({ cls := "java/lang/Integer", name := "getChars", desc := "(II[B)I" } : Jvm.MethodName)) ∈ am_gt := am_in (List.mem_append_right _ (List.mem_of_getElem? (l := tables_1) (i := 550) (by decide +kernel))) (by decide +kernel)
theorem tw_551 : (Jvm.Cond.static ({ cls := "java/lang/Integer", name := "getChars", desc := "(II[B)I" } : Jvm.MethodName)) ∈ am_gt := am_in (List.mem_append_right _ (List.mem_of_getElem? (l := tables_1) (i := 551) (by decide +kernel))) (by decide +kernel)
theorem tw_552 : (Jvm.Cond.code ({ cls := "java/lang/Integer", name := "getChars", desc := "(II[B)I" } : Jvm.MethodName) prog_22_method_12_code (7 : Nat) (Option.some Jvm.ClassFile.FieldType.int)) ∈ am_gt := am_in (List.mem_append_right _ (List.mem_of_getElem? (l := tables_1) (i := 552) (by decide +kernel))) (by decide +kernel)
theorem tw_553 : (Jvm.Cond.fieldLink "java/lang/Integer" (83 : Nat) "java/lang/Integer" "DigitOnes" "[B") ∈ am_gt := am_in (List.mem_append_right _ (List.mem_of_getElem? (l := tables_1) (i := 553) (by decide +kernel))) (by decide +kernel)
theorem tw_555 : (Jvm.Cond.fieldLink "java/lang/Integer" (87 : Nat) "java/lang/Integer" "DigitTens" "[B") ∈ am_gt := am_in (List.mem_append_right _ (List.mem_of_getElem? (l := tables_1) (i := 555) (by decide +kernel))) (by decide +kernel)
theorem tw_557 : (Jvm.Cond.methodLink "java/lang/AbstractStringBuilder" (251 : Nat) ({ cls := "java/lang/StringUTF16", name := "getChars", desc := "(III[B)I" } : Jvm.MethodName)) ∈ am_gt := am_in (List.mem_append_right _ (List.mem_of_getElem? (l := tables_1) (i := 557) (by decide +kernel))) (by decide +kernel)
theorem tw_558 : (Jvm.Cond.static ({ cls := "java/lang/StringUTF16", name := "getChars", desc := "(III[B)I" } : Jvm.MethodName)) ∈ am_gt := am_in (List.mem_append_right _ (List.mem_of_getElem? (l := tables_1) (i := 558) (by decide +kernel))) (by decide +kernel)
theorem tw_559 : (Jvm.Cond.code ({ cls := "java/lang/StringUTF16", name := "getChars", desc := "(III[B)I" } : Jvm.MethodName) prog_30_method_77_code (5 : Nat) (Option.some Jvm.ClassFile.FieldType.int)) ∈ am_gt := am_in (List.mem_append_right _ (List.mem_of_getElem? (l := tables_1) (i := 559) (by decide +kernel))) (by decide +kernel)
theorem tw_584 : (Jvm.Cond.instanceMethod ({ cls := "java/lang/AbstractStringBuilder", name := "length", desc := "()I" } : Jvm.MethodName)) ∈ am_gt := am_in (List.mem_append_right _ (List.mem_of_getElem? (l := tables_1) (i := 584) (by decide +kernel))) (by decide +kernel)
theorem tw_585 : (Jvm.Cond.sameMethod "java/lang/AbstractStringBuilder" "java/lang/AbstractStringBuilder" "length" "()I") ∈ am_gt := am_in (List.mem_append_right _ (List.mem_of_getElem? (l := tables_1) (i := 585) (by decide +kernel))) (by decide +kernel)
theorem tw_589 : (Jvm.Cond.methodLink "java/lang/StringBuilder" (343 : Nat) ({ cls := "java/lang/AbstractStringBuilder", name := "length", desc := "()I" } : Jvm.MethodName)) ∈ am_gt := am_in (List.mem_append_right _ (List.mem_of_getElem? (l := tables_1) (i := 589) (by decide +kernel))) (by decide +kernel)
theorem tw_590 : (Jvm.Cond.code ({ cls := "java/lang/AbstractStringBuilder", name := "length", desc := "()I" } : Jvm.MethodName) prog_11_method_6_code (1 : Nat) (Option.some Jvm.ClassFile.FieldType.int)) ∈ am_gt := am_in (List.mem_append_right _ (List.mem_of_getElem? (l := tables_1) (i := 590) (by decide +kernel))) (by decide +kernel)
theorem tw_685 : (Jvm.Cond.static ({ cls := "java/lang/StringUTF16", name := "getChar", desc := "([BI)C" } : Jvm.MethodName)) ∈ am_gt := am_in (List.mem_append_right _ (List.mem_of_getElem? (l := tables_1) (i := 685) (by decide +kernel))) (by decide +kernel)
theorem tw_686 : (Jvm.Cond.code ({ cls := "java/lang/StringUTF16", name := "getChar", desc := "([BI)C" } : Jvm.MethodName) prog_30_method_5_code (2 : Nat) (Option.some Jvm.ClassFile.FieldType.char)) ∈ am_gt := am_in (List.mem_append_right _ (List.mem_of_getElem? (l := tables_1) (i := 686) (by decide +kernel))) (by decide +kernel)
theorem tw_691 : (Jvm.Cond.fieldLink "java/lang/String" (9 : Nat) "java/lang/String" "value" "[B") ∈ am_gt := am_in (List.mem_append_right _ (List.mem_of_getElem? (l := tables_1) (i := 691) (by decide +kernel))) (by decide +kernel)
theorem tw_692 : (Jvm.Cond.fieldLink "java/lang/String" (15 : Nat) "java/lang/String" "coder" "B") ∈ am_gt := am_in (List.mem_append_right _ (List.mem_of_getElem? (l := tables_1) (i := 692) (by decide +kernel))) (by decide +kernel)
theorem tw_713 : (Jvm.Cond.methodLink "java/lang/AbstractStringBuilder" (133 : Nat) ({ cls := "java/lang/StringLatin1", name := "fillNull", desc := "([BII)V" } : Jvm.MethodName)) ∈ am_gt := am_in (List.mem_append_right _ (List.mem_of_getElem? (l := tables_1) (i := 713) (by decide +kernel))) (by decide +kernel)
theorem tw_714 : (Jvm.Cond.static ({ cls := "java/lang/StringLatin1", name := "fillNull", desc := "([BII)V" } : Jvm.MethodName)) ∈ am_gt := am_in (List.mem_append_right _ (List.mem_of_getElem? (l := tables_1) (i := 714) (by decide +kernel))) (by decide +kernel)
theorem tw_715 : (Jvm.Cond.code ({ cls := "java/lang/StringLatin1", name := "fillNull", desc := "([BII)V" } : Jvm.MethodName) prog_29_method_48_code (3 : Nat) (Option.none : Option Jvm.ClassFile.FieldType)) ∈ am_gt := am_in (List.mem_append_right _ (List.mem_of_getElem? (l := tables_1) (i := 715) (by decide +kernel))) (by decide +kernel)
theorem tw_748 : (Jvm.Cond.methodLink "java/lang/AbstractStringBuilder" (137 : Nat) ({ cls := "java/lang/StringUTF16", name := "fillNull", desc := "([BII)V" } : Jvm.MethodName)) ∈ am_gt := am_in (List.mem_append_right _ (List.mem_of_getElem? (l := tables_1) (i := 748) (by decide +kernel))) (by decide +kernel)
theorem tw_749 : (Jvm.Cond.static ({ cls := "java/lang/StringUTF16", name := "fillNull", desc := "([BII)V" } : Jvm.MethodName)) ∈ am_gt := am_in (List.mem_append_right _ (List.mem_of_getElem? (l := tables_1) (i := 749) (by decide +kernel))) (by decide +kernel)
theorem tw_750 : (Jvm.Cond.code ({ cls := "java/lang/StringUTF16", name := "fillNull", desc := "([BII)V" } : Jvm.MethodName) prog_30_method_70_code (3 : Nat) (Option.none : Option Jvm.ClassFile.FieldType)) ∈ am_gt := am_in (List.mem_append_right _ (List.mem_of_getElem? (l := tables_1) (i := 750) (by decide +kernel))) (by decide +kernel)
theorem tw_756 : (Jvm.Cond.methodLink "java/lang/StringBuilder" (50 : Nat) ({ cls := "java/lang/AbstractStringBuilder", name := "append", desc := "(C)Ljava/lang/AbstractStringBuilder;" } : Jvm.MethodName)) ∈ am_gt := am_in (List.mem_append_right _ (List.mem_of_getElem? (l := tables_1) (i := 756) (by decide +kernel))) (by decide +kernel)
theorem tw_757 : (Jvm.Cond.instanceMethod ({ cls := "java/lang/AbstractStringBuilder", name := "append", desc := "(C)Ljava/lang/AbstractStringBuilder;" } : Jvm.MethodName)) ∈ am_gt := am_in (List.mem_append_right _ (List.mem_of_getElem? (l := tables_1) (i := 757) (by decide +kernel))) (by decide +kernel)
theorem tw_758 : (Jvm.Cond.code ({ cls := "java/lang/AbstractStringBuilder", name := "append", desc := "(C)Ljava/lang/AbstractStringBuilder;" } : Jvm.MethodName) prog_11_method_31_code (2 : Nat) (Option.some (Jvm.ClassFile.FieldType.object "java/lang/AbstractStringBuilder"))) ∈ am_gt := am_in (List.mem_append_right _ (List.mem_of_getElem? (l := tables_1) (i := 758) (by decide +kernel))) (by decide +kernel)
theorem tw_759 : (Jvm.Cond.methodLink "java/lang/AbstractStringBuilder" (191 : Nat) ({ cls := "java/lang/StringLatin1", name := "canEncode", desc := "(C)Z" } : Jvm.MethodName)) ∈ am_gt := am_in (List.mem_append_right _ (List.mem_of_getElem? (l := tables_1) (i := 759) (by decide +kernel))) (by decide +kernel)
theorem tw_760 : (Jvm.Cond.static ({ cls := "java/lang/StringLatin1", name := "canEncode", desc := "(C)Z" } : Jvm.MethodName)) ∈ am_gt := am_in (List.mem_append_right _ (List.mem_of_getElem? (l := tables_1) (i := 760) (by decide +kernel))) (by decide +kernel)
theorem tw_761 : (Jvm.Cond.code ({ cls := "java/lang/StringLatin1", name := "canEncode", desc := "(C)Z" } : Jvm.MethodName) prog_29_method_3_code (1 : Nat) (Option.some Jvm.ClassFile.FieldType.boolean)) ∈ am_gt := am_in (List.mem_append_right _ (List.mem_of_getElem? (l := tables_1) (i := 761) (by decide +kernel))) (by decide +kernel)
theorem tw_762 : (Jvm.Cond.methodLink "java/lang/AbstractStringBuilder" (197 : Nat) ({ cls := "java/lang/StringUTF16", name := "putCharSB", desc := "([BII)V" } : Jvm.MethodName)) ∈ am_gt := am_in (List.mem_append_right _ (List.mem_of_getElem? (l := tables_1) (i := 762) (by decide +kernel))) (by decide +kernel)
theorem tw_763 : (Jvm.Cond.static ({ cls := "java/lang/StringUTF16", name := "putCharSB", desc := "([BII)V" } : Jvm.MethodName)) ∈ am_gt := am_in (List.mem_append_right _ (List.mem_of_getElem? (l := tables_1) (i := 763) (by decide +kernel))) (by decide +kernel)
theorem tw_764 : (Jvm.Cond.code ({ cls := "java/lang/StringUTF16", name := "putCharSB", desc := "([BII)V" } : Jvm.MethodName) prog_30_method_71_code (3 : Nat) (Option.none : Option Jvm.ClassFile.FieldType)) ∈ am_gt := am_in (List.mem_append_right _ (List.mem_of_getElem? (l := tables_1) (i := 764) (by decide +kernel))) (by decide +kernel)
theorem tw_769 : (Jvm.Cond.static ({ cls := "java/lang/String", name := "checkIndex", desc := "(II)V" } : Jvm.MethodName)) ∈ am_gt := am_in (List.mem_append_right _ (List.mem_of_getElem? (l := tables_1) (i := 769) (by decide +kernel))) (by decide +kernel)
theorem tw_770 : (Jvm.Cond.code ({ cls := "java/lang/String", name := "checkIndex", desc := "(II)V" } : Jvm.MethodName) prog_26_method_155_code (2 : Nat) (Option.none : Option Jvm.ClassFile.FieldType)) ∈ am_gt := am_in (List.mem_append_right _ (List.mem_of_getElem? (l := tables_1) (i := 770) (by decide +kernel))) (by decide +kernel)
theorem tw_771 : (Jvm.Cond.methodLink "java/lang/String" (1059 : Nat) ({ cls := "jdk/internal/util/Preconditions", name := "checkIndex", desc := "(IILjava/util/function/BiFunction;)I" } : Jvm.MethodName)) ∈ am_gt := am_in (List.mem_append_right _ (List.mem_of_getElem? (l := tables_1) (i := 771) (by decide +kernel))) (by decide +kernel)
theorem tw_772 : (Jvm.Cond.static ({ cls := "jdk/internal/util/Preconditions", name := "checkIndex", desc := "(IILjava/util/function/BiFunction;)I" } : Jvm.MethodName)) ∈ am_gt := am_in (List.mem_append_right _ (List.mem_of_getElem? (l := tables_1) (i := 772) (by decide +kernel))) (by decide +kernel)
theorem tw_773 : (Jvm.Cond.code ({ cls := "jdk/internal/util/Preconditions", name := "checkIndex", desc := "(IILjava/util/function/BiFunction;)I" } : Jvm.MethodName) prog_39_method_11_code (3 : Nat) (Option.some Jvm.ClassFile.FieldType.int)) ∈ am_gt := am_in (List.mem_append_right _ (List.mem_of_getElem? (l := tables_1) (i := 773) (by decide +kernel))) (by decide +kernel)
theorem tw_1110 : (Jvm.Cond.constant "java/lang/Integer" (265 : Nat) (1431655765 : Int32)) ∈ am_gt := am_in (List.mem_append_right _ (List.mem_of_getElem? (l := tables_1) (i := 1110) (by decide +kernel))) (by decide +kernel)
theorem tw_1111 : (Jvm.Cond.constant "java/lang/Integer" (266 : Nat) (858993459 : Int32)) ∈ am_gt := am_in (List.mem_append_right _ (List.mem_of_getElem? (l := tables_1) (i := 1111) (by decide +kernel))) (by decide +kernel)
theorem tw_1112 : (Jvm.Cond.constant "java/lang/Integer" (267 : Nat) (252645135 : Int32)) ∈ am_gt := am_in (List.mem_append_right _ (List.mem_of_getElem? (l := tables_1) (i := 1112) (by decide +kernel))) (by decide +kernel)
theorem tw_1377 : (Jvm.Cond.methodLink "java/lang/StringBuilder" (329 : Nat) ({ cls := "java/lang/AbstractStringBuilder", name := "charAt", desc := "(I)C" } : Jvm.MethodName)) ∈ am_gt := am_in (List.mem_append_right _ (List.mem_of_getElem? (l := tables_1) (i := 1377) (by decide +kernel))) (by decide +kernel)
theorem tw_1378 : (Jvm.Cond.instanceMethod ({ cls := "java/lang/AbstractStringBuilder", name := "charAt", desc := "(I)C" } : Jvm.MethodName)) ∈ am_gt := am_in (List.mem_append_right _ (List.mem_of_getElem? (l := tables_1) (i := 1378) (by decide +kernel))) (by decide +kernel)
theorem tw_1379 : (Jvm.Cond.code ({ cls := "java/lang/AbstractStringBuilder", name := "charAt", desc := "(I)C" } : Jvm.MethodName) prog_11_method_14_code (5 : Nat) (Option.some Jvm.ClassFile.FieldType.char)) ∈ am_gt := am_in (List.mem_append_right _ (List.mem_of_getElem? (l := tables_1) (i := 1379) (by decide +kernel))) (by decide +kernel)
theorem tw_1380 : (Jvm.Cond.methodLink "java/lang/AbstractStringBuilder" (138 : Nat) ({ cls := "java/lang/Math", name := "min", desc := "(II)I" } : Jvm.MethodName)) ∈ am_gt := am_in (List.mem_append_right _ (List.mem_of_getElem? (l := tables_1) (i := 1380) (by decide +kernel))) (by decide +kernel)
theorem tw_1381 : (Jvm.Cond.methodLink "java/lang/AbstractStringBuilder" (144 : Nat) ({ cls := "java/lang/String", name := "checkIndex", desc := "(II)V" } : Jvm.MethodName)) ∈ am_gt := am_in (List.mem_append_right _ (List.mem_of_getElem? (l := tables_1) (i := 1381) (by decide +kernel))) (by decide +kernel)
theorem tw_1382 : (Jvm.Cond.methodLink "java/lang/AbstractStringBuilder" (148 : Nat) ({ cls := "java/lang/StringUTF16", name := "getChar", desc := "([BI)C" } : Jvm.MethodName)) ∈ am_gt := am_in (List.mem_append_right _ (List.mem_of_getElem? (l := tables_1) (i := 1382) (by decide +kernel))) (by decide +kernel)
theorem tw_1427 : (Jvm.Cond.methodLink "java/lang/String" (492 : Nat) ({ cls := "java/lang/String", name := "isLatin1", desc := "()Z" } : Jvm.MethodName)) ∈ am_gt := am_in (List.mem_append_right _ (List.mem_of_getElem? (l := tables_1) (i := 1427) (by decide +kernel))) (by decide +kernel)
theorem tw_1428 : (Jvm.Cond.instanceMethod ({ cls := "java/lang/String", name := "isLatin1", desc := "()Z" } : Jvm.MethodName)) ∈ am_gt := am_in (List.mem_append_right _ (List.mem_of_getElem? (l := tables_1) (i := 1428) (by decide +kernel))) (by decide +kernel)
theorem tw_1429 : (Jvm.Cond.selects "java/lang/String" ({ cls := "java/lang/String", name := "isLatin1", desc := "()Z" } : Jvm.MethodName) ({ cls := "java/lang/String", name := "isLatin1", desc := "()Z" } : Jvm.MethodName)) ∈ am_gt := am_in (List.mem_append_right _ (List.mem_of_getElem? (l := tables_1) (i := 1429) (by decide +kernel))) (by decide +kernel)
theorem tw_1430 : (Jvm.Cond.code ({ cls := "java/lang/String", name := "isLatin1", desc := "()Z" } : Jvm.MethodName) prog_26_method_154_code (1 : Nat) (Option.some Jvm.ClassFile.FieldType.boolean)) ∈ am_gt := am_in (List.mem_append_right _ (List.mem_of_getElem? (l := tables_1) (i := 1430) (by decide +kernel))) (by decide +kernel)
theorem tw_1431 : (Jvm.Cond.methodLink "java/lang/String" (495 : Nat) ({ cls := "java/lang/StringLatin1", name := "charAt", desc := "([BI)C" } : Jvm.MethodName)) ∈ am_gt := am_in (List.mem_append_right _ (List.mem_of_getElem? (l := tables_1) (i := 1431) (by decide +kernel))) (by decide +kernel)
theorem tw_1432 : (Jvm.Cond.static ({ cls := "java/lang/StringLatin1", name := "charAt", desc := "([BI)C" } : Jvm.MethodName)) ∈ am_gt := am_in (List.mem_append_right _ (List.mem_of_getElem? (l := tables_1) (i := 1432) (by decide +kernel))) (by decide +kernel)
theorem tw_1433 : (Jvm.Cond.code ({ cls := "java/lang/StringLatin1", name := "charAt", desc := "([BI)C" } : Jvm.MethodName) prog_29_method_2_code (2 : Nat) (Option.some Jvm.ClassFile.FieldType.char)) ∈ am_gt := am_in (List.mem_append_right _ (List.mem_of_getElem? (l := tables_1) (i := 1433) (by decide +kernel))) (by decide +kernel)
theorem tw_1434 : (Jvm.Cond.methodLink "java/lang/StringLatin1" (9 : Nat) ({ cls := "java/lang/String", name := "checkIndex", desc := "(II)V" } : Jvm.MethodName)) ∈ am_gt := am_in (List.mem_append_right _ (List.mem_of_getElem? (l := tables_1) (i := 1434) (by decide +kernel))) (by decide +kernel)
theorem tw_1435 : (Jvm.Cond.methodLink "java/lang/String" (498 : Nat) ({ cls := "java/lang/StringUTF16", name := "charAt", desc := "([BI)C" } : Jvm.MethodName)) ∈ am_gt := am_in (List.mem_append_right _ (List.mem_of_getElem? (l := tables_1) (i := 1435) (by decide +kernel))) (by decide +kernel)
theorem tw_1436 : (Jvm.Cond.static ({ cls := "java/lang/StringUTF16", name := "charAt", desc := "([BI)C" } : Jvm.MethodName)) ∈ am_gt := am_in (List.mem_append_right _ (List.mem_of_getElem? (l := tables_1) (i := 1436) (by decide +kernel))) (by decide +kernel)
theorem tw_1437 : (Jvm.Cond.code ({ cls := "java/lang/StringUTF16", name := "charAt", desc := "([BI)C" } : Jvm.MethodName) prog_30_method_83_code (2 : Nat) (Option.some Jvm.ClassFile.FieldType.char)) ∈ am_gt := am_in (List.mem_append_right _ (List.mem_of_getElem? (l := tables_1) (i := 1437) (by decide +kernel))) (by decide +kernel)
theorem tw_2031 : (Jvm.Cond.sameMethod "java/lang/AbstractStringBuilder" "java/lang/AbstractStringBuilder" "setLength" "(I)V") ∈ am_gt := am_in (List.mem_append_right _ (List.mem_of_getElem? (l := tables_1) (i := 2031) (by decide +kernel))) (by decide +kernel)
theorem tw_2034 : (Jvm.Cond.sameMethod "java/lang/AbstractStringBuilder" "java/lang/AbstractStringBuilder" "ensureCapacityInternal" "(I)V") ∈ am_gt := am_in (List.mem_append_right _ (List.mem_of_getElem? (l := tables_1) (i := 2034) (by decide +kernel))) (by decide +kernel)
theorem tw_2035 : (Jvm.Cond.sameMethod "java/lang/AbstractStringBuilder" "java/lang/AbstractStringBuilder" "newCapacity" "(I)I") ∈ am_gt := am_in (List.mem_append_right _ (List.mem_of_getElem? (l := tables_1) (i := 2035) (by decide +kernel))) (by decide +kernel)
theorem tw_2038 : (Jvm.Cond.sameMethod "java/lang/AbstractStringBuilder" "java/lang/AbstractStringBuilder" "inflate" "()V") ∈ am_gt := am_in (List.mem_append_right _ (List.mem_of_getElem? (l := tables_1) (i := 2038) (by decide +kernel))) (by decide +kernel)
theorem tw_2039 : (Jvm.Cond.sameMethod "java/lang/AbstractStringBuilder" "java/lang/AbstractStringBuilder" "append" "(I)Ljava/lang/AbstractStringBuilder;") ∈ am_gt := am_in (List.mem_append_right _ (List.mem_of_getElem? (l := tables_1) (i := 2039) (by decide +kernel))) (by decide +kernel)
theorem tw_2041 : (Jvm.Cond.sameMethod "java/lang/AbstractStringBuilder" "java/lang/AbstractStringBuilder" "append" "(C)Ljava/lang/AbstractStringBuilder;") ∈ am_gt := am_in (List.mem_append_right _ (List.mem_of_getElem? (l := tables_1) (i := 2041) (by decide +kernel))) (by decide +kernel)
theorem tw_2043 : (Jvm.Cond.sameMethod "java/lang/AbstractStringBuilder" "java/lang/AbstractStringBuilder" "charAt" "(I)C") ∈ am_gt := am_in (List.mem_append_right _ (List.mem_of_getElem? (l := tables_1) (i := 2043) (by decide +kernel))) (by decide +kernel)
set_option maxRecDepth 100000 in
theorem pp_0_0 : ∀ q, am_cl[0]? = some q → ((q.2.1 0).2.2.2 = true ∧ (q.2.1 0).1 = "LiftGroup$Building") ∧ parseFieldDescriptor (q.2.1 0).2.2.1 = some (.array (.object "LiftGroup$Car")) := fun q hq => by cases hq; exact ⟨⟨rfl, rfl⟩, by decide +kernel⟩
set_option maxRecDepth 100000 in
theorem pp_0_1 : ∀ q, am_cl[0]? = some q → ((q.2.1 1).2.2.2 = true ∧ (q.2.1 1).1 = "LiftGroup$Building") ∧ parseFieldDescriptor (q.2.1 1).2.2.1 = some (.array (.object "LiftGroup$Passenger")) := fun q hq => by cases hq; exact ⟨⟨rfl, rfl⟩, by decide +kernel⟩
set_option maxRecDepth 100000 in
theorem pp_5_0 : ∀ q, am_cl[5]? = some q → ((q.2.1 0).2.2.2 = true ∧ (q.2.1 0).1 = "LiftGroup$TripLog") ∧ parseFieldDescriptor (q.2.1 0).2.2.1 = some (.array .int) := fun q hq => by cases hq; exact ⟨⟨rfl, rfl⟩, by decide +kernel⟩
set_option maxRecDepth 100000 in
theorem pp_5_1 : ∀ q, am_cl[5]? = some q → ((q.2.1 1).2.2.2 = true ∧ (q.2.1 1).1 = "LiftGroup$TripLog") ∧ parseFieldDescriptor (q.2.1 1).2.2.1 = some (.array .int) := fun q hq => by cases hq; exact ⟨⟨rfl, rfl⟩, by decide +kernel⟩
set_option maxRecDepth 100000 in
theorem pp_5_2 : ∀ q, am_cl[5]? = some q → ((q.2.1 2).2.2.2 = true ∧ (q.2.1 2).1 = "LiftGroup$TripLog") ∧ parseFieldDescriptor (q.2.1 2).2.2.1 = some (.array .int) := fun q hq => by cases hq; exact ⟨⟨rfl, rfl⟩, by decide +kernel⟩
set_option maxRecDepth 100000 in
theorem pp_5_3 : ∀ q, am_cl[5]? = some q → (q.2.1 3).2.2.2 = false ∧ parseFieldDescriptor (q.2.1 3).2.2.1 = some (.int) := fun q hq => by cases hq; exact ⟨rfl, by decide +kernel⟩
set_option maxRecDepth 100000 in
theorem pp_5_4 : ∀ q, am_cl[5]? = some q → (q.2.1 4).2.2.2 = false ∧ parseFieldDescriptor (q.2.1 4).2.2.1 = some (.int) := fun q hq => by cases hq; exact ⟨rfl, by decide +kernel⟩
set_option maxRecDepth 100000 in
theorem pp_0_2 : ∀ q, am_cl[0]? = some q → ((q.2.1 2).2.2.2 = true ∧ (q.2.1 2).1 = "LiftGroup$Building") ∧ parseFieldDescriptor (q.2.1 2).2.2.1 = some (.object "LiftGroup$TripLog") := fun q hq => by cases hq; exact ⟨⟨rfl, rfl⟩, by decide +kernel⟩
set_option maxRecDepth 100000 in
theorem pp_0_3 : ∀ q, am_cl[0]? = some q → (q.2.1 3).2.2.2 = false ∧ parseFieldDescriptor (q.2.1 3).2.2.1 = some (.int) := fun q hq => by cases hq; exact ⟨rfl, by decide +kernel⟩
set_option maxRecDepth 100000 in
theorem pp_0_4 : ∀ q, am_cl[0]? = some q → (q.2.1 4).2.2.2 = false ∧ parseFieldDescriptor (q.2.1 4).2.2.1 = some (.int) := fun q hq => by cases hq; exact ⟨rfl, by decide +kernel⟩
set_option maxRecDepth 100000 in
theorem pp_0_5 : ∀ q, am_cl[0]? = some q → (q.2.1 5).2.2.2 = false ∧ parseFieldDescriptor (q.2.1 5).2.2.1 = some (.int) := fun q hq => by cases hq; exact ⟨rfl, by decide +kernel⟩
set_option maxRecDepth 100000 in
theorem pp_0_6 : ∀ q, am_cl[0]? = some q → (q.2.1 6).2.2.2 = false ∧ parseFieldDescriptor (q.2.1 6).2.2.1 = some (.int) := fun q hq => by cases hq; exact ⟨rfl, by decide +kernel⟩
set_option maxRecDepth 100000 in
theorem pp_0_7 : ∀ q, am_cl[0]? = some q → (q.2.1 7).2.2.2 = false ∧ parseFieldDescriptor (q.2.1 7).2.2.1 = some (.int) := fun q hq => by cases hq; exact ⟨rfl, by decide +kernel⟩
set_option maxRecDepth 100000 in
theorem pp_0_8 : ∀ q, am_cl[0]? = some q → (q.2.1 8).2.2.2 = false ∧ parseFieldDescriptor (q.2.1 8).2.2.1 = some (.int) := fun q hq => by cases hq; exact ⟨rfl, by decide +kernel⟩
set_option maxRecDepth 100000 in
theorem pp_0_9 : ∀ q, am_cl[0]? = some q → (q.2.1 9).2.2.2 = false ∧ parseFieldDescriptor (q.2.1 9).2.2.1 = some (.int) := fun q hq => by cases hq; exact ⟨rfl, by decide +kernel⟩
set_option maxRecDepth 100000 in
theorem pp_1_0 : ∀ q, am_cl[1]? = some q → (q.2.1 0).2.2.2 = false ∧ parseFieldDescriptor (q.2.1 0).2.2.1 = some (.int) := fun q hq => by cases hq; exact ⟨rfl, by decide +kernel⟩
set_option maxRecDepth 100000 in
theorem pp_1_1 : ∀ q, am_cl[1]? = some q → (q.2.1 1).2.2.2 = false ∧ parseFieldDescriptor (q.2.1 1).2.2.1 = some (.int) := fun q hq => by cases hq; exact ⟨rfl, by decide +kernel⟩
set_option maxRecDepth 100000 in
theorem pp_1_2 : ∀ q, am_cl[1]? = some q → (q.2.1 2).2.2.2 = false ∧ parseFieldDescriptor (q.2.1 2).2.2.1 = some (.int) := fun q hq => by cases hq; exact ⟨rfl, by decide +kernel⟩
set_option maxRecDepth 100000 in
theorem pp_1_3 : ∀ q, am_cl[1]? = some q → (q.2.1 3).2.2.2 = false ∧ parseFieldDescriptor (q.2.1 3).2.2.1 = some (.int) := fun q hq => by cases hq; exact ⟨rfl, by decide +kernel⟩
set_option maxRecDepth 100000 in
theorem pp_1_4 : ∀ q, am_cl[1]? = some q → (q.2.1 4).2.2.2 = false ∧ parseFieldDescriptor (q.2.1 4).2.2.1 = some (.int) := fun q hq => by cases hq; exact ⟨rfl, by decide +kernel⟩
set_option maxRecDepth 100000 in
theorem pp_1_5 : ∀ q, am_cl[1]? = some q → (q.2.1 5).2.2.2 = false ∧ parseFieldDescriptor (q.2.1 5).2.2.1 = some (.int) := fun q hq => by cases hq; exact ⟨rfl, by decide +kernel⟩
set_option maxRecDepth 100000 in
theorem pp_1_6 : ∀ q, am_cl[1]? = some q → (q.2.1 6).2.2.2 = false ∧ parseFieldDescriptor (q.2.1 6).2.2.1 = some (.int) := fun q hq => by cases hq; exact ⟨rfl, by decide +kernel⟩
set_option maxRecDepth 100000 in
theorem pp_1_7 : ∀ q, am_cl[1]? = some q → (q.2.1 7).2.2.2 = false ∧ parseFieldDescriptor (q.2.1 7).2.2.1 = some (.boolean) := fun q hq => by cases hq; exact ⟨rfl, by decide +kernel⟩
set_option maxRecDepth 100000 in
theorem pp_3_0 : ∀ q, am_cl[3]? = some q → (q.2.1 0).2.2.2 = false ∧ parseFieldDescriptor (q.2.1 0).2.2.1 = some (.int) := fun q hq => by cases hq; exact ⟨rfl, by decide +kernel⟩
set_option maxRecDepth 100000 in
theorem pp_3_1 : ∀ q, am_cl[3]? = some q → (q.2.1 1).2.2.2 = false ∧ parseFieldDescriptor (q.2.1 1).2.2.1 = some (.int) := fun q hq => by cases hq; exact ⟨rfl, by decide +kernel⟩
set_option maxRecDepth 100000 in
theorem pp_3_2 : ∀ q, am_cl[3]? = some q → (q.2.1 2).2.2.2 = false ∧ parseFieldDescriptor (q.2.1 2).2.2.1 = some (.int) := fun q hq => by cases hq; exact ⟨rfl, by decide +kernel⟩
set_option maxRecDepth 100000 in
theorem pp_3_3 : ∀ q, am_cl[3]? = some q → (q.2.1 3).2.2.2 = false ∧ parseFieldDescriptor (q.2.1 3).2.2.1 = some (.int) := fun q hq => by cases hq; exact ⟨rfl, by decide +kernel⟩
set_option maxRecDepth 100000 in
theorem pp_3_4 : ∀ q, am_cl[3]? = some q → (q.2.1 4).2.2.2 = false ∧ parseFieldDescriptor (q.2.1 4).2.2.1 = some (.int) := fun q hq => by cases hq; exact ⟨rfl, by decide +kernel⟩
set_option maxRecDepth 100000 in
theorem pp_3_5 : ∀ q, am_cl[3]? = some q → (q.2.1 5).2.2.2 = false ∧ parseFieldDescriptor (q.2.1 5).2.2.1 = some (.int) := fun q hq => by cases hq; exact ⟨rfl, by decide +kernel⟩
set_option maxRecDepth 100000 in
theorem pp_3_6 : ∀ q, am_cl[3]? = some q → (q.2.1 6).2.2.2 = false ∧ parseFieldDescriptor (q.2.1 6).2.2.1 = some (.boolean) := fun q hq => by cases hq; exact ⟨rfl, by decide +kernel⟩
set_option maxRecDepth 100000 in
theorem pp_2_0 : ∀ q, am_cl[2]? = some q → ((q.2.1 0).2.2.2 = true ∧ (q.2.1 0).1 = "LiftGroup$History") ∧ parseFieldDescriptor (q.2.1 0).2.2.1 = some (.array (.object "LiftGroup$Building")) := fun q hq => by cases hq; exact ⟨⟨rfl, rfl⟩, by decide +kernel⟩
set_option maxRecDepth 100000 in
theorem pp_2_1 : ∀ q, am_cl[2]? = some q → (q.2.1 1).2.2.2 = false ∧ parseFieldDescriptor (q.2.1 1).2.2.1 = some (.int) := fun q hq => by cases hq; exact ⟨rfl, by decide +kernel⟩
set_option maxRecDepth 100000 in
theorem pp_2_2 : ∀ q, am_cl[2]? = some q → (q.2.1 2).2.2.2 = false ∧ parseFieldDescriptor (q.2.1 2).2.2.1 = some (.int) := fun q hq => by cases hq; exact ⟨rfl, by decide +kernel⟩
set_option maxRecDepth 100000 in
theorem pp_8_0 : ∀ q, am_cl[8]? = some q → (q.2.1 0).2.2.2 = false ∧ parseFieldDescriptor (q.2.1 0).2.2.1 = some (.array .byte) := fun q hq => by cases hq; exact ⟨rfl, by decide +kernel⟩
set_option maxRecDepth 100000 in
theorem pp_8_1 : ∀ q, am_cl[8]? = some q → (q.2.1 1).2.2.2 = false ∧ parseFieldDescriptor (q.2.1 1).2.2.1 = some (.byte) := fun q hq => by cases hq; exact ⟨rfl, by decide +kernel⟩
set_option maxRecDepth 100000 in
theorem pp_8_2 : ∀ q, am_cl[8]? = some q → (q.2.1 2).2.2.2 = false ∧ parseFieldDescriptor (q.2.1 2).2.2.1 = some (.boolean) := fun q hq => by cases hq; exact ⟨rfl, by decide +kernel⟩
set_option maxRecDepth 100000 in
theorem pp_8_3 : ∀ q, am_cl[8]? = some q → (q.2.1 3).2.2.2 = false ∧ parseFieldDescriptor (q.2.1 3).2.2.1 = some (.int) := fun q hq => by cases hq; exact ⟨rfl, by decide +kernel⟩
set_option maxRecDepth 100000 in
theorem pp_4_0 : ∀ q, am_cl[4]? = some q → ((q.2.1 0).2.2.2 = true ∧ (q.2.1 0).1 = "LiftGroup$Script") ∧ parseFieldDescriptor (q.2.1 0).2.2.1 = some (.object "java/lang/StringBuilder") := fun q hq => by cases hq; exact ⟨⟨rfl, rfl⟩, by decide +kernel⟩
set_option maxRecDepth 100000 in
theorem pp_4_1 : ∀ q, am_cl[4]? = some q → ((q.2.1 1).2.2.2 = true ∧ (q.2.1 1).1 = "LiftGroup$Script") ∧ parseFieldDescriptor (q.2.1 1).2.2.1 = some (.array .int) := fun q hq => by cases hq; exact ⟨⟨rfl, rfl⟩, by decide +kernel⟩
set_option maxRecDepth 100000 in
theorem pp_4_3 : ∀ q, am_cl[4]? = some q → (q.2.1 3).2.2.2 = false ∧ parseFieldDescriptor (q.2.1 3).2.2.1 = some (.int) := fun q hq => by cases hq; exact ⟨rfl, by decide +kernel⟩
set_option maxRecDepth 100000 in
theorem pp_4_4 : ∀ q, am_cl[4]? = some q → (q.2.1 4).2.2.2 = false ∧ parseFieldDescriptor (q.2.1 4).2.2.1 = some (.int) := fun q hq => by cases hq; exact ⟨rfl, by decide +kernel⟩
set_option maxRecDepth 100000 in
theorem pp_6_0 : ∀ q, am_cl[6]? = some q → ((q.2.1 0).2.2.2 = true ∧ (q.2.1 0).1 = "LiftGroup") ∧ parseFieldDescriptor (q.2.1 0).2.2.1 = some (.object "LiftGroup$Building") := fun q hq => by cases hq; exact ⟨⟨rfl, rfl⟩, by decide +kernel⟩
set_option maxRecDepth 100000 in
theorem pp_6_1 : ∀ q, am_cl[6]? = some q → ((q.2.1 1).2.2.2 = true ∧ (q.2.1 1).1 = "LiftGroup") ∧ parseFieldDescriptor (q.2.1 1).2.2.1 = some (.object "LiftGroup$Building") := fun q hq => by cases hq; exact ⟨⟨rfl, rfl⟩, by decide +kernel⟩
set_option maxRecDepth 100000 in
theorem pp_6_2 : ∀ q, am_cl[6]? = some q → ((q.2.1 2).2.2.2 = true ∧ (q.2.1 2).1 = "LiftGroup") ∧ parseFieldDescriptor (q.2.1 2).2.2.1 = some (.object "LiftGroup$Building") := fun q hq => by cases hq; exact ⟨⟨rfl, rfl⟩, by decide +kernel⟩
set_option maxRecDepth 100000 in
theorem pp_6_3 : ∀ q, am_cl[6]? = some q → ((q.2.1 3).2.2.2 = true ∧ (q.2.1 3).1 = "LiftGroup") ∧ parseFieldDescriptor (q.2.1 3).2.2.1 = some (.object "LiftGroup$History") := fun q hq => by cases hq; exact ⟨⟨rfl, rfl⟩, by decide +kernel⟩
set_option maxRecDepth 100000 in
theorem pp_4_2 : ∀ q, am_cl[4]? = some q → ((q.2.1 2).2.2.2 = true ∧ (q.2.1 2).1 = "LiftGroup$Script") ∧ parseFieldDescriptor (q.2.1 2).2.2.1 = some (.array (.array .int)) := fun q hq => by cases hq; exact ⟨⟨rfl, rfl⟩, by decide +kernel⟩
set_option maxRecDepth 100000 in
theorem pp_6_4 : ∀ q, am_cl[6]? = some q → ((q.2.1 4).2.2.2 = true ∧ (q.2.1 4).1 = "LiftGroup") ∧ parseFieldDescriptor (q.2.1 4).2.2.1 = some (.object "LiftGroup$Script") := fun q hq => by cases hq; exact ⟨⟨rfl, rfl⟩, by decide +kernel⟩
set_option maxRecDepth 100000 in
theorem pp_6_5 : ∀ q, am_cl[6]? = some q → ((q.2.1 5).2.2.2 = true ∧ (q.2.1 5).1 = "LiftGroup") ∧ parseFieldDescriptor (q.2.1 5).2.2.1 = some (.object "java/lang/StringBuilder") := fun q hq => by cases hq; exact ⟨⟨rfl, rfl⟩, by decide +kernel⟩
set_option maxRecDepth 100000 in
theorem pp_6_6 : ∀ q, am_cl[6]? = some q → (q.2.1 6).2.2.2 = false ∧ parseFieldDescriptor (q.2.1 6).2.2.1 = some (.boolean) := fun q hq => by cases hq; exact ⟨rfl, by decide +kernel⟩
set_option maxRecDepth 100000 in
theorem pp_6_7 : ∀ q, am_cl[6]? = some q → (q.2.1 7).2.2.2 = false ∧ parseFieldDescriptor (q.2.1 7).2.2.1 = some (.int) := fun q hq => by cases hq; exact ⟨rfl, by decide +kernel⟩
set_option maxRecDepth 100000 in
theorem pp_6_8 : ∀ q, am_cl[6]? = some q → (q.2.1 8).2.2.2 = false ∧ parseFieldDescriptor (q.2.1 8).2.2.1 = some (.int) := fun q hq => by cases hq; exact ⟨rfl, by decide +kernel⟩
set_option maxRecDepth 100000 in
theorem pp_7_0 : ∀ q, am_cl[7]? = some q → ((q.2.1 0).2.2.2 = true ∧ (q.2.1 0).1 = "LiftGroupModel") ∧ parseFieldDescriptor (q.2.1 0).2.2.1 = some (.array .int) := fun q hq => by cases hq; exact ⟨⟨rfl, rfl⟩, by decide +kernel⟩
set_option maxRecDepth 100000 in
theorem pp_7_1 : ∀ q, am_cl[7]? = some q → ((q.2.1 1).2.2.2 = true ∧ (q.2.1 1).1 = "LiftGroupModel") ∧ parseFieldDescriptor (q.2.1 1).2.2.1 = some (.array .int) := fun q hq => by cases hq; exact ⟨⟨rfl, rfl⟩, by decide +kernel⟩
set_option maxRecDepth 100000 in
theorem pp_7_2 : ∀ q, am_cl[7]? = some q → ((q.2.1 2).2.2.2 = true ∧ (q.2.1 2).1 = "LiftGroupModel") ∧ parseFieldDescriptor (q.2.1 2).2.2.1 = some (.array .int) := fun q hq => by cases hq; exact ⟨⟨rfl, rfl⟩, by decide +kernel⟩
set_option maxRecDepth 100000 in
theorem pp_7_3 : ∀ q, am_cl[7]? = some q → ((q.2.1 3).2.2.2 = true ∧ (q.2.1 3).1 = "LiftGroupModel") ∧ parseFieldDescriptor (q.2.1 3).2.2.1 = some (.array .int) := fun q hq => by cases hq; exact ⟨⟨rfl, rfl⟩, by decide +kernel⟩
set_option maxRecDepth 100000 in
theorem pp_7_5 : ∀ q, am_cl[7]? = some q → ((q.2.1 5).2.2.2 = true ∧ (q.2.1 5).1 = "LiftGroupModel") ∧ parseFieldDescriptor (q.2.1 5).2.2.1 = some (.array .int) := fun q hq => by cases hq; exact ⟨⟨rfl, rfl⟩, by decide +kernel⟩
set_option maxRecDepth 100000 in
theorem pp_7_7 : ∀ q, am_cl[7]? = some q → ((q.2.1 7).2.2.2 = true ∧ (q.2.1 7).1 = "LiftGroupModel") ∧ parseFieldDescriptor (q.2.1 7).2.2.1 = some (.array .char) := fun q hq => by cases hq; exact ⟨⟨rfl, rfl⟩, by decide +kernel⟩
set_option maxRecDepth 100000 in
theorem pp_7_9 : ∀ q, am_cl[7]? = some q → (q.2.1 9).2.2.2 = false ∧ parseFieldDescriptor (q.2.1 9).2.2.1 = some (.int) := fun q hq => by cases hq; exact ⟨rfl, by decide +kernel⟩
set_option maxRecDepth 100000 in
theorem pp_7_10 : ∀ q, am_cl[7]? = some q → (q.2.1 10).2.2.2 = false ∧ parseFieldDescriptor (q.2.1 10).2.2.1 = some (.int) := fun q hq => by cases hq; exact ⟨rfl, by decide +kernel⟩
set_option maxRecDepth 100000 in
theorem pp_7_11 : ∀ q, am_cl[7]? = some q → ((q.2.1 11).2.2.2 = true ∧ (q.2.1 11).1 = "LiftGroupModel") ∧ parseFieldDescriptor (q.2.1 11).2.2.1 = some (.array .char) := fun q hq => by cases hq; exact ⟨⟨rfl, rfl⟩, by decide +kernel⟩
set_option maxRecDepth 100000 in
theorem pp_7_16 : ∀ q, am_cl[7]? = some q → ((q.2.1 16).2.2.2 = true ∧ (q.2.1 16).1 = "LiftGroupModel") ∧ parseFieldDescriptor (q.2.1 16).2.2.1 = some (.array .int) := fun q hq => by cases hq; exact ⟨⟨rfl, rfl⟩, by decide +kernel⟩
set_option maxRecDepth 100000 in
theorem pp_7_13 : ∀ q, am_cl[7]? = some q → (q.2.1 13).2.2.2 = false ∧ parseFieldDescriptor (q.2.1 13).2.2.1 = some (.int) := fun q hq => by cases hq; exact ⟨rfl, by decide +kernel⟩
set_option maxRecDepth 100000 in
theorem pp_7_4 : ∀ q, am_cl[7]? = some q → (q.2.1 4).2.2.2 = false ∧ parseFieldDescriptor (q.2.1 4).2.2.1 = some (.int) := fun q hq => by cases hq; exact ⟨rfl, by decide +kernel⟩
set_option maxRecDepth 100000 in
theorem pp_7_12 : ∀ q, am_cl[7]? = some q → (q.2.1 12).2.2.2 = false ∧ parseFieldDescriptor (q.2.1 12).2.2.1 = some (.int) := fun q hq => by cases hq; exact ⟨rfl, by decide +kernel⟩
set_option maxRecDepth 100000 in
theorem pp_7_8 : ∀ q, am_cl[7]? = some q → (q.2.1 8).2.2.2 = false ∧ parseFieldDescriptor (q.2.1 8).2.2.1 = some (.int) := fun q hq => by cases hq; exact ⟨rfl, by decide +kernel⟩
set_option maxRecDepth 100000 in
theorem pp_7_15 : ∀ q, am_cl[7]? = some q → (q.2.1 15).2.2.2 = false ∧ parseFieldDescriptor (q.2.1 15).2.2.1 = some (.boolean) := fun q hq => by cases hq; exact ⟨rfl, by decide +kernel⟩
set_option maxRecDepth 100000 in
theorem pp_7_14 : ∀ q, am_cl[7]? = some q → (q.2.1 14).2.2.2 = false ∧ parseFieldDescriptor (q.2.1 14).2.2.1 = some (.int) := fun q hq => by cases hq; exact ⟨rfl, by decide +kernel⟩
set_option maxRecDepth 100000 in
theorem pp_7_6 : ∀ q, am_cl[7]? = some q → (q.2.1 6).2.2.2 = false ∧ parseFieldDescriptor (q.2.1 6).2.2.1 = some (.boolean) := fun q hq => by cases hq; exact ⟨rfl, by decide +kernel⟩
set_option maxRecDepth 100000 in
theorem ff_LiftGroup_Building_11 : am_F "LiftGroup$Building" 11 0 0 := ⟨RX0, TX0, 10, rfl, by decide, tw_166⟩
set_option maxRecDepth 100000 in
theorem ff_LiftGroup_Building_19 : am_F "LiftGroup$Building" 19 0 1 := ⟨RX0, TX0, 10, rfl, by decide, tw_168⟩
set_option maxRecDepth 100000 in
theorem dv_5 : am_dv 5 := by
  intro k b hk q hq ty hty
  cases hq
  match k, hk, hty with
  | 0, hk, hty => cases hk; have e1 := pp_5_0 _ rfl; cases (e1.2.symm.trans hty); rfl
  | 1, hk, hty => cases hk; have e1 := pp_5_1 _ rfl; cases (e1.2.symm.trans hty); rfl
  | 2, hk, hty => cases hk; have e1 := pp_5_2 _ rfl; cases (e1.2.symm.trans hty); rfl
  | 3, hk, hty => cases hk; have e1 := pp_5_3 _ rfl; cases (e1.2.symm.trans hty); rfl
  | 4, hk, hty => cases hk; have e1 := pp_5_4 _ rfl; cases (e1.2.symm.trans hty); rfl
  | k + 5, hk, hty => simp [am_kd] at hk
set_option maxRecDepth 100000 in
theorem mkX5_init : am_mk rX5_init := ⟨tw_54, tw_3, by decide, by decide +kernel, by decide +kernel, by decide +kernel⟩
set_option maxRecDepth 100000 in
theorem prX5_init : am_par rX5_init 0 := by unfold am_par; decide +kernel
set_option maxRecDepth 100000 in
theorem mm_LiftGroup_Building_25 : am_mIN "LiftGroup$Building" "LiftGroup" 25 rX5_init 0 := ⟨mkX5_init, rfl, prX5_init, tn_52, tw_53, rfl, rfl⟩
set_option maxRecDepth 100000 in
theorem ff_LiftGroup_Building_26 : am_F "LiftGroup$Building" 26 0 2 := ⟨RX0, TX0, 10, rfl, by decide, tw_170⟩
set_option maxRecDepth 100000 in
theorem ff_LiftGroup_Building_30 : am_F "LiftGroup$Building" 30 0 3 := ⟨RX0, TX0, 10, rfl, by decide, tw_172⟩
set_option maxRecDepth 100000 in
theorem ff_LiftGroup_Building_34 : am_F "LiftGroup$Building" 34 0 4 := ⟨RX0, TX0, 10, rfl, by decide, tw_174⟩
set_option maxRecDepth 100000 in
theorem ff_LiftGroup_Building_37 : am_F "LiftGroup$Building" 37 0 5 := ⟨RX0, TX0, 10, rfl, by decide, tw_175⟩
set_option maxRecDepth 100000 in
theorem ff_LiftGroup_Building_40 : am_F "LiftGroup$Building" 40 0 6 := ⟨RX0, TX0, 10, rfl, by decide, tw_177⟩
set_option maxRecDepth 100000 in
theorem ff_LiftGroup_Building_43 : am_F "LiftGroup$Building" 43 0 7 := ⟨RX0, TX0, 10, rfl, by decide, tw_179⟩
set_option maxRecDepth 100000 in
theorem ff_LiftGroup_Building_46 : am_F "LiftGroup$Building" 46 0 8 := ⟨RX0, TX0, 10, rfl, by decide, tw_181⟩
set_option maxRecDepth 100000 in
theorem ff_LiftGroup_Building_49 : am_F "LiftGroup$Building" 49 0 9 := ⟨RX0, TX0, 10, rfl, by decide, tw_182⟩
set_option maxRecDepth 100000 in
theorem dv_1 : am_dv 1 := by
  intro k b hk q hq ty hty
  cases hq
  match k, hk, hty with
  | 0, hk, hty => cases hk; have e1 := pp_1_0 _ rfl; cases (e1.2.symm.trans hty); rfl
  | 1, hk, hty => cases hk; have e1 := pp_1_1 _ rfl; cases (e1.2.symm.trans hty); rfl
  | 2, hk, hty => cases hk; have e1 := pp_1_2 _ rfl; cases (e1.2.symm.trans hty); rfl
  | 3, hk, hty => cases hk; have e1 := pp_1_3 _ rfl; cases (e1.2.symm.trans hty); rfl
  | 4, hk, hty => cases hk; have e1 := pp_1_4 _ rfl; cases (e1.2.symm.trans hty); rfl
  | 5, hk, hty => cases hk; have e1 := pp_1_5 _ rfl; cases (e1.2.symm.trans hty); rfl
  | 6, hk, hty => cases hk; have e1 := pp_1_6 _ rfl; cases (e1.2.symm.trans hty); rfl
  | 7, hk, hty => cases hk; have e1 := pp_1_7 _ rfl; cases (e1.2.symm.trans hty); rfl
  | k + 8, hk, hty => simp [am_kd] at hk
set_option maxRecDepth 100000 in
theorem mkX1_init : am_mk rX1_init := ⟨tw_82, tw_4, by decide, by decide +kernel, by decide +kernel, by decide +kernel⟩
set_option maxRecDepth 100000 in
theorem prX1_init : am_par rX1_init 0 := by unfold am_par; decide +kernel
set_option maxRecDepth 100000 in
theorem mm_LiftGroup_Building_52 : am_mIN "LiftGroup$Building" "LiftGroup" 52 rX1_init 0 := ⟨mkX1_init, rfl, prX1_init, tn_80, tw_81, rfl, rfl⟩
set_option maxRecDepth 100000 in
theorem dv_3 : am_dv 3 := by
  intro k b hk q hq ty hty
  cases hq
  match k, hk, hty with
  | 0, hk, hty => cases hk; have e1 := pp_3_0 _ rfl; cases (e1.2.symm.trans hty); rfl
  | 1, hk, hty => cases hk; have e1 := pp_3_1 _ rfl; cases (e1.2.symm.trans hty); rfl
  | 2, hk, hty => cases hk; have e1 := pp_3_2 _ rfl; cases (e1.2.symm.trans hty); rfl
  | 3, hk, hty => cases hk; have e1 := pp_3_3 _ rfl; cases (e1.2.symm.trans hty); rfl
  | 4, hk, hty => cases hk; have e1 := pp_3_4 _ rfl; cases (e1.2.symm.trans hty); rfl
  | 5, hk, hty => cases hk; have e1 := pp_3_5 _ rfl; cases (e1.2.symm.trans hty); rfl
  | 6, hk, hty => cases hk; have e1 := pp_3_6 _ rfl; cases (e1.2.symm.trans hty); rfl
  | k + 7, hk, hty => simp [am_kd] at hk
set_option maxRecDepth 100000 in
theorem mkX3_init : am_mk rX3_init := ⟨tw_128, tw_5, by decide, by decide +kernel, by decide +kernel, by decide +kernel⟩
set_option maxRecDepth 100000 in
theorem prX3_init : am_par rX3_init 0 := by unfold am_par; decide +kernel
set_option maxRecDepth 100000 in
theorem mm_LiftGroup_Building_53 : am_mIN "LiftGroup$Building" "LiftGroup" 53 rX3_init 0 := ⟨mkX3_init, rfl, prX3_init, tn_126, tw_127, rfl, rfl⟩
set_option maxRecDepth 100000 in
theorem mkX0_init : am_mk rX0_init := ⟨tw_44, tw_2, by decide, by decide +kernel, by decide +kernel, by decide +kernel⟩
set_option maxRecDepth 100000 in
theorem mkX1_copyFrom : am_mk rX1_copyFrom := ⟨tw_791, tw_4, by decide, by decide +kernel, by decide +kernel, by decide +kernel⟩
set_option maxRecDepth 100000 in
theorem prX1_copyFrom : am_par rX1_copyFrom 1 := by unfold am_par; decide +kernel
set_option maxRecDepth 100000 in
theorem mm_LiftGroup_Building_54 : am_mV "LiftGroup$Building" 54 rX1_copyFrom "LiftGroup$Car" 1 := ⟨mkX1_copyFrom, rfl, prX1_copyFrom, rfl, tw_788, tw_789, tw_790, tw_4⟩
set_option maxRecDepth 100000 in
theorem mkX5_copyFrom : am_mk rX5_copyFrom := ⟨tw_799, tw_3, by decide, by decide +kernel, by decide +kernel, by decide +kernel⟩
set_option maxRecDepth 100000 in
theorem prX5_copyFrom : am_par rX5_copyFrom 1 := by unfold am_par; decide +kernel
set_option maxRecDepth 100000 in
theorem mm_LiftGroup_Building_61 : am_mV "LiftGroup$Building" 61 rX5_copyFrom "LiftGroup$TripLog" 1 := ⟨mkX5_copyFrom, rfl, prX5_copyFrom, rfl, tw_796, tw_797, tw_798, tw_3⟩
set_option maxRecDepth 100000 in
theorem mkX3_copyFrom : am_mk rX3_copyFrom := ⟨tw_795, tw_5, by decide, by decide +kernel, by decide +kernel, by decide +kernel⟩
set_option maxRecDepth 100000 in
theorem prX3_copyFrom : am_par rX3_copyFrom 1 := by unfold am_par; decide +kernel
set_option maxRecDepth 100000 in
theorem mm_LiftGroup_Building_58 : am_mV "LiftGroup$Building" 58 rX3_copyFrom "LiftGroup$Passenger" 1 := ⟨mkX3_copyFrom, rfl, prX3_copyFrom, rfl, tw_792, tw_793, tw_794, tw_5⟩
set_option maxRecDepth 100000 in
theorem mkX0_copyFrom : am_mk rX0_copyFrom := ⟨tw_787, tw_2, by decide, by decide +kernel, by decide +kernel, by decide +kernel⟩
set_option maxRecDepth 100000 in
theorem mkX6_isFloor : am_mk rX6_isFloor := ⟨tw_816, tw_1, by decide, by decide +kernel, by decide +kernel, by decide +kernel⟩
set_option maxRecDepth 100000 in
theorem prX6_isFloor : am_par rX6_isFloor 1 := by unfold am_par; decide +kernel
set_option maxRecDepth 100000 in
theorem mm_LiftGroup_Building_64 : am_mSN "LiftGroup$Building" "LiftGroup" 64 rX6_isFloor 1 := ⟨mkX6_isFloor, rfl, prX6_isFloor, tn_814, tw_815⟩
set_option maxRecDepth 100000 in
theorem mkX6_isWeight : am_mk rX6_isWeight := ⟨tw_819, tw_1, by decide, by decide +kernel, by decide +kernel, by decide +kernel⟩
set_option maxRecDepth 100000 in
theorem prX6_isWeight : am_par rX6_isWeight 1 := by unfold am_par; decide +kernel
set_option maxRecDepth 100000 in
theorem mm_LiftGroup_Building_68 : am_mSN "LiftGroup$Building" "LiftGroup" 68 rX6_isWeight 1 := ⟨mkX6_isWeight, rfl, prX6_isWeight, tn_817, tw_818⟩
set_option maxRecDepth 100000 in
theorem mkX0_refusalToAdd : am_mk rX0_refusalToAdd := ⟨tw_813, tw_2, by decide, by decide +kernel, by decide +kernel, by decide +kernel⟩
set_option maxRecDepth 100000 in
theorem ff_LiftGroup_Building_71 : am_F "LiftGroup$Building" 71 3 0 := ⟨RX3, TX3, 7, rfl, by decide, tw_131⟩
set_option maxRecDepth 100000 in
theorem ff_LiftGroup_Building_74 : am_F "LiftGroup$Building" 74 3 1 := ⟨RX3, TX3, 7, rfl, by decide, tw_134⟩
set_option maxRecDepth 100000 in
theorem ff_LiftGroup_Building_77 : am_F "LiftGroup$Building" 77 3 2 := ⟨RX3, TX3, 7, rfl, by decide, tw_137⟩
set_option maxRecDepth 100000 in
theorem ff_LiftGroup_Building_80 : am_F "LiftGroup$Building" 80 3 3 := ⟨RX3, TX3, 7, rfl, by decide, tw_140⟩
set_option maxRecDepth 100000 in
theorem ff_LiftGroup_Building_83 : am_F "LiftGroup$Building" 83 3 4 := ⟨RX3, TX3, 7, rfl, by decide, tw_143⟩
set_option maxRecDepth 100000 in
theorem ff_LiftGroup_Building_86 : am_F "LiftGroup$Building" 86 3 6 := ⟨RX3, TX3, 7, rfl, by decide, tw_149⟩
set_option maxRecDepth 100000 in
theorem mkX0_chooseCar : am_mk rX0_chooseCar := ⟨tw_884, tw_2, by decide, by decide +kernel, by decide +kernel, by decide +kernel⟩
set_option maxRecDepth 100000 in
theorem prX0_chooseCar : am_par rX0_chooseCar 2 := by unfold am_par; decide +kernel
set_option maxRecDepth 100000 in
theorem mm_LiftGroup_Building_90 : am_mV "LiftGroup$Building" 90 rX0_chooseCar "LiftGroup$Building" 2 := ⟨mkX0_chooseCar, rfl, prX0_chooseCar, rfl, tw_881, tw_882, tw_883, tw_2⟩
set_option maxRecDepth 100000 in
theorem ff_LiftGroup_Building_94 : am_F "LiftGroup$Building" 94 3 5 := ⟨RX3, TX3, 7, rfl, by decide, tw_146⟩
set_option maxRecDepth 100000 in
theorem mkX0_add : am_mk rX0_add := ⟨tw_880, tw_2, by decide, by decide +kernel, by decide +kernel, by decide +kernel⟩
set_option maxRecDepth 100000 in
theorem mkX0_isPassenger : am_mk rX0_isPassenger := ⟨tw_902, tw_2, by decide, by decide +kernel, by decide +kernel, by decide +kernel⟩
set_option maxRecDepth 100000 in
theorem prX0_isPassenger : am_par rX0_isPassenger 1 := by unfold am_par; decide +kernel
set_option maxRecDepth 100000 in
theorem mm_LiftGroup_Building_97 : am_mV "LiftGroup$Building" 97 rX0_isPassenger "LiftGroup$Building" 1 := ⟨mkX0_isPassenger, rfl, prX0_isPassenger, rfl, tw_899, tw_900, tw_901, tw_2⟩
set_option maxRecDepth 100000 in
theorem mkX0_refusalToRemove : am_mk rX0_refusalToRemove := ⟨tw_898, tw_2, by decide, by decide +kernel, by decide +kernel, by decide +kernel⟩
set_option maxRecDepth 100000 in
theorem mkX0_remove : am_mk rX0_remove := ⟨tw_906, tw_2, by decide, by decide +kernel, by decide +kernel, by decide +kernel⟩
set_option maxRecDepth 100000 in
theorem mkX6_isCar : am_mk rX6_isCar := ⟨tw_920, tw_1, by decide, by decide +kernel, by decide +kernel, by decide +kernel⟩
set_option maxRecDepth 100000 in
theorem prX6_isCar : am_par rX6_isCar 1 := by unfold am_par; decide +kernel
set_option maxRecDepth 100000 in
theorem mm_LiftGroup_Building_100 : am_mSN "LiftGroup$Building" "LiftGroup" 100 rX6_isCar 1 := ⟨mkX6_isCar, rfl, prX6_isCar, tn_918, tw_919⟩
set_option maxRecDepth 100000 in
theorem ff_LiftGroup_Building_103 : am_F "LiftGroup$Building" 103 1 5 := ⟨RX1, TX1, 8, rfl, by decide, tw_100⟩
set_option maxRecDepth 100000 in
theorem mkX0_refusalToHold : am_mk rX0_refusalToHold := ⟨tw_917, tw_2, by decide, by decide +kernel, by decide +kernel, by decide +kernel⟩
set_option maxRecDepth 100000 in
theorem mkX0_hold : am_mk rX0_hold := ⟨tw_924, tw_2, by decide, by decide +kernel, by decide +kernel, by decide +kernel⟩
set_option maxRecDepth 100000 in
theorem ff_LiftGroup_Building_106 : am_F "LiftGroup$Building" 106 1 7 := ⟨RX1, TX1, 8, rfl, by decide, tw_106⟩
set_option maxRecDepth 100000 in
theorem mkX0_refusalToStop : am_mk rX0_refusalToStop := ⟨tw_935, tw_2, by decide, by decide +kernel, by decide +kernel, by decide +kernel⟩
set_option maxRecDepth 100000 in
theorem mkX0_takeOutOfService : am_mk rX0_takeOutOfService := ⟨tw_939, tw_2, by decide, by decide +kernel, by decide +kernel, by decide +kernel⟩
set_option maxRecDepth 100000 in
theorem mkX0_refusalToStart : am_mk rX0_refusalToStart := ⟨tw_950, tw_2, by decide, by decide +kernel, by decide +kernel, by decide +kernel⟩
set_option maxRecDepth 100000 in
theorem mkX0_putInService : am_mk rX0_putInService := ⟨tw_954, tw_2, by decide, by decide +kernel, by decide +kernel, by decide +kernel⟩
set_option maxRecDepth 100000 in
theorem ff_LiftGroup_Building_109 : am_F "LiftGroup$Building" 109 1 3 := ⟨RX1, TX1, 8, rfl, by decide, tw_95⟩
set_option maxRecDepth 100000 in
theorem mkX0_refusalToLimit : am_mk rX0_refusalToLimit := ⟨tw_966, tw_2, by decide, by decide +kernel, by decide +kernel, by decide +kernel⟩
set_option maxRecDepth 100000 in
theorem ff_LiftGroup_Building_112 : am_F "LiftGroup$Building" 112 1 2 := ⟨RX1, TX1, 8, rfl, by decide, tw_92⟩
set_option maxRecDepth 100000 in
theorem mkX0_limit : am_mk rX0_limit := ⟨tw_970, tw_2, by decide, by decide +kernel, by decide +kernel, by decide +kernel⟩
set_option maxRecDepth 100000 in
theorem mkX0_refusalToPass : am_mk rX0_refusalToPass := ⟨tw_981, tw_2, by decide, by decide +kernel, by decide +kernel, by decide +kernel⟩
set_option maxRecDepth 100000 in
theorem ff_LiftGroup_Building_115 : am_F "LiftGroup$Building" 115 5 3 := ⟨RX5, TX5, 5, rfl, by decide, tw_63⟩
set_option maxRecDepth 100000 in
theorem mkX0_step : am_mk rX0_step := ⟨tw_989, tw_2, by decide, by decide +kernel, by decide +kernel, by decide +kernel⟩
set_option maxRecDepth 100000 in
theorem prX0_step : am_par rX0_step 0 := by unfold am_par; decide +kernel
set_option maxRecDepth 100000 in
theorem mm_LiftGroup_Building_118 : am_mV "LiftGroup$Building" 118 rX0_step "LiftGroup$Building" 0 := ⟨mkX0_step, rfl, prX0_step, rfl, tw_986, tw_987, tw_988, tw_2⟩
set_option maxRecDepth 100000 in
theorem mkX0_letPass : am_mk rX0_letPass := ⟨tw_985, tw_2, by decide, by decide +kernel, by decide +kernel, by decide +kernel⟩
set_option maxRecDepth 100000 in
theorem prX0_refusalToAdd : am_par rX0_refusalToAdd 3 := by unfold am_par; decide +kernel
set_option maxRecDepth 100000 in
theorem mm_LiftGroup_Building_121 : am_mV "LiftGroup$Building" 121 rX0_refusalToAdd "LiftGroup$Building" 3 := ⟨mkX0_refusalToAdd, rfl, prX0_refusalToAdd, rfl, tw_1458, tw_811, tw_812, tw_2⟩
set_option maxRecDepth 100000 in
theorem prX0_refusalToRemove : am_par rX0_refusalToRemove 1 := by unfold am_par; decide +kernel
set_option maxRecDepth 100000 in
theorem mm_LiftGroup_Building_125 : am_mV "LiftGroup$Building" 125 rX0_refusalToRemove "LiftGroup$Building" 1 := ⟨mkX0_refusalToRemove, rfl, prX0_refusalToRemove, rfl, tw_1459, tw_896, tw_897, tw_2⟩
set_option maxRecDepth 100000 in
theorem prX0_refusalToHold : am_par rX0_refusalToHold 2 := by unfold am_par; decide +kernel
set_option maxRecDepth 100000 in
theorem mm_LiftGroup_Building_129 : am_mV "LiftGroup$Building" 129 rX0_refusalToHold "LiftGroup$Building" 2 := ⟨mkX0_refusalToHold, rfl, prX0_refusalToHold, rfl, tw_1460, tw_915, tw_916, tw_2⟩
set_option maxRecDepth 100000 in
theorem prX0_refusalToStop : am_par rX0_refusalToStop 1 := by unfold am_par; decide +kernel
set_option maxRecDepth 100000 in
theorem mm_LiftGroup_Building_132 : am_mV "LiftGroup$Building" 132 rX0_refusalToStop "LiftGroup$Building" 1 := ⟨mkX0_refusalToStop, rfl, prX0_refusalToStop, rfl, tw_1461, tw_933, tw_934, tw_2⟩
set_option maxRecDepth 100000 in
theorem prX0_refusalToStart : am_par rX0_refusalToStart 1 := by unfold am_par; decide +kernel
set_option maxRecDepth 100000 in
theorem mm_LiftGroup_Building_135 : am_mV "LiftGroup$Building" 135 rX0_refusalToStart "LiftGroup$Building" 1 := ⟨mkX0_refusalToStart, rfl, prX0_refusalToStart, rfl, tw_1462, tw_948, tw_949, tw_2⟩
set_option maxRecDepth 100000 in
theorem prX0_refusalToLimit : am_par rX0_refusalToLimit 2 := by unfold am_par; decide +kernel
set_option maxRecDepth 100000 in
theorem mm_LiftGroup_Building_138 : am_mV "LiftGroup$Building" 138 rX0_refusalToLimit "LiftGroup$Building" 2 := ⟨mkX0_refusalToLimit, rfl, prX0_refusalToLimit, rfl, tw_1463, tw_964, tw_965, tw_2⟩
set_option maxRecDepth 100000 in
theorem prX0_refusalToPass : am_par rX0_refusalToPass 1 := by unfold am_par; decide +kernel
set_option maxRecDepth 100000 in
theorem mm_LiftGroup_Building_141 : am_mV "LiftGroup$Building" 141 rX0_refusalToPass "LiftGroup$Building" 1 := ⟨mkX0_refusalToPass, rfl, prX0_refusalToPass, rfl, tw_1464, tw_979, tw_980, tw_2⟩
set_option maxRecDepth 100000 in
theorem mkX0_refusalToPerform : am_mk rX0_refusalToPerform := ⟨tw_1457, tw_2, by decide, by decide +kernel, by decide +kernel, by decide +kernel⟩
set_option maxRecDepth 100000 in
theorem prX0_letPass : am_par rX0_letPass 1 := by unfold am_par; decide +kernel
set_option maxRecDepth 100000 in
theorem mm_LiftGroup_Building_162 : am_mV "LiftGroup$Building" 162 rX0_letPass "LiftGroup$Building" 1 := ⟨mkX0_letPass, rfl, prX0_letPass, rfl, tw_1476, tw_983, tw_984, tw_2⟩
set_option maxRecDepth 100000 in
theorem prX0_add : am_par rX0_add 3 := by unfold am_par; decide +kernel
set_option maxRecDepth 100000 in
theorem mm_LiftGroup_Building_144 : am_mV "LiftGroup$Building" 144 rX0_add "LiftGroup$Building" 3 := ⟨mkX0_add, rfl, prX0_add, rfl, tw_1470, tw_878, tw_879, tw_2⟩
set_option maxRecDepth 100000 in
theorem prX0_remove : am_par rX0_remove 1 := by unfold am_par; decide +kernel
set_option maxRecDepth 100000 in
theorem mm_LiftGroup_Building_147 : am_mV "LiftGroup$Building" 147 rX0_remove "LiftGroup$Building" 1 := ⟨mkX0_remove, rfl, prX0_remove, rfl, tw_1471, tw_904, tw_905, tw_2⟩
set_option maxRecDepth 100000 in
theorem prX0_hold : am_par rX0_hold 2 := by unfold am_par; decide +kernel
set_option maxRecDepth 100000 in
theorem mm_LiftGroup_Building_150 : am_mV "LiftGroup$Building" 150 rX0_hold "LiftGroup$Building" 2 := ⟨mkX0_hold, rfl, prX0_hold, rfl, tw_1472, tw_922, tw_923, tw_2⟩
set_option maxRecDepth 100000 in
theorem prX0_takeOutOfService : am_par rX0_takeOutOfService 1 := by unfold am_par; decide +kernel
set_option maxRecDepth 100000 in
theorem mm_LiftGroup_Building_153 : am_mV "LiftGroup$Building" 153 rX0_takeOutOfService "LiftGroup$Building" 1 := ⟨mkX0_takeOutOfService, rfl, prX0_takeOutOfService, rfl, tw_1473, tw_937, tw_938, tw_2⟩
set_option maxRecDepth 100000 in
theorem prX0_putInService : am_par rX0_putInService 1 := by unfold am_par; decide +kernel
set_option maxRecDepth 100000 in
theorem mm_LiftGroup_Building_156 : am_mV "LiftGroup$Building" 156 rX0_putInService "LiftGroup$Building" 1 := ⟨mkX0_putInService, rfl, prX0_putInService, rfl, tw_1474, tw_952, tw_953, tw_2⟩
set_option maxRecDepth 100000 in
theorem prX0_limit : am_par rX0_limit 2 := by unfold am_par; decide +kernel
set_option maxRecDepth 100000 in
theorem mm_LiftGroup_Building_159 : am_mV "LiftGroup$Building" 159 rX0_limit "LiftGroup$Building" 2 := ⟨mkX0_limit, rfl, prX0_limit, rfl, tw_1475, tw_968, tw_969, tw_2⟩
set_option maxRecDepth 100000 in
theorem mkX0_perform : am_mk rX0_perform := ⟨tw_1469, tw_2, by decide, by decide +kernel, by decide +kernel, by decide +kernel⟩
set_option maxRecDepth 100000 in
theorem mkX0_act : am_mk rX0_act := ⟨tw_993, tw_2, by decide, by decide +kernel, by decide +kernel, by decide +kernel⟩
set_option maxRecDepth 100000 in
theorem prX0_act : am_par rX0_act 1 := by unfold am_par; decide +kernel
set_option maxRecDepth 100000 in
theorem mm_LiftGroup_Building_165 : am_mV "LiftGroup$Building" 165 rX0_act "LiftGroup$Building" 1 := ⟨mkX0_act, rfl, prX0_act, rfl, tw_990, tw_992, tp_1, tw_2⟩
set_option maxRecDepth 100000 in
theorem mkX0_stopsOf : am_mk rX0_stopsOf := ⟨tw_375, tw_2, by decide, by decide +kernel, by decide +kernel, by decide +kernel⟩
set_option maxRecDepth 100000 in
theorem prX0_stopsOf : am_par rX0_stopsOf 1 := by unfold am_par; decide +kernel
set_option maxRecDepth 100000 in
theorem mm_LiftGroup_Building_169 : am_mV "LiftGroup$Building" 169 rX0_stopsOf "LiftGroup$Building" 1 := ⟨mkX0_stopsOf, rfl, prX0_stopsOf, rfl, tw_372, tw_373, tw_374, tw_2⟩
set_option maxRecDepth 100000 in
theorem ff_LiftGroup_Building_172 : am_F "LiftGroup$Building" 172 1 0 := ⟨RX1, TX1, 8, rfl, by decide, tw_86⟩
set_option maxRecDepth 100000 in
theorem mkX6_holds : am_mk rX6_holds := ⟨tw_996, tw_1, by decide, by decide +kernel, by decide +kernel, by decide +kernel⟩
set_option maxRecDepth 100000 in
theorem prX6_holds : am_par rX6_holds 2 := by unfold am_par; decide +kernel
set_option maxRecDepth 100000 in
theorem mm_LiftGroup_Building_175 : am_mSN "LiftGroup$Building" "LiftGroup" 175 rX6_holds 2 := ⟨mkX6_holds, rfl, prX6_holds, tn_994, tw_995⟩
set_option maxRecDepth 100000 in
theorem mkX6_directionToChoose : am_mk rX6_directionToChoose := ⟨tw_1012, tw_1, by decide, by decide +kernel, by decide +kernel, by decide +kernel⟩
set_option maxRecDepth 100000 in
theorem prX6_directionToChoose : am_par rX6_directionToChoose 2 := by unfold am_par; decide +kernel
set_option maxRecDepth 100000 in
theorem mm_LiftGroup_Building_188 : am_mSN "LiftGroup$Building" "LiftGroup" 188 rX6_directionToChoose 2 := ⟨mkX6_directionToChoose, rfl, prX6_directionToChoose, tn_1010, tw_1011⟩
set_option maxRecDepth 100000 in
theorem ff_LiftGroup_Building_192 : am_F "LiftGroup$Building" 192 1 1 := ⟨RX1, TX1, 8, rfl, by decide, tw_89⟩
set_option maxRecDepth 100000 in
theorem mkX0_move : am_mk rX0_move := ⟨tw_1017, tw_2, by decide, by decide +kernel, by decide +kernel, by decide +kernel⟩
set_option maxRecDepth 100000 in
theorem prX0_move : am_par rX0_move 1 := by unfold am_par; decide +kernel
set_option maxRecDepth 100000 in
theorem mm_LiftGroup_Building_195 : am_mV "LiftGroup$Building" 195 rX0_move "LiftGroup$Building" 1 := ⟨mkX0_move, rfl, prX0_move, rfl, tw_1014, tw_1016, tp_4, tw_2⟩
set_option maxRecDepth 100000 in
theorem ff_LiftGroup_Building_179 : am_F "LiftGroup$Building" 179 1 6 := ⟨RX1, TX1, 8, rfl, by decide, tw_104⟩
set_option maxRecDepth 100000 in
theorem mkX0_letOut : am_mk rX0_letOut := ⟨tw_1001, tw_2, by decide, by decide +kernel, by decide +kernel, by decide +kernel⟩
set_option maxRecDepth 100000 in
theorem prX0_letOut : am_par rX0_letOut 1 := by unfold am_par; decide +kernel
set_option maxRecDepth 100000 in
theorem mm_LiftGroup_Building_182 : am_mV "LiftGroup$Building" 182 rX0_letOut "LiftGroup$Building" 1 := ⟨mkX0_letOut, rfl, prX0_letOut, rfl, tw_998, tw_1000, tp_2, tw_2⟩
set_option maxRecDepth 100000 in
theorem mkX0_letIn : am_mk rX0_letIn := ⟨tw_1009, tw_2, by decide, by decide +kernel, by decide +kernel, by decide +kernel⟩
set_option maxRecDepth 100000 in
theorem prX0_letIn : am_par rX0_letIn 1 := by unfold am_par; decide +kernel
set_option maxRecDepth 100000 in
theorem mm_LiftGroup_Building_185 : am_mV "LiftGroup$Building" 185 rX0_letIn "LiftGroup$Building" 1 := ⟨mkX0_letIn, rfl, prX0_letIn, rfl, tw_1006, tw_1008, tp_3, tw_2⟩
set_option maxRecDepth 100000 in
theorem ff_LiftGroup_Building_198 : am_F "LiftGroup$Building" 198 1 4 := ⟨RX1, TX1, 8, rfl, by decide, tw_98⟩
set_option maxRecDepth 100000 in
theorem mkX5_append : am_mk rX5_append := ⟨tw_1005, tw_3, by decide, by decide +kernel, by decide +kernel, by decide +kernel⟩
set_option maxRecDepth 100000 in
theorem prX5_append : am_par rX5_append 3 := by unfold am_par; decide +kernel
set_option maxRecDepth 100000 in
theorem mm_LiftGroup_Building_201 : am_mV "LiftGroup$Building" 201 rX5_append "LiftGroup$TripLog" 3 := ⟨mkX5_append, rfl, prX5_append, rfl, tw_1002, tw_1003, tw_1004, tw_3⟩
set_option maxRecDepth 100000 in
theorem mkX6_distanceToLast : am_mk rX6_distanceToLast := ⟨tw_378, tw_1, by decide, by decide +kernel, by decide +kernel, by decide +kernel⟩
set_option maxRecDepth 100000 in
theorem prX6_distanceToLast : am_par rX6_distanceToLast 3 := by unfold am_par; decide +kernel
set_option maxRecDepth 100000 in
theorem mm_LiftGroup_Building_210 : am_mSN "LiftGroup$Building" "LiftGroup" 210 rX6_distanceToLast 3 := ⟨mkX6_distanceToLast, rfl, prX6_distanceToLast, tn_376, tw_377⟩
set_option maxRecDepth 100000 in
theorem mkX0_estimateByFormula : am_mk rX0_estimateByFormula := ⟨tw_368, tw_2, by decide, by decide +kernel, by decide +kernel, by decide +kernel⟩
set_option maxRecDepth 100000 in
theorem mkJ6_compare_7cf53 : am_mk rJ6_compare_7cf53 := ⟨tw_385, tw_24, by decide, by decide +kernel, by decide +kernel, by decide +kernel⟩
set_option maxRecDepth 100000 in
theorem prJ6_compare_7cf53 : am_par rJ6_compare_7cf53 2 := by unfold am_par; decide +kernel
set_option maxRecDepth 100000 in
theorem mm_LiftGroup_Building_213 : am_mS "LiftGroup$Building" 213 rJ6_compare_7cf53 2 := ⟨mkJ6_compare_7cf53, prJ6_compare_7cf53, tw_383, tw_384⟩
set_option maxRecDepth 100000 in
theorem mkX6_distanceToFirst : am_mk rX6_distanceToFirst := ⟨tw_388, tw_1, by decide, by decide +kernel, by decide +kernel, by decide +kernel⟩
set_option maxRecDepth 100000 in
theorem prX6_distanceToFirst : am_par rX6_distanceToFirst 3 := by unfold am_par; decide +kernel
set_option maxRecDepth 100000 in
theorem mm_LiftGroup_Building_218 : am_mSN "LiftGroup$Building" "LiftGroup" 218 rX6_distanceToFirst 3 := ⟨mkX6_distanceToFirst, rfl, prX6_distanceToFirst, tn_386, tw_387⟩
set_option maxRecDepth 100000 in
theorem mkX0_estimateByMoving : am_mk rX0_estimateByMoving := ⟨tw_382, tw_2, by decide, by decide +kernel, by decide +kernel, by decide +kernel⟩
set_option maxRecDepth 100000 in
theorem prX0_estimateByFormula : am_par rX0_estimateByFormula 2 := by unfold am_par; decide +kernel
set_option maxRecDepth 100000 in
theorem mm_LiftGroup_Building_221 : am_mV "LiftGroup$Building" 221 rX0_estimateByFormula "LiftGroup$Building" 2 := ⟨mkX0_estimateByFormula, rfl, prX0_estimateByFormula, rfl, tw_365, tw_366, tw_367, tw_2⟩
set_option maxRecDepth 100000 in
theorem mkX0_indexOf : am_mk rX0_indexOf := ⟨tw_1243, tw_2, by decide, by decide +kernel, by decide +kernel, by decide +kernel⟩
set_option maxRecDepth 100000 in
theorem prX0_indexOf : am_par rX0_indexOf 1 := by unfold am_par; decide +kernel
set_option maxRecDepth 100000 in
theorem mm_LiftGroup_Building_224 : am_mV "LiftGroup$Building" 224 rX0_indexOf "LiftGroup$Building" 1 := ⟨mkX0_indexOf, rfl, prX0_indexOf, rfl, tw_1240, tw_1241, tw_1242, tw_2⟩
set_option maxRecDepth 100000 in
theorem mkX0_isRiding : am_mk rX0_isRiding := ⟨tw_1239, tw_2, by decide, by decide +kernel, by decide +kernel, by decide +kernel⟩
set_option maxRecDepth 100000 in
theorem mkX0_countAssigned : am_mk rX0_countAssigned := ⟨tw_400, tw_2, by decide, by decide +kernel, by decide +kernel, by decide +kernel⟩
set_option maxRecDepth 100000 in
theorem mkX0_countWaiting : am_mk rX0_countWaiting := ⟨tw_777, tw_2, by decide, by decide +kernel, by decide +kernel, by decide +kernel⟩
set_option maxRecDepth 100000 in
theorem mkX0_waitsBefore : am_mk rX0_waitsBefore := ⟨tw_1276, tw_2, by decide, by decide +kernel, by decide +kernel, by decide +kernel⟩
set_option maxRecDepth 100000 in
theorem prX0_waitsBefore : am_par rX0_waitsBefore 2 := by unfold am_par; decide +kernel
set_option maxRecDepth 100000 in
theorem mm_LiftGroup_Building_227 : am_mV "LiftGroup$Building" 227 rX0_waitsBefore "LiftGroup$Building" 2 := ⟨mkX0_waitsBefore, rfl, prX0_waitsBefore, rfl, tw_1273, tw_1275, tp_6, tw_2⟩
set_option maxRecDepth 100000 in
theorem mkX0_countLongerWaiting : am_mk rX0_countLongerWaiting := ⟨tw_1272, tw_2, by decide, by decide +kernel, by decide +kernel, by decide +kernel⟩
set_option maxRecDepth 100000 in
theorem mkX0_spendsBefore : am_mk rX0_spendsBefore := ⟨tw_1292, tw_2, by decide, by decide +kernel, by decide +kernel, by decide +kernel⟩
set_option maxRecDepth 100000 in
theorem prX0_spendsBefore : am_par rX0_spendsBefore 2 := by unfold am_par; decide +kernel
set_option maxRecDepth 100000 in
theorem mm_LiftGroup_Building_230 : am_mV "LiftGroup$Building" 230 rX0_spendsBefore "LiftGroup$Building" 2 := ⟨mkX0_spendsBefore, rfl, prX0_spendsBefore, rfl, tw_1289, tw_1291, tp_7, tw_2⟩
set_option maxRecDepth 100000 in
theorem mkX0_countMoreEnergetic : am_mk rX0_countMoreEnergetic := ⟨tw_1288, tw_2, by decide, by decide +kernel, by decide +kernel, by decide +kernel⟩
set_option maxRecDepth 100000 in
theorem mkX0_sumOfAccounts : am_mk rX0_sumOfAccounts := ⟨tw_335, tw_2, by decide, by decide +kernel, by decide +kernel, by decide +kernel⟩
set_option maxRecDepth 100000 in
theorem mkX0_energyOfMoves : am_mk rX0_energyOfMoves := ⟨tw_343, tw_2, by decide, by decide +kernel, by decide +kernel, by decide +kernel⟩
set_option maxRecDepth 100000 in
theorem prX0_estimateByMoving : am_par rX0_estimateByMoving 2 := by unfold am_par; decide +kernel
set_option maxRecDepth 100000 in
theorem mm_LiftGroup_Building_235 : am_mV "LiftGroup$Building" 235 rX0_estimateByMoving "LiftGroup$Building" 2 := ⟨mkX0_estimateByMoving, rfl, prX0_estimateByMoving, rfl, tw_379, tw_380, tw_381, tw_2⟩
set_option maxRecDepth 100000 in
theorem mkX0_estimatesAgree : am_mk rX0_estimatesAgree := ⟨tw_364, tw_2, by decide, by decide +kernel, by decide +kernel, by decide +kernel⟩
set_option maxRecDepth 100000 in
theorem mkX0_loadsFit : am_mk rX0_loadsFit := ⟨tw_392, tw_2, by decide, by decide +kernel, by decide +kernel, by decide +kernel⟩
set_option maxRecDepth 100000 in
theorem prX0_countAssigned : am_par rX0_countAssigned 1 := by unfold am_par; decide +kernel
set_option maxRecDepth 100000 in
theorem mm_LiftGroup_Building_238 : am_mV "LiftGroup$Building" 238 rX0_countAssigned "LiftGroup$Building" 1 := ⟨mkX0_countAssigned, rfl, prX0_countAssigned, rfl, tw_397, tw_398, tw_399, tw_2⟩
set_option maxRecDepth 100000 in
theorem mkX0_assignmentsServe : am_mk rX0_assignmentsServe := ⟨tw_396, tw_2, by decide, by decide +kernel, by decide +kernel, by decide +kernel⟩
set_option maxRecDepth 100000 in
theorem ff_LiftGroup_Car_9 : am_F "LiftGroup$Car" 9 1 0 := ⟨RX1, TX1, 8, rfl, by decide, tw_84⟩
set_option maxRecDepth 100000 in
theorem ff_LiftGroup_Car_15 : am_F "LiftGroup$Car" 15 1 1 := ⟨RX1, TX1, 8, rfl, by decide, tw_87⟩
set_option maxRecDepth 100000 in
theorem ff_LiftGroup_Car_18 : am_F "LiftGroup$Car" 18 1 2 := ⟨RX1, TX1, 8, rfl, by decide, tw_90⟩
set_option maxRecDepth 100000 in
theorem ff_LiftGroup_Car_21 : am_F "LiftGroup$Car" 21 1 3 := ⟨RX1, TX1, 8, rfl, by decide, tw_93⟩
set_option maxRecDepth 100000 in
theorem ff_LiftGroup_Car_24 : am_F "LiftGroup$Car" 24 1 4 := ⟨RX1, TX1, 8, rfl, by decide, tw_96⟩
set_option maxRecDepth 100000 in
theorem ff_LiftGroup_Car_27 : am_F "LiftGroup$Car" 27 1 5 := ⟨RX1, TX1, 8, rfl, by decide, tw_99⟩
set_option maxRecDepth 100000 in
theorem ff_LiftGroup_Car_30 : am_F "LiftGroup$Car" 30 1 6 := ⟨RX1, TX1, 8, rfl, by decide, tw_102⟩
set_option maxRecDepth 100000 in
theorem ff_LiftGroup_Car_33 : am_F "LiftGroup$Car" 33 1 7 := ⟨RX1, TX1, 8, rfl, by decide, tw_105⟩
set_option maxRecDepth 100000 in
theorem ff_LiftGroup_History_11 : am_F "LiftGroup$History" 11 2 0 := ⟨RX2, TX2, 3, rfl, by decide, tw_214⟩
set_option maxRecDepth 100000 in
theorem ff_LiftGroup_History_17 : am_F "LiftGroup$History" 17 2 1 := ⟨RX2, TX2, 3, rfl, by decide, tw_215⟩
set_option maxRecDepth 100000 in
theorem ff_LiftGroup_History_21 : am_F "LiftGroup$History" 21 2 2 := ⟨RX2, TX2, 3, rfl, by decide, tw_217⟩
set_option maxRecDepth 100000 in
theorem dv_0 : am_dv 0 := by
  intro k b hk q hq ty hty
  cases hq
  match k, hk, hty with
  | 0, hk, hty => cases hk; have e1 := pp_0_0 _ rfl; cases (e1.2.symm.trans hty); rfl
  | 1, hk, hty => cases hk; have e1 := pp_0_1 _ rfl; cases (e1.2.symm.trans hty); rfl
  | 2, hk, hty => cases hk; have e1 := pp_0_2 _ rfl; cases (e1.2.symm.trans hty); rfl
  | 3, hk, hty => cases hk; have e1 := pp_0_3 _ rfl; cases (e1.2.symm.trans hty); rfl
  | 4, hk, hty => cases hk; have e1 := pp_0_4 _ rfl; cases (e1.2.symm.trans hty); rfl
  | 5, hk, hty => cases hk; have e1 := pp_0_5 _ rfl; cases (e1.2.symm.trans hty); rfl
  | 6, hk, hty => cases hk; have e1 := pp_0_6 _ rfl; cases (e1.2.symm.trans hty); rfl
  | 7, hk, hty => cases hk; have e1 := pp_0_7 _ rfl; cases (e1.2.symm.trans hty); rfl
  | 8, hk, hty => cases hk; have e1 := pp_0_8 _ rfl; cases (e1.2.symm.trans hty); rfl
  | 9, hk, hty => cases hk; have e1 := pp_0_9 _ rfl; cases (e1.2.symm.trans hty); rfl
  | k + 10, hk, hty => simp [am_kd] at hk
set_option maxRecDepth 100000 in
theorem prX0_init : am_par rX0_init 0 := by unfold am_par; decide +kernel
set_option maxRecDepth 100000 in
theorem mm_LiftGroup_History_24 : am_mI "LiftGroup$History" 24 rX0_init 0 := ⟨mkX0_init, rfl, prX0_init, tw_213, tw_43, rfl, rfl⟩
set_option maxRecDepth 100000 in
theorem mkX2_init : am_mk rX2_init := ⟨tw_209, tw_6, by decide, by decide +kernel, by decide +kernel, by decide +kernel⟩
set_option maxRecDepth 100000 in
theorem prX0_copyFrom : am_par rX0_copyFrom 1 := by unfold am_par; decide +kernel
set_option maxRecDepth 100000 in
theorem mm_LiftGroup_History_25 : am_mV "LiftGroup$History" 25 rX0_copyFrom "LiftGroup$Building" 1 := ⟨mkX0_copyFrom, rfl, prX0_copyFrom, rfl, tw_875, tw_785, tw_786, tw_2⟩
set_option maxRecDepth 100000 in
theorem mkX2_remember : am_mk rX2_remember := ⟨tw_874, tw_6, by decide, by decide +kernel, by decide +kernel, by decide +kernel⟩
set_option maxRecDepth 100000 in
theorem mkX2_takeBack : am_mk rX2_takeBack := ⟨tw_1504, tw_6, by decide, by decide +kernel, by decide +kernel, by decide +kernel⟩
set_option maxRecDepth 100000 in
theorem ff_LiftGroup_Passenger_9 : am_F "LiftGroup$Passenger" 9 3 0 := ⟨RX3, TX3, 7, rfl, by decide, tw_130⟩
set_option maxRecDepth 100000 in
theorem ff_LiftGroup_Passenger_15 : am_F "LiftGroup$Passenger" 15 3 1 := ⟨RX3, TX3, 7, rfl, by decide, tw_133⟩
set_option maxRecDepth 100000 in
theorem ff_LiftGroup_Passenger_18 : am_F "LiftGroup$Passenger" 18 3 2 := ⟨RX3, TX3, 7, rfl, by decide, tw_136⟩
set_option maxRecDepth 100000 in
theorem ff_LiftGroup_Passenger_21 : am_F "LiftGroup$Passenger" 21 3 3 := ⟨RX3, TX3, 7, rfl, by decide, tw_139⟩
set_option maxRecDepth 100000 in
theorem ff_LiftGroup_Passenger_24 : am_F "LiftGroup$Passenger" 24 3 4 := ⟨RX3, TX3, 7, rfl, by decide, tw_142⟩
set_option maxRecDepth 100000 in
theorem ff_LiftGroup_Passenger_27 : am_F "LiftGroup$Passenger" 27 3 5 := ⟨RX3, TX3, 7, rfl, by decide, tw_145⟩
set_option maxRecDepth 100000 in
theorem ff_LiftGroup_Passenger_30 : am_F "LiftGroup$Passenger" 30 3 6 := ⟨RX3, TX3, 7, rfl, by decide, tw_148⟩
set_option maxRecDepth 100000 in
theorem dv_8 : am_dv 8 := by
  intro k b hk q hq ty hty
  cases hq
  match k, hk, hty with
  | 0, hk, hty => cases hk; have e1 := pp_8_0 _ rfl; cases (e1.2.symm.trans hty); rfl
  | 1, hk, hty => cases hk; have e1 := pp_8_1 _ rfl; cases (e1.2.symm.trans hty); rfl
  | 2, hk, hty => cases hk; have e1 := pp_8_2 _ rfl; cases (e1.2.symm.trans hty); rfl
  | 3, hk, hty => cases hk; have e1 := pp_8_3 _ rfl; cases (e1.2.symm.trans hty); rfl
  | k + 4, hk, hty => simp [am_kd] at hk
set_option maxRecDepth 100000 in
theorem mkJ4_init_da8c8 : am_mk rJ4_init_da8c8 := ⟨tw_235, tw_9, by decide, by decide +kernel, by decide +kernel, by decide +kernel⟩
set_option maxRecDepth 100000 in
theorem prJ4_init_da8c8 : am_par rJ4_init_da8c8 0 := by unfold am_par; decide +kernel
set_option maxRecDepth 100000 in
theorem mm_LiftGroup_Script_11 : am_mI "LiftGroup$Script" 11 rJ4_init_da8c8 0 := ⟨mkJ4_init_da8c8, rfl, prJ4_init_da8c8, tw_233, tw_234, rfl, rfl⟩
set_option maxRecDepth 100000 in
theorem ff_LiftGroup_Script_12 : am_F "LiftGroup$Script" 12 4 0 := ⟨RX4, TX4, 5, rfl, by decide, tw_266⟩
set_option maxRecDepth 100000 in
theorem ff_LiftGroup_Script_18 : am_F "LiftGroup$Script" 18 4 1 := ⟨RX4, TX4, 5, rfl, by decide, tw_268⟩
set_option maxRecDepth 100000 in
theorem ts_LiftGroup_Script_48 : ("LiftGroup$Script", 48, "step") ∈ am_st := by decide +kernel
set_option maxRecDepth 100000 in
theorem ts_LiftGroup_Script_34 : ("LiftGroup$Script", 34, "call 0 0 N") ∈ am_st := by decide +kernel
set_option maxRecDepth 100000 in
theorem ts_LiftGroup_Script_36 : ("LiftGroup$Script", 36, "leave N") ∈ am_st := by decide +kernel
set_option maxRecDepth 100000 in
theorem ts_LiftGroup_Script_38 : ("LiftGroup$Script", 38, "hold 0 0") ∈ am_st := by decide +kernel
set_option maxRecDepth 100000 in
theorem ts_LiftGroup_Script_40 : ("LiftGroup$Script", 40, "stop 0") ∈ am_st := by decide +kernel
set_option maxRecDepth 100000 in
theorem ts_LiftGroup_Script_42 : ("LiftGroup$Script", 42, "start 0") ∈ am_st := by decide +kernel
set_option maxRecDepth 100000 in
theorem ts_LiftGroup_Script_44 : ("LiftGroup$Script", 44, "limit 0 N") ∈ am_st := by decide +kernel
set_option maxRecDepth 100000 in
theorem ts_LiftGroup_Script_46 : ("LiftGroup$Script", 46, "step N") ∈ am_st := by decide +kernel
set_option maxRecDepth 100000 in
theorem mkX4_formOf : am_mk rX4_formOf := ⟨tw_1413, tw_7, by decide, by decide +kernel, by decide +kernel, by decide +kernel⟩
set_option maxRecDepth 100000 in
theorem ff_LiftGroup_Script_27 : am_F "LiftGroup$Script" 27 4 3 := ⟨RX4, TX4, 5, rfl, by decide, tw_272⟩
set_option maxRecDepth 100000 in
theorem mkX4_endOfCommand : am_mk rX4_endOfCommand := ⟨tw_1406, tw_7, by decide, by decide +kernel, by decide +kernel, by decide +kernel⟩
set_option maxRecDepth 100000 in
theorem prX4_endOfCommand : am_par rX4_endOfCommand 1 := by unfold am_par; decide +kernel
set_option maxRecDepth 100000 in
theorem mm_LiftGroup_Script_50 : am_mV "LiftGroup$Script" 50 rX4_endOfCommand "LiftGroup$Script" 1 := ⟨mkX4_endOfCommand, rfl, prX4_endOfCommand, rfl, tw_1403, tw_1405, tp_9, tw_7⟩
set_option maxRecDepth 100000 in
theorem mkJ4_length_8abf5 : am_mk rJ4_length_8abf5 := ⟨tw_588, tw_9, by decide, by decide +kernel, by decide +kernel, by decide +kernel⟩
set_option maxRecDepth 100000 in
theorem prJ4_length_8abf5 : am_par rJ4_length_8abf5 0 := by unfold am_par; decide +kernel
set_option maxRecDepth 100000 in
theorem mm_LiftGroup_Script_54 : am_mV "LiftGroup$Script" 54 rJ4_length_8abf5 "java/lang/StringBuilder" 0 := ⟨mkJ4_length_8abf5, rfl, prJ4_length_8abf5, rfl, tw_1442, tw_587, tw_2042, tw_9⟩
set_option maxRecDepth 100000 in
theorem ff_LiftGroup_Script_31 : am_F "LiftGroup$Script" 31 4 4 := ⟨RX4, TX4, 5, rfl, by decide, tw_274⟩
set_option maxRecDepth 100000 in
theorem mkX4_read : am_mk rX4_read := ⟨tw_1402, tw_7, by decide, by decide +kernel, by decide +kernel, by decide +kernel⟩
set_option maxRecDepth 100000 in
theorem mkX4_endOfForm : am_mk rX4_endOfForm := ⟨tw_1410, tw_7, by decide, by decide +kernel, by decide +kernel, by decide +kernel⟩
set_option maxRecDepth 100000 in
theorem prX4_endOfForm : am_par rX4_endOfForm 2 := by unfold am_par; decide +kernel
set_option maxRecDepth 100000 in
theorem mm_LiftGroup_Script_58 : am_mV "LiftGroup$Script" 58 rX4_endOfForm "LiftGroup$Script" 2 := ⟨mkX4_endOfForm, rfl, prX4_endOfForm, rfl, tw_1407, tw_1409, tp_10, tw_7⟩
set_option maxRecDepth 100000 in
theorem prX4_formOf : am_par rX4_formOf 1 := by unfold am_par; decide +kernel
set_option maxRecDepth 100000 in
theorem mm_LiftGroup_Script_62 : am_mS "LiftGroup$Script" 62 rX4_formOf 1 := ⟨mkX4_formOf, prX4_formOf, tw_1411, tw_1412⟩
set_option maxRecDepth 100000 in
theorem mkJ0_length_8abf5 : am_mk rJ0_length_8abf5 := ⟨tw_500, tw_10, by decide, by decide +kernel, by decide +kernel, by decide +kernel⟩
set_option maxRecDepth 100000 in
theorem prJ0_length_8abf5 : am_par rJ0_length_8abf5 0 := by unfold am_par; decide +kernel
set_option maxRecDepth 100000 in
theorem mm_LiftGroup_Script_66 : am_mV "LiftGroup$Script" 66 rJ0_length_8abf5 "java/lang/String" 0 := ⟨mkJ0_length_8abf5, rfl, prJ0_length_8abf5, rfl, tw_1422, tw_498, tw_499, tw_10⟩
set_option maxRecDepth 100000 in
theorem mkJ4_charAt_5068e : am_mk rJ4_charAt_5068e := ⟨tw_1376, tw_9, by decide, by decide +kernel, by decide +kernel, by decide +kernel⟩
set_option maxRecDepth 100000 in
theorem prJ4_charAt_5068e : am_par rJ4_charAt_5068e 1 := by unfold am_par; decide +kernel
set_option maxRecDepth 100000 in
theorem mm_LiftGroup_Script_79 : am_mV "LiftGroup$Script" 79 rJ4_charAt_5068e "java/lang/StringBuilder" 1 := ⟨mkJ4_charAt_5068e, rfl, prJ4_charAt_5068e, rfl, tw_1443, tw_1374, tw_1375, tw_9⟩
set_option maxRecDepth 100000 in
theorem mkX4_breakOff : am_mk rX4_breakOff := ⟨tw_1451, tw_7, by decide, by decide +kernel, by decide +kernel, by decide +kernel⟩
set_option maxRecDepth 100000 in
theorem prX4_breakOff : am_par rX4_breakOff 1 := by unfold am_par; decide +kernel
set_option maxRecDepth 100000 in
theorem mm_LiftGroup_Script_80 : am_mV "LiftGroup$Script" 80 rX4_breakOff "LiftGroup$Script" 1 := ⟨mkX4_breakOff, rfl, prX4_breakOff, rfl, tw_1448, tw_1450, tp_13, tw_7⟩
set_option maxRecDepth 100000 in
theorem mkJ0_charAt_5068e : am_mk rJ0_charAt_5068e := ⟨tw_1426, tw_10, by decide, by decide +kernel, by decide +kernel, by decide +kernel⟩
set_option maxRecDepth 100000 in
theorem prJ0_charAt_5068e : am_par rJ0_charAt_5068e 1 := by unfold am_par; decide +kernel
set_option maxRecDepth 100000 in
theorem mm_LiftGroup_Script_69 : am_mV "LiftGroup$Script" 69 rJ0_charAt_5068e "java/lang/String" 1 := ⟨mkJ0_charAt_5068e, rfl, prJ0_charAt_5068e, rfl, tw_1423, tw_1424, tw_1425, tw_10⟩
set_option maxRecDepth 100000 in
theorem mkX4_endOfDigits : am_mk rX4_endOfDigits := ⟨tw_1441, tw_7, by decide, by decide +kernel, by decide +kernel, by decide +kernel⟩
set_option maxRecDepth 100000 in
theorem prX4_endOfDigits : am_par rX4_endOfDigits 2 := by unfold am_par; decide +kernel
set_option maxRecDepth 100000 in
theorem mm_LiftGroup_Script_73 : am_mV "LiftGroup$Script" 73 rX4_endOfDigits "LiftGroup$Script" 2 := ⟨mkX4_endOfDigits, rfl, prX4_endOfDigits, rfl, tw_1438, tw_1440, tp_11, tw_7⟩
set_option maxRecDepth 100000 in
theorem ff_LiftGroup_Script_24 : am_F "LiftGroup$Script" 24 4 2 := ⟨RX4, TX4, 5, rfl, by decide, tw_270⟩
set_option maxRecDepth 100000 in
theorem mkX4_valueOf : am_mk rX4_valueOf := ⟨tw_1447, tw_7, by decide, by decide +kernel, by decide +kernel, by decide +kernel⟩
set_option maxRecDepth 100000 in
theorem prX4_valueOf : am_par rX4_valueOf 2 := by unfold am_par; decide +kernel
set_option maxRecDepth 100000 in
theorem mm_LiftGroup_Script_76 : am_mV "LiftGroup$Script" 76 rX4_valueOf "LiftGroup$Script" 2 := ⟨mkX4_valueOf, rfl, prX4_valueOf, rfl, tw_1444, tw_1446, tp_12, tw_7⟩
set_option maxRecDepth 100000 in
theorem ff_LiftGroup_TripLog_9 : am_F "LiftGroup$TripLog" 9 5 0 := ⟨RX5, TX5, 5, rfl, by decide, tw_56⟩
set_option maxRecDepth 100000 in
theorem ff_LiftGroup_TripLog_15 : am_F "LiftGroup$TripLog" 15 5 1 := ⟨RX5, TX5, 5, rfl, by decide, tw_58⟩
set_option maxRecDepth 100000 in
theorem ff_LiftGroup_TripLog_18 : am_F "LiftGroup$TripLog" 18 5 2 := ⟨RX5, TX5, 5, rfl, by decide, tw_60⟩
set_option maxRecDepth 100000 in
theorem ff_LiftGroup_TripLog_21 : am_F "LiftGroup$TripLog" 21 5 3 := ⟨RX5, TX5, 5, rfl, by decide, tw_62⟩
set_option maxRecDepth 100000 in
theorem ff_LiftGroup_TripLog_25 : am_F "LiftGroup$TripLog" 25 5 4 := ⟨RX5, TX5, 5, rfl, by decide, tw_65⟩
set_option maxRecDepth 100000 in
theorem mkX5_remembers : am_mk rX5_remembers := ⟨tw_1307, tw_3, by decide, by decide +kernel, by decide +kernel, by decide +kernel⟩
set_option maxRecDepth 100000 in
theorem mkX5_placeOf : am_mk rX5_placeOf := ⟨tw_1312, tw_3, by decide, by decide +kernel, by decide +kernel, by decide +kernel⟩
set_option maxRecDepth 100000 in
theorem mm_LiftGroup_11 : am_mI "LiftGroup" 11 rX0_init 0 := ⟨mkX0_init, rfl, prX0_init, tw_42, tw_43, rfl, rfl⟩
set_option maxRecDepth 100000 in
theorem ff_LiftGroup_12 : am_F "LiftGroup" 12 6 0 := ⟨RX6, TX6, 9, rfl, by decide, tw_288⟩
set_option maxRecDepth 100000 in
theorem ff_LiftGroup_16 : am_F "LiftGroup" 16 6 1 := ⟨RX6, TX6, 9, rfl, by decide, tw_289⟩
set_option maxRecDepth 100000 in
theorem ff_LiftGroup_19 : am_F "LiftGroup" 19 6 2 := ⟨RX6, TX6, 9, rfl, by decide, tw_290⟩
set_option maxRecDepth 100000 in
theorem dv_2 : am_dv 2 := by
  intro k b hk q hq ty hty
  cases hq
  match k, hk, hty with
  | 0, hk, hty => cases hk; have e1 := pp_2_0 _ rfl; cases (e1.2.symm.trans hty); rfl
  | 1, hk, hty => cases hk; have e1 := pp_2_1 _ rfl; cases (e1.2.symm.trans hty); rfl
  | 2, hk, hty => cases hk; have e1 := pp_2_2 _ rfl; cases (e1.2.symm.trans hty); rfl
  | k + 3, hk, hty => simp [am_kd] at hk
set_option maxRecDepth 100000 in
theorem prX2_init : am_par rX2_init 0 := by unfold am_par; decide +kernel
set_option maxRecDepth 100000 in
theorem mm_LiftGroup_24 : am_mI "LiftGroup" 24 rX2_init 0 := ⟨mkX2_init, rfl, prX2_init, tw_207, tw_208, rfl, rfl⟩
set_option maxRecDepth 100000 in
theorem ff_LiftGroup_25 : am_F "LiftGroup" 25 6 3 := ⟨RX6, TX6, 9, rfl, by decide, tw_291⟩
set_option maxRecDepth 100000 in
theorem dv_4 : am_dv 4 := by
  intro k b hk q hq ty hty
  cases hq
  match k, hk, hty with
  | 0, hk, hty => cases hk; have e1 := pp_4_0 _ rfl; cases (e1.2.symm.trans hty); rfl
  | 1, hk, hty => cases hk; have e1 := pp_4_1 _ rfl; cases (e1.2.symm.trans hty); rfl
  | 2, hk, hty => cases hk; have e1 := pp_4_2 _ rfl; cases (e1.2.symm.trans hty); rfl
  | 3, hk, hty => cases hk; have e1 := pp_4_3 _ rfl; cases (e1.2.symm.trans hty); rfl
  | 4, hk, hty => cases hk; have e1 := pp_4_4 _ rfl; cases (e1.2.symm.trans hty); rfl
  | k + 5, hk, hty => simp [am_kd] at hk
set_option maxRecDepth 100000 in
theorem mkX4_init : am_mk rX4_init := ⟨tw_229, tw_7, by decide, by decide +kernel, by decide +kernel, by decide +kernel⟩
set_option maxRecDepth 100000 in
theorem prX4_init : am_par rX4_init 0 := by unfold am_par; decide +kernel
set_option maxRecDepth 100000 in
theorem mm_LiftGroup_31 : am_mIN "LiftGroup" "LiftGroup" 31 rX4_init 0 := ⟨mkX4_init, rfl, prX4_init, tn_227, tw_228, rfl, rfl⟩
set_option maxRecDepth 100000 in
theorem ff_LiftGroup_32 : am_F "LiftGroup" 32 6 4 := ⟨RX6, TX6, 9, rfl, by decide, tw_292⟩
set_option maxRecDepth 100000 in
theorem mm_LiftGroup_38 : am_mI "LiftGroup" 38 rJ4_init_da8c8 0 := ⟨mkJ4_init_da8c8, rfl, prJ4_init_da8c8, tw_287, tw_234, rfl, rfl⟩
set_option maxRecDepth 100000 in
theorem ff_LiftGroup_39 : am_F "LiftGroup" 39 6 5 := ⟨RX6, TX6, 9, rfl, by decide, tw_293⟩
set_option maxRecDepth 100000 in
theorem ff_LiftGroup_43 : am_F "LiftGroup" 43 6 6 := ⟨RX6, TX6, 9, rfl, by decide, tw_294⟩
set_option maxRecDepth 100000 in
theorem ff_LiftGroup_47 : am_F "LiftGroup" 47 6 7 := ⟨RX6, TX6, 9, rfl, by decide, tw_295⟩
set_option maxRecDepth 100000 in
theorem ff_LiftGroup_51 : am_F "LiftGroup" 51 6 8 := ⟨RX6, TX6, 9, rfl, by decide, tw_296⟩
set_option maxRecDepth 100000 in
theorem mkX6_init : am_mk rX6_init := ⟨tw_36, tw_1, by decide, by decide +kernel, by decide +kernel, by decide +kernel⟩
set_option maxRecDepth 100000 in
theorem mm_LiftGroup_54 : am_mV "LiftGroup" 54 rX0_refusalToAdd "LiftGroup$Building" 3 := ⟨mkX0_refusalToAdd, rfl, prX0_refusalToAdd, rfl, tw_810, tw_811, tw_812, tw_2⟩
set_option maxRecDepth 100000 in
theorem mkX6_throwIfRefused : am_mk rX6_throwIfRefused := ⟨tw_822, tw_1, by decide, by decide +kernel, by decide +kernel, by decide +kernel⟩
set_option maxRecDepth 100000 in
theorem prX6_throwIfRefused : am_par rX6_throwIfRefused 1 := by unfold am_par; decide +kernel
set_option maxRecDepth 100000 in
theorem mm_LiftGroup_58 : am_mS "LiftGroup" 58 rX6_throwIfRefused 1 := ⟨mkX6_throwIfRefused, prX6_throwIfRefused, tw_820, tw_821⟩
set_option maxRecDepth 100000 in
theorem prX2_remember : am_par rX2_remember 1 := by unfold am_par; decide +kernel
set_option maxRecDepth 100000 in
theorem mm_LiftGroup_62 : am_mV "LiftGroup" 62 rX2_remember "LiftGroup$History" 1 := ⟨mkX2_remember, rfl, prX2_remember, rfl, tw_871, tw_872, tw_873, tw_6⟩
set_option maxRecDepth 100000 in
theorem mm_LiftGroup_66 : am_mV "LiftGroup" 66 rX0_add "LiftGroup$Building" 3 := ⟨mkX0_add, rfl, prX0_add, rfl, tw_877, tw_878, tw_879, tw_2⟩
set_option maxRecDepth 100000 in
theorem mkX6_addPassenger : am_mk rX6_addPassenger := ⟨tw_809, tw_1, by decide, by decide +kernel, by decide +kernel, by decide +kernel⟩
set_option maxRecDepth 100000 in
theorem mm_LiftGroup_69 : am_mV "LiftGroup" 69 rX0_refusalToRemove "LiftGroup$Building" 1 := ⟨mkX0_refusalToRemove, rfl, prX0_refusalToRemove, rfl, tw_895, tw_896, tw_897, tw_2⟩
set_option maxRecDepth 100000 in
theorem mm_LiftGroup_73 : am_mV "LiftGroup" 73 rX0_remove "LiftGroup$Building" 1 := ⟨mkX0_remove, rfl, prX0_remove, rfl, tw_903, tw_904, tw_905, tw_2⟩
set_option maxRecDepth 100000 in
theorem mkX6_removePassenger : am_mk rX6_removePassenger := ⟨tw_894, tw_1, by decide, by decide +kernel, by decide +kernel, by decide +kernel⟩
set_option maxRecDepth 100000 in
theorem mm_LiftGroup_76 : am_mV "LiftGroup" 76 rX0_refusalToHold "LiftGroup$Building" 2 := ⟨mkX0_refusalToHold, rfl, prX0_refusalToHold, rfl, tw_914, tw_915, tw_916, tw_2⟩
set_option maxRecDepth 100000 in
theorem mm_LiftGroup_80 : am_mV "LiftGroup" 80 rX0_hold "LiftGroup$Building" 2 := ⟨mkX0_hold, rfl, prX0_hold, rfl, tw_921, tw_922, tw_923, tw_2⟩
set_option maxRecDepth 100000 in
theorem mkX6_holdDoors : am_mk rX6_holdDoors := ⟨tw_913, tw_1, by decide, by decide +kernel, by decide +kernel, by decide +kernel⟩
set_option maxRecDepth 100000 in
theorem mm_LiftGroup_83 : am_mV "LiftGroup" 83 rX0_refusalToStop "LiftGroup$Building" 1 := ⟨mkX0_refusalToStop, rfl, prX0_refusalToStop, rfl, tw_932, tw_933, tw_934, tw_2⟩
set_option maxRecDepth 100000 in
theorem mm_LiftGroup_86 : am_mV "LiftGroup" 86 rX0_takeOutOfService "LiftGroup$Building" 1 := ⟨mkX0_takeOutOfService, rfl, prX0_takeOutOfService, rfl, tw_936, tw_937, tw_938, tw_2⟩
set_option maxRecDepth 100000 in
theorem mkX6_stopCar : am_mk rX6_stopCar := ⟨tw_931, tw_1, by decide, by decide +kernel, by decide +kernel, by decide +kernel⟩
set_option maxRecDepth 100000 in
theorem mm_LiftGroup_89 : am_mV "LiftGroup" 89 rX0_refusalToStart "LiftGroup$Building" 1 := ⟨mkX0_refusalToStart, rfl, prX0_refusalToStart, rfl, tw_947, tw_948, tw_949, tw_2⟩
set_option maxRecDepth 100000 in
theorem mm_LiftGroup_92 : am_mV "LiftGroup" 92 rX0_putInService "LiftGroup$Building" 1 := ⟨mkX0_putInService, rfl, prX0_putInService, rfl, tw_951, tw_952, tw_953, tw_2⟩
set_option maxRecDepth 100000 in
theorem mkX6_startCar : am_mk rX6_startCar := ⟨tw_946, tw_1, by decide, by decide +kernel, by decide +kernel, by decide +kernel⟩
set_option maxRecDepth 100000 in
theorem mm_LiftGroup_95 : am_mV "LiftGroup" 95 rX0_refusalToLimit "LiftGroup$Building" 2 := ⟨mkX0_refusalToLimit, rfl, prX0_refusalToLimit, rfl, tw_963, tw_964, tw_965, tw_2⟩
set_option maxRecDepth 100000 in
theorem mm_LiftGroup_98 : am_mV "LiftGroup" 98 rX0_limit "LiftGroup$Building" 2 := ⟨mkX0_limit, rfl, prX0_limit, rfl, tw_967, tw_968, tw_969, tw_2⟩
set_option maxRecDepth 100000 in
theorem mkX6_setCapacity : am_mk rX6_setCapacity := ⟨tw_962, tw_1, by decide, by decide +kernel, by decide +kernel, by decide +kernel⟩
set_option maxRecDepth 100000 in
theorem mm_LiftGroup_101 : am_mV "LiftGroup" 101 rX0_refusalToPass "LiftGroup$Building" 1 := ⟨mkX0_refusalToPass, rfl, prX0_refusalToPass, rfl, tw_978, tw_979, tw_980, tw_2⟩
set_option maxRecDepth 100000 in
theorem mm_LiftGroup_104 : am_mV "LiftGroup" 104 rX0_letPass "LiftGroup$Building" 1 := ⟨mkX0_letPass, rfl, prX0_letPass, rfl, tw_982, tw_983, tw_984, tw_2⟩
set_option maxRecDepth 100000 in
theorem mkX6_advance : am_mk rX6_advance := ⟨tw_977, tw_1, by decide, by decide +kernel, by decide +kernel, by decide +kernel⟩
set_option maxRecDepth 100000 in
theorem ff_LiftGroup_107 : am_F "LiftGroup" 107 0 5 := ⟨RX0, TX0, 10, rfl, by decide, tw_176⟩
set_option maxRecDepth 100000 in
theorem mkX6_time : am_mk rX6_time := ⟨tw_319, tw_1, by decide, by decide +kernel, by decide +kernel, by decide +kernel⟩
set_option maxRecDepth 100000 in
theorem mkX6_checkCar : am_mk rX6_checkCar := ⟨tw_1027, tw_1, by decide, by decide +kernel, by decide +kernel, by decide +kernel⟩
set_option maxRecDepth 100000 in
theorem prX6_checkCar : am_par rX6_checkCar 1 := by unfold am_par; decide +kernel
set_option maxRecDepth 100000 in
theorem mm_LiftGroup_110 : am_mS "LiftGroup" 110 rX6_checkCar 1 := ⟨mkX6_checkCar, prX6_checkCar, tw_1025, tw_1026⟩
set_option maxRecDepth 100000 in
theorem ff_LiftGroup_113 : am_F "LiftGroup" 113 0 0 := ⟨RX0, TX0, 10, rfl, by decide, tw_167⟩
set_option maxRecDepth 100000 in
theorem ff_LiftGroup_117 : am_F "LiftGroup" 117 1 0 := ⟨RX1, TX1, 8, rfl, by decide, tw_85⟩
set_option maxRecDepth 100000 in
theorem mkX6_floor : am_mk rX6_floor := ⟨tw_1024, tw_1, by decide, by decide +kernel, by decide +kernel, by decide +kernel⟩
set_option maxRecDepth 100000 in
theorem ff_LiftGroup_122 : am_F "LiftGroup" 122 1 1 := ⟨RX1, TX1, 8, rfl, by decide, tw_88⟩
set_option maxRecDepth 100000 in
theorem mkX6_direction : am_mk rX6_direction := ⟨tw_1036, tw_1, by decide, by decide +kernel, by decide +kernel, by decide +kernel⟩
set_option maxRecDepth 100000 in
theorem ff_LiftGroup_125 : am_F "LiftGroup" 125 1 2 := ⟨RX1, TX1, 8, rfl, by decide, tw_91⟩
set_option maxRecDepth 100000 in
theorem mkX6_capacity : am_mk rX6_capacity := ⟨tw_1043, tw_1, by decide, by decide +kernel, by decide +kernel, by decide +kernel⟩
set_option maxRecDepth 100000 in
theorem ff_LiftGroup_128 : am_F "LiftGroup" 128 1 3 := ⟨RX1, TX1, 8, rfl, by decide, tw_94⟩
set_option maxRecDepth 100000 in
theorem mkX6_load : am_mk rX6_load := ⟨tw_1050, tw_1, by decide, by decide +kernel, by decide +kernel, by decide +kernel⟩
set_option maxRecDepth 100000 in
theorem ff_LiftGroup_131 : am_F "LiftGroup" 131 1 4 := ⟨RX1, TX1, 8, rfl, by decide, tw_97⟩
set_option maxRecDepth 100000 in
theorem mkX6_passengersIn : am_mk rX6_passengersIn := ⟨tw_1057, tw_1, by decide, by decide +kernel, by decide +kernel, by decide +kernel⟩
set_option maxRecDepth 100000 in
theorem mm_LiftGroup_134 : am_mV "LiftGroup" 134 rX0_countAssigned "LiftGroup$Building" 1 := ⟨mkX0_countAssigned, rfl, prX0_countAssigned, rfl, tw_1065, tw_398, tw_399, tw_2⟩
set_option maxRecDepth 100000 in
theorem mkX6_assignedTo : am_mk rX6_assignedTo := ⟨tw_1064, tw_1, by decide, by decide +kernel, by decide +kernel, by decide +kernel⟩
set_option maxRecDepth 100000 in
theorem ff_LiftGroup_137 : am_F "LiftGroup" 137 1 5 := ⟨RX1, TX1, 8, rfl, by decide, tw_101⟩
set_option maxRecDepth 100000 in
theorem mkX6_doorSteps : am_mk rX6_doorSteps := ⟨tw_1072, tw_1, by decide, by decide +kernel, by decide +kernel, by decide +kernel⟩
set_option maxRecDepth 100000 in
theorem ff_LiftGroup_140 : am_F "LiftGroup" 140 1 7 := ⟨RX1, TX1, 8, rfl, by decide, tw_107⟩
set_option maxRecDepth 100000 in
theorem mkX6_isInService : am_mk rX6_isInService := ⟨tw_1079, tw_1, by decide, by decide +kernel, by decide +kernel, by decide +kernel⟩
set_option maxRecDepth 100000 in
theorem ff_LiftGroup_143 : am_F "LiftGroup" 143 1 6 := ⟨RX1, TX1, 8, rfl, by decide, tw_103⟩
set_option maxRecDepth 100000 in
theorem mkX6_energy : am_mk rX6_energy := ⟨tw_1086, tw_1, by decide, by decide +kernel, by decide +kernel, by decide +kernel⟩
set_option maxRecDepth 100000 in
theorem mkX6_checkFloor : am_mk rX6_checkFloor := ⟨tw_1096, tw_1, by decide, by decide +kernel, by decide +kernel, by decide +kernel⟩
set_option maxRecDepth 100000 in
theorem prX6_checkFloor : am_par rX6_checkFloor 1 := by unfold am_par; decide +kernel
set_option maxRecDepth 100000 in
theorem mm_LiftGroup_146 : am_mS "LiftGroup" 146 rX6_checkFloor 1 := ⟨mkX6_checkFloor, prX6_checkFloor, tw_1094, tw_1095⟩
set_option maxRecDepth 100000 in
theorem mm_LiftGroup_149 : am_mV "LiftGroup" 149 rX0_stopsOf "LiftGroup$Building" 1 := ⟨mkX0_stopsOf, rfl, prX0_stopsOf, rfl, tw_1098, tw_373, tw_374, tw_2⟩
set_option maxRecDepth 100000 in
theorem mm_LiftGroup_152 : am_mS "LiftGroup" 152 rX6_holds 2 := ⟨mkX6_holds, prX6_holds, tw_1099, tw_995⟩
set_option maxRecDepth 100000 in
theorem mkX6_isStop : am_mk rX6_isStop := ⟨tw_1093, tw_1, by decide, by decide +kernel, by decide +kernel, by decide +kernel⟩
set_option maxRecDepth 100000 in
theorem mkJ6_bitCount_0f7a4 : am_mk rJ6_bitCount_0f7a4 := ⟨tw_1109, tw_24, by decide, by decide +kernel, by decide +kernel, by decide +kernel⟩
set_option maxRecDepth 100000 in
theorem prJ6_bitCount_0f7a4 : am_par rJ6_bitCount_0f7a4 1 := by unfold am_par; decide +kernel
set_option maxRecDepth 100000 in
theorem mm_LiftGroup_156 : am_mS "LiftGroup" 156 rJ6_bitCount_0f7a4 1 := ⟨mkJ6_bitCount_0f7a4, prJ6_bitCount_0f7a4, tw_1107, tw_1108⟩
set_option maxRecDepth 100000 in
theorem mkX6_stopCount : am_mk rX6_stopCount := ⟨tw_1106, tw_1, by decide, by decide +kernel, by decide +kernel, by decide +kernel⟩
set_option maxRecDepth 100000 in
theorem mm_LiftGroup_168 : am_mS "LiftGroup" 168 rX6_directionToChoose 2 := ⟨mkX6_directionToChoose, prX6_directionToChoose, tw_1137, tw_1011⟩
set_option maxRecDepth 100000 in
theorem mm_LiftGroup_172 : am_mS "LiftGroup" 172 rX6_distanceToFirst 3 := ⟨mkX6_distanceToFirst, prX6_distanceToFirst, tw_1013, tw_387⟩
set_option maxRecDepth 100000 in
theorem tf_NoSuchElementException : Bundle.fit "java/util/NoSuchElementException" = true ∧ (∀ n ∈ (["java/lang/RuntimeException", "java/lang/Exception"] : List String), Bundle.fit n = true) ∧ (["java/lang/RuntimeException", "java/lang/Exception"] : List String).length ≤ 3 := by decide +kernel
set_option maxRecDepth 100000 in
theorem tx_NoSuchElementException : tx_x prog_37_method_4_code 13 := by refine ⟨?_, ?_, ?_, ?_⟩ <;> decide +kernel
set_option maxRecDepth 100000 in
theorem ta_LiftGroup_165_161 : (∀ w ∈ (tx_own "LiftGroup" 165 "java/util/NoSuchElementException" 13 prog_37_method_4_code ["java/lang/RuntimeException", "java/lang/Exception"]).filter vx_no, w ∈ am_gt ∨ w ∈ am_nw ∨ tx_dc w = true) ∧ ∀ w ∈ Cond.classLink "LiftGroup" 161 "java/util/NoSuchElementException" :: Cond.initialized "java/util/NoSuchElementException" :: (tx_own "LiftGroup" 165 "java/util/NoSuchElementException" 13 prog_37_method_4_code ["java/lang/RuntimeException", "java/lang/Exception"]).filter vx_no, vx_ot w = true := by decide +kernel
set_option maxRecDepth 100000 in
theorem ts_LiftGroup_163 : ("LiftGroup", 163, "the car has no stops") ∈ am_st := by decide +kernel
set_option maxRecDepth 100000 in
theorem mkX6_nextStop : am_mk rX6_nextStop := ⟨tw_1120, tw_1, by decide, by decide +kernel, by decide +kernel, by decide +kernel⟩
set_option maxRecDepth 100000 in
theorem ff_LiftGroup_175 : am_F "LiftGroup" 175 0 3 := ⟨RX0, TX0, 10, rfl, by decide, tw_173⟩
set_option maxRecDepth 100000 in
theorem mkX6_passengerCount : am_mk rX6_passengerCount := ⟨tw_323, tw_1, by decide, by decide +kernel, by decide +kernel, by decide +kernel⟩
set_option maxRecDepth 100000 in
theorem mkX6_checkPassenger : am_mk rX6_checkPassenger := ⟨tw_1148, tw_1, by decide, by decide +kernel, by decide +kernel, by decide +kernel⟩
set_option maxRecDepth 100000 in
theorem prX6_checkPassenger : am_par rX6_checkPassenger 1 := by unfold am_par; decide +kernel
set_option maxRecDepth 100000 in
theorem mm_LiftGroup_178 : am_mV "LiftGroup" 178 rX6_checkPassenger "LiftGroup" 1 := ⟨mkX6_checkPassenger, rfl, prX6_checkPassenger, rfl, tw_1145, tw_1147, tp_5, tw_1⟩
set_option maxRecDepth 100000 in
theorem ff_LiftGroup_181 : am_F "LiftGroup" 181 0 1 := ⟨RX0, TX0, 10, rfl, by decide, tw_169⟩
set_option maxRecDepth 100000 in
theorem ff_LiftGroup_185 : am_F "LiftGroup" 185 3 0 := ⟨RX3, TX3, 7, rfl, by decide, tw_132⟩
set_option maxRecDepth 100000 in
theorem mkX6_number : am_mk rX6_number := ⟨tw_1144, tw_1, by decide, by decide +kernel, by decide +kernel, by decide +kernel⟩
set_option maxRecDepth 100000 in
theorem ff_LiftGroup_190 : am_F "LiftGroup" 190 3 1 := ⟨RX3, TX3, 7, rfl, by decide, tw_135⟩
set_option maxRecDepth 100000 in
theorem mkX6_start : am_mk rX6_start := ⟨tw_1157, tw_1, by decide, by decide +kernel, by decide +kernel, by decide +kernel⟩
set_option maxRecDepth 100000 in
theorem ff_LiftGroup_193 : am_F "LiftGroup" 193 3 2 := ⟨RX3, TX3, 7, rfl, by decide, tw_138⟩
set_option maxRecDepth 100000 in
theorem mkX6_destination : am_mk rX6_destination := ⟨tw_1164, tw_1, by decide, by decide +kernel, by decide +kernel, by decide +kernel⟩
set_option maxRecDepth 100000 in
theorem ff_LiftGroup_196 : am_F "LiftGroup" 196 3 3 := ⟨RX3, TX3, 7, rfl, by decide, tw_141⟩
set_option maxRecDepth 100000 in
theorem mkX6_weight : am_mk rX6_weight := ⟨tw_1171, tw_1, by decide, by decide +kernel, by decide +kernel, by decide +kernel⟩
set_option maxRecDepth 100000 in
theorem ff_LiftGroup_199 : am_F "LiftGroup" 199 3 4 := ⟨RX3, TX3, 7, rfl, by decide, tw_144⟩
set_option maxRecDepth 100000 in
theorem mkX6_waitingTime : am_mk rX6_waitingTime := ⟨tw_1178, tw_1, by decide, by decide +kernel, by decide +kernel, by decide +kernel⟩
set_option maxRecDepth 100000 in
theorem ff_LiftGroup_202 : am_F "LiftGroup" 202 3 6 := ⟨RX3, TX3, 7, rfl, by decide, tw_150⟩
set_option maxRecDepth 100000 in
theorem mkX6_isInCar : am_mk rX6_isInCar := ⟨tw_1185, tw_1, by decide, by decide +kernel, by decide +kernel, by decide +kernel⟩
set_option maxRecDepth 100000 in
theorem ff_LiftGroup_205 : am_F "LiftGroup" 205 3 5 := ⟨RX3, TX3, 7, rfl, by decide, tw_147⟩
set_option maxRecDepth 100000 in
theorem ts_LiftGroup_208 : ("LiftGroup", 208, "the passenger is assigned to no car") ∈ am_st := by decide +kernel
set_option maxRecDepth 100000 in
theorem mkX6_carOf : am_mk rX6_carOf := ⟨tw_1192, tw_1, by decide, by decide +kernel, by decide +kernel, by decide +kernel⟩
set_option maxRecDepth 100000 in
theorem prX0_countWaiting : am_par rX0_countWaiting 1 := by unfold am_par; decide +kernel
set_option maxRecDepth 100000 in
theorem mm_LiftGroup_210 : am_mV "LiftGroup" 210 rX0_countWaiting "LiftGroup$Building" 1 := ⟨mkX0_countWaiting, rfl, prX0_countWaiting, rfl, tw_774, tw_775, tw_776, tw_2⟩
set_option maxRecDepth 100000 in
theorem mkX6_waitingAt : am_mk rX6_waitingAt := ⟨tw_1200, tw_1, by decide, by decide +kernel, by decide +kernel, by decide +kernel⟩
set_option maxRecDepth 100000 in
theorem mm_LiftGroup_213 : am_mV "LiftGroup" 213 rX0_estimateByFormula "LiftGroup$Building" 2 := ⟨mkX0_estimateByFormula, rfl, prX0_estimateByFormula, rfl, tw_1208, tw_366, tw_367, tw_2⟩
set_option maxRecDepth 100000 in
theorem mkX6_estimate : am_mk rX6_estimate := ⟨tw_1207, tw_1, by decide, by decide +kernel, by decide +kernel, by decide +kernel⟩
set_option maxRecDepth 100000 in
theorem mm_LiftGroup_216 : am_mV "LiftGroup" 216 rX0_estimateByMoving "LiftGroup$Building" 2 := ⟨mkX0_estimateByMoving, rfl, prX0_estimateByMoving, rfl, tw_1216, tw_380, tw_381, tw_2⟩
set_option maxRecDepth 100000 in
theorem mkX6_estimateByWalk : am_mk rX6_estimateByWalk := ⟨tw_1215, tw_1, by decide, by decide +kernel, by decide +kernel, by decide +kernel⟩
set_option maxRecDepth 100000 in
theorem mm_LiftGroup_219 : am_mS "LiftGroup" 219 rX6_isWeight 1 := ⟨mkX6_isWeight, prX6_isWeight, tw_1224, tw_818⟩
set_option maxRecDepth 100000 in
theorem mm_LiftGroup_228 : am_mV "LiftGroup" 228 rX0_chooseCar "LiftGroup$Building" 2 := ⟨mkX0_chooseCar, rfl, prX0_chooseCar, rfl, tw_1226, tw_882, tw_883, tw_2⟩
set_option maxRecDepth 100000 in
theorem ts_LiftGroup_231 : ("LiftGroup", 231, "there is no car for this passenger") ∈ am_st := by decide +kernel
set_option maxRecDepth 100000 in
theorem tf_IllegalArgumentException : Bundle.fit "java/lang/IllegalArgumentException" = true ∧ (∀ n ∈ (["java/lang/RuntimeException", "java/lang/Exception"] : List String), Bundle.fit n = true) ∧ (["java/lang/RuntimeException", "java/lang/Exception"] : List String).length ≤ 3 := by decide +kernel
set_option maxRecDepth 100000 in
theorem tx_IllegalArgumentException : tx_x prog_19_method_2_code 7 := by refine ⟨?_, ?_, ?_, ?_⟩ <;> decide +kernel
set_option maxRecDepth 100000 in
theorem ta_LiftGroup_227_223 : (∀ w ∈ (tx_own "LiftGroup" 227 "java/lang/IllegalArgumentException" 7 prog_19_method_2_code ["java/lang/RuntimeException", "java/lang/Exception"]).filter vx_no, w ∈ am_gt ∨ w ∈ am_nw ∨ tx_dc w = true) ∧ ∀ w ∈ Cond.classLink "LiftGroup" 223 "java/lang/IllegalArgumentException" :: Cond.initialized "java/lang/IllegalArgumentException" :: (tx_own "LiftGroup" 227 "java/lang/IllegalArgumentException" 7 prog_19_method_2_code ["java/lang/RuntimeException", "java/lang/Exception"]).filter vx_no, vx_ot w = true := by decide +kernel
set_option maxRecDepth 100000 in
theorem ts_LiftGroup_225 : ("LiftGroup", 225, "the weight is not between 10 and 150") ∈ am_st := by decide +kernel
set_option maxRecDepth 100000 in
theorem mkX6_bestCar : am_mk rX6_bestCar := ⟨tw_1223, tw_1, by decide, by decide +kernel, by decide +kernel, by decide +kernel⟩
set_option maxRecDepth 100000 in
theorem mm_LiftGroup_233 : am_mV "LiftGroup" 233 rX0_copyFrom "LiftGroup$Building" 1 := ⟨mkX0_copyFrom, rfl, prX0_copyFrom, rfl, tw_784, tw_785, tw_786, tw_2⟩
set_option maxRecDepth 100000 in
theorem ts_LiftGroup_242 : ("LiftGroup", 242, "the passenger does not board within 90 steps") ∈ am_st := by decide +kernel
set_option maxRecDepth 100000 in
theorem mm_LiftGroup_236 : am_mV "LiftGroup" 236 rX0_step "LiftGroup$Building" 0 := ⟨mkX0_step, rfl, prX0_step, rfl, tw_1235, tw_987, tw_988, tw_2⟩
set_option maxRecDepth 100000 in
theorem prX0_isRiding : am_par rX0_isRiding 1 := by unfold am_par; decide +kernel
set_option maxRecDepth 100000 in
theorem mm_LiftGroup_239 : am_mV "LiftGroup" 239 rX0_isRiding "LiftGroup$Building" 1 := ⟨mkX0_isRiding, rfl, prX0_isRiding, rfl, tw_1236, tw_1237, tw_1238, tw_2⟩
set_option maxRecDepth 100000 in
theorem mkX6_stepsUntilBoarding : am_mk rX6_stepsUntilBoarding := ⟨tw_1234, tw_1, by decide, by decide +kernel, by decide +kernel, by decide +kernel⟩
set_option maxRecDepth 100000 in
theorem ts_LiftGroup_247 : ("LiftGroup", 247, "the passenger does not leave within 90 steps") ∈ am_st := by decide +kernel
set_option maxRecDepth 100000 in
theorem mm_LiftGroup_244 : am_mV "LiftGroup" 244 rX0_indexOf "LiftGroup$Building" 1 := ⟨mkX0_indexOf, rfl, prX0_indexOf, rfl, tw_1252, tw_1241, tw_1242, tw_2⟩
set_option maxRecDepth 100000 in
theorem mkX6_stepsUntilArrival : am_mk rX6_stepsUntilArrival := ⟨tw_1251, tw_1, by decide, by decide +kernel, by decide +kernel, by decide +kernel⟩
set_option maxRecDepth 100000 in
theorem ts_LiftGroup_249 : ("LiftGroup", 249, "the number of steps is not between 0 and 90") ∈ am_st := by decide +kernel
set_option maxRecDepth 100000 in
theorem mkX6_tripsWithin : am_mk rX6_tripsWithin := ⟨tw_1260, tw_1, by decide, by decide +kernel, by decide +kernel, by decide +kernel⟩
set_option maxRecDepth 100000 in
theorem ts_LiftGroup_254 : ("LiftGroup", 254, "there is no such rank") ∈ am_st := by decide +kernel
set_option maxRecDepth 100000 in
theorem prX0_countLongerWaiting : am_par rX0_countLongerWaiting 1 := by unfold am_par; decide +kernel
set_option maxRecDepth 100000 in
theorem mm_LiftGroup_251 : am_mV "LiftGroup" 251 rX0_countLongerWaiting "LiftGroup$Building" 1 := ⟨mkX0_countLongerWaiting, rfl, prX0_countLongerWaiting, rfl, tw_1269, tw_1270, tw_1271, tw_2⟩
set_option maxRecDepth 100000 in
theorem mkX6_passengerByWaiting : am_mk rX6_passengerByWaiting := ⟨tw_1268, tw_1, by decide, by decide +kernel, by decide +kernel, by decide +kernel⟩
set_option maxRecDepth 100000 in
theorem prX0_countMoreEnergetic : am_par rX0_countMoreEnergetic 1 := by unfold am_par; decide +kernel
set_option maxRecDepth 100000 in
theorem mm_LiftGroup_256 : am_mV "LiftGroup" 256 rX0_countMoreEnergetic "LiftGroup$Building" 1 := ⟨mkX0_countMoreEnergetic, rfl, prX0_countMoreEnergetic, rfl, tw_1285, tw_1286, tw_1287, tw_2⟩
set_option maxRecDepth 100000 in
theorem mkX6_carByEnergy : am_mk rX6_carByEnergy := ⟨tw_1284, tw_1, by decide, by decide +kernel, by decide +kernel, by decide +kernel⟩
set_option maxRecDepth 100000 in
theorem mkX6_checkTrip : am_mk rX6_checkTrip := ⟨tw_1303, tw_1, by decide, by decide +kernel, by decide +kernel, by decide +kernel⟩
set_option maxRecDepth 100000 in
theorem prX6_checkTrip : am_par rX6_checkTrip 1 := by unfold am_par; decide +kernel
set_option maxRecDepth 100000 in
theorem mm_LiftGroup_259 : am_mV "LiftGroup" 259 rX6_checkTrip "LiftGroup" 1 := ⟨mkX6_checkTrip, rfl, prX6_checkTrip, rfl, tw_1300, tw_1302, tp_8, tw_1⟩
set_option maxRecDepth 100000 in
theorem ff_LiftGroup_262 : am_F "LiftGroup" 262 0 2 := ⟨RX0, TX0, 10, rfl, by decide, tw_171⟩
set_option maxRecDepth 100000 in
theorem ff_LiftGroup_266 : am_F "LiftGroup" 266 5 0 := ⟨RX5, TX5, 5, rfl, by decide, tw_57⟩
set_option maxRecDepth 100000 in
theorem prX5_placeOf : am_par rX5_placeOf 1 := by unfold am_par; decide +kernel
set_option maxRecDepth 100000 in
theorem mm_LiftGroup_272 : am_mV "LiftGroup" 272 rX5_placeOf "LiftGroup$TripLog" 1 := ⟨mkX5_placeOf, rfl, prX5_placeOf, rfl, tw_1309, tw_1310, tw_1311, tw_3⟩
set_option maxRecDepth 100000 in
theorem mkX6_tripNumber : am_mk rX6_tripNumber := ⟨tw_1299, tw_1, by decide, by decide +kernel, by decide +kernel, by decide +kernel⟩
set_option maxRecDepth 100000 in
theorem ff_LiftGroup_275 : am_F "LiftGroup" 275 5 1 := ⟨RX5, TX5, 5, rfl, by decide, tw_59⟩
set_option maxRecDepth 100000 in
theorem mkX6_tripCar : am_mk rX6_tripCar := ⟨tw_1319, tw_1, by decide, by decide +kernel, by decide +kernel, by decide +kernel⟩
set_option maxRecDepth 100000 in
theorem ff_LiftGroup_277 : am_F "LiftGroup" 277 5 2 := ⟨RX5, TX5, 5, rfl, by decide, tw_61⟩
set_option maxRecDepth 100000 in
theorem mkX6_tripWaiting : am_mk rX6_tripWaiting := ⟨tw_1326, tw_1, by decide, by decide +kernel, by decide +kernel, by decide +kernel⟩
set_option maxRecDepth 100000 in
theorem ff_LiftGroup_280 : am_F "LiftGroup" 280 5 3 := ⟨RX5, TX5, 5, rfl, by decide, tw_64⟩
set_option maxRecDepth 100000 in
theorem mkX6_tripCount : am_mk rX6_tripCount := ⟨tw_327, tw_1, by decide, by decide +kernel, by decide +kernel, by decide +kernel⟩
set_option maxRecDepth 100000 in
theorem prX0_sumOfAccounts : am_par rX0_sumOfAccounts 0 := by unfold am_par; decide +kernel
set_option maxRecDepth 100000 in
theorem mm_LiftGroup_283 : am_mV "LiftGroup" 283 rX0_sumOfAccounts "LiftGroup$Building" 0 := ⟨mkX0_sumOfAccounts, rfl, prX0_sumOfAccounts, rfl, tw_332, tw_333, tw_334, tw_2⟩
set_option maxRecDepth 100000 in
theorem mkX6_totalEnergy : am_mk rX6_totalEnergy := ⟨tw_331, tw_1, by decide, by decide +kernel, by decide +kernel, by decide +kernel⟩
set_option maxRecDepth 100000 in
theorem prX0_energyOfMoves : am_par rX0_energyOfMoves 0 := by unfold am_par; decide +kernel
set_option maxRecDepth 100000 in
theorem mm_LiftGroup_287 : am_mV "LiftGroup" 287 rX0_energyOfMoves "LiftGroup$Building" 0 := ⟨mkX0_energyOfMoves, rfl, prX0_energyOfMoves, rfl, tw_340, tw_341, tw_342, tw_2⟩
set_option maxRecDepth 100000 in
theorem mkX6_totalEnergyByMoves : am_mk rX6_totalEnergyByMoves := ⟨tw_339, tw_1, by decide, by decide +kernel, by decide +kernel, by decide +kernel⟩
set_option maxRecDepth 100000 in
theorem ff_LiftGroup_290 : am_F "LiftGroup" 290 0 6 := ⟨RX0, TX0, 10, rfl, by decide, tw_178⟩
set_option maxRecDepth 100000 in
theorem mkX6_floorsUp : am_mk rX6_floorsUp := ⟨tw_348, tw_1, by decide, by decide +kernel, by decide +kernel, by decide +kernel⟩
set_option maxRecDepth 100000 in
theorem ff_LiftGroup_293 : am_F "LiftGroup" 293 0 7 := ⟨RX0, TX0, 10, rfl, by decide, tw_180⟩
set_option maxRecDepth 100000 in
theorem mkX6_floorsDown : am_mk rX6_floorsDown := ⟨tw_352, tw_1, by decide, by decide +kernel, by decide +kernel, by decide +kernel⟩
set_option maxRecDepth 100000 in
theorem ff_LiftGroup_296 : am_F "LiftGroup" 296 0 9 := ⟨RX0, TX0, 10, rfl, by decide, tw_183⟩
set_option maxRecDepth 100000 in
theorem mkX6_doorOpenings : am_mk rX6_doorOpenings := ⟨tw_356, tw_1, by decide, by decide +kernel, by decide +kernel, by decide +kernel⟩
set_option maxRecDepth 100000 in
theorem ff_LiftGroup_304 : am_F "LiftGroup" 304 5 4 := ⟨RX5, TX5, 5, rfl, by decide, tw_66⟩
set_option maxRecDepth 100000 in
theorem tf_ArithmeticException : Bundle.fit "java/lang/ArithmeticException" = true ∧ (∀ n ∈ (["java/lang/RuntimeException", "java/lang/Exception"] : List String), Bundle.fit n = true) ∧ (["java/lang/RuntimeException", "java/lang/Exception"] : List String).length ≤ 3 := by decide +kernel
set_option maxRecDepth 100000 in
theorem tx_ArithmeticException : tx_x prog_13_method_2_code 7 := by refine ⟨?_, ?_, ?_, ?_⟩ <;> decide +kernel
set_option maxRecDepth 100000 in
theorem ta_LiftGroup_303_299 : (∀ w ∈ (tx_own "LiftGroup" 303 "java/lang/ArithmeticException" 7 prog_13_method_2_code ["java/lang/RuntimeException", "java/lang/Exception"]).filter vx_no, w ∈ am_gt ∨ w ∈ am_nw ∨ tx_dc w = true) ∧ ∀ w ∈ Cond.classLink "LiftGroup" 299 "java/lang/ArithmeticException" :: Cond.initialized "java/lang/ArithmeticException" :: (tx_own "LiftGroup" 303 "java/lang/ArithmeticException" 7 prog_13_method_2_code ["java/lang/RuntimeException", "java/lang/Exception"]).filter vx_no, vx_ot w = true := by decide +kernel
set_option maxRecDepth 100000 in
theorem ts_LiftGroup_301 : ("LiftGroup", 301, "there was no trip") ∈ am_st := by decide +kernel
set_option maxRecDepth 100000 in
theorem mkX6_meanWaiting : am_mk rX6_meanWaiting := ⟨tw_1347, tw_1, by decide, by decide +kernel, by decide +kernel, by decide +kernel⟩
set_option maxRecDepth 100000 in
theorem mkX6_loadShare : am_mk rX6_loadShare := ⟨tw_1357, tw_1, by decide, by decide +kernel, by decide +kernel, by decide +kernel⟩
set_option maxRecDepth 100000 in
theorem prX0_estimatesAgree : am_par rX0_estimatesAgree 0 := by unfold am_par; decide +kernel
set_option maxRecDepth 100000 in
theorem mm_LiftGroup_307 : am_mV "LiftGroup" 307 rX0_estimatesAgree "LiftGroup$Building" 0 := ⟨mkX0_estimatesAgree, rfl, prX0_estimatesAgree, rfl, tw_361, tw_362, tw_363, tw_2⟩
set_option maxRecDepth 100000 in
theorem prX0_loadsFit : am_par rX0_loadsFit 0 := by unfold am_par; decide +kernel
set_option maxRecDepth 100000 in
theorem mm_LiftGroup_311 : am_mV "LiftGroup" 311 rX0_loadsFit "LiftGroup$Building" 0 := ⟨mkX0_loadsFit, rfl, prX0_loadsFit, rfl, tw_389, tw_390, tw_391, tw_2⟩
set_option maxRecDepth 100000 in
theorem prX0_assignmentsServe : am_par rX0_assignmentsServe 0 := by unfold am_par; decide +kernel
set_option maxRecDepth 100000 in
theorem mm_LiftGroup_314 : am_mV "LiftGroup" 314 rX0_assignmentsServe "LiftGroup$Building" 0 := ⟨mkX0_assignmentsServe, rfl, prX0_assignmentsServe, rfl, tw_393, tw_394, tw_395, tw_2⟩
set_option maxRecDepth 100000 in
theorem mkX6_isConsistent : am_mk rX6_isConsistent := ⟨tw_360, tw_1, by decide, by decide +kernel, by decide +kernel, by decide +kernel⟩
set_option maxRecDepth 100000 in
theorem mkJ4_setLength_d00df : am_mk rJ4_setLength_d00df := ⟨tw_408, tw_9, by decide, by decide +kernel, by decide +kernel, by decide +kernel⟩
set_option maxRecDepth 100000 in
theorem prJ4_setLength_d00df : am_par rJ4_setLength_d00df 1 := by unfold am_par; decide +kernel
set_option maxRecDepth 100000 in
theorem mm_LiftGroup_317 : am_mV "LiftGroup" 317 rJ4_setLength_d00df "java/lang/StringBuilder" 1 := ⟨mkJ4_setLength_d00df, rfl, prJ4_setLength_d00df, rfl, tw_405, tw_406, tw_407, tw_9⟩
set_option maxRecDepth 100000 in
theorem mkJ4_append_bf812 : am_mk rJ4_append_bf812 := ⟨tw_543, tw_9, by decide, by decide +kernel, by decide +kernel, by decide +kernel⟩
set_option maxRecDepth 100000 in
theorem prJ4_append_bf812 : am_par rJ4_append_bf812 1 := by unfold am_par; decide +kernel
set_option maxRecDepth 100000 in
theorem mm_LiftGroup_320 : am_mV "LiftGroup" 320 rJ4_append_bf812 "java/lang/StringBuilder" 1 := ⟨mkJ4_append_bf812, rfl, prJ4_append_bf812, rfl, tw_778, tw_541, tw_542, tw_9⟩
set_option maxRecDepth 100000 in
theorem mkJ4_append_cf468 : am_mk rJ4_append_cf468 := ⟨tw_755, tw_9, by decide, by decide +kernel, by decide +kernel, by decide +kernel⟩
set_option maxRecDepth 100000 in
theorem prJ4_append_cf468 : am_par rJ4_append_cf468 1 := by unfold am_par; decide +kernel
set_option maxRecDepth 100000 in
theorem mm_LiftGroup_324 : am_mV "LiftGroup" 324 rJ4_append_cf468 "java/lang/StringBuilder" 1 := ⟨mkJ4_append_cf468, rfl, prJ4_append_cf468, rfl, tw_752, tw_753, tw_754, tw_9⟩
set_option maxRecDepth 100000 in
theorem mm_LiftGroup_327 : am_mV "LiftGroup" 327 rJ4_length_8abf5 "java/lang/StringBuilder" 0 := ⟨mkJ4_length_8abf5, rfl, prJ4_length_8abf5, rfl, tw_779, tw_587, tw_2042, tw_9⟩
set_option maxRecDepth 100000 in
theorem mkX6_renderCar : am_mk rX6_renderCar := ⟨tw_1364, tw_1, by decide, by decide +kernel, by decide +kernel, by decide +kernel⟩
set_option maxRecDepth 100000 in
theorem mkX6_renderFloors : am_mk rX6_renderFloors := ⟨tw_404, tw_1, by decide, by decide +kernel, by decide +kernel, by decide +kernel⟩
set_option maxRecDepth 100000 in
theorem tf_IndexOutOfBoundsException : Bundle.fit "java/lang/IndexOutOfBoundsException" = true ∧ (∀ n ∈ (["java/lang/RuntimeException", "java/lang/Exception"] : List String), Bundle.fit n = true) ∧ (["java/lang/RuntimeException", "java/lang/Exception"] : List String).length ≤ 3 := by decide +kernel
set_option maxRecDepth 100000 in
theorem tx_IndexOutOfBoundsException : tx_x prog_21_method_2_code 7 := by refine ⟨?_, ?_, ?_, ?_⟩ <;> decide +kernel
set_option maxRecDepth 100000 in
theorem ta_LiftGroup_335_331 : (∀ w ∈ (tx_own "LiftGroup" 335 "java/lang/IndexOutOfBoundsException" 7 prog_21_method_2_code ["java/lang/RuntimeException", "java/lang/Exception"]).filter vx_no, w ∈ am_gt ∨ w ∈ am_nw ∨ tx_dc w = true) ∧ ∀ w ∈ Cond.classLink "LiftGroup" 331 "java/lang/IndexOutOfBoundsException" :: Cond.initialized "java/lang/IndexOutOfBoundsException" :: (tx_own "LiftGroup" 335 "java/lang/IndexOutOfBoundsException" 7 prog_21_method_2_code ["java/lang/RuntimeException", "java/lang/Exception"]).filter vx_no, vx_ot w = true := by decide +kernel
set_option maxRecDepth 100000 in
theorem ts_LiftGroup_333 : ("LiftGroup", 333, "there is no such character") ∈ am_st := by decide +kernel
set_option maxRecDepth 100000 in
theorem mm_LiftGroup_336 : am_mV "LiftGroup" 336 rJ4_charAt_5068e "java/lang/StringBuilder" 1 := ⟨mkJ4_charAt_5068e, rfl, prJ4_charAt_5068e, rfl, tw_1373, tw_1374, tw_1375, tw_9⟩
set_option maxRecDepth 100000 in
theorem mkX6_outputAt : am_mk rX6_outputAt := ⟨tw_1371, tw_1, by decide, by decide +kernel, by decide +kernel, by decide +kernel⟩
set_option maxRecDepth 100000 in
theorem ts_LiftGroup_340 : ("LiftGroup", 340, "the character code is not between 32 and 126") ∈ am_st := by decide +kernel
set_option maxRecDepth 100000 in
theorem ff_LiftGroup_342 : am_F "LiftGroup" 342 4 0 := ⟨RX4, TX4, 5, rfl, by decide, tw_267⟩
set_option maxRecDepth 100000 in
theorem tf_IllegalStateException : Bundle.fit "java/lang/IllegalStateException" = true ∧ (∀ n ∈ (["java/lang/RuntimeException", "java/lang/Exception"] : List String), Bundle.fit n = true) ∧ (["java/lang/RuntimeException", "java/lang/Exception"] : List String).length ≤ 3 := by decide +kernel
set_option maxRecDepth 100000 in
theorem tx_IllegalStateException : tx_x prog_20_method_2_code 7 := by refine ⟨?_, ?_, ?_, ?_⟩ <;> decide +kernel
set_option maxRecDepth 100000 in
theorem ta_LiftGroup_349_345 : (∀ w ∈ (tx_own "LiftGroup" 349 "java/lang/IllegalStateException" 7 prog_20_method_2_code ["java/lang/RuntimeException", "java/lang/Exception"]).filter vx_no, w ∈ am_gt ∨ w ∈ am_nw ∨ tx_dc w = true) ∧ ∀ w ∈ Cond.classLink "LiftGroup" 345 "java/lang/IllegalStateException" :: Cond.initialized "java/lang/IllegalStateException" :: (tx_own "LiftGroup" 349 "java/lang/IllegalStateException" 7 prog_20_method_2_code ["java/lang/RuntimeException", "java/lang/Exception"]).filter vx_no, vx_ot w = true := by decide +kernel
set_option maxRecDepth 100000 in
theorem ts_LiftGroup_347 : ("LiftGroup", 347, "the script buffer is full") ∈ am_st := by decide +kernel
set_option maxRecDepth 100000 in
theorem mkX6_type : am_mk rX6_type := ⟨tw_1389, tw_1, by decide, by decide +kernel, by decide +kernel, by decide +kernel⟩
set_option maxRecDepth 100000 in
theorem prX4_read : am_par rX4_read 0 := by unfold am_par; decide +kernel
set_option maxRecDepth 100000 in
theorem mm_LiftGroup_350 : am_mV "LiftGroup" 350 rX4_read "LiftGroup$Script" 0 := ⟨mkX4_read, rfl, prX4_read, rfl, tw_1399, tw_1400, tw_1401, tw_7⟩
set_option maxRecDepth 100000 in
theorem ts_LiftGroup_353 : ("LiftGroup", 353, "the script does not have the required form") ∈ am_st := by decide +kernel
set_option maxRecDepth 100000 in
theorem ff_LiftGroup_355 : am_F "LiftGroup" 355 4 3 := ⟨RX4, TX4, 5, rfl, by decide, tw_273⟩
set_option maxRecDepth 100000 in
theorem ff_LiftGroup_358 : am_F "LiftGroup" 358 4 1 := ⟨RX4, TX4, 5, rfl, by decide, tw_269⟩
set_option maxRecDepth 100000 in
theorem ff_LiftGroup_361 : am_F "LiftGroup" 361 4 2 := ⟨RX4, TX4, 5, rfl, by decide, tw_271⟩
set_option maxRecDepth 100000 in
theorem prX0_refusalToPerform : am_par rX0_refusalToPerform 2 := by unfold am_par; decide +kernel
set_option maxRecDepth 100000 in
theorem mm_LiftGroup_365 : am_mV "LiftGroup" 365 rX0_refusalToPerform "LiftGroup$Building" 2 := ⟨mkX0_refusalToPerform, rfl, prX0_refusalToPerform, rfl, tw_1454, tw_1455, tw_1456, tw_2⟩
set_option maxRecDepth 100000 in
theorem prX0_perform : am_par rX0_perform 2 := by unfold am_par; decide +kernel
set_option maxRecDepth 100000 in
theorem mm_LiftGroup_371 : am_mV "LiftGroup" 371 rX0_perform "LiftGroup$Building" 2 := ⟨mkX0_perform, rfl, prX0_perform, rfl, tw_1466, tw_1467, tw_1468, tw_2⟩
set_option maxRecDepth 100000 in
theorem ts_LiftGroup_369 : ("LiftGroup", 369, "a command of the script failed") ∈ am_st := by decide +kernel
set_option maxRecDepth 100000 in
theorem mkX6_runScript : am_mk rX6_runScript := ⟨tw_1398, tw_1, by decide, by decide +kernel, by decide +kernel, by decide +kernel⟩
set_option maxRecDepth 100000 in
theorem ts_LiftGroup_374 : ("LiftGroup", 374, "every script had the required form") ∈ am_st := by decide +kernel
set_option maxRecDepth 100000 in
theorem mkX6_errorPosition : am_mk rX6_errorPosition := ⟨tw_1483, tw_1, by decide, by decide +kernel, by decide +kernel, by decide +kernel⟩
set_option maxRecDepth 100000 in
theorem ts_LiftGroup_376 : ("LiftGroup", 376, "no command failed") ∈ am_st := by decide +kernel
set_option maxRecDepth 100000 in
theorem mkX6_failedCommand : am_mk rX6_failedCommand := ⟨tw_1491, tw_1, by decide, by decide +kernel, by decide +kernel, by decide +kernel⟩
set_option maxRecDepth 100000 in
theorem ff_LiftGroup_378 : am_F "LiftGroup" 378 2 1 := ⟨RX2, TX2, 3, rfl, by decide, tw_216⟩
set_option maxRecDepth 100000 in
theorem prX2_takeBack : am_par rX2_takeBack 1 := by unfold am_par; decide +kernel
set_option maxRecDepth 100000 in
theorem mm_LiftGroup_381 : am_mV "LiftGroup" 381 rX2_takeBack "LiftGroup$History" 1 := ⟨mkX2_takeBack, rfl, prX2_takeBack, rfl, tw_1501, tw_1502, tw_1503, tw_6⟩
set_option maxRecDepth 100000 in
theorem ts_LiftGroup_379 : ("LiftGroup", 379, "there is nothing to undo") ∈ am_st := by decide +kernel
set_option maxRecDepth 100000 in
theorem mkX6_undo : am_mk rX6_undo := ⟨tw_1499, tw_1, by decide, by decide +kernel, by decide +kernel, by decide +kernel⟩
set_option maxRecDepth 100000 in
theorem mkX6_save : am_mk rX6_save := ⟨tw_783, tw_1, by decide, by decide +kernel, by decide +kernel, by decide +kernel⟩
set_option maxRecDepth 100000 in
theorem ts_LiftGroup_384 : ("LiftGroup", 384, "there is no snapshot") ∈ am_st := by decide +kernel
set_option maxRecDepth 100000 in
theorem mkX6_restore : am_mk rX6_restore := ⟨tw_1511, tw_1, by decide, by decide +kernel, by decide +kernel, by decide +kernel⟩
set_option maxRecDepth 100000 in
theorem mm_LiftGroup_386 : am_mS "LiftGroup" 386 rX6_isCar 1 := ⟨mkX6_isCar, prX6_isCar, tw_1028, tw_919⟩
set_option maxRecDepth 100000 in
theorem ts_LiftGroup_389 : ("LiftGroup", 389, "there is no such car") ∈ am_st := by decide +kernel
set_option maxRecDepth 100000 in
theorem mm_LiftGroup_391 : am_mS "LiftGroup" 391 rX6_isFloor 1 := ⟨mkX6_isFloor, prX6_isFloor, tw_997, tw_815⟩
set_option maxRecDepth 100000 in
theorem ts_LiftGroup_394 : ("LiftGroup", 394, "there is no such floor") ∈ am_st := by decide +kernel
set_option maxRecDepth 100000 in
theorem mm_LiftGroup_396 : am_mV "LiftGroup" 396 rX0_isPassenger "LiftGroup$Building" 1 := ⟨mkX0_isPassenger, rfl, prX0_isPassenger, rfl, tw_1149, tw_900, tw_901, tw_2⟩
set_option maxRecDepth 100000 in
theorem ts_LiftGroup_399 : ("LiftGroup", 399, "there is no such passenger") ∈ am_st := by decide +kernel
set_option maxRecDepth 100000 in
theorem prX5_remembers : am_par rX5_remembers 1 := by unfold am_par; decide +kernel
set_option maxRecDepth 100000 in
theorem mm_LiftGroup_401 : am_mV "LiftGroup" 401 rX5_remembers "LiftGroup$TripLog" 1 := ⟨mkX5_remembers, rfl, prX5_remembers, rfl, tw_1304, tw_1305, tw_1306, tw_3⟩
set_option maxRecDepth 100000 in
theorem ts_LiftGroup_404 : ("LiftGroup", 404, "there is no such trip") ∈ am_st := by decide +kernel
set_option maxRecDepth 100000 in
theorem tf_UnsupportedOperationException : Bundle.fit "java/lang/UnsupportedOperationException" = true ∧ (∀ n ∈ (["java/lang/RuntimeException", "java/lang/Exception"] : List String), Bundle.fit n = true) ∧ (["java/lang/RuntimeException", "java/lang/Exception"] : List String).length ≤ 3 := by decide +kernel
set_option maxRecDepth 100000 in
theorem tx_UnsupportedOperationException : tx_x prog_33_method_2_code 7 := by refine ⟨?_, ?_, ?_, ?_⟩ <;> decide +kernel
set_option maxRecDepth 100000 in
theorem ta_LiftGroup_416_412 : (∀ w ∈ (tx_own "LiftGroup" 416 "java/lang/UnsupportedOperationException" 7 prog_33_method_2_code ["java/lang/RuntimeException", "java/lang/Exception"]).filter vx_no, w ∈ am_gt ∨ w ∈ am_nw ∨ tx_dc w = true) ∧ ∀ w ∈ Cond.classLink "LiftGroup" 412 "java/lang/UnsupportedOperationException" :: Cond.initialized "java/lang/UnsupportedOperationException" :: (tx_own "LiftGroup" 416 "java/lang/UnsupportedOperationException" 7 prog_33_method_2_code ["java/lang/RuntimeException", "java/lang/Exception"]).filter vx_no, vx_ot w = true := by decide +kernel
set_option maxRecDepth 100000 in
theorem ts_LiftGroup_414 : ("LiftGroup", 414, "the load is greater than this capacity") ∈ am_st := by decide +kernel
set_option maxRecDepth 100000 in
theorem ts_LiftGroup_410 : ("LiftGroup", 410, "the state does not allow this") ∈ am_st := by decide +kernel
set_option maxRecDepth 100000 in
theorem ts_LiftGroup_408 : ("LiftGroup", 408, "an argument is outside its range") ∈ am_st := by decide +kernel
set_option maxRecDepth 100000 in
theorem ts_LiftGroup_406 : ("LiftGroup", 406, "there is no such car or passenger") ∈ am_st := by decide +kernel
set_option maxRecDepth 100000 in
theorem ff_LiftGroupModel_7 : am_F "LiftGroupModel" 7 7 0 := ⟨RX7, TX7, 17, rfl, by decide, tw_1519⟩
set_option maxRecDepth 100000 in
theorem ff_LiftGroupModel_13 : am_F "LiftGroupModel" 13 7 1 := ⟨RX7, TX7, 17, rfl, by decide, tw_1520⟩
set_option maxRecDepth 100000 in
theorem ff_LiftGroupModel_16 : am_F "LiftGroupModel" 16 7 2 := ⟨RX7, TX7, 17, rfl, by decide, tw_1521⟩
set_option maxRecDepth 100000 in
theorem ff_LiftGroupModel_19 : am_F "LiftGroupModel" 19 7 3 := ⟨RX7, TX7, 17, rfl, by decide, tw_1522⟩
set_option maxRecDepth 100000 in
theorem ff_LiftGroupModel_22 : am_F "LiftGroupModel" 22 7 5 := ⟨RX7, TX7, 17, rfl, by decide, tw_1524⟩
set_option maxRecDepth 100000 in
theorem ff_LiftGroupModel_25 : am_F "LiftGroupModel" 25 7 7 := ⟨RX7, TX7, 17, rfl, by decide, tw_1526⟩
set_option maxRecDepth 100000 in
theorem ff_LiftGroupModel_29 : am_F "LiftGroupModel" 29 7 9 := ⟨RX7, TX7, 17, rfl, by decide, tw_1528⟩
set_option maxRecDepth 100000 in
theorem ff_LiftGroupModel_33 : am_F "LiftGroupModel" 33 7 10 := ⟨RX7, TX7, 17, rfl, by decide, tw_1529⟩
set_option maxRecDepth 100000 in
theorem ff_LiftGroupModel_36 : am_F "LiftGroupModel" 36 7 11 := ⟨RX7, TX7, 17, rfl, by decide, tw_1530⟩
set_option maxRecDepth 100000 in
theorem ff_LiftGroupModel_39 : am_F "LiftGroupModel" 39 7 16 := ⟨RX7, TX7, 17, rfl, by decide, tw_1535⟩
set_option maxRecDepth 100000 in
theorem mkX7_init : am_mk rX7_init := ⟨tw_1517, tw_12, by decide, by decide +kernel, by decide +kernel, by decide +kernel⟩
set_option maxRecDepth 100000 in
theorem ff_LiftGroupModel_42 : am_F "LiftGroupModel" 42 7 13 := ⟨RX7, TX7, 17, rfl, by decide, tw_1532⟩
set_option maxRecDepth 100000 in
theorem mkX7_thrown : am_mk rX7_thrown := ⟨tw_1575, tw_12, by decide, by decide +kernel, by decide +kernel, by decide +kernel⟩
set_option maxRecDepth 100000 in
theorem mkX7_in : am_mk rX7_in := ⟨tw_1596, tw_12, by decide, by decide +kernel, by decide +kernel, by decide +kernel⟩
set_option maxRecDepth 100000 in
theorem mkX7_size : am_mk rX7_size := ⟨tw_1623, tw_12, by decide, by decide +kernel, by decide +kernel, by decide +kernel⟩
set_option maxRecDepth 100000 in
theorem mkX7_done : am_mk rX7_done := ⟨tw_1643, tw_12, by decide, by decide +kernel, by decide +kernel, by decide +kernel⟩
set_option maxRecDepth 100000 in
theorem mkX7_fails : am_mk rX7_fails := ⟨tw_1600, tw_12, by decide, by decide +kernel, by decide +kernel, by decide +kernel⟩
set_option maxRecDepth 100000 in
theorem mkX7_copy : am_mk rX7_copy := ⟨tw_1586, tw_12, by decide, by decide +kernel, by decide +kernel, by decide +kernel⟩
set_option maxRecDepth 100000 in
theorem prX7_copy : am_par rX7_copy 4 := by unfold am_par; decide +kernel
set_option maxRecDepth 100000 in
theorem mm_LiftGroupModel_45 : am_mS "LiftGroupModel" 45 rX7_copy 4 := ⟨mkX7_copy, prX7_copy, tw_1584, tw_1585⟩
set_option maxRecDepth 100000 in
theorem mkX7_begin : am_mk rX7_begin := ⟨tw_1583, tw_12, by decide, by decide +kernel, by decide +kernel, by decide +kernel⟩
set_option maxRecDepth 100000 in
theorem ff_LiftGroupModel_49 : am_F "LiftGroupModel" 49 7 4 := ⟨RX7, TX7, 17, rfl, by decide, tw_1523⟩
set_option maxRecDepth 100000 in
theorem mkX7_kept : am_mk rX7_kept := ⟨tw_1647, tw_12, by decide, by decide +kernel, by decide +kernel, by decide +kernel⟩
set_option maxRecDepth 100000 in
theorem prX7_in : am_par rX7_in 3 := by unfold am_par; decide +kernel
set_option maxRecDepth 100000 in
theorem mm_LiftGroupModel_52 : am_mS "LiftGroupModel" 52 rX7_in 3 := ⟨mkX7_in, prX7_in, tw_1594, tw_1595⟩
set_option maxRecDepth 100000 in
theorem mkX7_isCar : am_mk rX7_isCar := ⟨tw_1674, tw_12, by decide, by decide +kernel, by decide +kernel, by decide +kernel⟩
set_option maxRecDepth 100000 in
theorem mkX7_isFloor : am_mk rX7_isFloor := ⟨tw_1593, tw_12, by decide, by decide +kernel, by decide +kernel, by decide +kernel⟩
set_option maxRecDepth 100000 in
theorem mkX7_isPassenger : am_mk rX7_isPassenger := ⟨tw_1659, tw_12, by decide, by decide +kernel, by decide +kernel, by decide +kernel⟩
set_option maxRecDepth 100000 in
theorem mkX7_isIn : am_mk rX7_isIn := ⟨tw_1616, tw_12, by decide, by decide +kernel, by decide +kernel, by decide +kernel⟩
set_option maxRecDepth 100000 in
theorem mkX7_awaits : am_mk rX7_awaits := ⟨tw_1639, tw_12, by decide, by decide +kernel, by decide +kernel, by decide +kernel⟩
set_option maxRecDepth 100000 in
theorem prX7_isIn : am_par rX7_isIn 2 := by unfold am_par; decide +kernel
set_option maxRecDepth 100000 in
theorem mm_LiftGroupModel_56 : am_mV "LiftGroupModel" 56 rX7_isIn "LiftGroupModel" 2 := ⟨mkX7_isIn, rfl, prX7_isIn, rfl, tw_1613, tw_1615, tp_20, tw_12⟩
set_option maxRecDepth 100000 in
theorem mkX7_loadOf : am_mk rX7_loadOf := ⟨tw_1612, tw_12, by decide, by decide +kernel, by decide +kernel, by decide +kernel⟩
set_option maxRecDepth 100000 in
theorem mkX7_inside : am_mk rX7_inside := ⟨tw_1627, tw_12, by decide, by decide +kernel, by decide +kernel, by decide +kernel⟩
set_option maxRecDepth 100000 in
theorem prX7_awaits : am_par rX7_awaits 2 := by unfold am_par; decide +kernel
set_option maxRecDepth 100000 in
theorem mm_LiftGroupModel_60 : am_mV "LiftGroupModel" 60 rX7_awaits "LiftGroupModel" 2 := ⟨mkX7_awaits, rfl, prX7_awaits, rfl, tw_1636, tw_1638, tp_25, tw_12⟩
set_option maxRecDepth 100000 in
theorem mkX7_stopsAt : am_mk rX7_stopsAt := ⟨tw_1635, tw_12, by decide, by decide +kernel, by decide +kernel, by decide +kernel⟩
set_option maxRecDepth 100000 in
theorem prX7_isFloor : am_par rX7_isFloor 1 := by unfold am_par; decide +kernel
set_option maxRecDepth 100000 in
theorem mm_LiftGroupModel_63 : am_mS "LiftGroupModel" 63 rX7_isFloor 1 := ⟨mkX7_isFloor, prX7_isFloor, tw_1591, tw_1592⟩
set_option maxRecDepth 100000 in
theorem prX7_stopsAt : am_par rX7_stopsAt 2 := by unfold am_par; decide +kernel
set_option maxRecDepth 100000 in
theorem mm_LiftGroupModel_67 : am_mV "LiftGroupModel" 67 rX7_stopsAt "LiftGroupModel" 2 := ⟨mkX7_stopsAt, rfl, prX7_stopsAt, rfl, tw_1632, tw_1634, tp_24, tw_12⟩
set_option maxRecDepth 100000 in
theorem mkX7_nearest : am_mk rX7_nearest := ⟨tw_1738, tw_12, by decide, by decide +kernel, by decide +kernel, by decide +kernel⟩
set_option maxRecDepth 100000 in
theorem mkX7_farthest : am_mk rX7_farthest := ⟨tw_1631, tw_12, by decide, by decide +kernel, by decide +kernel, by decide +kernel⟩
set_option maxRecDepth 100000 in
theorem prX7_size : am_par rX7_size 1 := by unfold am_par; decide +kernel
set_option maxRecDepth 100000 in
theorem mm_LiftGroupModel_70 : am_mS "LiftGroupModel" 70 rX7_size 1 := ⟨mkX7_size, prX7_size, tw_1621, tw_1622⟩
set_option maxRecDepth 100000 in
theorem prX7_inside : am_par rX7_inside 1 := by unfold am_par; decide +kernel
set_option maxRecDepth 100000 in
theorem mm_LiftGroupModel_74 : am_mV "LiftGroupModel" 74 rX7_inside "LiftGroupModel" 1 := ⟨mkX7_inside, rfl, prX7_inside, rfl, tw_1624, tw_1626, tp_22, tw_12⟩
set_option maxRecDepth 100000 in
theorem prX7_farthest : am_par rX7_farthest 2 := by unfold am_par; decide +kernel
set_option maxRecDepth 100000 in
theorem mm_LiftGroupModel_77 : am_mV "LiftGroupModel" 77 rX7_farthest "LiftGroupModel" 2 := ⟨mkX7_farthest, rfl, prX7_farthest, rfl, tw_1628, tw_1630, tp_23, tw_12⟩
set_option maxRecDepth 100000 in
theorem mkX7_estimated : am_mk rX7_estimated := ⟨tw_1620, tw_12, by decide, by decide +kernel, by decide +kernel, by decide +kernel⟩
set_option maxRecDepth 100000 in
theorem prX7_loadOf : am_par rX7_loadOf 1 := by unfold am_par; decide +kernel
set_option maxRecDepth 100000 in
theorem mm_LiftGroupModel_81 : am_mV "LiftGroupModel" 81 rX7_loadOf "LiftGroupModel" 1 := ⟨mkX7_loadOf, rfl, prX7_loadOf, rfl, tw_1609, tw_1611, tp_19, tw_12⟩
set_option maxRecDepth 100000 in
theorem prX7_estimated : am_par rX7_estimated 2 := by unfold am_par; decide +kernel
set_option maxRecDepth 100000 in
theorem mm_LiftGroupModel_84 : am_mV "LiftGroupModel" 84 rX7_estimated "LiftGroupModel" 2 := ⟨mkX7_estimated, rfl, prX7_estimated, rfl, tw_1617, tw_1619, tp_21, tw_12⟩
set_option maxRecDepth 100000 in
theorem mkX7_best : am_mk rX7_best := ⟨tw_1608, tw_12, by decide, by decide +kernel, by decide +kernel, by decide +kernel⟩
set_option maxRecDepth 100000 in
theorem prX7_best : am_par rX7_best 2 := by unfold am_par; decide +kernel
set_option maxRecDepth 100000 in
theorem mm_LiftGroupModel_87 : am_mV "LiftGroupModel" 87 rX7_best "LiftGroupModel" 2 := ⟨mkX7_best, rfl, prX7_best, rfl, tw_1605, tw_1607, tp_18, tw_12⟩
set_option maxRecDepth 100000 in
theorem mkX7_assigns : am_mk rX7_assigns := ⟨tw_1604, tw_12, by decide, by decide +kernel, by decide +kernel, by decide +kernel⟩
set_option maxRecDepth 100000 in
theorem prX7_fails : am_par rX7_fails 1 := by unfold am_par; decide +kernel
set_option maxRecDepth 100000 in
theorem mm_LiftGroupModel_90 : am_mV "LiftGroupModel" 90 rX7_fails "LiftGroupModel" 1 := ⟨mkX7_fails, rfl, prX7_fails, rfl, tw_1597, tw_1599, tp_16, tw_12⟩
set_option maxRecDepth 100000 in
theorem prX7_assigns : am_par rX7_assigns 1 := by unfold am_par; decide +kernel
set_option maxRecDepth 100000 in
theorem mm_LiftGroupModel_93 : am_mV "LiftGroupModel" 93 rX7_assigns "LiftGroupModel" 1 := ⟨mkX7_assigns, rfl, prX7_assigns, rfl, tw_1601, tw_1603, tp_17, tw_12⟩
set_option maxRecDepth 100000 in
theorem prX7_done : am_par rX7_done 1 := by unfold am_par; decide +kernel
set_option maxRecDepth 100000 in
theorem mm_LiftGroupModel_97 : am_mV "LiftGroupModel" 97 rX7_done "LiftGroupModel" 1 := ⟨mkX7_done, rfl, prX7_done, rfl, tw_1640, tw_1642, tp_26, tw_12⟩
set_option maxRecDepth 100000 in
theorem mkX7_adds : am_mk rX7_adds := ⟨tw_1590, tw_12, by decide, by decide +kernel, by decide +kernel, by decide +kernel⟩
set_option maxRecDepth 100000 in
theorem prX7_begin : am_par rX7_begin 0 := by unfold am_par; decide +kernel
set_option maxRecDepth 100000 in
theorem mm_LiftGroupModel_100 : am_mV "LiftGroupModel" 100 rX7_begin "LiftGroupModel" 0 := ⟨mkX7_begin, rfl, prX7_begin, rfl, tw_1580, tw_1582, tp_14, tw_12⟩
set_option maxRecDepth 100000 in
theorem prX7_adds : am_par rX7_adds 3 := by unfold am_par; decide +kernel
set_option maxRecDepth 100000 in
theorem mm_LiftGroupModel_103 : am_mV "LiftGroupModel" 103 rX7_adds "LiftGroupModel" 3 := ⟨mkX7_adds, rfl, prX7_adds, rfl, tw_1587, tw_1589, tp_15, tw_12⟩
set_option maxRecDepth 100000 in
theorem prX7_kept : am_par rX7_kept 1 := by unfold am_par; decide +kernel
set_option maxRecDepth 100000 in
theorem mm_LiftGroupModel_107 : am_mV "LiftGroupModel" 107 rX7_kept "LiftGroupModel" 1 := ⟨mkX7_kept, rfl, prX7_kept, rfl, tw_1644, tw_1646, tp_27, tw_12⟩
set_option maxRecDepth 100000 in
theorem mkX7_addPassenger : am_mk rX7_addPassenger := ⟨tw_1579, tw_12, by decide, by decide +kernel, by decide +kernel, by decide +kernel⟩
set_option maxRecDepth 100000 in
theorem mkX7_drops : am_mk rX7_drops := ⟨tw_1663, tw_12, by decide, by decide +kernel, by decide +kernel, by decide +kernel⟩
set_option maxRecDepth 100000 in
theorem prX7_isPassenger : am_par rX7_isPassenger 1 := by unfold am_par; decide +kernel
set_option maxRecDepth 100000 in
theorem mm_LiftGroupModel_110 : am_mV "LiftGroupModel" 110 rX7_isPassenger "LiftGroupModel" 1 := ⟨mkX7_isPassenger, rfl, prX7_isPassenger, rfl, tw_1656, tw_1658, tp_29, tw_12⟩
set_option maxRecDepth 100000 in
theorem prX7_drops : am_par rX7_drops 1 := by unfold am_par; decide +kernel
set_option maxRecDepth 100000 in
theorem mm_LiftGroupModel_113 : am_mV "LiftGroupModel" 113 rX7_drops "LiftGroupModel" 1 := ⟨mkX7_drops, rfl, prX7_drops, rfl, tw_1660, tw_1662, tp_30, tw_12⟩
set_option maxRecDepth 100000 in
theorem mkX7_removes : am_mk rX7_removes := ⟨tw_1655, tw_12, by decide, by decide +kernel, by decide +kernel, by decide +kernel⟩
set_option maxRecDepth 100000 in
theorem prX7_removes : am_par rX7_removes 1 := by unfold am_par; decide +kernel
set_option maxRecDepth 100000 in
theorem mm_LiftGroupModel_116 : am_mV "LiftGroupModel" 116 rX7_removes "LiftGroupModel" 1 := ⟨mkX7_removes, rfl, prX7_removes, rfl, tw_1652, tw_1654, tp_28, tw_12⟩
set_option maxRecDepth 100000 in
theorem mkX7_removePassenger : am_mk rX7_removePassenger := ⟨tw_1651, tw_12, by decide, by decide +kernel, by decide +kernel, by decide +kernel⟩
set_option maxRecDepth 100000 in
theorem prX7_isCar : am_par rX7_isCar 1 := by unfold am_par; decide +kernel
set_option maxRecDepth 100000 in
theorem mm_LiftGroupModel_119 : am_mS "LiftGroupModel" 119 rX7_isCar 1 := ⟨mkX7_isCar, prX7_isCar, tw_1672, tw_1673⟩
set_option maxRecDepth 100000 in
theorem mkX7_holds : am_mk rX7_holds := ⟨tw_1671, tw_12, by decide, by decide +kernel, by decide +kernel, by decide +kernel⟩
set_option maxRecDepth 100000 in
theorem prX7_holds : am_par rX7_holds 2 := by unfold am_par; decide +kernel
set_option maxRecDepth 100000 in
theorem mm_LiftGroupModel_122 : am_mV "LiftGroupModel" 122 rX7_holds "LiftGroupModel" 2 := ⟨mkX7_holds, rfl, prX7_holds, rfl, tw_1668, tw_1670, tp_31, tw_12⟩
set_option maxRecDepth 100000 in
theorem mkX7_holdDoors : am_mk rX7_holdDoors := ⟨tw_1667, tw_12, by decide, by decide +kernel, by decide +kernel, by decide +kernel⟩
set_option maxRecDepth 100000 in
theorem mkX7_stops : am_mk rX7_stops := ⟨tw_1682, tw_12, by decide, by decide +kernel, by decide +kernel, by decide +kernel⟩
set_option maxRecDepth 100000 in
theorem prX7_stops : am_par rX7_stops 1 := by unfold am_par; decide +kernel
set_option maxRecDepth 100000 in
theorem mm_LiftGroupModel_125 : am_mV "LiftGroupModel" 125 rX7_stops "LiftGroupModel" 1 := ⟨mkX7_stops, rfl, prX7_stops, rfl, tw_1679, tw_1681, tp_32, tw_12⟩
set_option maxRecDepth 100000 in
theorem mkX7_stopCar : am_mk rX7_stopCar := ⟨tw_1678, tw_12, by decide, by decide +kernel, by decide +kernel, by decide +kernel⟩
set_option maxRecDepth 100000 in
theorem mkX7_starts : am_mk rX7_starts := ⟨tw_1690, tw_12, by decide, by decide +kernel, by decide +kernel, by decide +kernel⟩
set_option maxRecDepth 100000 in
theorem prX7_starts : am_par rX7_starts 1 := by unfold am_par; decide +kernel
set_option maxRecDepth 100000 in
theorem mm_LiftGroupModel_128 : am_mV "LiftGroupModel" 128 rX7_starts "LiftGroupModel" 1 := ⟨mkX7_starts, rfl, prX7_starts, rfl, tw_1687, tw_1689, tp_33, tw_12⟩
set_option maxRecDepth 100000 in
theorem mkX7_startCar : am_mk rX7_startCar := ⟨tw_1686, tw_12, by decide, by decide +kernel, by decide +kernel, by decide +kernel⟩
set_option maxRecDepth 100000 in
theorem mkX7_limits : am_mk rX7_limits := ⟨tw_1698, tw_12, by decide, by decide +kernel, by decide +kernel, by decide +kernel⟩
set_option maxRecDepth 100000 in
theorem prX7_limits : am_par rX7_limits 2 := by unfold am_par; decide +kernel
set_option maxRecDepth 100000 in
theorem mm_LiftGroupModel_131 : am_mV "LiftGroupModel" 131 rX7_limits "LiftGroupModel" 2 := ⟨mkX7_limits, rfl, prX7_limits, rfl, tw_1695, tw_1697, tp_34, tw_12⟩
set_option maxRecDepth 100000 in
theorem mkX7_setCapacity : am_mk rX7_setCapacity := ⟨tw_1694, tw_12, by decide, by decide +kernel, by decide +kernel, by decide +kernel⟩
set_option maxRecDepth 100000 in
theorem mkX7_logs : am_mk rX7_logs := ⟨tw_1722, tw_12, by decide, by decide +kernel, by decide +kernel, by decide +kernel⟩
set_option maxRecDepth 100000 in
theorem prX7_logs : am_par rX7_logs 2 := by unfold am_par; decide +kernel
set_option maxRecDepth 100000 in
theorem mm_LiftGroupModel_134 : am_mV "LiftGroupModel" 134 rX7_logs "LiftGroupModel" 2 := ⟨mkX7_logs, rfl, prX7_logs, rfl, tw_1719, tw_1721, tp_39, tw_12⟩
set_option maxRecDepth 100000 in
theorem mkX7_alight : am_mk rX7_alight := ⟨tw_1718, tw_12, by decide, by decide +kernel, by decide +kernel, by decide +kernel⟩
set_option maxRecDepth 100000 in
theorem mkX7_board : am_mk rX7_board := ⟨tw_1726, tw_12, by decide, by decide +kernel, by decide +kernel, by decide +kernel⟩
set_option maxRecDepth 100000 in
theorem prX7_nearest : am_par rX7_nearest 2 := by unfold am_par; decide +kernel
set_option maxRecDepth 100000 in
theorem mm_LiftGroupModel_138 : am_mV "LiftGroupModel" 138 rX7_nearest "LiftGroupModel" 2 := ⟨mkX7_nearest, rfl, prX7_nearest, rfl, tw_1735, tw_1737, tp_43, tw_12⟩
set_option maxRecDepth 100000 in
theorem mkX7_chosen : am_mk rX7_chosen := ⟨tw_1734, tw_12, by decide, by decide +kernel, by decide +kernel, by decide +kernel⟩
set_option maxRecDepth 100000 in
theorem prX7_chosen : am_par rX7_chosen 1 := by unfold am_par; decide +kernel
set_option maxRecDepth 100000 in
theorem mm_LiftGroupModel_141 : am_mV "LiftGroupModel" 141 rX7_chosen "LiftGroupModel" 1 := ⟨mkX7_chosen, rfl, prX7_chosen, rfl, tw_1731, tw_1733, tp_42, tw_12⟩
set_option maxRecDepth 100000 in
theorem mkX7_moves : am_mk rX7_moves := ⟨tw_1730, tw_12, by decide, by decide +kernel, by decide +kernel, by decide +kernel⟩
set_option maxRecDepth 100000 in
theorem prX7_moves : am_par rX7_moves 1 := by unfold am_par; decide +kernel
set_option maxRecDepth 100000 in
theorem mm_LiftGroupModel_150 : am_mV "LiftGroupModel" 150 rX7_moves "LiftGroupModel" 1 := ⟨mkX7_moves, rfl, prX7_moves, rfl, tw_1727, tw_1729, tp_41, tw_12⟩
set_option maxRecDepth 100000 in
theorem prX7_alight : am_par rX7_alight 1 := by unfold am_par; decide +kernel
set_option maxRecDepth 100000 in
theorem mm_LiftGroupModel_144 : am_mV "LiftGroupModel" 144 rX7_alight "LiftGroupModel" 1 := ⟨mkX7_alight, rfl, prX7_alight, rfl, tw_1715, tw_1717, tp_38, tw_12⟩
set_option maxRecDepth 100000 in
theorem prX7_board : am_par rX7_board 1 := by unfold am_par; decide +kernel
set_option maxRecDepth 100000 in
theorem mm_LiftGroupModel_147 : am_mV "LiftGroupModel" 147 rX7_board "LiftGroupModel" 1 := ⟨mkX7_board, rfl, prX7_board, rfl, tw_1723, tw_1725, tp_40, tw_12⟩
set_option maxRecDepth 100000 in
theorem mkX7_acts : am_mk rX7_acts := ⟨tw_1714, tw_12, by decide, by decide +kernel, by decide +kernel, by decide +kernel⟩
set_option maxRecDepth 100000 in
theorem prX7_acts : am_par rX7_acts 1 := by unfold am_par; decide +kernel
set_option maxRecDepth 100000 in
theorem mm_LiftGroupModel_153 : am_mV "LiftGroupModel" 153 rX7_acts "LiftGroupModel" 1 := ⟨mkX7_acts, rfl, prX7_acts, rfl, tw_1711, tw_1713, tp_37, tw_12⟩
set_option maxRecDepth 100000 in
theorem mkX7_step : am_mk rX7_step := ⟨tw_1710, tw_12, by decide, by decide +kernel, by decide +kernel, by decide +kernel⟩
set_option maxRecDepth 100000 in
theorem prX7_step : am_par rX7_step 0 := by unfold am_par; decide +kernel
set_option maxRecDepth 100000 in
theorem mm_LiftGroupModel_156 : am_mV "LiftGroupModel" 156 rX7_step "LiftGroupModel" 0 := ⟨mkX7_step, rfl, prX7_step, rfl, tw_1707, tw_1709, tp_36, tw_12⟩
set_option maxRecDepth 100000 in
theorem mkX7_advances : am_mk rX7_advances := ⟨tw_1706, tw_12, by decide, by decide +kernel, by decide +kernel, by decide +kernel⟩
set_option maxRecDepth 100000 in
theorem prX7_advances : am_par rX7_advances 1 := by unfold am_par; decide +kernel
set_option maxRecDepth 100000 in
theorem mm_LiftGroupModel_159 : am_mV "LiftGroupModel" 159 rX7_advances "LiftGroupModel" 1 := ⟨mkX7_advances, rfl, prX7_advances, rfl, tw_1703, tw_1705, tp_35, tw_12⟩
set_option maxRecDepth 100000 in
theorem mkX7_advance : am_mk rX7_advance := ⟨tw_1702, tw_12, by decide, by decide +kernel, by decide +kernel, by decide +kernel⟩
set_option maxRecDepth 100000 in
theorem mkX7_time : am_mk rX7_time := ⟨tw_1742, tw_12, by decide, by decide +kernel, by decide +kernel, by decide +kernel⟩
set_option maxRecDepth 100000 in
theorem mkX7_carNumber : am_mk rX7_carNumber := ⟨tw_1750, tw_12, by decide, by decide +kernel, by decide +kernel, by decide +kernel⟩
set_option maxRecDepth 100000 in
theorem prX7_carNumber : am_par rX7_carNumber 2 := by unfold am_par; decide +kernel
set_option maxRecDepth 100000 in
theorem mm_LiftGroupModel_162 : am_mV "LiftGroupModel" 162 rX7_carNumber "LiftGroupModel" 2 := ⟨mkX7_carNumber, rfl, prX7_carNumber, rfl, tw_1747, tw_1749, tp_44, tw_12⟩
set_option maxRecDepth 100000 in
theorem mkX7_floor : am_mk rX7_floor := ⟨tw_1746, tw_12, by decide, by decide +kernel, by decide +kernel, by decide +kernel⟩
set_option maxRecDepth 100000 in
theorem mkX7_direction : am_mk rX7_direction := ⟨tw_1754, tw_12, by decide, by decide +kernel, by decide +kernel, by decide +kernel⟩
set_option maxRecDepth 100000 in
theorem mkX7_capacity : am_mk rX7_capacity := ⟨tw_1758, tw_12, by decide, by decide +kernel, by decide +kernel, by decide +kernel⟩
set_option maxRecDepth 100000 in
theorem mkX7_load : am_mk rX7_load := ⟨tw_1762, tw_12, by decide, by decide +kernel, by decide +kernel, by decide +kernel⟩
set_option maxRecDepth 100000 in
theorem mkX7_passengersIn : am_mk rX7_passengersIn := ⟨tw_1766, tw_12, by decide, by decide +kernel, by decide +kernel, by decide +kernel⟩
set_option maxRecDepth 100000 in
theorem mkX7_assignedTo : am_mk rX7_assignedTo := ⟨tw_1770, tw_12, by decide, by decide +kernel, by decide +kernel, by decide +kernel⟩
set_option maxRecDepth 100000 in
theorem mkX7_doorSteps : am_mk rX7_doorSteps := ⟨tw_1774, tw_12, by decide, by decide +kernel, by decide +kernel, by decide +kernel⟩
set_option maxRecDepth 100000 in
theorem mkX7_isInService : am_mk rX7_isInService := ⟨tw_1778, tw_12, by decide, by decide +kernel, by decide +kernel, by decide +kernel⟩
set_option maxRecDepth 100000 in
theorem mkX7_energy : am_mk rX7_energy := ⟨tw_1782, tw_12, by decide, by decide +kernel, by decide +kernel, by decide +kernel⟩
set_option maxRecDepth 100000 in
theorem mkX7_isStop : am_mk rX7_isStop := ⟨tw_1786, tw_12, by decide, by decide +kernel, by decide +kernel, by decide +kernel⟩
set_option maxRecDepth 100000 in
theorem mkX7_countStops : am_mk rX7_countStops := ⟨tw_1794, tw_12, by decide, by decide +kernel, by decide +kernel, by decide +kernel⟩
set_option maxRecDepth 100000 in
theorem prX7_countStops : am_par rX7_countStops 1 := by unfold am_par; decide +kernel
set_option maxRecDepth 100000 in
theorem mm_LiftGroupModel_165 : am_mV "LiftGroupModel" 165 rX7_countStops "LiftGroupModel" 1 := ⟨mkX7_countStops, rfl, prX7_countStops, rfl, tw_1791, tw_1793, tp_45, tw_12⟩
set_option maxRecDepth 100000 in
theorem mkX7_stopCount : am_mk rX7_stopCount := ⟨tw_1790, tw_12, by decide, by decide +kernel, by decide +kernel, by decide +kernel⟩
set_option maxRecDepth 100000 in
theorem mkX7_nextStop : am_mk rX7_nextStop := ⟨tw_1798, tw_12, by decide, by decide +kernel, by decide +kernel, by decide +kernel⟩
set_option maxRecDepth 100000 in
theorem mkX7_passengerCount : am_mk rX7_passengerCount := ⟨tw_1802, tw_12, by decide, by decide +kernel, by decide +kernel, by decide +kernel⟩
set_option maxRecDepth 100000 in
theorem mkX7_passengerNumber : am_mk rX7_passengerNumber := ⟨tw_1810, tw_12, by decide, by decide +kernel, by decide +kernel, by decide +kernel⟩
set_option maxRecDepth 100000 in
theorem prX7_passengerNumber : am_par rX7_passengerNumber 2 := by unfold am_par; decide +kernel
set_option maxRecDepth 100000 in
theorem mm_LiftGroupModel_168 : am_mV "LiftGroupModel" 168 rX7_passengerNumber "LiftGroupModel" 2 := ⟨mkX7_passengerNumber, rfl, prX7_passengerNumber, rfl, tw_1807, tw_1809, tp_46, tw_12⟩
set_option maxRecDepth 100000 in
theorem mkX7_number : am_mk rX7_number := ⟨tw_1806, tw_12, by decide, by decide +kernel, by decide +kernel, by decide +kernel⟩
set_option maxRecDepth 100000 in
theorem mkX7_start : am_mk rX7_start := ⟨tw_1814, tw_12, by decide, by decide +kernel, by decide +kernel, by decide +kernel⟩
set_option maxRecDepth 100000 in
theorem mkX7_destination : am_mk rX7_destination := ⟨tw_1818, tw_12, by decide, by decide +kernel, by decide +kernel, by decide +kernel⟩
set_option maxRecDepth 100000 in
theorem mkX7_weight : am_mk rX7_weight := ⟨tw_1822, tw_12, by decide, by decide +kernel, by decide +kernel, by decide +kernel⟩
set_option maxRecDepth 100000 in
theorem mkX7_waitingTime : am_mk rX7_waitingTime := ⟨tw_1826, tw_12, by decide, by decide +kernel, by decide +kernel, by decide +kernel⟩
set_option maxRecDepth 100000 in
theorem mkX7_isInCar : am_mk rX7_isInCar := ⟨tw_1830, tw_12, by decide, by decide +kernel, by decide +kernel, by decide +kernel⟩
set_option maxRecDepth 100000 in
theorem mkX7_carOf : am_mk rX7_carOf := ⟨tw_1834, tw_12, by decide, by decide +kernel, by decide +kernel, by decide +kernel⟩
set_option maxRecDepth 100000 in
theorem mkX7_waitingOn : am_mk rX7_waitingOn := ⟨tw_1842, tw_12, by decide, by decide +kernel, by decide +kernel, by decide +kernel⟩
set_option maxRecDepth 100000 in
theorem prX7_waitingOn : am_par rX7_waitingOn 1 := by unfold am_par; decide +kernel
set_option maxRecDepth 100000 in
theorem mm_LiftGroupModel_171 : am_mV "LiftGroupModel" 171 rX7_waitingOn "LiftGroupModel" 1 := ⟨mkX7_waitingOn, rfl, prX7_waitingOn, rfl, tw_1839, tw_1841, tp_47, tw_12⟩
set_option maxRecDepth 100000 in
theorem mkX7_waitingAt : am_mk rX7_waitingAt := ⟨tw_1838, tw_12, by decide, by decide +kernel, by decide +kernel, by decide +kernel⟩
set_option maxRecDepth 100000 in
theorem mkX7_estimate : am_mk rX7_estimate := ⟨tw_1846, tw_12, by decide, by decide +kernel, by decide +kernel, by decide +kernel⟩
set_option maxRecDepth 100000 in
theorem prX7_estimate : am_par rX7_estimate 2 := by unfold am_par; decide +kernel
set_option maxRecDepth 100000 in
theorem mm_LiftGroupModel_174 : am_mV "LiftGroupModel" 174 rX7_estimate "LiftGroupModel" 2 := ⟨mkX7_estimate, rfl, prX7_estimate, rfl, tw_1851, tw_1844, tw_1845, tw_12⟩
set_option maxRecDepth 100000 in
theorem mkX7_estimateByWalk : am_mk rX7_estimateByWalk := ⟨tw_1850, tw_12, by decide, by decide +kernel, by decide +kernel, by decide +kernel⟩
set_option maxRecDepth 100000 in
theorem mkX7_bestCar : am_mk rX7_bestCar := ⟨tw_1855, tw_12, by decide, by decide +kernel, by decide +kernel, by decide +kernel⟩
set_option maxRecDepth 100000 in
theorem mkX7_withNumber : am_mk rX7_withNumber := ⟨tw_1875, tw_12, by decide, by decide +kernel, by decide +kernel, by decide +kernel⟩
set_option maxRecDepth 100000 in
theorem prX7_withNumber : am_par rX7_withNumber 1 := by unfold am_par; decide +kernel
set_option maxRecDepth 100000 in
theorem mm_LiftGroupModel_177 : am_mV "LiftGroupModel" 177 rX7_withNumber "LiftGroupModel" 1 := ⟨mkX7_withNumber, rfl, prX7_withNumber, rfl, tw_1872, tw_1874, tp_51, tw_12⟩
set_option maxRecDepth 100000 in
theorem mkX7_isReached : am_mk rX7_isReached := ⟨tw_1871, tw_12, by decide, by decide +kernel, by decide +kernel, by decide +kernel⟩
set_option maxRecDepth 100000 in
theorem prX7_isReached : am_par rX7_isReached 2 := by unfold am_par; decide +kernel
set_option maxRecDepth 100000 in
theorem mm_LiftGroupModel_180 : am_mV "LiftGroupModel" 180 rX7_isReached "LiftGroupModel" 2 := ⟨mkX7_isReached, rfl, prX7_isReached, rfl, tw_1868, tw_1870, tp_50, tw_12⟩
set_option maxRecDepth 100000 in
theorem mkX7_stepsUntil : am_mk rX7_stepsUntil := ⟨tw_1867, tw_12, by decide, by decide +kernel, by decide +kernel, by decide +kernel⟩
set_option maxRecDepth 100000 in
theorem prX7_stepsUntil : am_par rX7_stepsUntil 2 := by unfold am_par; decide +kernel
set_option maxRecDepth 100000 in
theorem mm_LiftGroupModel_184 : am_mV "LiftGroupModel" 184 rX7_stepsUntil "LiftGroupModel" 2 := ⟨mkX7_stepsUntil, rfl, prX7_stepsUntil, rfl, tw_1864, tw_1866, tp_49, tw_12⟩
set_option maxRecDepth 100000 in
theorem mkX7_predicted : am_mk rX7_predicted := ⟨tw_1863, tw_12, by decide, by decide +kernel, by decide +kernel, by decide +kernel⟩
set_option maxRecDepth 100000 in
theorem prX7_predicted : am_par rX7_predicted 2 := by unfold am_par; decide +kernel
set_option maxRecDepth 100000 in
theorem mm_LiftGroupModel_188 : am_mV "LiftGroupModel" 188 rX7_predicted "LiftGroupModel" 2 := ⟨mkX7_predicted, rfl, prX7_predicted, rfl, tw_1860, tw_1862, tp_48, tw_12⟩
set_option maxRecDepth 100000 in
theorem mkX7_stepsUntilBoarding : am_mk rX7_stepsUntilBoarding := ⟨tw_1859, tw_12, by decide, by decide +kernel, by decide +kernel, by decide +kernel⟩
set_option maxRecDepth 100000 in
theorem mkX7_stepsUntilArrival : am_mk rX7_stepsUntilArrival := ⟨tw_1879, tw_12, by decide, by decide +kernel, by decide +kernel, by decide +kernel⟩
set_option maxRecDepth 100000 in
theorem mkX7_tripsWithin : am_mk rX7_tripsWithin := ⟨tw_1883, tw_12, by decide, by decide +kernel, by decide +kernel, by decide +kernel⟩
set_option maxRecDepth 100000 in
theorem mkX7_isAhead : am_mk rX7_isAhead := ⟨tw_1891, tw_12, by decide, by decide +kernel, by decide +kernel, by decide +kernel⟩
set_option maxRecDepth 100000 in
theorem prX7_isAhead : am_par rX7_isAhead 2 := by unfold am_par; decide +kernel
set_option maxRecDepth 100000 in
theorem mm_LiftGroupModel_191 : am_mV "LiftGroupModel" 191 rX7_isAhead "LiftGroupModel" 2 := ⟨mkX7_isAhead, rfl, prX7_isAhead, rfl, tw_1888, tw_1890, tp_52, tw_12⟩
set_option maxRecDepth 100000 in
theorem mkX7_passengerByWaiting : am_mk rX7_passengerByWaiting := ⟨tw_1887, tw_12, by decide, by decide +kernel, by decide +kernel, by decide +kernel⟩
set_option maxRecDepth 100000 in
theorem mkX7_isCarAhead : am_mk rX7_isCarAhead := ⟨tw_1899, tw_12, by decide, by decide +kernel, by decide +kernel, by decide +kernel⟩
set_option maxRecDepth 100000 in
theorem prX7_isCarAhead : am_par rX7_isCarAhead 2 := by unfold am_par; decide +kernel
set_option maxRecDepth 100000 in
theorem mm_LiftGroupModel_194 : am_mV "LiftGroupModel" 194 rX7_isCarAhead "LiftGroupModel" 2 := ⟨mkX7_isCarAhead, rfl, prX7_isCarAhead, rfl, tw_1896, tw_1898, tp_53, tw_12⟩
set_option maxRecDepth 100000 in
theorem mkX7_carByEnergy : am_mk rX7_carByEnergy := ⟨tw_1895, tw_12, by decide, by decide +kernel, by decide +kernel, by decide +kernel⟩
set_option maxRecDepth 100000 in
theorem mkX7_logNumber : am_mk rX7_logNumber := ⟨tw_1907, tw_12, by decide, by decide +kernel, by decide +kernel, by decide +kernel⟩
set_option maxRecDepth 100000 in
theorem prX7_logNumber : am_par rX7_logNumber 2 := by unfold am_par; decide +kernel
set_option maxRecDepth 100000 in
theorem mm_LiftGroupModel_197 : am_mV "LiftGroupModel" 197 rX7_logNumber "LiftGroupModel" 2 := ⟨mkX7_logNumber, rfl, prX7_logNumber, rfl, tw_1904, tw_1906, tp_54, tw_12⟩
set_option maxRecDepth 100000 in
theorem mkX7_tripNumber : am_mk rX7_tripNumber := ⟨tw_1903, tw_12, by decide, by decide +kernel, by decide +kernel, by decide +kernel⟩
set_option maxRecDepth 100000 in
theorem mkX7_tripCar : am_mk rX7_tripCar := ⟨tw_1911, tw_12, by decide, by decide +kernel, by decide +kernel, by decide +kernel⟩
set_option maxRecDepth 100000 in
theorem mkX7_tripWaiting : am_mk rX7_tripWaiting := ⟨tw_1915, tw_12, by decide, by decide +kernel, by decide +kernel, by decide +kernel⟩
set_option maxRecDepth 100000 in
theorem mkX7_tripCount : am_mk rX7_tripCount := ⟨tw_1919, tw_12, by decide, by decide +kernel, by decide +kernel, by decide +kernel⟩
set_option maxRecDepth 100000 in
theorem mkX7_totalEnergy : am_mk rX7_totalEnergy := ⟨tw_1923, tw_12, by decide, by decide +kernel, by decide +kernel, by decide +kernel⟩
set_option maxRecDepth 100000 in
theorem mkX7_totalEnergyByMoves : am_mk rX7_totalEnergyByMoves := ⟨tw_1927, tw_12, by decide, by decide +kernel, by decide +kernel, by decide +kernel⟩
set_option maxRecDepth 100000 in
theorem mkX7_floorsUp : am_mk rX7_floorsUp := ⟨tw_1932, tw_12, by decide, by decide +kernel, by decide +kernel, by decide +kernel⟩
set_option maxRecDepth 100000 in
theorem mkX7_floorsDown : am_mk rX7_floorsDown := ⟨tw_1936, tw_12, by decide, by decide +kernel, by decide +kernel, by decide +kernel⟩
set_option maxRecDepth 100000 in
theorem mkX7_doorOpenings : am_mk rX7_doorOpenings := ⟨tw_1940, tw_12, by decide, by decide +kernel, by decide +kernel, by decide +kernel⟩
set_option maxRecDepth 100000 in
theorem mkX7_meanWaiting : am_mk rX7_meanWaiting := ⟨tw_1944, tw_12, by decide, by decide +kernel, by decide +kernel, by decide +kernel⟩
set_option maxRecDepth 100000 in
theorem mkX7_loadShare : am_mk rX7_loadShare := ⟨tw_1948, tw_12, by decide, by decide +kernel, by decide +kernel, by decide +kernel⟩
set_option maxRecDepth 100000 in
theorem mkX7_isConsistent : am_mk rX7_isConsistent := ⟨tw_1952, tw_12, by decide, by decide +kernel, by decide +kernel, by decide +kernel⟩
set_option maxRecDepth 100000 in
theorem ff_LiftGroupModel_202 : am_F "LiftGroupModel" 202 7 12 := ⟨RX7, TX7, 17, rfl, by decide, tw_1531⟩
set_option maxRecDepth 100000 in
theorem mkX7_writes : am_mk rX7_writes := ⟨tw_1964, tw_12, by decide, by decide +kernel, by decide +kernel, by decide +kernel⟩
set_option maxRecDepth 100000 in
theorem prX7_writes : am_par rX7_writes 1 := by unfold am_par; decide +kernel
set_option maxRecDepth 100000 in
theorem mm_LiftGroupModel_205 : am_mV "LiftGroupModel" 205 rX7_writes "LiftGroupModel" 1 := ⟨mkX7_writes, rfl, prX7_writes, rfl, tw_1961, tw_1963, tp_56, tw_12⟩
set_option maxRecDepth 100000 in
theorem mkX7_writesNumber : am_mk rX7_writesNumber := ⟨tw_1960, tw_12, by decide, by decide +kernel, by decide +kernel, by decide +kernel⟩
set_option maxRecDepth 100000 in
theorem prX7_writesNumber : am_par rX7_writesNumber 1 := by unfold am_par; decide +kernel
set_option maxRecDepth 100000 in
theorem mm_LiftGroupModel_208 : am_mV "LiftGroupModel" 208 rX7_writesNumber "LiftGroupModel" 1 := ⟨mkX7_writesNumber, rfl, prX7_writesNumber, rfl, tw_1957, tw_1959, tp_55, tw_12⟩
set_option maxRecDepth 100000 in
theorem mkX7_renderCar : am_mk rX7_renderCar := ⟨tw_1956, tw_12, by decide, by decide +kernel, by decide +kernel, by decide +kernel⟩
set_option maxRecDepth 100000 in
theorem mkX7_renderFloors : am_mk rX7_renderFloors := ⟨tw_1968, tw_12, by decide, by decide +kernel, by decide +kernel, by decide +kernel⟩
set_option maxRecDepth 100000 in
theorem mkX7_outputAt : am_mk rX7_outputAt := ⟨tw_1972, tw_12, by decide, by decide +kernel, by decide +kernel, by decide +kernel⟩
set_option maxRecDepth 100000 in
theorem ff_LiftGroupModel_211 : am_F "LiftGroupModel" 211 7 8 := ⟨RX7, TX7, 17, rfl, by decide, tw_1527⟩
set_option maxRecDepth 100000 in
theorem mkX7_type : am_mk rX7_type := ⟨tw_1976, tw_12, by decide, by decide +kernel, by decide +kernel, by decide +kernel⟩
set_option maxRecDepth 100000 in
theorem ff_LiftGroupModel_214 : am_F "LiftGroupModel" 214 7 14 := ⟨RX7, TX7, 17, rfl, by decide, tw_1533⟩
set_option maxRecDepth 100000 in
theorem mkX7_here : am_mk rX7_here := ⟨tw_1988, tw_12, by decide, by decide +kernel, by decide +kernel, by decide +kernel⟩
set_option maxRecDepth 100000 in
theorem ff_LiftGroupModel_217 : am_F "LiftGroupModel" 217 7 15 := ⟨RX7, TX7, 17, rfl, by decide, tw_1534⟩
set_option maxRecDepth 100000 in
theorem prX7_here : am_par rX7_here 0 := by unfold am_par; decide +kernel
set_option maxRecDepth 100000 in
theorem mm_LiftGroupModel_221 : am_mV "LiftGroupModel" 221 rX7_here "LiftGroupModel" 0 := ⟨mkX7_here, rfl, prX7_here, rfl, tw_1985, tw_1987, tp_58, tw_12⟩
set_option maxRecDepth 100000 in
theorem mkX7_needs : am_mk rX7_needs := ⟨tw_1996, tw_12, by decide, by decide +kernel, by decide +kernel, by decide +kernel⟩
set_option maxRecDepth 100000 in
theorem prX7_needs : am_par rX7_needs 1 := by unfold am_par; decide +kernel
set_option maxRecDepth 100000 in
theorem mm_LiftGroupModel_225 : am_mV "LiftGroupModel" 225 rX7_needs "LiftGroupModel" 1 := ⟨mkX7_needs, rfl, prX7_needs, rfl, tw_1993, tw_1995, tp_60, tw_12⟩
set_option maxRecDepth 100000 in
theorem mkX7_needsThree : am_mk rX7_needsThree := ⟨tw_1992, tw_12, by decide, by decide +kernel, by decide +kernel, by decide +kernel⟩
set_option maxRecDepth 100000 in
theorem mkX7_digits : am_mk rX7_digits := ⟨tw_2000, tw_12, by decide, by decide +kernel, by decide +kernel, by decide +kernel⟩
set_option maxRecDepth 100000 in
theorem prX7_digits : am_par rX7_digits 1 := by unfold am_par; decide +kernel
set_option maxRecDepth 100000 in
theorem mm_LiftGroupModel_228 : am_mV "LiftGroupModel" 228 rX7_digits "LiftGroupModel" 1 := ⟨mkX7_digits, rfl, prX7_digits, rfl, tw_1997, tw_1999, tp_61, tw_12⟩
set_option maxRecDepth 100000 in
theorem prX7_needsThree : am_par rX7_needsThree 3 := by unfold am_par; decide +kernel
set_option maxRecDepth 100000 in
theorem mm_LiftGroupModel_231 : am_mV "LiftGroupModel" 231 rX7_needsThree "LiftGroupModel" 3 := ⟨mkX7_needsThree, rfl, prX7_needsThree, rfl, tw_1989, tw_1991, tp_59, tw_12⟩
set_option maxRecDepth 100000 in
theorem mkX7_parsesS : am_mk rX7_parsesS := ⟨tw_2004, tw_12, by decide, by decide +kernel, by decide +kernel, by decide +kernel⟩
set_option maxRecDepth 100000 in
theorem prX7_parsesS : am_par rX7_parsesS 1 := by unfold am_par; decide +kernel
set_option maxRecDepth 100000 in
theorem mm_LiftGroupModel_235 : am_mV "LiftGroupModel" 235 rX7_parsesS "LiftGroupModel" 1 := ⟨mkX7_parsesS, rfl, prX7_parsesS, rfl, tw_2001, tw_2003, tp_62, tw_12⟩
set_option maxRecDepth 100000 in
theorem mkX7_parsesCommand : am_mk rX7_parsesCommand := ⟨tw_1984, tw_12, by decide, by decide +kernel, by decide +kernel, by decide +kernel⟩
set_option maxRecDepth 100000 in
theorem mkX7_carriesOut : am_mk rX7_carriesOut := ⟨tw_2008, tw_12, by decide, by decide +kernel, by decide +kernel, by decide +kernel⟩
set_option maxRecDepth 100000 in
theorem prX7_parsesCommand : am_par rX7_parsesCommand 1 := by unfold am_par; decide +kernel
set_option maxRecDepth 100000 in
theorem mm_LiftGroupModel_238 : am_mV "LiftGroupModel" 238 rX7_parsesCommand "LiftGroupModel" 1 := ⟨mkX7_parsesCommand, rfl, prX7_parsesCommand, rfl, tw_1981, tw_1983, tp_57, tw_12⟩
set_option maxRecDepth 100000 in
theorem prX7_carriesOut : am_par rX7_carriesOut 1 := by unfold am_par; decide +kernel
set_option maxRecDepth 100000 in
theorem mm_LiftGroupModel_241 : am_mV "LiftGroupModel" 241 rX7_carriesOut "LiftGroupModel" 1 := ⟨mkX7_carriesOut, rfl, prX7_carriesOut, rfl, tw_2005, tw_2007, tp_63, tw_12⟩
set_option maxRecDepth 100000 in
theorem mkX7_runScript : am_mk rX7_runScript := ⟨tw_1980, tw_12, by decide, by decide +kernel, by decide +kernel, by decide +kernel⟩
set_option maxRecDepth 100000 in
theorem mkX7_errorPosition : am_mk rX7_errorPosition := ⟨tw_2012, tw_12, by decide, by decide +kernel, by decide +kernel, by decide +kernel⟩
set_option maxRecDepth 100000 in
theorem mkX7_failedCommand : am_mk rX7_failedCommand := ⟨tw_2016, tw_12, by decide, by decide +kernel, by decide +kernel, by decide +kernel⟩
set_option maxRecDepth 100000 in
theorem mkX7_undo : am_mk rX7_undo := ⟨tw_2020, tw_12, by decide, by decide +kernel, by decide +kernel, by decide +kernel⟩
set_option maxRecDepth 100000 in
theorem ff_LiftGroupModel_244 : am_F "LiftGroupModel" 244 7 6 := ⟨RX7, TX7, 17, rfl, by decide, tw_1525⟩
set_option maxRecDepth 100000 in
theorem mkX7_save : am_mk rX7_save := ⟨tw_2024, tw_12, by decide, by decide +kernel, by decide +kernel, by decide +kernel⟩
set_option maxRecDepth 100000 in
theorem mkX7_restore : am_mk rX7_restore := ⟨tw_2028, tw_12, by decide, by decide +kernel, by decide +kernel, by decide +kernel⟩
set_option maxRecDepth 100000 in
theorem prX6_addPassenger : am_par rX6_addPassenger 3 := by unfold am_par; decide +kernel
set_option maxRecDepth 100000 in
theorem mm_LiftGroupLaw_7 : am_mV "LiftGroupLaw" 7 rX6_addPassenger "LiftGroup" 3 := ⟨mkX6_addPassenger, rfl, prX6_addPassenger, rfl, tw_806, tw_807, tw_808, tw_1⟩
set_option maxRecDepth 100000 in
theorem am_castN_IllegalArgumentException : Cond.castable "java/lang/IllegalArgumentException" "java/lang/IllegalArgumentException" ∈ am_gt ∨ Cond.castable "java/lang/IllegalArgumentException" "java/lang/IllegalArgumentException" ∈ am_nw := by decide +kernel
set_option maxRecDepth 100000 in
theorem am_castN_IllegalStateException : Cond.castable "java/lang/IllegalStateException" "java/lang/IllegalStateException" ∈ am_gt ∨ Cond.castable "java/lang/IllegalStateException" "java/lang/IllegalStateException" ∈ am_nw := by decide +kernel
set_option maxRecDepth 100000 in
theorem mkL_addPassenger : am_mk rL_addPassenger := ⟨tw_803, tw_0, by decide, by decide +kernel, by decide +kernel, by decide +kernel⟩
set_option maxRecDepth 100000 in
theorem prX6_removePassenger : am_par rX6_removePassenger 1 := by unfold am_par; decide +kernel
set_option maxRecDepth 100000 in
theorem mm_LiftGroupLaw_17 : am_mV "LiftGroupLaw" 17 rX6_removePassenger "LiftGroup" 1 := ⟨mkX6_removePassenger, rfl, prX6_removePassenger, rfl, tw_891, tw_892, tw_893, tw_1⟩
set_option maxRecDepth 100000 in
theorem am_castN_IndexOutOfBoundsException : Cond.castable "java/lang/IndexOutOfBoundsException" "java/lang/IndexOutOfBoundsException" ∈ am_gt ∨ Cond.castable "java/lang/IndexOutOfBoundsException" "java/lang/IndexOutOfBoundsException" ∈ am_nw := by decide +kernel
set_option maxRecDepth 100000 in
theorem mkL_removePassenger : am_mk rL_removePassenger := ⟨tw_887, tw_0, by decide, by decide +kernel, by decide +kernel, by decide +kernel⟩
set_option maxRecDepth 100000 in
theorem prX6_holdDoors : am_par rX6_holdDoors 2 := by unfold am_par; decide +kernel
set_option maxRecDepth 100000 in
theorem mm_LiftGroupLaw_23 : am_mV "LiftGroupLaw" 23 rX6_holdDoors "LiftGroup" 2 := ⟨mkX6_holdDoors, rfl, prX6_holdDoors, rfl, tw_910, tw_911, tw_912, tw_1⟩
set_option maxRecDepth 100000 in
theorem mkL_holdDoors : am_mk rL_holdDoors := ⟨tw_909, tw_0, by decide, by decide +kernel, by decide +kernel, by decide +kernel⟩
set_option maxRecDepth 100000 in
theorem prX6_stopCar : am_par rX6_stopCar 1 := by unfold am_par; decide +kernel
set_option maxRecDepth 100000 in
theorem mm_LiftGroupLaw_27 : am_mV "LiftGroupLaw" 27 rX6_stopCar "LiftGroup" 1 := ⟨mkX6_stopCar, rfl, prX6_stopCar, rfl, tw_928, tw_929, tw_930, tw_1⟩
set_option maxRecDepth 100000 in
theorem mkL_stopCar : am_mk rL_stopCar := ⟨tw_927, tw_0, by decide, by decide +kernel, by decide +kernel, by decide +kernel⟩
set_option maxRecDepth 100000 in
theorem prX6_startCar : am_par rX6_startCar 1 := by unfold am_par; decide +kernel
set_option maxRecDepth 100000 in
theorem mm_LiftGroupLaw_30 : am_mV "LiftGroupLaw" 30 rX6_startCar "LiftGroup" 1 := ⟨mkX6_startCar, rfl, prX6_startCar, rfl, tw_943, tw_944, tw_945, tw_1⟩
set_option maxRecDepth 100000 in
theorem mkL_startCar : am_mk rL_startCar := ⟨tw_942, tw_0, by decide, by decide +kernel, by decide +kernel, by decide +kernel⟩
set_option maxRecDepth 100000 in
theorem prX6_setCapacity : am_par rX6_setCapacity 2 := by unfold am_par; decide +kernel
set_option maxRecDepth 100000 in
theorem mm_LiftGroupLaw_33 : am_mV "LiftGroupLaw" 33 rX6_setCapacity "LiftGroup" 2 := ⟨mkX6_setCapacity, rfl, prX6_setCapacity, rfl, tw_959, tw_960, tw_961, tw_1⟩
set_option maxRecDepth 100000 in
theorem am_castN_UnsupportedOperationException : Cond.castable "java/lang/UnsupportedOperationException" "java/lang/UnsupportedOperationException" ∈ am_gt ∨ Cond.castable "java/lang/UnsupportedOperationException" "java/lang/UnsupportedOperationException" ∈ am_nw := by decide +kernel
set_option maxRecDepth 100000 in
theorem mkL_setCapacity : am_mk rL_setCapacity := ⟨tw_957, tw_0, by decide, by decide +kernel, by decide +kernel, by decide +kernel⟩
set_option maxRecDepth 100000 in
theorem prX6_advance : am_par rX6_advance 1 := by unfold am_par; decide +kernel
set_option maxRecDepth 100000 in
theorem mm_LiftGroupLaw_38 : am_mV "LiftGroupLaw" 38 rX6_advance "LiftGroup" 1 := ⟨mkX6_advance, rfl, prX6_advance, rfl, tw_974, tw_975, tw_976, tw_1⟩
set_option maxRecDepth 100000 in
theorem mkL_advance : am_mk rL_advance := ⟨tw_973, tw_0, by decide, by decide +kernel, by decide +kernel, by decide +kernel⟩
set_option maxRecDepth 100000 in
theorem prX6_floor : am_par rX6_floor 1 := by unfold am_par; decide +kernel
set_option maxRecDepth 100000 in
theorem mm_LiftGroupLaw_41 : am_mV "LiftGroupLaw" 41 rX6_floor "LiftGroup" 1 := ⟨mkX6_floor, rfl, prX6_floor, rfl, tw_1021, tw_1022, tw_1023, tw_1⟩
set_option maxRecDepth 100000 in
theorem mkL_floor : am_mk rL_floor := ⟨tw_1020, tw_0, by decide, by decide +kernel, by decide +kernel, by decide +kernel⟩
set_option maxRecDepth 100000 in
theorem prX6_direction : am_par rX6_direction 1 := by unfold am_par; decide +kernel
set_option maxRecDepth 100000 in
theorem mm_LiftGroupLaw_44 : am_mV "LiftGroupLaw" 44 rX6_direction "LiftGroup" 1 := ⟨mkX6_direction, rfl, prX6_direction, rfl, tw_1033, tw_1034, tw_1035, tw_1⟩
set_option maxRecDepth 100000 in
theorem mkL_direction : am_mk rL_direction := ⟨tw_1032, tw_0, by decide, by decide +kernel, by decide +kernel, by decide +kernel⟩
set_option maxRecDepth 100000 in
theorem prX6_capacity : am_par rX6_capacity 1 := by unfold am_par; decide +kernel
set_option maxRecDepth 100000 in
theorem mm_LiftGroupLaw_47 : am_mV "LiftGroupLaw" 47 rX6_capacity "LiftGroup" 1 := ⟨mkX6_capacity, rfl, prX6_capacity, rfl, tw_1040, tw_1041, tw_1042, tw_1⟩
set_option maxRecDepth 100000 in
theorem mkL_capacity : am_mk rL_capacity := ⟨tw_1039, tw_0, by decide, by decide +kernel, by decide +kernel, by decide +kernel⟩
set_option maxRecDepth 100000 in
theorem prX6_load : am_par rX6_load 1 := by unfold am_par; decide +kernel
set_option maxRecDepth 100000 in
theorem mm_LiftGroupLaw_50 : am_mV "LiftGroupLaw" 50 rX6_load "LiftGroup" 1 := ⟨mkX6_load, rfl, prX6_load, rfl, tw_1047, tw_1048, tw_1049, tw_1⟩
set_option maxRecDepth 100000 in
theorem mkL_load : am_mk rL_load := ⟨tw_1046, tw_0, by decide, by decide +kernel, by decide +kernel, by decide +kernel⟩
set_option maxRecDepth 100000 in
theorem prX6_passengersIn : am_par rX6_passengersIn 1 := by unfold am_par; decide +kernel
set_option maxRecDepth 100000 in
theorem mm_LiftGroupLaw_53 : am_mV "LiftGroupLaw" 53 rX6_passengersIn "LiftGroup" 1 := ⟨mkX6_passengersIn, rfl, prX6_passengersIn, rfl, tw_1054, tw_1055, tw_1056, tw_1⟩
set_option maxRecDepth 100000 in
theorem mkL_passengersIn : am_mk rL_passengersIn := ⟨tw_1053, tw_0, by decide, by decide +kernel, by decide +kernel, by decide +kernel⟩
set_option maxRecDepth 100000 in
theorem prX6_assignedTo : am_par rX6_assignedTo 1 := by unfold am_par; decide +kernel
set_option maxRecDepth 100000 in
theorem mm_LiftGroupLaw_56 : am_mV "LiftGroupLaw" 56 rX6_assignedTo "LiftGroup" 1 := ⟨mkX6_assignedTo, rfl, prX6_assignedTo, rfl, tw_1061, tw_1062, tw_1063, tw_1⟩
set_option maxRecDepth 100000 in
theorem mkL_assignedTo : am_mk rL_assignedTo := ⟨tw_1060, tw_0, by decide, by decide +kernel, by decide +kernel, by decide +kernel⟩
set_option maxRecDepth 100000 in
theorem prX6_doorSteps : am_par rX6_doorSteps 1 := by unfold am_par; decide +kernel
set_option maxRecDepth 100000 in
theorem mm_LiftGroupLaw_59 : am_mV "LiftGroupLaw" 59 rX6_doorSteps "LiftGroup" 1 := ⟨mkX6_doorSteps, rfl, prX6_doorSteps, rfl, tw_1069, tw_1070, tw_1071, tw_1⟩
set_option maxRecDepth 100000 in
theorem mkL_doorSteps : am_mk rL_doorSteps := ⟨tw_1068, tw_0, by decide, by decide +kernel, by decide +kernel, by decide +kernel⟩
set_option maxRecDepth 100000 in
theorem prX6_isInService : am_par rX6_isInService 1 := by unfold am_par; decide +kernel
set_option maxRecDepth 100000 in
theorem mm_LiftGroupLaw_62 : am_mV "LiftGroupLaw" 62 rX6_isInService "LiftGroup" 1 := ⟨mkX6_isInService, rfl, prX6_isInService, rfl, tw_1076, tw_1077, tw_1078, tw_1⟩
set_option maxRecDepth 100000 in
theorem mkL_isInService : am_mk rL_isInService := ⟨tw_1075, tw_0, by decide, by decide +kernel, by decide +kernel, by decide +kernel⟩
set_option maxRecDepth 100000 in
theorem prX6_energy : am_par rX6_energy 1 := by unfold am_par; decide +kernel
set_option maxRecDepth 100000 in
theorem mm_LiftGroupLaw_66 : am_mV "LiftGroupLaw" 66 rX6_energy "LiftGroup" 1 := ⟨mkX6_energy, rfl, prX6_energy, rfl, tw_1083, tw_1084, tw_1085, tw_1⟩
set_option maxRecDepth 100000 in
theorem mkL_energy : am_mk rL_energy := ⟨tw_1082, tw_0, by decide, by decide +kernel, by decide +kernel, by decide +kernel⟩
set_option maxRecDepth 100000 in
theorem prX6_isStop : am_par rX6_isStop 2 := by unfold am_par; decide +kernel
set_option maxRecDepth 100000 in
theorem mm_LiftGroupLaw_69 : am_mV "LiftGroupLaw" 69 rX6_isStop "LiftGroup" 2 := ⟨mkX6_isStop, rfl, prX6_isStop, rfl, tw_1090, tw_1091, tw_1092, tw_1⟩
set_option maxRecDepth 100000 in
theorem mkL_isStop : am_mk rL_isStop := ⟨tw_1089, tw_0, by decide, by decide +kernel, by decide +kernel, by decide +kernel⟩
set_option maxRecDepth 100000 in
theorem prX6_stopCount : am_par rX6_stopCount 1 := by unfold am_par; decide +kernel
set_option maxRecDepth 100000 in
theorem mm_LiftGroupLaw_73 : am_mV "LiftGroupLaw" 73 rX6_stopCount "LiftGroup" 1 := ⟨mkX6_stopCount, rfl, prX6_stopCount, rfl, tw_1103, tw_1104, tw_1105, tw_1⟩
set_option maxRecDepth 100000 in
theorem mkL_stopCount : am_mk rL_stopCount := ⟨tw_1102, tw_0, by decide, by decide +kernel, by decide +kernel, by decide +kernel⟩
set_option maxRecDepth 100000 in
theorem prX6_nextStop : am_par rX6_nextStop 1 := by unfold am_par; decide +kernel
set_option maxRecDepth 100000 in
theorem mm_LiftGroupLaw_76 : am_mV "LiftGroupLaw" 76 rX6_nextStop "LiftGroup" 1 := ⟨mkX6_nextStop, rfl, prX6_nextStop, rfl, tw_1117, tw_1118, tw_1119, tw_1⟩
set_option maxRecDepth 100000 in
theorem am_castN_NoSuchElementException : Cond.castable "java/util/NoSuchElementException" "java/util/NoSuchElementException" ∈ am_gt ∨ Cond.castable "java/util/NoSuchElementException" "java/util/NoSuchElementException" ∈ am_nw := by decide +kernel
set_option maxRecDepth 100000 in
theorem mkL_nextStop : am_mk rL_nextStop := ⟨tw_1115, tw_0, by decide, by decide +kernel, by decide +kernel, by decide +kernel⟩
set_option maxRecDepth 100000 in
theorem prX6_number : am_par rX6_number 1 := by unfold am_par; decide +kernel
set_option maxRecDepth 100000 in
theorem mm_LiftGroupLaw_81 : am_mV "LiftGroupLaw" 81 rX6_number "LiftGroup" 1 := ⟨mkX6_number, rfl, prX6_number, rfl, tw_1141, tw_1142, tw_1143, tw_1⟩
set_option maxRecDepth 100000 in
theorem mkL_number : am_mk rL_number := ⟨tw_1140, tw_0, by decide, by decide +kernel, by decide +kernel, by decide +kernel⟩
set_option maxRecDepth 100000 in
theorem prX6_start : am_par rX6_start 1 := by unfold am_par; decide +kernel
set_option maxRecDepth 100000 in
theorem mm_LiftGroupLaw_84 : am_mV "LiftGroupLaw" 84 rX6_start "LiftGroup" 1 := ⟨mkX6_start, rfl, prX6_start, rfl, tw_1154, tw_1155, tw_1156, tw_1⟩
set_option maxRecDepth 100000 in
theorem mkL_start : am_mk rL_start := ⟨tw_1153, tw_0, by decide, by decide +kernel, by decide +kernel, by decide +kernel⟩
set_option maxRecDepth 100000 in
theorem prX6_destination : am_par rX6_destination 1 := by unfold am_par; decide +kernel
set_option maxRecDepth 100000 in
theorem mm_LiftGroupLaw_87 : am_mV "LiftGroupLaw" 87 rX6_destination "LiftGroup" 1 := ⟨mkX6_destination, rfl, prX6_destination, rfl, tw_1161, tw_1162, tw_1163, tw_1⟩
set_option maxRecDepth 100000 in
theorem mkL_destination : am_mk rL_destination := ⟨tw_1160, tw_0, by decide, by decide +kernel, by decide +kernel, by decide +kernel⟩
set_option maxRecDepth 100000 in
theorem prX6_weight : am_par rX6_weight 1 := by unfold am_par; decide +kernel
set_option maxRecDepth 100000 in
theorem mm_LiftGroupLaw_90 : am_mV "LiftGroupLaw" 90 rX6_weight "LiftGroup" 1 := ⟨mkX6_weight, rfl, prX6_weight, rfl, tw_1168, tw_1169, tw_1170, tw_1⟩
set_option maxRecDepth 100000 in
theorem mkL_weight : am_mk rL_weight := ⟨tw_1167, tw_0, by decide, by decide +kernel, by decide +kernel, by decide +kernel⟩
set_option maxRecDepth 100000 in
theorem prX6_waitingTime : am_par rX6_waitingTime 1 := by unfold am_par; decide +kernel
set_option maxRecDepth 100000 in
theorem mm_LiftGroupLaw_93 : am_mV "LiftGroupLaw" 93 rX6_waitingTime "LiftGroup" 1 := ⟨mkX6_waitingTime, rfl, prX6_waitingTime, rfl, tw_1175, tw_1176, tw_1177, tw_1⟩
set_option maxRecDepth 100000 in
theorem mkL_waitingTime : am_mk rL_waitingTime := ⟨tw_1174, tw_0, by decide, by decide +kernel, by decide +kernel, by decide +kernel⟩
set_option maxRecDepth 100000 in
theorem prX6_isInCar : am_par rX6_isInCar 1 := by unfold am_par; decide +kernel
set_option maxRecDepth 100000 in
theorem mm_LiftGroupLaw_96 : am_mV "LiftGroupLaw" 96 rX6_isInCar "LiftGroup" 1 := ⟨mkX6_isInCar, rfl, prX6_isInCar, rfl, tw_1182, tw_1183, tw_1184, tw_1⟩
set_option maxRecDepth 100000 in
theorem mkL_isInCar : am_mk rL_isInCar := ⟨tw_1181, tw_0, by decide, by decide +kernel, by decide +kernel, by decide +kernel⟩
set_option maxRecDepth 100000 in
theorem prX6_carOf : am_par rX6_carOf 1 := by unfold am_par; decide +kernel
set_option maxRecDepth 100000 in
theorem mm_LiftGroupLaw_99 : am_mV "LiftGroupLaw" 99 rX6_carOf "LiftGroup" 1 := ⟨mkX6_carOf, rfl, prX6_carOf, rfl, tw_1189, tw_1190, tw_1191, tw_1⟩
set_option maxRecDepth 100000 in
theorem mkL_carOf : am_mk rL_carOf := ⟨tw_1188, tw_0, by decide, by decide +kernel, by decide +kernel, by decide +kernel⟩
set_option maxRecDepth 100000 in
theorem prX6_waitingAt : am_par rX6_waitingAt 1 := by unfold am_par; decide +kernel
set_option maxRecDepth 100000 in
theorem mm_LiftGroupLaw_102 : am_mV "LiftGroupLaw" 102 rX6_waitingAt "LiftGroup" 1 := ⟨mkX6_waitingAt, rfl, prX6_waitingAt, rfl, tw_1197, tw_1198, tw_1199, tw_1⟩
set_option maxRecDepth 100000 in
theorem mkL_waitingAt : am_mk rL_waitingAt := ⟨tw_1196, tw_0, by decide, by decide +kernel, by decide +kernel, by decide +kernel⟩
set_option maxRecDepth 100000 in
theorem prX6_estimate : am_par rX6_estimate 2 := by unfold am_par; decide +kernel
set_option maxRecDepth 100000 in
theorem mm_LiftGroupLaw_105 : am_mV "LiftGroupLaw" 105 rX6_estimate "LiftGroup" 2 := ⟨mkX6_estimate, rfl, prX6_estimate, rfl, tw_1204, tw_1205, tw_1206, tw_1⟩
set_option maxRecDepth 100000 in
theorem mkL_estimate : am_mk rL_estimate := ⟨tw_1203, tw_0, by decide, by decide +kernel, by decide +kernel, by decide +kernel⟩
set_option maxRecDepth 100000 in
theorem prX6_estimateByWalk : am_par rX6_estimateByWalk 2 := by unfold am_par; decide +kernel
set_option maxRecDepth 100000 in
theorem mm_LiftGroupLaw_108 : am_mV "LiftGroupLaw" 108 rX6_estimateByWalk "LiftGroup" 2 := ⟨mkX6_estimateByWalk, rfl, prX6_estimateByWalk, rfl, tw_1212, tw_1213, tw_1214, tw_1⟩
set_option maxRecDepth 100000 in
theorem mkL_estimateByWalk : am_mk rL_estimateByWalk := ⟨tw_1211, tw_0, by decide, by decide +kernel, by decide +kernel, by decide +kernel⟩
set_option maxRecDepth 100000 in
theorem prX6_bestCar : am_par rX6_bestCar 2 := by unfold am_par; decide +kernel
set_option maxRecDepth 100000 in
theorem mm_LiftGroupLaw_111 : am_mV "LiftGroupLaw" 111 rX6_bestCar "LiftGroup" 2 := ⟨mkX6_bestCar, rfl, prX6_bestCar, rfl, tw_1220, tw_1221, tw_1222, tw_1⟩
set_option maxRecDepth 100000 in
theorem mkL_bestCar : am_mk rL_bestCar := ⟨tw_1219, tw_0, by decide, by decide +kernel, by decide +kernel, by decide +kernel⟩
set_option maxRecDepth 100000 in
theorem prX6_stepsUntilBoarding : am_par rX6_stepsUntilBoarding 1 := by unfold am_par; decide +kernel
set_option maxRecDepth 100000 in
theorem mm_LiftGroupLaw_114 : am_mV "LiftGroupLaw" 114 rX6_stepsUntilBoarding "LiftGroup" 1 := ⟨mkX6_stepsUntilBoarding, rfl, prX6_stepsUntilBoarding, rfl, tw_1231, tw_1232, tw_1233, tw_1⟩
set_option maxRecDepth 100000 in
theorem mkL_stepsUntilBoarding : am_mk rL_stepsUntilBoarding := ⟨tw_1230, tw_0, by decide, by decide +kernel, by decide +kernel, by decide +kernel⟩
set_option maxRecDepth 100000 in
theorem prX6_stepsUntilArrival : am_par rX6_stepsUntilArrival 1 := by unfold am_par; decide +kernel
set_option maxRecDepth 100000 in
theorem mm_LiftGroupLaw_117 : am_mV "LiftGroupLaw" 117 rX6_stepsUntilArrival "LiftGroup" 1 := ⟨mkX6_stepsUntilArrival, rfl, prX6_stepsUntilArrival, rfl, tw_1248, tw_1249, tw_1250, tw_1⟩
set_option maxRecDepth 100000 in
theorem mkL_stepsUntilArrival : am_mk rL_stepsUntilArrival := ⟨tw_1247, tw_0, by decide, by decide +kernel, by decide +kernel, by decide +kernel⟩
set_option maxRecDepth 100000 in
theorem prX6_tripsWithin : am_par rX6_tripsWithin 1 := by unfold am_par; decide +kernel
set_option maxRecDepth 100000 in
theorem mm_LiftGroupLaw_120 : am_mV "LiftGroupLaw" 120 rX6_tripsWithin "LiftGroup" 1 := ⟨mkX6_tripsWithin, rfl, prX6_tripsWithin, rfl, tw_1257, tw_1258, tw_1259, tw_1⟩
set_option maxRecDepth 100000 in
theorem mkL_tripsWithin : am_mk rL_tripsWithin := ⟨tw_1256, tw_0, by decide, by decide +kernel, by decide +kernel, by decide +kernel⟩
set_option maxRecDepth 100000 in
theorem prX6_passengerByWaiting : am_par rX6_passengerByWaiting 1 := by unfold am_par; decide +kernel
set_option maxRecDepth 100000 in
theorem mm_LiftGroupLaw_123 : am_mV "LiftGroupLaw" 123 rX6_passengerByWaiting "LiftGroup" 1 := ⟨mkX6_passengerByWaiting, rfl, prX6_passengerByWaiting, rfl, tw_1265, tw_1266, tw_1267, tw_1⟩
set_option maxRecDepth 100000 in
theorem mkL_passengerByWaiting : am_mk rL_passengerByWaiting := ⟨tw_1264, tw_0, by decide, by decide +kernel, by decide +kernel, by decide +kernel⟩
set_option maxRecDepth 100000 in
theorem prX6_carByEnergy : am_par rX6_carByEnergy 1 := by unfold am_par; decide +kernel
set_option maxRecDepth 100000 in
theorem mm_LiftGroupLaw_126 : am_mV "LiftGroupLaw" 126 rX6_carByEnergy "LiftGroup" 1 := ⟨mkX6_carByEnergy, rfl, prX6_carByEnergy, rfl, tw_1281, tw_1282, tw_1283, tw_1⟩
set_option maxRecDepth 100000 in
theorem mkL_carByEnergy : am_mk rL_carByEnergy := ⟨tw_1280, tw_0, by decide, by decide +kernel, by decide +kernel, by decide +kernel⟩
set_option maxRecDepth 100000 in
theorem prX6_tripNumber : am_par rX6_tripNumber 1 := by unfold am_par; decide +kernel
set_option maxRecDepth 100000 in
theorem mm_LiftGroupLaw_129 : am_mV "LiftGroupLaw" 129 rX6_tripNumber "LiftGroup" 1 := ⟨mkX6_tripNumber, rfl, prX6_tripNumber, rfl, tw_1296, tw_1297, tw_1298, tw_1⟩
set_option maxRecDepth 100000 in
theorem mkL_tripNumber : am_mk rL_tripNumber := ⟨tw_1295, tw_0, by decide, by decide +kernel, by decide +kernel, by decide +kernel⟩
set_option maxRecDepth 100000 in
theorem prX6_tripCar : am_par rX6_tripCar 1 := by unfold am_par; decide +kernel
set_option maxRecDepth 100000 in
theorem mm_LiftGroupLaw_132 : am_mV "LiftGroupLaw" 132 rX6_tripCar "LiftGroup" 1 := ⟨mkX6_tripCar, rfl, prX6_tripCar, rfl, tw_1316, tw_1317, tw_1318, tw_1⟩
set_option maxRecDepth 100000 in
theorem mkL_tripCar : am_mk rL_tripCar := ⟨tw_1315, tw_0, by decide, by decide +kernel, by decide +kernel, by decide +kernel⟩
set_option maxRecDepth 100000 in
theorem prX6_tripWaiting : am_par rX6_tripWaiting 1 := by unfold am_par; decide +kernel
set_option maxRecDepth 100000 in
theorem mm_LiftGroupLaw_135 : am_mV "LiftGroupLaw" 135 rX6_tripWaiting "LiftGroup" 1 := ⟨mkX6_tripWaiting, rfl, prX6_tripWaiting, rfl, tw_1323, tw_1324, tw_1325, tw_1⟩
set_option maxRecDepth 100000 in
theorem mkL_tripWaiting : am_mk rL_tripWaiting := ⟨tw_1322, tw_0, by decide, by decide +kernel, by decide +kernel, by decide +kernel⟩
set_option maxRecDepth 100000 in
theorem prX6_meanWaiting : am_par rX6_meanWaiting 0 := by unfold am_par; decide +kernel
set_option maxRecDepth 100000 in
theorem mm_LiftGroupLaw_138 : am_mV "LiftGroupLaw" 138 rX6_meanWaiting "LiftGroup" 0 := ⟨mkX6_meanWaiting, rfl, prX6_meanWaiting, rfl, tw_1344, tw_1345, tw_1346, tw_1⟩
set_option maxRecDepth 100000 in
theorem am_castN_ArithmeticException : Cond.castable "java/lang/ArithmeticException" "java/lang/ArithmeticException" ∈ am_gt ∨ Cond.castable "java/lang/ArithmeticException" "java/lang/ArithmeticException" ∈ am_nw := by decide +kernel
set_option maxRecDepth 100000 in
theorem mkL_meanWaiting : am_mk rL_meanWaiting := ⟨tw_1329, tw_0, by decide, by decide +kernel, by decide +kernel, by decide +kernel⟩
set_option maxRecDepth 100000 in
theorem prX6_loadShare : am_par rX6_loadShare 1 := by unfold am_par; decide +kernel
set_option maxRecDepth 100000 in
theorem mm_LiftGroupLaw_144 : am_mV "LiftGroupLaw" 144 rX6_loadShare "LiftGroup" 1 := ⟨mkX6_loadShare, rfl, prX6_loadShare, rfl, tw_1354, tw_1355, tw_1356, tw_1⟩
set_option maxRecDepth 100000 in
theorem mkL_loadShare : am_mk rL_loadShare := ⟨tw_1353, tw_0, by decide, by decide +kernel, by decide +kernel, by decide +kernel⟩
set_option maxRecDepth 100000 in
theorem prX6_renderCar : am_par rX6_renderCar 1 := by unfold am_par; decide +kernel
set_option maxRecDepth 100000 in
theorem mm_LiftGroupLaw_148 : am_mV "LiftGroupLaw" 148 rX6_renderCar "LiftGroup" 1 := ⟨mkX6_renderCar, rfl, prX6_renderCar, rfl, tw_1361, tw_1362, tw_1363, tw_1⟩
set_option maxRecDepth 100000 in
theorem mkL_renderCar : am_mk rL_renderCar := ⟨tw_1360, tw_0, by decide, by decide +kernel, by decide +kernel, by decide +kernel⟩
set_option maxRecDepth 100000 in
theorem prX6_outputAt : am_par rX6_outputAt 1 := by unfold am_par; decide +kernel
set_option maxRecDepth 100000 in
theorem mm_LiftGroupLaw_151 : am_mV "LiftGroupLaw" 151 rX6_outputAt "LiftGroup" 1 := ⟨mkX6_outputAt, rfl, prX6_outputAt, rfl, tw_1368, tw_1369, tw_1370, tw_1⟩
set_option maxRecDepth 100000 in
theorem mkL_outputAt : am_mk rL_outputAt := ⟨tw_1367, tw_0, by decide, by decide +kernel, by decide +kernel, by decide +kernel⟩
set_option maxRecDepth 100000 in
theorem prX6_type : am_par rX6_type 1 := by unfold am_par; decide +kernel
set_option maxRecDepth 100000 in
theorem mm_LiftGroupLaw_155 : am_mV "LiftGroupLaw" 155 rX6_type "LiftGroup" 1 := ⟨mkX6_type, rfl, prX6_type, rfl, tw_1386, tw_1387, tw_1388, tw_1⟩
set_option maxRecDepth 100000 in
theorem mkL_type : am_mk rL_type := ⟨tw_1385, tw_0, by decide, by decide +kernel, by decide +kernel, by decide +kernel⟩
set_option maxRecDepth 100000 in
theorem prX6_runScript : am_par rX6_runScript 0 := by unfold am_par; decide +kernel
set_option maxRecDepth 100000 in
theorem mm_LiftGroupLaw_159 : am_mV "LiftGroupLaw" 159 rX6_runScript "LiftGroup" 0 := ⟨mkX6_runScript, rfl, prX6_runScript, rfl, tw_1395, tw_1396, tw_1397, tw_1⟩
set_option maxRecDepth 100000 in
theorem mkL_runScript : am_mk rL_runScript := ⟨tw_1394, tw_0, by decide, by decide +kernel, by decide +kernel, by decide +kernel⟩
set_option maxRecDepth 100000 in
theorem prX6_errorPosition : am_par rX6_errorPosition 0 := by unfold am_par; decide +kernel
set_option maxRecDepth 100000 in
theorem mm_LiftGroupLaw_163 : am_mV "LiftGroupLaw" 163 rX6_errorPosition "LiftGroup" 0 := ⟨mkX6_errorPosition, rfl, prX6_errorPosition, rfl, tw_1480, tw_1481, tw_1482, tw_1⟩
set_option maxRecDepth 100000 in
theorem mkL_errorPosition : am_mk rL_errorPosition := ⟨tw_1479, tw_0, by decide, by decide +kernel, by decide +kernel, by decide +kernel⟩
set_option maxRecDepth 100000 in
theorem prX6_failedCommand : am_par rX6_failedCommand 0 := by unfold am_par; decide +kernel
set_option maxRecDepth 100000 in
theorem mm_LiftGroupLaw_166 : am_mV "LiftGroupLaw" 166 rX6_failedCommand "LiftGroup" 0 := ⟨mkX6_failedCommand, rfl, prX6_failedCommand, rfl, tw_1488, tw_1489, tw_1490, tw_1⟩
set_option maxRecDepth 100000 in
theorem mkL_failedCommand : am_mk rL_failedCommand := ⟨tw_1487, tw_0, by decide, by decide +kernel, by decide +kernel, by decide +kernel⟩
set_option maxRecDepth 100000 in
theorem prX6_undo : am_par rX6_undo 0 := by unfold am_par; decide +kernel
set_option maxRecDepth 100000 in
theorem mm_LiftGroupLaw_169 : am_mV "LiftGroupLaw" 169 rX6_undo "LiftGroup" 0 := ⟨mkX6_undo, rfl, prX6_undo, rfl, tw_1496, tw_1497, tw_1498, tw_1⟩
set_option maxRecDepth 100000 in
theorem mkL_undo : am_mk rL_undo := ⟨tw_1495, tw_0, by decide, by decide +kernel, by decide +kernel, by decide +kernel⟩
set_option maxRecDepth 100000 in
theorem prX6_restore : am_par rX6_restore 0 := by unfold am_par; decide +kernel
set_option maxRecDepth 100000 in
theorem mm_LiftGroupLaw_172 : am_mV "LiftGroupLaw" 172 rX6_restore "LiftGroup" 0 := ⟨mkX6_restore, rfl, prX6_restore, rfl, tw_1508, tw_1509, tw_1510, tw_1⟩
set_option maxRecDepth 100000 in
theorem mkL_restore : am_mk rL_restore := ⟨tw_1507, tw_0, by decide, by decide +kernel, by decide +kernel, by decide +kernel⟩
set_option maxRecDepth 100000 in
theorem dv_6 : am_dv 6 := by
  intro k b hk q hq ty hty
  cases hq
  match k, hk, hty with
  | 0, hk, hty => cases hk; have e1 := pp_6_0 _ rfl; cases (e1.2.symm.trans hty); rfl
  | 1, hk, hty => cases hk; have e1 := pp_6_1 _ rfl; cases (e1.2.symm.trans hty); rfl
  | 2, hk, hty => cases hk; have e1 := pp_6_2 _ rfl; cases (e1.2.symm.trans hty); rfl
  | 3, hk, hty => cases hk; have e1 := pp_6_3 _ rfl; cases (e1.2.symm.trans hty); rfl
  | 4, hk, hty => cases hk; have e1 := pp_6_4 _ rfl; cases (e1.2.symm.trans hty); rfl
  | 5, hk, hty => cases hk; have e1 := pp_6_5 _ rfl; cases (e1.2.symm.trans hty); rfl
  | 6, hk, hty => cases hk; have e1 := pp_6_6 _ rfl; cases (e1.2.symm.trans hty); rfl
  | 7, hk, hty => cases hk; have e1 := pp_6_7 _ rfl; cases (e1.2.symm.trans hty); rfl
  | 8, hk, hty => cases hk; have e1 := pp_6_8 _ rfl; cases (e1.2.symm.trans hty); rfl
  | k + 9, hk, hty => simp [am_kd] at hk
set_option maxRecDepth 100000 in
theorem prX6_init : am_par rX6_init 0 := by unfold am_par; decide +kernel
set_option maxRecDepth 100000 in
theorem mm_LiftGroupLaw_175 : am_mI "LiftGroupLaw" 175 rX6_init 0 := ⟨mkX6_init, rfl, prX6_init, tw_34, tw_35, rfl, rfl⟩
set_option maxRecDepth 100000 in
theorem dv_7 : am_dv 7 := by
  intro k b hk q hq ty hty
  cases hq
  match k, hk, hty with
  | 0, hk, hty => cases hk; have e1 := pp_7_0 _ rfl; cases (e1.2.symm.trans hty); rfl
  | 1, hk, hty => cases hk; have e1 := pp_7_1 _ rfl; cases (e1.2.symm.trans hty); rfl
  | 2, hk, hty => cases hk; have e1 := pp_7_2 _ rfl; cases (e1.2.symm.trans hty); rfl
  | 3, hk, hty => cases hk; have e1 := pp_7_3 _ rfl; cases (e1.2.symm.trans hty); rfl
  | 4, hk, hty => cases hk; have e1 := pp_7_4 _ rfl; cases (e1.2.symm.trans hty); rfl
  | 5, hk, hty => cases hk; have e1 := pp_7_5 _ rfl; cases (e1.2.symm.trans hty); rfl
  | 6, hk, hty => cases hk; have e1 := pp_7_6 _ rfl; cases (e1.2.symm.trans hty); rfl
  | 7, hk, hty => cases hk; have e1 := pp_7_7 _ rfl; cases (e1.2.symm.trans hty); rfl
  | 8, hk, hty => cases hk; have e1 := pp_7_8 _ rfl; cases (e1.2.symm.trans hty); rfl
  | 9, hk, hty => cases hk; have e1 := pp_7_9 _ rfl; cases (e1.2.symm.trans hty); rfl
  | 10, hk, hty => cases hk; have e1 := pp_7_10 _ rfl; cases (e1.2.symm.trans hty); rfl
  | 11, hk, hty => cases hk; have e1 := pp_7_11 _ rfl; cases (e1.2.symm.trans hty); rfl
  | 12, hk, hty => cases hk; have e1 := pp_7_12 _ rfl; cases (e1.2.symm.trans hty); rfl
  | 13, hk, hty => cases hk; have e1 := pp_7_13 _ rfl; cases (e1.2.symm.trans hty); rfl
  | 14, hk, hty => cases hk; have e1 := pp_7_14 _ rfl; cases (e1.2.symm.trans hty); rfl
  | 15, hk, hty => cases hk; have e1 := pp_7_15 _ rfl; cases (e1.2.symm.trans hty); rfl
  | 16, hk, hty => cases hk; have e1 := pp_7_16 _ rfl; cases (e1.2.symm.trans hty); rfl
  | k + 17, hk, hty => simp [am_kd] at hk
set_option maxRecDepth 100000 in
theorem prX7_init : am_par rX7_init 0 := by unfold am_par; decide +kernel
set_option maxRecDepth 100000 in
theorem mm_LiftGroupLaw_178 : am_mI "LiftGroupLaw" 178 rX7_init 0 := ⟨mkX7_init, rfl, prX7_init, tw_1515, tw_1516, rfl, rfl⟩
set_option maxRecDepth 100000 in
theorem prL_addPassenger : am_par rL_addPassenger 5 := by unfold am_par; decide +kernel
set_option maxRecDepth 100000 in
theorem mm_LiftGroupLaw_179 : am_mS "LiftGroupLaw" 179 rL_addPassenger 5 := ⟨mkL_addPassenger, prL_addPassenger, tw_801, tw_802⟩
set_option maxRecDepth 100000 in
theorem prX7_addPassenger : am_par rX7_addPassenger 3 := by unfold am_par; decide +kernel
set_option maxRecDepth 100000 in
theorem mm_LiftGroupLaw_184 : am_mV "LiftGroupLaw" 184 rX7_addPassenger "LiftGroupModel" 3 := ⟨mkX7_addPassenger, rfl, prX7_addPassenger, rfl, tw_1576, tw_1577, tw_1578, tw_12⟩
set_option maxRecDepth 100000 in
theorem prX7_thrown : am_par rX7_thrown 0 := by unfold am_par; decide +kernel
set_option maxRecDepth 100000 in
theorem mm_LiftGroupLaw_185 : am_mV "LiftGroupLaw" 185 rX7_thrown "LiftGroupModel" 0 := ⟨mkX7_thrown, rfl, prX7_thrown, rfl, tw_1572, tw_1573, tw_1574, tw_12⟩
set_option maxRecDepth 100000 in
theorem prL_removePassenger : am_par rL_removePassenger 3 := by unfold am_par; decide +kernel
set_option maxRecDepth 100000 in
theorem mm_LiftGroupLaw_188 : am_mS "LiftGroupLaw" 188 rL_removePassenger 3 := ⟨mkL_removePassenger, prL_removePassenger, tw_885, tw_886⟩
set_option maxRecDepth 100000 in
theorem prX7_removePassenger : am_par rX7_removePassenger 1 := by unfold am_par; decide +kernel
set_option maxRecDepth 100000 in
theorem mm_LiftGroupLaw_191 : am_mV "LiftGroupLaw" 191 rX7_removePassenger "LiftGroupModel" 1 := ⟨mkX7_removePassenger, rfl, prX7_removePassenger, rfl, tw_1648, tw_1649, tw_1650, tw_12⟩
set_option maxRecDepth 100000 in
theorem prL_holdDoors : am_par rL_holdDoors 4 := by unfold am_par; decide +kernel
set_option maxRecDepth 100000 in
theorem mm_LiftGroupLaw_192 : am_mS "LiftGroupLaw" 192 rL_holdDoors 4 := ⟨mkL_holdDoors, prL_holdDoors, tw_907, tw_908⟩
set_option maxRecDepth 100000 in
theorem prX7_holdDoors : am_par rX7_holdDoors 2 := by unfold am_par; decide +kernel
set_option maxRecDepth 100000 in
theorem mm_LiftGroupLaw_195 : am_mV "LiftGroupLaw" 195 rX7_holdDoors "LiftGroupModel" 2 := ⟨mkX7_holdDoors, rfl, prX7_holdDoors, rfl, tw_1664, tw_1665, tw_1666, tw_12⟩
set_option maxRecDepth 100000 in
theorem prL_stopCar : am_par rL_stopCar 3 := by unfold am_par; decide +kernel
set_option maxRecDepth 100000 in
theorem mm_LiftGroupLaw_196 : am_mS "LiftGroupLaw" 196 rL_stopCar 3 := ⟨mkL_stopCar, prL_stopCar, tw_925, tw_926⟩
set_option maxRecDepth 100000 in
theorem prX7_stopCar : am_par rX7_stopCar 1 := by unfold am_par; decide +kernel
set_option maxRecDepth 100000 in
theorem mm_LiftGroupLaw_198 : am_mV "LiftGroupLaw" 198 rX7_stopCar "LiftGroupModel" 1 := ⟨mkX7_stopCar, rfl, prX7_stopCar, rfl, tw_1675, tw_1676, tw_1677, tw_12⟩
set_option maxRecDepth 100000 in
theorem prL_startCar : am_par rL_startCar 3 := by unfold am_par; decide +kernel
set_option maxRecDepth 100000 in
theorem mm_LiftGroupLaw_199 : am_mS "LiftGroupLaw" 199 rL_startCar 3 := ⟨mkL_startCar, prL_startCar, tw_940, tw_941⟩
set_option maxRecDepth 100000 in
theorem prX7_startCar : am_par rX7_startCar 1 := by unfold am_par; decide +kernel
set_option maxRecDepth 100000 in
theorem mm_LiftGroupLaw_201 : am_mV "LiftGroupLaw" 201 rX7_startCar "LiftGroupModel" 1 := ⟨mkX7_startCar, rfl, prX7_startCar, rfl, tw_1683, tw_1684, tw_1685, tw_12⟩
set_option maxRecDepth 100000 in
theorem prL_setCapacity : am_par rL_setCapacity 4 := by unfold am_par; decide +kernel
set_option maxRecDepth 100000 in
theorem mm_LiftGroupLaw_202 : am_mS "LiftGroupLaw" 202 rL_setCapacity 4 := ⟨mkL_setCapacity, prL_setCapacity, tw_955, tw_956⟩
set_option maxRecDepth 100000 in
theorem prX7_setCapacity : am_par rX7_setCapacity 2 := by unfold am_par; decide +kernel
set_option maxRecDepth 100000 in
theorem mm_LiftGroupLaw_204 : am_mV "LiftGroupLaw" 204 rX7_setCapacity "LiftGroupModel" 2 := ⟨mkX7_setCapacity, rfl, prX7_setCapacity, rfl, tw_1691, tw_1692, tw_1693, tw_12⟩
set_option maxRecDepth 100000 in
theorem prL_advance : am_par rL_advance 3 := by unfold am_par; decide +kernel
set_option maxRecDepth 100000 in
theorem mm_LiftGroupLaw_205 : am_mS "LiftGroupLaw" 205 rL_advance 3 := ⟨mkL_advance, prL_advance, tw_971, tw_972⟩
set_option maxRecDepth 100000 in
theorem prX7_advance : am_par rX7_advance 1 := by unfold am_par; decide +kernel
set_option maxRecDepth 100000 in
theorem mm_LiftGroupLaw_207 : am_mV "LiftGroupLaw" 207 rX7_advance "LiftGroupModel" 1 := ⟨mkX7_advance, rfl, prX7_advance, rfl, tw_1699, tw_1700, tw_1701, tw_12⟩
set_option maxRecDepth 100000 in
theorem prX6_time : am_par rX6_time 0 := by unfold am_par; decide +kernel
set_option maxRecDepth 100000 in
theorem mm_LiftGroupLaw_208 : am_mV "LiftGroupLaw" 208 rX6_time "LiftGroup" 0 := ⟨mkX6_time, rfl, prX6_time, rfl, tw_316, tw_317, tw_318, tw_1⟩
set_option maxRecDepth 100000 in
theorem prX7_time : am_par rX7_time 0 := by unfold am_par; decide +kernel
set_option maxRecDepth 100000 in
theorem mm_LiftGroupLaw_211 : am_mV "LiftGroupLaw" 211 rX7_time "LiftGroupModel" 0 := ⟨mkX7_time, rfl, prX7_time, rfl, tw_1739, tw_1740, tw_1741, tw_12⟩
set_option maxRecDepth 100000 in
theorem prL_floor : am_par rL_floor 3 := by unfold am_par; decide +kernel
set_option maxRecDepth 100000 in
theorem mm_LiftGroupLaw_212 : am_mS "LiftGroupLaw" 212 rL_floor 3 := ⟨mkL_floor, prL_floor, tw_1018, tw_1019⟩
set_option maxRecDepth 100000 in
theorem prX7_floor : am_par rX7_floor 1 := by unfold am_par; decide +kernel
set_option maxRecDepth 100000 in
theorem mm_LiftGroupLaw_214 : am_mV "LiftGroupLaw" 214 rX7_floor "LiftGroupModel" 1 := ⟨mkX7_floor, rfl, prX7_floor, rfl, tw_1743, tw_1744, tw_1745, tw_12⟩
set_option maxRecDepth 100000 in
theorem prL_direction : am_par rL_direction 3 := by unfold am_par; decide +kernel
set_option maxRecDepth 100000 in
theorem mm_LiftGroupLaw_215 : am_mS "LiftGroupLaw" 215 rL_direction 3 := ⟨mkL_direction, prL_direction, tw_1030, tw_1031⟩
set_option maxRecDepth 100000 in
theorem prX7_direction : am_par rX7_direction 1 := by unfold am_par; decide +kernel
set_option maxRecDepth 100000 in
theorem mm_LiftGroupLaw_217 : am_mV "LiftGroupLaw" 217 rX7_direction "LiftGroupModel" 1 := ⟨mkX7_direction, rfl, prX7_direction, rfl, tw_1751, tw_1752, tw_1753, tw_12⟩
set_option maxRecDepth 100000 in
theorem prL_capacity : am_par rL_capacity 3 := by unfold am_par; decide +kernel
set_option maxRecDepth 100000 in
theorem mm_LiftGroupLaw_218 : am_mS "LiftGroupLaw" 218 rL_capacity 3 := ⟨mkL_capacity, prL_capacity, tw_1037, tw_1038⟩
set_option maxRecDepth 100000 in
theorem prX7_capacity : am_par rX7_capacity 1 := by unfold am_par; decide +kernel
set_option maxRecDepth 100000 in
theorem mm_LiftGroupLaw_220 : am_mV "LiftGroupLaw" 220 rX7_capacity "LiftGroupModel" 1 := ⟨mkX7_capacity, rfl, prX7_capacity, rfl, tw_1755, tw_1756, tw_1757, tw_12⟩
set_option maxRecDepth 100000 in
theorem prL_load : am_par rL_load 3 := by unfold am_par; decide +kernel
set_option maxRecDepth 100000 in
theorem mm_LiftGroupLaw_221 : am_mS "LiftGroupLaw" 221 rL_load 3 := ⟨mkL_load, prL_load, tw_1044, tw_1045⟩
set_option maxRecDepth 100000 in
theorem prX7_load : am_par rX7_load 1 := by unfold am_par; decide +kernel
set_option maxRecDepth 100000 in
theorem mm_LiftGroupLaw_223 : am_mV "LiftGroupLaw" 223 rX7_load "LiftGroupModel" 1 := ⟨mkX7_load, rfl, prX7_load, rfl, tw_1759, tw_1760, tw_1761, tw_12⟩
set_option maxRecDepth 100000 in
theorem prL_passengersIn : am_par rL_passengersIn 3 := by unfold am_par; decide +kernel
set_option maxRecDepth 100000 in
theorem mm_LiftGroupLaw_224 : am_mS "LiftGroupLaw" 224 rL_passengersIn 3 := ⟨mkL_passengersIn, prL_passengersIn, tw_1051, tw_1052⟩
set_option maxRecDepth 100000 in
theorem prX7_passengersIn : am_par rX7_passengersIn 1 := by unfold am_par; decide +kernel
set_option maxRecDepth 100000 in
theorem mm_LiftGroupLaw_226 : am_mV "LiftGroupLaw" 226 rX7_passengersIn "LiftGroupModel" 1 := ⟨mkX7_passengersIn, rfl, prX7_passengersIn, rfl, tw_1763, tw_1764, tw_1765, tw_12⟩
set_option maxRecDepth 100000 in
theorem prL_assignedTo : am_par rL_assignedTo 3 := by unfold am_par; decide +kernel
set_option maxRecDepth 100000 in
theorem mm_LiftGroupLaw_227 : am_mS "LiftGroupLaw" 227 rL_assignedTo 3 := ⟨mkL_assignedTo, prL_assignedTo, tw_1058, tw_1059⟩
set_option maxRecDepth 100000 in
theorem prX7_assignedTo : am_par rX7_assignedTo 1 := by unfold am_par; decide +kernel
set_option maxRecDepth 100000 in
theorem mm_LiftGroupLaw_229 : am_mV "LiftGroupLaw" 229 rX7_assignedTo "LiftGroupModel" 1 := ⟨mkX7_assignedTo, rfl, prX7_assignedTo, rfl, tw_1767, tw_1768, tw_1769, tw_12⟩
set_option maxRecDepth 100000 in
theorem prL_doorSteps : am_par rL_doorSteps 3 := by unfold am_par; decide +kernel
set_option maxRecDepth 100000 in
theorem mm_LiftGroupLaw_230 : am_mS "LiftGroupLaw" 230 rL_doorSteps 3 := ⟨mkL_doorSteps, prL_doorSteps, tw_1066, tw_1067⟩
set_option maxRecDepth 100000 in
theorem prX7_doorSteps : am_par rX7_doorSteps 1 := by unfold am_par; decide +kernel
set_option maxRecDepth 100000 in
theorem mm_LiftGroupLaw_232 : am_mV "LiftGroupLaw" 232 rX7_doorSteps "LiftGroupModel" 1 := ⟨mkX7_doorSteps, rfl, prX7_doorSteps, rfl, tw_1771, tw_1772, tw_1773, tw_12⟩
set_option maxRecDepth 100000 in
theorem prL_isInService : am_par rL_isInService 3 := by unfold am_par; decide +kernel
set_option maxRecDepth 100000 in
theorem mm_LiftGroupLaw_233 : am_mS "LiftGroupLaw" 233 rL_isInService 3 := ⟨mkL_isInService, prL_isInService, tw_1073, tw_1074⟩
set_option maxRecDepth 100000 in
theorem prX7_isInService : am_par rX7_isInService 1 := by unfold am_par; decide +kernel
set_option maxRecDepth 100000 in
theorem mm_LiftGroupLaw_235 : am_mV "LiftGroupLaw" 235 rX7_isInService "LiftGroupModel" 1 := ⟨mkX7_isInService, rfl, prX7_isInService, rfl, tw_1775, tw_1776, tw_1777, tw_12⟩
set_option maxRecDepth 100000 in
theorem prL_energy : am_par rL_energy 3 := by unfold am_par; decide +kernel
set_option maxRecDepth 100000 in
theorem mm_LiftGroupLaw_236 : am_mS "LiftGroupLaw" 236 rL_energy 3 := ⟨mkL_energy, prL_energy, tw_1080, tw_1081⟩
set_option maxRecDepth 100000 in
theorem prX7_energy : am_par rX7_energy 1 := by unfold am_par; decide +kernel
set_option maxRecDepth 100000 in
theorem mm_LiftGroupLaw_238 : am_mV "LiftGroupLaw" 238 rX7_energy "LiftGroupModel" 1 := ⟨mkX7_energy, rfl, prX7_energy, rfl, tw_1779, tw_1780, tw_1781, tw_12⟩
set_option maxRecDepth 100000 in
theorem prL_isStop : am_par rL_isStop 4 := by unfold am_par; decide +kernel
set_option maxRecDepth 100000 in
theorem mm_LiftGroupLaw_239 : am_mS "LiftGroupLaw" 239 rL_isStop 4 := ⟨mkL_isStop, prL_isStop, tw_1087, tw_1088⟩
set_option maxRecDepth 100000 in
theorem prX7_isStop : am_par rX7_isStop 2 := by unfold am_par; decide +kernel
set_option maxRecDepth 100000 in
theorem mm_LiftGroupLaw_241 : am_mV "LiftGroupLaw" 241 rX7_isStop "LiftGroupModel" 2 := ⟨mkX7_isStop, rfl, prX7_isStop, rfl, tw_1783, tw_1784, tw_1785, tw_12⟩
set_option maxRecDepth 100000 in
theorem prL_stopCount : am_par rL_stopCount 3 := by unfold am_par; decide +kernel
set_option maxRecDepth 100000 in
theorem mm_LiftGroupLaw_242 : am_mS "LiftGroupLaw" 242 rL_stopCount 3 := ⟨mkL_stopCount, prL_stopCount, tw_1100, tw_1101⟩
set_option maxRecDepth 100000 in
theorem prX7_stopCount : am_par rX7_stopCount 1 := by unfold am_par; decide +kernel
set_option maxRecDepth 100000 in
theorem mm_LiftGroupLaw_244 : am_mV "LiftGroupLaw" 244 rX7_stopCount "LiftGroupModel" 1 := ⟨mkX7_stopCount, rfl, prX7_stopCount, rfl, tw_1787, tw_1788, tw_1789, tw_12⟩
set_option maxRecDepth 100000 in
theorem prL_nextStop : am_par rL_nextStop 3 := by unfold am_par; decide +kernel
set_option maxRecDepth 100000 in
theorem mm_LiftGroupLaw_245 : am_mS "LiftGroupLaw" 245 rL_nextStop 3 := ⟨mkL_nextStop, prL_nextStop, tw_1113, tw_1114⟩
set_option maxRecDepth 100000 in
theorem prX7_nextStop : am_par rX7_nextStop 1 := by unfold am_par; decide +kernel
set_option maxRecDepth 100000 in
theorem mm_LiftGroupLaw_247 : am_mV "LiftGroupLaw" 247 rX7_nextStop "LiftGroupModel" 1 := ⟨mkX7_nextStop, rfl, prX7_nextStop, rfl, tw_1795, tw_1796, tw_1797, tw_12⟩
set_option maxRecDepth 100000 in
theorem prX6_passengerCount : am_par rX6_passengerCount 0 := by unfold am_par; decide +kernel
set_option maxRecDepth 100000 in
theorem mm_LiftGroupLaw_248 : am_mV "LiftGroupLaw" 248 rX6_passengerCount "LiftGroup" 0 := ⟨mkX6_passengerCount, rfl, prX6_passengerCount, rfl, tw_320, tw_321, tw_322, tw_1⟩
set_option maxRecDepth 100000 in
theorem prX7_passengerCount : am_par rX7_passengerCount 0 := by unfold am_par; decide +kernel
set_option maxRecDepth 100000 in
theorem mm_LiftGroupLaw_251 : am_mV "LiftGroupLaw" 251 rX7_passengerCount "LiftGroupModel" 0 := ⟨mkX7_passengerCount, rfl, prX7_passengerCount, rfl, tw_1799, tw_1800, tw_1801, tw_12⟩
set_option maxRecDepth 100000 in
theorem prL_number : am_par rL_number 3 := by unfold am_par; decide +kernel
set_option maxRecDepth 100000 in
theorem mm_LiftGroupLaw_252 : am_mS "LiftGroupLaw" 252 rL_number 3 := ⟨mkL_number, prL_number, tw_1138, tw_1139⟩
set_option maxRecDepth 100000 in
theorem prX7_number : am_par rX7_number 1 := by unfold am_par; decide +kernel
set_option maxRecDepth 100000 in
theorem mm_LiftGroupLaw_254 : am_mV "LiftGroupLaw" 254 rX7_number "LiftGroupModel" 1 := ⟨mkX7_number, rfl, prX7_number, rfl, tw_1803, tw_1804, tw_1805, tw_12⟩
set_option maxRecDepth 100000 in
theorem prL_start : am_par rL_start 3 := by unfold am_par; decide +kernel
set_option maxRecDepth 100000 in
theorem mm_LiftGroupLaw_255 : am_mS "LiftGroupLaw" 255 rL_start 3 := ⟨mkL_start, prL_start, tw_1151, tw_1152⟩
set_option maxRecDepth 100000 in
theorem prX7_start : am_par rX7_start 1 := by unfold am_par; decide +kernel
set_option maxRecDepth 100000 in
theorem mm_LiftGroupLaw_257 : am_mV "LiftGroupLaw" 257 rX7_start "LiftGroupModel" 1 := ⟨mkX7_start, rfl, prX7_start, rfl, tw_1811, tw_1812, tw_1813, tw_12⟩
set_option maxRecDepth 100000 in
theorem prL_destination : am_par rL_destination 3 := by unfold am_par; decide +kernel
set_option maxRecDepth 100000 in
theorem mm_LiftGroupLaw_258 : am_mS "LiftGroupLaw" 258 rL_destination 3 := ⟨mkL_destination, prL_destination, tw_1158, tw_1159⟩
set_option maxRecDepth 100000 in
theorem prX7_destination : am_par rX7_destination 1 := by unfold am_par; decide +kernel
set_option maxRecDepth 100000 in
theorem mm_LiftGroupLaw_260 : am_mV "LiftGroupLaw" 260 rX7_destination "LiftGroupModel" 1 := ⟨mkX7_destination, rfl, prX7_destination, rfl, tw_1815, tw_1816, tw_1817, tw_12⟩
set_option maxRecDepth 100000 in
theorem prL_weight : am_par rL_weight 3 := by unfold am_par; decide +kernel
set_option maxRecDepth 100000 in
theorem mm_LiftGroupLaw_261 : am_mS "LiftGroupLaw" 261 rL_weight 3 := ⟨mkL_weight, prL_weight, tw_1165, tw_1166⟩
set_option maxRecDepth 100000 in
theorem prX7_weight : am_par rX7_weight 1 := by unfold am_par; decide +kernel
set_option maxRecDepth 100000 in
theorem mm_LiftGroupLaw_263 : am_mV "LiftGroupLaw" 263 rX7_weight "LiftGroupModel" 1 := ⟨mkX7_weight, rfl, prX7_weight, rfl, tw_1819, tw_1820, tw_1821, tw_12⟩
set_option maxRecDepth 100000 in
theorem prL_waitingTime : am_par rL_waitingTime 3 := by unfold am_par; decide +kernel
set_option maxRecDepth 100000 in
theorem mm_LiftGroupLaw_264 : am_mS "LiftGroupLaw" 264 rL_waitingTime 3 := ⟨mkL_waitingTime, prL_waitingTime, tw_1172, tw_1173⟩
set_option maxRecDepth 100000 in
theorem prX7_waitingTime : am_par rX7_waitingTime 1 := by unfold am_par; decide +kernel
set_option maxRecDepth 100000 in
theorem mm_LiftGroupLaw_266 : am_mV "LiftGroupLaw" 266 rX7_waitingTime "LiftGroupModel" 1 := ⟨mkX7_waitingTime, rfl, prX7_waitingTime, rfl, tw_1823, tw_1824, tw_1825, tw_12⟩
set_option maxRecDepth 100000 in
theorem prL_isInCar : am_par rL_isInCar 3 := by unfold am_par; decide +kernel
set_option maxRecDepth 100000 in
theorem mm_LiftGroupLaw_267 : am_mS "LiftGroupLaw" 267 rL_isInCar 3 := ⟨mkL_isInCar, prL_isInCar, tw_1179, tw_1180⟩
set_option maxRecDepth 100000 in
theorem prX7_isInCar : am_par rX7_isInCar 1 := by unfold am_par; decide +kernel
set_option maxRecDepth 100000 in
theorem mm_LiftGroupLaw_269 : am_mV "LiftGroupLaw" 269 rX7_isInCar "LiftGroupModel" 1 := ⟨mkX7_isInCar, rfl, prX7_isInCar, rfl, tw_1827, tw_1828, tw_1829, tw_12⟩
set_option maxRecDepth 100000 in
theorem prL_carOf : am_par rL_carOf 3 := by unfold am_par; decide +kernel
set_option maxRecDepth 100000 in
theorem mm_LiftGroupLaw_270 : am_mS "LiftGroupLaw" 270 rL_carOf 3 := ⟨mkL_carOf, prL_carOf, tw_1186, tw_1187⟩
set_option maxRecDepth 100000 in
theorem prX7_carOf : am_par rX7_carOf 1 := by unfold am_par; decide +kernel
set_option maxRecDepth 100000 in
theorem mm_LiftGroupLaw_272 : am_mV "LiftGroupLaw" 272 rX7_carOf "LiftGroupModel" 1 := ⟨mkX7_carOf, rfl, prX7_carOf, rfl, tw_1831, tw_1832, tw_1833, tw_12⟩
set_option maxRecDepth 100000 in
theorem prL_waitingAt : am_par rL_waitingAt 3 := by unfold am_par; decide +kernel
set_option maxRecDepth 100000 in
theorem mm_LiftGroupLaw_273 : am_mS "LiftGroupLaw" 273 rL_waitingAt 3 := ⟨mkL_waitingAt, prL_waitingAt, tw_1194, tw_1195⟩
set_option maxRecDepth 100000 in
theorem prX7_waitingAt : am_par rX7_waitingAt 1 := by unfold am_par; decide +kernel
set_option maxRecDepth 100000 in
theorem mm_LiftGroupLaw_275 : am_mV "LiftGroupLaw" 275 rX7_waitingAt "LiftGroupModel" 1 := ⟨mkX7_waitingAt, rfl, prX7_waitingAt, rfl, tw_1835, tw_1836, tw_1837, tw_12⟩
set_option maxRecDepth 100000 in
theorem prL_estimate : am_par rL_estimate 4 := by unfold am_par; decide +kernel
set_option maxRecDepth 100000 in
theorem mm_LiftGroupLaw_276 : am_mS "LiftGroupLaw" 276 rL_estimate 4 := ⟨mkL_estimate, prL_estimate, tw_1201, tw_1202⟩
set_option maxRecDepth 100000 in
theorem mm_LiftGroupLaw_278 : am_mV "LiftGroupLaw" 278 rX7_estimate "LiftGroupModel" 2 := ⟨mkX7_estimate, rfl, prX7_estimate, rfl, tw_1843, tw_1844, tw_1845, tw_12⟩
set_option maxRecDepth 100000 in
theorem prL_estimateByWalk : am_par rL_estimateByWalk 4 := by unfold am_par; decide +kernel
set_option maxRecDepth 100000 in
theorem mm_LiftGroupLaw_279 : am_mS "LiftGroupLaw" 279 rL_estimateByWalk 4 := ⟨mkL_estimateByWalk, prL_estimateByWalk, tw_1209, tw_1210⟩
set_option maxRecDepth 100000 in
theorem prX7_estimateByWalk : am_par rX7_estimateByWalk 2 := by unfold am_par; decide +kernel
set_option maxRecDepth 100000 in
theorem mm_LiftGroupLaw_281 : am_mV "LiftGroupLaw" 281 rX7_estimateByWalk "LiftGroupModel" 2 := ⟨mkX7_estimateByWalk, rfl, prX7_estimateByWalk, rfl, tw_1847, tw_1848, tw_1849, tw_12⟩
set_option maxRecDepth 100000 in
theorem prL_bestCar : am_par rL_bestCar 4 := by unfold am_par; decide +kernel
set_option maxRecDepth 100000 in
theorem mm_LiftGroupLaw_282 : am_mS "LiftGroupLaw" 282 rL_bestCar 4 := ⟨mkL_bestCar, prL_bestCar, tw_1217, tw_1218⟩
set_option maxRecDepth 100000 in
theorem prX7_bestCar : am_par rX7_bestCar 2 := by unfold am_par; decide +kernel
set_option maxRecDepth 100000 in
theorem mm_LiftGroupLaw_284 : am_mV "LiftGroupLaw" 284 rX7_bestCar "LiftGroupModel" 2 := ⟨mkX7_bestCar, rfl, prX7_bestCar, rfl, tw_1852, tw_1853, tw_1854, tw_12⟩
set_option maxRecDepth 100000 in
theorem prL_stepsUntilBoarding : am_par rL_stepsUntilBoarding 3 := by unfold am_par; decide +kernel
set_option maxRecDepth 100000 in
theorem mm_LiftGroupLaw_285 : am_mS "LiftGroupLaw" 285 rL_stepsUntilBoarding 3 := ⟨mkL_stepsUntilBoarding, prL_stepsUntilBoarding, tw_1228, tw_1229⟩
set_option maxRecDepth 100000 in
theorem prX7_stepsUntilBoarding : am_par rX7_stepsUntilBoarding 1 := by unfold am_par; decide +kernel
set_option maxRecDepth 100000 in
theorem mm_LiftGroupLaw_287 : am_mV "LiftGroupLaw" 287 rX7_stepsUntilBoarding "LiftGroupModel" 1 := ⟨mkX7_stepsUntilBoarding, rfl, prX7_stepsUntilBoarding, rfl, tw_1856, tw_1857, tw_1858, tw_12⟩
set_option maxRecDepth 100000 in
theorem prL_stepsUntilArrival : am_par rL_stepsUntilArrival 3 := by unfold am_par; decide +kernel
set_option maxRecDepth 100000 in
theorem mm_LiftGroupLaw_288 : am_mS "LiftGroupLaw" 288 rL_stepsUntilArrival 3 := ⟨mkL_stepsUntilArrival, prL_stepsUntilArrival, tw_1245, tw_1246⟩
set_option maxRecDepth 100000 in
theorem prX7_stepsUntilArrival : am_par rX7_stepsUntilArrival 1 := by unfold am_par; decide +kernel
set_option maxRecDepth 100000 in
theorem mm_LiftGroupLaw_290 : am_mV "LiftGroupLaw" 290 rX7_stepsUntilArrival "LiftGroupModel" 1 := ⟨mkX7_stepsUntilArrival, rfl, prX7_stepsUntilArrival, rfl, tw_1876, tw_1877, tw_1878, tw_12⟩
set_option maxRecDepth 100000 in
theorem prL_tripsWithin : am_par rL_tripsWithin 3 := by unfold am_par; decide +kernel
set_option maxRecDepth 100000 in
theorem mm_LiftGroupLaw_291 : am_mS "LiftGroupLaw" 291 rL_tripsWithin 3 := ⟨mkL_tripsWithin, prL_tripsWithin, tw_1254, tw_1255⟩
set_option maxRecDepth 100000 in
theorem prX7_tripsWithin : am_par rX7_tripsWithin 1 := by unfold am_par; decide +kernel
set_option maxRecDepth 100000 in
theorem mm_LiftGroupLaw_293 : am_mV "LiftGroupLaw" 293 rX7_tripsWithin "LiftGroupModel" 1 := ⟨mkX7_tripsWithin, rfl, prX7_tripsWithin, rfl, tw_1880, tw_1881, tw_1882, tw_12⟩
set_option maxRecDepth 100000 in
theorem prL_passengerByWaiting : am_par rL_passengerByWaiting 3 := by unfold am_par; decide +kernel
set_option maxRecDepth 100000 in
theorem mm_LiftGroupLaw_294 : am_mS "LiftGroupLaw" 294 rL_passengerByWaiting 3 := ⟨mkL_passengerByWaiting, prL_passengerByWaiting, tw_1262, tw_1263⟩
set_option maxRecDepth 100000 in
theorem prX7_passengerByWaiting : am_par rX7_passengerByWaiting 1 := by unfold am_par; decide +kernel
set_option maxRecDepth 100000 in
theorem mm_LiftGroupLaw_296 : am_mV "LiftGroupLaw" 296 rX7_passengerByWaiting "LiftGroupModel" 1 := ⟨mkX7_passengerByWaiting, rfl, prX7_passengerByWaiting, rfl, tw_1884, tw_1885, tw_1886, tw_12⟩
set_option maxRecDepth 100000 in
theorem prL_carByEnergy : am_par rL_carByEnergy 3 := by unfold am_par; decide +kernel
set_option maxRecDepth 100000 in
theorem mm_LiftGroupLaw_297 : am_mS "LiftGroupLaw" 297 rL_carByEnergy 3 := ⟨mkL_carByEnergy, prL_carByEnergy, tw_1278, tw_1279⟩
set_option maxRecDepth 100000 in
theorem prX7_carByEnergy : am_par rX7_carByEnergy 1 := by unfold am_par; decide +kernel
set_option maxRecDepth 100000 in
theorem mm_LiftGroupLaw_299 : am_mV "LiftGroupLaw" 299 rX7_carByEnergy "LiftGroupModel" 1 := ⟨mkX7_carByEnergy, rfl, prX7_carByEnergy, rfl, tw_1892, tw_1893, tw_1894, tw_12⟩
set_option maxRecDepth 100000 in
theorem prL_tripNumber : am_par rL_tripNumber 3 := by unfold am_par; decide +kernel
set_option maxRecDepth 100000 in
theorem mm_LiftGroupLaw_300 : am_mS "LiftGroupLaw" 300 rL_tripNumber 3 := ⟨mkL_tripNumber, prL_tripNumber, tw_1293, tw_1294⟩
set_option maxRecDepth 100000 in
theorem prX7_tripNumber : am_par rX7_tripNumber 1 := by unfold am_par; decide +kernel
set_option maxRecDepth 100000 in
theorem mm_LiftGroupLaw_302 : am_mV "LiftGroupLaw" 302 rX7_tripNumber "LiftGroupModel" 1 := ⟨mkX7_tripNumber, rfl, prX7_tripNumber, rfl, tw_1900, tw_1901, tw_1902, tw_12⟩
set_option maxRecDepth 100000 in
theorem prL_tripCar : am_par rL_tripCar 3 := by unfold am_par; decide +kernel
set_option maxRecDepth 100000 in
theorem mm_LiftGroupLaw_303 : am_mS "LiftGroupLaw" 303 rL_tripCar 3 := ⟨mkL_tripCar, prL_tripCar, tw_1313, tw_1314⟩
set_option maxRecDepth 100000 in
theorem prX7_tripCar : am_par rX7_tripCar 1 := by unfold am_par; decide +kernel
set_option maxRecDepth 100000 in
theorem mm_LiftGroupLaw_305 : am_mV "LiftGroupLaw" 305 rX7_tripCar "LiftGroupModel" 1 := ⟨mkX7_tripCar, rfl, prX7_tripCar, rfl, tw_1908, tw_1909, tw_1910, tw_12⟩
set_option maxRecDepth 100000 in
theorem prL_tripWaiting : am_par rL_tripWaiting 3 := by unfold am_par; decide +kernel
set_option maxRecDepth 100000 in
theorem mm_LiftGroupLaw_306 : am_mS "LiftGroupLaw" 306 rL_tripWaiting 3 := ⟨mkL_tripWaiting, prL_tripWaiting, tw_1320, tw_1321⟩
set_option maxRecDepth 100000 in
theorem prX7_tripWaiting : am_par rX7_tripWaiting 1 := by unfold am_par; decide +kernel
set_option maxRecDepth 100000 in
theorem mm_LiftGroupLaw_308 : am_mV "LiftGroupLaw" 308 rX7_tripWaiting "LiftGroupModel" 1 := ⟨mkX7_tripWaiting, rfl, prX7_tripWaiting, rfl, tw_1912, tw_1913, tw_1914, tw_12⟩
set_option maxRecDepth 100000 in
theorem prX6_tripCount : am_par rX6_tripCount 0 := by unfold am_par; decide +kernel
set_option maxRecDepth 100000 in
theorem mm_LiftGroupLaw_309 : am_mV "LiftGroupLaw" 309 rX6_tripCount "LiftGroup" 0 := ⟨mkX6_tripCount, rfl, prX6_tripCount, rfl, tw_324, tw_325, tw_326, tw_1⟩
set_option maxRecDepth 100000 in
theorem prX7_tripCount : am_par rX7_tripCount 0 := by unfold am_par; decide +kernel
set_option maxRecDepth 100000 in
theorem mm_LiftGroupLaw_312 : am_mV "LiftGroupLaw" 312 rX7_tripCount "LiftGroupModel" 0 := ⟨mkX7_tripCount, rfl, prX7_tripCount, rfl, tw_1916, tw_1917, tw_1918, tw_12⟩
set_option maxRecDepth 100000 in
theorem prX6_totalEnergy : am_par rX6_totalEnergy 0 := by unfold am_par; decide +kernel
set_option maxRecDepth 100000 in
theorem mm_LiftGroupLaw_313 : am_mV "LiftGroupLaw" 313 rX6_totalEnergy "LiftGroup" 0 := ⟨mkX6_totalEnergy, rfl, prX6_totalEnergy, rfl, tw_328, tw_329, tw_330, tw_1⟩
set_option maxRecDepth 100000 in
theorem prX7_totalEnergy : am_par rX7_totalEnergy 0 := by unfold am_par; decide +kernel
set_option maxRecDepth 100000 in
theorem mm_LiftGroupLaw_317 : am_mV "LiftGroupLaw" 317 rX7_totalEnergy "LiftGroupModel" 0 := ⟨mkX7_totalEnergy, rfl, prX7_totalEnergy, rfl, tw_1920, tw_1921, tw_1922, tw_12⟩
set_option maxRecDepth 100000 in
theorem prX6_totalEnergyByMoves : am_par rX6_totalEnergyByMoves 0 := by unfold am_par; decide +kernel
set_option maxRecDepth 100000 in
theorem mm_LiftGroupLaw_318 : am_mV "LiftGroupLaw" 318 rX6_totalEnergyByMoves "LiftGroup" 0 := ⟨mkX6_totalEnergyByMoves, rfl, prX6_totalEnergyByMoves, rfl, tw_336, tw_337, tw_338, tw_1⟩
set_option maxRecDepth 100000 in
theorem prX7_totalEnergyByMoves : am_par rX7_totalEnergyByMoves 0 := by unfold am_par; decide +kernel
set_option maxRecDepth 100000 in
theorem mm_LiftGroupLaw_321 : am_mV "LiftGroupLaw" 321 rX7_totalEnergyByMoves "LiftGroupModel" 0 := ⟨mkX7_totalEnergyByMoves, rfl, prX7_totalEnergyByMoves, rfl, tw_1924, tw_1925, tw_1926, tw_12⟩
set_option maxRecDepth 100000 in
theorem prX6_floorsUp : am_par rX6_floorsUp 0 := by unfold am_par; decide +kernel
set_option maxRecDepth 100000 in
theorem mm_LiftGroupLaw_322 : am_mV "LiftGroupLaw" 322 rX6_floorsUp "LiftGroup" 0 := ⟨mkX6_floorsUp, rfl, prX6_floorsUp, rfl, tw_345, tw_346, tw_347, tw_1⟩
set_option maxRecDepth 100000 in
theorem prX7_floorsUp : am_par rX7_floorsUp 0 := by unfold am_par; decide +kernel
set_option maxRecDepth 100000 in
theorem mm_LiftGroupLaw_325 : am_mV "LiftGroupLaw" 325 rX7_floorsUp "LiftGroupModel" 0 := ⟨mkX7_floorsUp, rfl, prX7_floorsUp, rfl, tw_1929, tw_1930, tw_1931, tw_12⟩
set_option maxRecDepth 100000 in
theorem prX6_floorsDown : am_par rX6_floorsDown 0 := by unfold am_par; decide +kernel
set_option maxRecDepth 100000 in
theorem mm_LiftGroupLaw_326 : am_mV "LiftGroupLaw" 326 rX6_floorsDown "LiftGroup" 0 := ⟨mkX6_floorsDown, rfl, prX6_floorsDown, rfl, tw_349, tw_350, tw_351, tw_1⟩
set_option maxRecDepth 100000 in
theorem prX7_floorsDown : am_par rX7_floorsDown 0 := by unfold am_par; decide +kernel
set_option maxRecDepth 100000 in
theorem mm_LiftGroupLaw_329 : am_mV "LiftGroupLaw" 329 rX7_floorsDown "LiftGroupModel" 0 := ⟨mkX7_floorsDown, rfl, prX7_floorsDown, rfl, tw_1933, tw_1934, tw_1935, tw_12⟩
set_option maxRecDepth 100000 in
theorem prX6_doorOpenings : am_par rX6_doorOpenings 0 := by unfold am_par; decide +kernel
set_option maxRecDepth 100000 in
theorem mm_LiftGroupLaw_330 : am_mV "LiftGroupLaw" 330 rX6_doorOpenings "LiftGroup" 0 := ⟨mkX6_doorOpenings, rfl, prX6_doorOpenings, rfl, tw_353, tw_354, tw_355, tw_1⟩
set_option maxRecDepth 100000 in
theorem prX7_doorOpenings : am_par rX7_doorOpenings 0 := by unfold am_par; decide +kernel
set_option maxRecDepth 100000 in
theorem mm_LiftGroupLaw_333 : am_mV "LiftGroupLaw" 333 rX7_doorOpenings "LiftGroupModel" 0 := ⟨mkX7_doorOpenings, rfl, prX7_doorOpenings, rfl, tw_1937, tw_1938, tw_1939, tw_12⟩
set_option maxRecDepth 100000 in
theorem prL_meanWaiting : am_par rL_meanWaiting 2 := by unfold am_par; decide +kernel
set_option maxRecDepth 100000 in
theorem mm_LiftGroupLaw_334 : am_mS "LiftGroupLaw" 334 rL_meanWaiting 2 := ⟨mkL_meanWaiting, prL_meanWaiting, tw_1327, tw_1328⟩
set_option maxRecDepth 100000 in
theorem prX7_meanWaiting : am_par rX7_meanWaiting 0 := by unfold am_par; decide +kernel
set_option maxRecDepth 100000 in
theorem mm_LiftGroupLaw_337 : am_mV "LiftGroupLaw" 337 rX7_meanWaiting "LiftGroupModel" 0 := ⟨mkX7_meanWaiting, rfl, prX7_meanWaiting, rfl, tw_1941, tw_1942, tw_1943, tw_12⟩
set_option maxRecDepth 100000 in
theorem prL_loadShare : am_par rL_loadShare 3 := by unfold am_par; decide +kernel
set_option maxRecDepth 100000 in
theorem mm_LiftGroupLaw_338 : am_mS "LiftGroupLaw" 338 rL_loadShare 3 := ⟨mkL_loadShare, prL_loadShare, tw_1351, tw_1352⟩
set_option maxRecDepth 100000 in
theorem prX7_loadShare : am_par rX7_loadShare 1 := by unfold am_par; decide +kernel
set_option maxRecDepth 100000 in
theorem mm_LiftGroupLaw_341 : am_mV "LiftGroupLaw" 341 rX7_loadShare "LiftGroupModel" 1 := ⟨mkX7_loadShare, rfl, prX7_loadShare, rfl, tw_1945, tw_1946, tw_1947, tw_12⟩
set_option maxRecDepth 100000 in
theorem prX6_isConsistent : am_par rX6_isConsistent 0 := by unfold am_par; decide +kernel
set_option maxRecDepth 100000 in
theorem mm_LiftGroupLaw_342 : am_mV "LiftGroupLaw" 342 rX6_isConsistent "LiftGroup" 0 := ⟨mkX6_isConsistent, rfl, prX6_isConsistent, rfl, tw_357, tw_358, tw_359, tw_1⟩
set_option maxRecDepth 100000 in
theorem prX7_isConsistent : am_par rX7_isConsistent 0 := by unfold am_par; decide +kernel
set_option maxRecDepth 100000 in
theorem mm_LiftGroupLaw_346 : am_mV "LiftGroupLaw" 346 rX7_isConsistent "LiftGroupModel" 0 := ⟨mkX7_isConsistent, rfl, prX7_isConsistent, rfl, tw_1949, tw_1950, tw_1951, tw_12⟩
set_option maxRecDepth 100000 in
theorem prL_renderCar : am_par rL_renderCar 3 := by unfold am_par; decide +kernel
set_option maxRecDepth 100000 in
theorem mm_LiftGroupLaw_347 : am_mS "LiftGroupLaw" 347 rL_renderCar 3 := ⟨mkL_renderCar, prL_renderCar, tw_1358, tw_1359⟩
set_option maxRecDepth 100000 in
theorem prX7_renderCar : am_par rX7_renderCar 1 := by unfold am_par; decide +kernel
set_option maxRecDepth 100000 in
theorem mm_LiftGroupLaw_349 : am_mV "LiftGroupLaw" 349 rX7_renderCar "LiftGroupModel" 1 := ⟨mkX7_renderCar, rfl, prX7_renderCar, rfl, tw_1953, tw_1954, tw_1955, tw_12⟩
set_option maxRecDepth 100000 in
theorem prX6_renderFloors : am_par rX6_renderFloors 0 := by unfold am_par; decide +kernel
set_option maxRecDepth 100000 in
theorem mm_LiftGroupLaw_350 : am_mV "LiftGroupLaw" 350 rX6_renderFloors "LiftGroup" 0 := ⟨mkX6_renderFloors, rfl, prX6_renderFloors, rfl, tw_401, tw_402, tw_403, tw_1⟩
set_option maxRecDepth 100000 in
theorem prX7_renderFloors : am_par rX7_renderFloors 0 := by unfold am_par; decide +kernel
set_option maxRecDepth 100000 in
theorem mm_LiftGroupLaw_353 : am_mV "LiftGroupLaw" 353 rX7_renderFloors "LiftGroupModel" 0 := ⟨mkX7_renderFloors, rfl, prX7_renderFloors, rfl, tw_1965, tw_1966, tw_1967, tw_12⟩
set_option maxRecDepth 100000 in
theorem prL_outputAt : am_par rL_outputAt 3 := by unfold am_par; decide +kernel
set_option maxRecDepth 100000 in
theorem mm_LiftGroupLaw_354 : am_mS "LiftGroupLaw" 354 rL_outputAt 3 := ⟨mkL_outputAt, prL_outputAt, tw_1365, tw_1366⟩
set_option maxRecDepth 100000 in
theorem prX7_outputAt : am_par rX7_outputAt 1 := by unfold am_par; decide +kernel
set_option maxRecDepth 100000 in
theorem mm_LiftGroupLaw_356 : am_mV "LiftGroupLaw" 356 rX7_outputAt "LiftGroupModel" 1 := ⟨mkX7_outputAt, rfl, prX7_outputAt, rfl, tw_1969, tw_1970, tw_1971, tw_12⟩
set_option maxRecDepth 100000 in
theorem prL_type : am_par rL_type 3 := by unfold am_par; decide +kernel
set_option maxRecDepth 100000 in
theorem mm_LiftGroupLaw_357 : am_mS "LiftGroupLaw" 357 rL_type 3 := ⟨mkL_type, prL_type, tw_1383, tw_1384⟩
set_option maxRecDepth 100000 in
theorem prX7_type : am_par rX7_type 1 := by unfold am_par; decide +kernel
set_option maxRecDepth 100000 in
theorem mm_LiftGroupLaw_360 : am_mV "LiftGroupLaw" 360 rX7_type "LiftGroupModel" 1 := ⟨mkX7_type, rfl, prX7_type, rfl, tw_1973, tw_1974, tw_1975, tw_12⟩
set_option maxRecDepth 100000 in
theorem prL_runScript : am_par rL_runScript 2 := by unfold am_par; decide +kernel
set_option maxRecDepth 100000 in
theorem mm_LiftGroupLaw_361 : am_mS "LiftGroupLaw" 361 rL_runScript 2 := ⟨mkL_runScript, prL_runScript, tw_1392, tw_1393⟩
set_option maxRecDepth 100000 in
theorem prX7_runScript : am_par rX7_runScript 0 := by unfold am_par; decide +kernel
set_option maxRecDepth 100000 in
theorem mm_LiftGroupLaw_364 : am_mV "LiftGroupLaw" 364 rX7_runScript "LiftGroupModel" 0 := ⟨mkX7_runScript, rfl, prX7_runScript, rfl, tw_1977, tw_1978, tw_1979, tw_12⟩
set_option maxRecDepth 100000 in
theorem prL_errorPosition : am_par rL_errorPosition 2 := by unfold am_par; decide +kernel
set_option maxRecDepth 100000 in
theorem mm_LiftGroupLaw_365 : am_mS "LiftGroupLaw" 365 rL_errorPosition 2 := ⟨mkL_errorPosition, prL_errorPosition, tw_1477, tw_1478⟩
set_option maxRecDepth 100000 in
theorem prX7_errorPosition : am_par rX7_errorPosition 0 := by unfold am_par; decide +kernel
set_option maxRecDepth 100000 in
theorem mm_LiftGroupLaw_367 : am_mV "LiftGroupLaw" 367 rX7_errorPosition "LiftGroupModel" 0 := ⟨mkX7_errorPosition, rfl, prX7_errorPosition, rfl, tw_2009, tw_2010, tw_2011, tw_12⟩
set_option maxRecDepth 100000 in
theorem prL_failedCommand : am_par rL_failedCommand 2 := by unfold am_par; decide +kernel
set_option maxRecDepth 100000 in
theorem mm_LiftGroupLaw_368 : am_mS "LiftGroupLaw" 368 rL_failedCommand 2 := ⟨mkL_failedCommand, prL_failedCommand, tw_1485, tw_1486⟩
set_option maxRecDepth 100000 in
theorem prX7_failedCommand : am_par rX7_failedCommand 0 := by unfold am_par; decide +kernel
set_option maxRecDepth 100000 in
theorem mm_LiftGroupLaw_370 : am_mV "LiftGroupLaw" 370 rX7_failedCommand "LiftGroupModel" 0 := ⟨mkX7_failedCommand, rfl, prX7_failedCommand, rfl, tw_2013, tw_2014, tw_2015, tw_12⟩
set_option maxRecDepth 100000 in
theorem prL_undo : am_par rL_undo 2 := by unfold am_par; decide +kernel
set_option maxRecDepth 100000 in
theorem mm_LiftGroupLaw_371 : am_mS "LiftGroupLaw" 371 rL_undo 2 := ⟨mkL_undo, prL_undo, tw_1493, tw_1494⟩
set_option maxRecDepth 100000 in
theorem prX7_undo : am_par rX7_undo 0 := by unfold am_par; decide +kernel
set_option maxRecDepth 100000 in
theorem mm_LiftGroupLaw_373 : am_mV "LiftGroupLaw" 373 rX7_undo "LiftGroupModel" 0 := ⟨mkX7_undo, rfl, prX7_undo, rfl, tw_2017, tw_2018, tw_2019, tw_12⟩
set_option maxRecDepth 100000 in
theorem prX6_save : am_par rX6_save 0 := by unfold am_par; decide +kernel
set_option maxRecDepth 100000 in
theorem mm_LiftGroupLaw_374 : am_mV "LiftGroupLaw" 374 rX6_save "LiftGroup" 0 := ⟨mkX6_save, rfl, prX6_save, rfl, tw_780, tw_781, tw_782, tw_1⟩
set_option maxRecDepth 100000 in
theorem prX7_save : am_par rX7_save 0 := by unfold am_par; decide +kernel
set_option maxRecDepth 100000 in
theorem mm_LiftGroupLaw_377 : am_mV "LiftGroupLaw" 377 rX7_save "LiftGroupModel" 0 := ⟨mkX7_save, rfl, prX7_save, rfl, tw_2021, tw_2022, tw_2023, tw_12⟩
set_option maxRecDepth 100000 in
theorem prL_restore : am_par rL_restore 2 := by unfold am_par; decide +kernel
set_option maxRecDepth 100000 in
theorem mm_LiftGroupLaw_378 : am_mS "LiftGroupLaw" 378 rL_restore 2 := ⟨mkL_restore, prL_restore, tw_1505, tw_1506⟩
set_option maxRecDepth 100000 in
theorem prX7_restore : am_par rX7_restore 0 := by unfold am_par; decide +kernel
set_option maxRecDepth 100000 in
theorem mm_LiftGroupLaw_380 : am_mV "LiftGroupLaw" 380 rX7_restore "LiftGroupModel" 0 := ⟨mkX7_restore, rfl, prX7_restore, rfl, tw_2025, tw_2026, tw_2027, tw_12⟩
set_option maxRecDepth 100000 in
theorem mkJ5_init_d00df : am_mk rJ5_init_d00df := ⟨tw_238, tw_8, by decide, by decide +kernel, by decide +kernel, by decide +kernel⟩
set_option maxRecDepth 100000 in
theorem prJ5_init_d00df : am_par rJ5_init_d00df 1 := by unfold am_par; decide +kernel
set_option maxRecDepth 100000 in
theorem mm_java_lang_StringBuilder_1 : am_mI "java/lang/StringBuilder" 1 rJ5_init_d00df 1 := ⟨mkJ5_init_d00df, rfl, prJ5_init_d00df, tw_236, tw_237, rfl, rfl⟩
set_option maxRecDepth 100000 in
theorem mkJ2_newBytesFor_77867 : am_mk rJ2_newBytesFor_77867 := ⟨tw_244, tw_11, by decide, by decide +kernel, by decide +kernel, by decide +kernel⟩
set_option maxRecDepth 100000 in
theorem prJ2_newBytesFor_77867 : am_par rJ2_newBytesFor_77867 1 := by unfold am_par; decide +kernel
set_option maxRecDepth 100000 in
theorem mm_java_lang_AbstractStringBuilder_26 : am_mS "java/lang/AbstractStringBuilder" 26 rJ2_newBytesFor_77867 1 := ⟨mkJ2_newBytesFor_77867, prJ2_newBytesFor_77867, tw_242, tw_243⟩
set_option maxRecDepth 100000 in
theorem ff_java_lang_AbstractStringBuilder_15 : am_F "java/lang/AbstractStringBuilder" 15 8 0 := ⟨RJ4, TJ4, 4, rfl, by decide, tw_249⟩
set_option maxRecDepth 100000 in
theorem ff_java_lang_AbstractStringBuilder_22 : am_F "java/lang/AbstractStringBuilder" 22 8 1 := ⟨RJ4, TJ4, 4, rfl, by decide, tw_250⟩
set_option maxRecDepth 100000 in
theorem mkJ5_append_3fe6f : am_mk rJ5_append_3fe6f := ⟨tw_758, tw_8, by decide, by decide +kernel, by decide +kernel, by decide +kernel⟩
set_option maxRecDepth 100000 in
theorem prJ5_append_3fe6f : am_par rJ5_append_3fe6f 1 := by unfold am_par; decide +kernel
set_option maxRecDepth 100000 in
theorem mm_java_lang_StringBuilder_50 : am_mSU "java/lang/StringBuilder" 50 rJ5_append_3fe6f 1 := ⟨mkJ5_append_3fe6f, rfl, prJ5_append_3fe6f, tw_756, tw_2041, tw_262, tw_757, by decide⟩
set_option maxRecDepth 100000 in
theorem ff_java_lang_AbstractStringBuilder_79 : am_F "java/lang/AbstractStringBuilder" 79 8 3 := ⟨RJ4, TJ4, 4, rfl, by decide, tw_253⟩
set_option maxRecDepth 100000 in
theorem mkJ5_ensureCapacityInternal_d00df : am_mk rJ5_ensureCapacityInternal_d00df := ⟨tw_434, tw_8, by decide, by decide +kernel, by decide +kernel, by decide +kernel⟩
set_option maxRecDepth 100000 in
theorem prJ5_ensureCapacityInternal_d00df : am_par rJ5_ensureCapacityInternal_d00df 1 := by unfold am_par; decide +kernel
set_option maxRecDepth 100000 in
theorem mm_java_lang_AbstractStringBuilder_100 : am_mU2 "java/lang/AbstractStringBuilder" 100 rJ5_ensureCapacityInternal_d00df "java/lang/StringBuilder" 1 := ⟨mkJ5_ensureCapacityInternal_d00df, rfl, prJ5_ensureCapacityInternal_d00df, tw_431, tw_2034, tw_433, .inr ⟨tn_432, _, ⟨"java/lang/AbstractStringBuilder", "isLatin1", "()Z"⟩, tw_232, rfl, tw_469⟩⟩
set_option maxRecDepth 100000 in
theorem mkJ5_isLatin1_aae02 : am_mk rJ5_isLatin1_aae02 := ⟨tw_470, tw_8, by decide, by decide +kernel, by decide +kernel, by decide +kernel⟩
set_option maxRecDepth 100000 in
theorem prJ5_isLatin1_aae02 : am_par rJ5_isLatin1_aae02 0 := by unfold am_par; decide +kernel
set_option maxRecDepth 100000 in
theorem mm_java_lang_AbstractStringBuilder_83 : am_mU2 "java/lang/AbstractStringBuilder" 83 rJ5_isLatin1_aae02 "java/lang/StringBuilder" 0 := ⟨mkJ5_isLatin1_aae02, rfl, prJ5_isLatin1_aae02, tw_466, tw_468, tw_467, .inl tw_469⟩
set_option maxRecDepth 100000 in
theorem mkJ2_putCharSB_b72d1 : am_mk rJ2_putCharSB_b72d1 := ⟨tw_764, tw_11, by decide, by decide +kernel, by decide +kernel, by decide +kernel⟩
set_option maxRecDepth 100000 in
theorem prJ2_putCharSB_b72d1 : am_par rJ2_putCharSB_b72d1 3 := by unfold am_par; decide +kernel
set_option maxRecDepth 100000 in
theorem mm_java_lang_AbstractStringBuilder_197 : am_mS "java/lang/AbstractStringBuilder" 197 rJ2_putCharSB_b72d1 3 := ⟨mkJ2_putCharSB_b72d1, prJ2_putCharSB_b72d1, tw_762, tw_763⟩
set_option maxRecDepth 100000 in
theorem mkJ5_inflate_da8c8 : am_mk rJ5_inflate_da8c8 := ⟨tw_518, tw_8, by decide, by decide +kernel, by decide +kernel, by decide +kernel⟩
set_option maxRecDepth 100000 in
theorem prJ5_inflate_da8c8 : am_par rJ5_inflate_da8c8 0 := by unfold am_par; decide +kernel
set_option maxRecDepth 100000 in
theorem mm_java_lang_AbstractStringBuilder_195 : am_mU2 "java/lang/AbstractStringBuilder" 195 rJ5_inflate_da8c8 "java/lang/StringBuilder" 0 := ⟨mkJ5_inflate_da8c8, rfl, prJ5_inflate_da8c8, tw_515, tw_2038, tw_517, .inr ⟨tn_516, _, ⟨"java/lang/AbstractStringBuilder", "isLatin1", "()Z"⟩, tw_232, rfl, tw_469⟩⟩
set_option maxRecDepth 100000 in
theorem mkJ1_canEncode_fc78d : am_mk rJ1_canEncode_fc78d := ⟨tw_761, tw_31, by decide, by decide +kernel, by decide +kernel, by decide +kernel⟩
set_option maxRecDepth 100000 in
theorem prJ1_canEncode_fc78d : am_par rJ1_canEncode_fc78d 1 := by unfold am_par; decide +kernel
set_option maxRecDepth 100000 in
theorem mm_java_lang_AbstractStringBuilder_191 : am_mS "java/lang/AbstractStringBuilder" 191 rJ1_canEncode_fc78d 1 := ⟨mkJ1_canEncode_fc78d, prJ1_canEncode_fc78d, tw_759, tw_760⟩
set_option maxRecDepth 100000 in
theorem mkJ5_append_c97b9 : am_mk rJ5_append_c97b9 := ⟨tw_546, tw_8, by decide, by decide +kernel, by decide +kernel, by decide +kernel⟩
set_option maxRecDepth 100000 in
theorem prJ5_append_c97b9 : am_par rJ5_append_c97b9 1 := by unfold am_par; decide +kernel
set_option maxRecDepth 100000 in
theorem mm_java_lang_StringBuilder_53 : am_mSU "java/lang/StringBuilder" 53 rJ5_append_c97b9 1 := ⟨mkJ5_append_c97b9, rfl, prJ5_append_c97b9, tw_544, tw_2039, tw_262, tw_545, by decide⟩
set_option maxRecDepth 100000 in
theorem mkJ6_stringSize_0f7a4 : am_mk rJ6_stringSize_0f7a4 := ⟨tw_549, tw_24, by decide, by decide +kernel, by decide +kernel, by decide +kernel⟩
set_option maxRecDepth 100000 in
theorem prJ6_stringSize_0f7a4 : am_par rJ6_stringSize_0f7a4 1 := by unfold am_par; decide +kernel
set_option maxRecDepth 100000 in
theorem mm_java_lang_AbstractStringBuilder_245 : am_mS "java/lang/AbstractStringBuilder" 245 rJ6_stringSize_0f7a4 1 := ⟨mkJ6_stringSize_0f7a4, prJ6_stringSize_0f7a4, tw_547, tw_548⟩
set_option maxRecDepth 100000 in
theorem mkJ2_getChars_46870 : am_mk rJ2_getChars_46870 := ⟨tw_559, tw_11, by decide, by decide +kernel, by decide +kernel, by decide +kernel⟩
set_option maxRecDepth 100000 in
theorem prJ2_getChars_46870 : am_par rJ2_getChars_46870 4 := by unfold am_par; decide +kernel
set_option maxRecDepth 100000 in
theorem mm_java_lang_AbstractStringBuilder_251 : am_mS "java/lang/AbstractStringBuilder" 251 rJ2_getChars_46870 4 := ⟨mkJ2_getChars_46870, prJ2_getChars_46870, tw_557, tw_558⟩
set_option maxRecDepth 100000 in
theorem mkJ6_getChars_ba4f3 : am_mk rJ6_getChars_ba4f3 := ⟨tw_552, tw_24, by decide, by decide +kernel, by decide +kernel, by decide +kernel⟩
set_option maxRecDepth 100000 in
theorem prJ6_getChars_ba4f3 : am_par rJ6_getChars_ba4f3 3 := by unfold am_par; decide +kernel
set_option maxRecDepth 100000 in
theorem mm_java_lang_AbstractStringBuilder_248 : am_mS "java/lang/AbstractStringBuilder" 248 rJ6_getChars_ba4f3 3 := ⟨mkJ6_getChars_ba4f3, prJ6_getChars_ba4f3, tw_550, tw_551⟩
set_option maxRecDepth 100000 in
theorem mkJ5_newCapacity_0f7a4 : am_mk rJ5_newCapacity_0f7a4 := ⟨tw_438, tw_8, by decide, by decide +kernel, by decide +kernel, by decide +kernel⟩
set_option maxRecDepth 100000 in
theorem prJ5_newCapacity_0f7a4 : am_par rJ5_newCapacity_0f7a4 1 := by unfold am_par; decide +kernel
set_option maxRecDepth 100000 in
theorem mm_java_lang_AbstractStringBuilder_104 : am_mU2 "java/lang/AbstractStringBuilder" 104 rJ5_newCapacity_0f7a4 "java/lang/StringBuilder" 1 := ⟨mkJ5_newCapacity_0f7a4, rfl, prJ5_newCapacity_0f7a4, tw_435, tw_2035, tw_437, .inr ⟨tn_436, _, ⟨"java/lang/AbstractStringBuilder", "isLatin1", "()Z"⟩, tw_232, rfl, tw_469⟩⟩
set_option maxRecDepth 100000 in
theorem mkJ7_copyOf_9075b : am_mk rJ7_copyOf_9075b := ⟨tw_452, tw_29, by decide, by decide +kernel, by decide +kernel, by decide +kernel⟩
set_option maxRecDepth 100000 in
theorem prJ7_copyOf_9075b : am_par rJ7_copyOf_9075b 2 := by unfold am_par; decide +kernel
set_option maxRecDepth 100000 in
theorem mm_java_lang_AbstractStringBuilder_108 : am_mS "java/lang/AbstractStringBuilder" 108 rJ7_copyOf_9075b 2 := ⟨mkJ7_copyOf_9075b, prJ7_copyOf_9075b, tw_450, tw_451⟩
set_option maxRecDepth 100000 in
theorem mkJ8_newLength_cabcc : am_mk rJ8_newLength_cabcc := ⟨tw_441, tw_28, by decide, by decide +kernel, by decide +kernel, by decide +kernel⟩
set_option maxRecDepth 100000 in
theorem prJ8_newLength_cabcc : am_par rJ8_newLength_cabcc 3 := by unfold am_par; decide +kernel
set_option maxRecDepth 100000 in
theorem mm_java_lang_AbstractStringBuilder_114 : am_mS "java/lang/AbstractStringBuilder" 114 rJ8_newLength_cabcc 3 := ⟨mkJ8_newLength_cabcc, prJ8_newLength_cabcc, tw_439, tw_440⟩
set_option maxRecDepth 100000 in
theorem mkJ8_hugeLength_7cf53 : am_mk rJ8_hugeLength_7cf53 := ⟨tw_448, tw_28, by decide, by decide +kernel, by decide +kernel, by decide +kernel⟩
set_option maxRecDepth 100000 in
theorem prJ8_hugeLength_7cf53 : am_par rJ8_hugeLength_7cf53 2 := by unfold am_par; decide +kernel
set_option maxRecDepth 100000 in
theorem mm_jdk_internal_util_ArraysSupport_201 : am_mS "jdk/internal/util/ArraysSupport" 201 rJ8_hugeLength_7cf53 2 := ⟨mkJ8_hugeLength_7cf53, prJ8_hugeLength_7cf53, tw_446, tw_447⟩
set_option maxRecDepth 100000 in
theorem mkJ5_charAt_5068e : am_mk rJ5_charAt_5068e := ⟨tw_1379, tw_8, by decide, by decide +kernel, by decide +kernel, by decide +kernel⟩
set_option maxRecDepth 100000 in
theorem prJ5_charAt_5068e : am_par rJ5_charAt_5068e 1 := by unfold am_par; decide +kernel
set_option maxRecDepth 100000 in
theorem mm_java_lang_StringBuilder_329 : am_mSU "java/lang/StringBuilder" 329 rJ5_charAt_5068e 1 := ⟨mkJ5_charAt_5068e, rfl, prJ5_charAt_5068e, tw_1377, tw_2043, tw_262, tw_1378, by decide⟩
set_option maxRecDepth 100000 in
theorem mkJ0_checkIndex_df160 : am_mk rJ0_checkIndex_df160 := ⟨tw_770, tw_10, by decide, by decide +kernel, by decide +kernel, by decide +kernel⟩
set_option maxRecDepth 100000 in
theorem prJ0_checkIndex_df160 : am_par rJ0_checkIndex_df160 2 := by unfold am_par; decide +kernel
set_option maxRecDepth 100000 in
theorem mm_java_lang_AbstractStringBuilder_144 : am_mS "java/lang/AbstractStringBuilder" 144 rJ0_checkIndex_df160 2 := ⟨mkJ0_checkIndex_df160, prJ0_checkIndex_df160, tw_1381, tw_769⟩
set_option maxRecDepth 100000 in
theorem mkJ2_getChar_3b067 : am_mk rJ2_getChar_3b067 := ⟨tw_686, tw_11, by decide, by decide +kernel, by decide +kernel, by decide +kernel⟩
set_option maxRecDepth 100000 in
theorem prJ2_getChar_3b067 : am_par rJ2_getChar_3b067 2 := by unfold am_par; decide +kernel
set_option maxRecDepth 100000 in
theorem mm_java_lang_AbstractStringBuilder_148 : am_mS "java/lang/AbstractStringBuilder" 148 rJ2_getChar_3b067 2 := ⟨mkJ2_getChar_3b067, prJ2_getChar_3b067, tw_1382, tw_685⟩
set_option maxRecDepth 100000 in
theorem mkJ3_checkIndex_8e157 : am_mk rJ3_checkIndex_8e157 := ⟨tw_773, tw_30, by decide, by decide +kernel, by decide +kernel, by decide +kernel⟩
set_option maxRecDepth 100000 in
theorem mkJ5_length_8abf5 : am_mk rJ5_length_8abf5 := ⟨tw_590, tw_8, by decide, by decide +kernel, by decide +kernel, by decide +kernel⟩
set_option maxRecDepth 100000 in
theorem prJ5_length_8abf5 : am_par rJ5_length_8abf5 0 := by unfold am_par; decide +kernel
set_option maxRecDepth 100000 in
theorem mm_java_lang_StringBuilder_343 : am_mSU "java/lang/StringBuilder" 343 rJ5_length_8abf5 0 := ⟨mkJ5_length_8abf5, rfl, prJ5_length_8abf5, tw_589, tw_585, tw_262, tw_584, by decide⟩
set_option maxRecDepth 100000 in
theorem mkJ5_setLength_d00df : am_mk rJ5_setLength_d00df := ⟨tw_411, tw_8, by decide, by decide +kernel, by decide +kernel, by decide +kernel⟩
set_option maxRecDepth 100000 in
theorem prJ5_setLength_d00df : am_par rJ5_setLength_d00df 1 := by unfold am_par; decide +kernel
set_option maxRecDepth 100000 in
theorem mm_java_lang_StringBuilder_333 : am_mSU "java/lang/StringBuilder" 333 rJ5_setLength_d00df 1 := ⟨mkJ5_setLength_d00df, rfl, prJ5_setLength_d00df, tw_409, tw_2031, tw_262, tw_410, by decide⟩
set_option maxRecDepth 100000 in
theorem ff_java_lang_AbstractStringBuilder_73 : am_F "java/lang/AbstractStringBuilder" 73 8 2 := ⟨RJ4, TJ4, 4, rfl, by decide, tw_251⟩
set_option maxRecDepth 100000 in
theorem mkJ2_fillNull_b72d1 : am_mk rJ2_fillNull_b72d1 := ⟨tw_750, tw_11, by decide, by decide +kernel, by decide +kernel, by decide +kernel⟩
set_option maxRecDepth 100000 in
theorem prJ2_fillNull_b72d1 : am_par rJ2_fillNull_b72d1 3 := by unfold am_par; decide +kernel
set_option maxRecDepth 100000 in
theorem mm_java_lang_AbstractStringBuilder_137 : am_mS "java/lang/AbstractStringBuilder" 137 rJ2_fillNull_b72d1 3 := ⟨mkJ2_fillNull_b72d1, prJ2_fillNull_b72d1, tw_748, tw_749⟩
set_option maxRecDepth 100000 in
theorem mkJ1_fillNull_b72d1 : am_mk rJ1_fillNull_b72d1 := ⟨tw_715, tw_31, by decide, by decide +kernel, by decide +kernel, by decide +kernel⟩
set_option maxRecDepth 100000 in
theorem prJ1_fillNull_b72d1 : am_par rJ1_fillNull_b72d1 3 := by unfold am_par; decide +kernel
set_option maxRecDepth 100000 in
theorem mm_java_lang_AbstractStringBuilder_133 : am_mS "java/lang/AbstractStringBuilder" 133 rJ1_fillNull_b72d1 3 := ⟨mkJ1_fillNull_b72d1, prJ1_fillNull_b72d1, tw_713, tw_714⟩
set_option maxRecDepth 100000 in
theorem ff_java_lang_String_9 : am_F "java/lang/String" 9 9 0 := ⟨RJ0, TJ0, 4, rfl, by decide, tw_691⟩
set_option maxRecDepth 100000 in
theorem mkJ0_coder_7d493 : am_mk rJ0_coder_7d493 := ⟨tw_504, tw_10, by decide, by decide +kernel, by decide +kernel, by decide +kernel⟩
set_option maxRecDepth 100000 in
theorem prJ0_coder_7d493 : am_par rJ0_coder_7d493 0 := by unfold am_par; decide +kernel
set_option maxRecDepth 100000 in
theorem mm_java_lang_String_335 : am_mV "java/lang/String" 335 rJ0_coder_7d493 "java/lang/String" 0 := ⟨mkJ0_coder_7d493, rfl, prJ0_coder_7d493, rfl, tw_501, tw_502, tw_503, tw_10⟩
set_option maxRecDepth 100000 in
theorem ff_java_lang_String_15 : am_F "java/lang/String" 15 9 1 := ⟨RJ0, TJ0, 4, rfl, by decide, tw_692⟩
set_option maxRecDepth 100000 in
theorem mkJ0_isLatin1_aae02 : am_mk rJ0_isLatin1_aae02 := ⟨tw_1430, tw_10, by decide, by decide +kernel, by decide +kernel, by decide +kernel⟩
set_option maxRecDepth 100000 in
theorem prJ0_isLatin1_aae02 : am_par rJ0_isLatin1_aae02 0 := by unfold am_par; decide +kernel
set_option maxRecDepth 100000 in
theorem mm_java_lang_String_492 : am_mV "java/lang/String" 492 rJ0_isLatin1_aae02 "java/lang/String" 0 := ⟨mkJ0_isLatin1_aae02, rfl, prJ0_isLatin1_aae02, rfl, tw_1427, tw_1428, tw_1429, tw_10⟩
set_option maxRecDepth 100000 in
theorem mkJ2_charAt_3b067 : am_mk rJ2_charAt_3b067 := ⟨tw_1437, tw_11, by decide, by decide +kernel, by decide +kernel, by decide +kernel⟩
set_option maxRecDepth 100000 in
theorem prJ2_charAt_3b067 : am_par rJ2_charAt_3b067 2 := by unfold am_par; decide +kernel
set_option maxRecDepth 100000 in
theorem mm_java_lang_String_498 : am_mS "java/lang/String" 498 rJ2_charAt_3b067 2 := ⟨mkJ2_charAt_3b067, prJ2_charAt_3b067, tw_1435, tw_1436⟩
set_option maxRecDepth 100000 in
theorem mkJ1_charAt_3b067 : am_mk rJ1_charAt_3b067 := ⟨tw_1433, tw_31, by decide, by decide +kernel, by decide +kernel, by decide +kernel⟩
set_option maxRecDepth 100000 in
theorem prJ1_charAt_3b067 : am_par rJ1_charAt_3b067 2 := by unfold am_par; decide +kernel
set_option maxRecDepth 100000 in
theorem mm_java_lang_String_495 : am_mS "java/lang/String" 495 rJ1_charAt_3b067 2 := ⟨mkJ1_charAt_3b067, prJ1_charAt_3b067, tw_1431, tw_1432⟩
set_option maxRecDepth 100000 in
theorem mm_java_lang_StringLatin1_9 : am_mS "java/lang/StringLatin1" 9 rJ0_checkIndex_df160 2 := ⟨mkJ0_checkIndex_df160, prJ0_checkIndex_df160, tw_1434, tw_769⟩
set_option maxRecDepth 100000 in
theorem prJ3_checkIndex_8e157 : am_par rJ3_checkIndex_8e157 3 := by unfold am_par; decide +kernel
set_option maxRecDepth 100000 in
theorem mm_java_lang_String_1059 : am_mS "java/lang/String" 1059 rJ3_checkIndex_8e157 3 := ⟨mkJ3_checkIndex_8e157, prJ3_checkIndex_8e157, tw_771, tw_772⟩
