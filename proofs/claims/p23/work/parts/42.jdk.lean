/-! STRINGS: the methods, instruction by instruction -/
theorem wj_3 : pWd (Jvm.Cond.initialized "java/lang/Math") := ⟨mem_tb 3 (by decide +kernel), by decide +kernel⟩
theorem wj_7 : pWd (Jvm.Cond.initialized "java/lang/String") := ⟨mem_tb 7 (by decide +kernel), by decide +kernel⟩
theorem wj_8 : pWd (Jvm.Cond.initialized "java/lang/StringLatin1") := ⟨mem_tb 8 (by decide +kernel), by decide +kernel⟩
theorem wj_9 : pWd (Jvm.Cond.initialized "jdk/internal/util/Preconditions") := ⟨mem_tb 9 (by decide +kernel), by decide +kernel⟩
theorem wj_146 : pWd (Jvm.Cond.static ({ cls := "java/lang/Math", name := "min", desc := "(II)I" } : Jvm.MethodName)) := ⟨mem_tb 146 (by decide +kernel), by decide +kernel⟩
theorem wj_147 : pWd (Jvm.Cond.code ({ cls := "java/lang/Math", name := "min", desc := "(II)I" } : Jvm.MethodName) prog_21_method_69_code (2 : Nat) (Option.some Jvm.ClassFile.FieldType.int)) := ⟨mem_tb 147 (by decide +kernel), by decide +kernel⟩
theorem wj_193 : pWd (Jvm.Cond.static ({ cls := "java/lang/Math", name := "max", desc := "(II)I" } : Jvm.MethodName)) := ⟨mem_tb 193 (by decide +kernel), by decide +kernel⟩
theorem wj_194 : pWd (Jvm.Cond.code ({ cls := "java/lang/Math", name := "max", desc := "(II)I" } : Jvm.MethodName) prog_21_method_65_code (2 : Nat) (Option.some Jvm.ClassFile.FieldType.int)) := ⟨mem_tb 194 (by decide +kernel), by decide +kernel⟩
theorem wj_475 : pWd (Jvm.Cond.methodLink "WordPad$Tokens" (38 : Nat) ({ cls := "java/lang/String", name := "length", desc := "()I" } : Jvm.MethodName)) := ⟨mem_tb 475 (by decide +kernel), by decide +kernel⟩
theorem wj_476 : pWd (Jvm.Cond.instanceMethod ({ cls := "java/lang/String", name := "length", desc := "()I" } : Jvm.MethodName)) := ⟨mem_tb 476 (by decide +kernel), by decide +kernel⟩
theorem wj_477 : pWd (Jvm.Cond.selects "java/lang/String" ({ cls := "java/lang/String", name := "length", desc := "()I" } : Jvm.MethodName) ({ cls := "java/lang/String", name := "length", desc := "()I" } : Jvm.MethodName)) := ⟨mem_tb 477 (by decide +kernel), by decide +kernel⟩
theorem wj_478 : pWd (Jvm.Cond.code ({ cls := "java/lang/String", name := "length", desc := "()I" } : Jvm.MethodName) prog_23_method_54_code (1 : Nat) (Option.some Jvm.ClassFile.FieldType.int)) := ⟨mem_tb 478 (by decide +kernel), by decide +kernel⟩
theorem wj_479 : pWd (Jvm.Cond.methodLink "java/lang/String" (335 : Nat) ({ cls := "java/lang/String", name := "coder", desc := "()B" } : Jvm.MethodName)) := ⟨mem_tb 479 (by decide +kernel), by decide +kernel⟩
theorem wj_480 : pWd (Jvm.Cond.instanceMethod ({ cls := "java/lang/String", name := "coder", desc := "()B" } : Jvm.MethodName)) := ⟨mem_tb 480 (by decide +kernel), by decide +kernel⟩
theorem wj_481 : pWd (Jvm.Cond.selects "java/lang/String" ({ cls := "java/lang/String", name := "coder", desc := "()B" } : Jvm.MethodName) ({ cls := "java/lang/String", name := "coder", desc := "()B" } : Jvm.MethodName)) := ⟨mem_tb 481 (by decide +kernel), by decide +kernel⟩
theorem wj_482 : pWd (Jvm.Cond.code ({ cls := "java/lang/String", name := "coder", desc := "()B" } : Jvm.MethodName) prog_23_method_152_code (1 : Nat) (Option.some Jvm.ClassFile.FieldType.byte)) := ⟨mem_tb 482 (by decide +kernel), by decide +kernel⟩
theorem wj_483 : pWd (Jvm.Cond.fieldLink "java/lang/String" (38 : Nat) "java/lang/String" "COMPACT_STRINGS" "Z") := ⟨mem_tb 483 (by decide +kernel), by decide +kernel⟩
theorem wj_485 : pWd (Jvm.Cond.methodLink "WordPad$Tokens" (44 : Nat) ({ cls := "java/lang/String", name := "charAt", desc := "(I)C" } : Jvm.MethodName)) := ⟨mem_tb 485 (by decide +kernel), by decide +kernel⟩
theorem wj_486 : pWd (Jvm.Cond.instanceMethod ({ cls := "java/lang/String", name := "charAt", desc := "(I)C" } : Jvm.MethodName)) := ⟨mem_tb 486 (by decide +kernel), by decide +kernel⟩
theorem wj_487 : pWd (Jvm.Cond.selects "java/lang/String" ({ cls := "java/lang/String", name := "charAt", desc := "(I)C" } : Jvm.MethodName) ({ cls := "java/lang/String", name := "charAt", desc := "(I)C" } : Jvm.MethodName)) := ⟨mem_tb 487 (by decide +kernel), by decide +kernel⟩
theorem wj_488 : pWd (Jvm.Cond.code ({ cls := "java/lang/String", name := "charAt", desc := "(I)C" } : Jvm.MethodName) prog_23_method_56_code (2 : Nat) (Option.some Jvm.ClassFile.FieldType.char)) := ⟨mem_tb 488 (by decide +kernel), by decide +kernel⟩
theorem wj_489 : pWd (Jvm.Cond.methodLink "java/lang/String" (492 : Nat) ({ cls := "java/lang/String", name := "isLatin1", desc := "()Z" } : Jvm.MethodName)) := ⟨mem_tb 489 (by decide +kernel), by decide +kernel⟩
theorem wj_490 : pWd (Jvm.Cond.instanceMethod ({ cls := "java/lang/String", name := "isLatin1", desc := "()Z" } : Jvm.MethodName)) := ⟨mem_tb 490 (by decide +kernel), by decide +kernel⟩
theorem wj_491 : pWd (Jvm.Cond.selects "java/lang/String" ({ cls := "java/lang/String", name := "isLatin1", desc := "()Z" } : Jvm.MethodName) ({ cls := "java/lang/String", name := "isLatin1", desc := "()Z" } : Jvm.MethodName)) := ⟨mem_tb 491 (by decide +kernel), by decide +kernel⟩
theorem wj_492 : pWd (Jvm.Cond.code ({ cls := "java/lang/String", name := "isLatin1", desc := "()Z" } : Jvm.MethodName) prog_23_method_154_code (1 : Nat) (Option.some Jvm.ClassFile.FieldType.boolean)) := ⟨mem_tb 492 (by decide +kernel), by decide +kernel⟩
theorem wj_493 : pWd (Jvm.Cond.methodLink "java/lang/String" (495 : Nat) ({ cls := "java/lang/StringLatin1", name := "charAt", desc := "([BI)C" } : Jvm.MethodName)) := ⟨mem_tb 493 (by decide +kernel), by decide +kernel⟩
theorem wj_494 : pWd (Jvm.Cond.static ({ cls := "java/lang/StringLatin1", name := "charAt", desc := "([BI)C" } : Jvm.MethodName)) := ⟨mem_tb 494 (by decide +kernel), by decide +kernel⟩
theorem wj_495 : pWd (Jvm.Cond.code ({ cls := "java/lang/StringLatin1", name := "charAt", desc := "([BI)C" } : Jvm.MethodName) prog_24_method_2_code (2 : Nat) (Option.some Jvm.ClassFile.FieldType.char)) := ⟨mem_tb 495 (by decide +kernel), by decide +kernel⟩
theorem wj_496 : pWd (Jvm.Cond.methodLink "java/lang/StringLatin1" (9 : Nat) ({ cls := "java/lang/String", name := "checkIndex", desc := "(II)V" } : Jvm.MethodName)) := ⟨mem_tb 496 (by decide +kernel), by decide +kernel⟩
theorem wj_497 : pWd (Jvm.Cond.static ({ cls := "java/lang/String", name := "checkIndex", desc := "(II)V" } : Jvm.MethodName)) := ⟨mem_tb 497 (by decide +kernel), by decide +kernel⟩
theorem wj_498 : pWd (Jvm.Cond.code ({ cls := "java/lang/String", name := "checkIndex", desc := "(II)V" } : Jvm.MethodName) prog_23_method_155_code (2 : Nat) (Option.none : Option Jvm.ClassFile.FieldType)) := ⟨mem_tb 498 (by decide +kernel), by decide +kernel⟩
theorem wj_499 : pWd (Jvm.Cond.fieldLink "java/lang/String" (1053 : Nat) "jdk/internal/util/Preconditions" "SIOOBE_FORMATTER" "Ljava/util/function/BiFunction;") := ⟨mem_tb 499 (by decide +kernel), by decide +kernel⟩
theorem wj_501 : pWd (Jvm.Cond.methodLink "java/lang/String" (1059 : Nat) ({ cls := "jdk/internal/util/Preconditions", name := "checkIndex", desc := "(IILjava/util/function/BiFunction;)I" } : Jvm.MethodName)) := ⟨mem_tb 501 (by decide +kernel), by decide +kernel⟩
theorem wj_502 : pWd (Jvm.Cond.static ({ cls := "jdk/internal/util/Preconditions", name := "checkIndex", desc := "(IILjava/util/function/BiFunction;)I" } : Jvm.MethodName)) := ⟨mem_tb 502 (by decide +kernel), by decide +kernel⟩
theorem wj_503 : pWd (Jvm.Cond.code ({ cls := "jdk/internal/util/Preconditions", name := "checkIndex", desc := "(IILjava/util/function/BiFunction;)I" } : Jvm.MethodName) prog_27_method_11_code (3 : Nat) (Option.some Jvm.ClassFile.FieldType.int)) := ⟨mem_tb 503 (by decide +kernel), by decide +kernel⟩
theorem wj_886 : pWd (Jvm.Cond.methodLink "WordPad$Tokens" (95 : Nat) ({ cls := "java/lang/String", name := "indexOf", desc := "(I)I" } : Jvm.MethodName)) := ⟨mem_tb 886 (by decide +kernel), by decide +kernel⟩
theorem wj_887 : pWd (Jvm.Cond.instanceMethod ({ cls := "java/lang/String", name := "indexOf", desc := "(I)I" } : Jvm.MethodName)) := ⟨mem_tb 887 (by decide +kernel), by decide +kernel⟩
theorem wj_888 : pWd (Jvm.Cond.selects "java/lang/String" ({ cls := "java/lang/String", name := "indexOf", desc := "(I)I" } : Jvm.MethodName) ({ cls := "java/lang/String", name := "indexOf", desc := "(I)I" } : Jvm.MethodName)) := ⟨mem_tb 888 (by decide +kernel), by decide +kernel⟩
theorem wj_889 : pWd (Jvm.Cond.code ({ cls := "java/lang/String", name := "indexOf", desc := "(I)I" } : Jvm.MethodName) prog_23_method_79_code (2 : Nat) (Option.some Jvm.ClassFile.FieldType.int)) := ⟨mem_tb 889 (by decide +kernel), by decide +kernel⟩
theorem wj_890 : pWd (Jvm.Cond.methodLink "java/lang/String" (633 : Nat) ({ cls := "java/lang/String", name := "indexOf", desc := "(II)I" } : Jvm.MethodName)) := ⟨mem_tb 890 (by decide +kernel), by decide +kernel⟩
theorem wj_891 : pWd (Jvm.Cond.instanceMethod ({ cls := "java/lang/String", name := "indexOf", desc := "(II)I" } : Jvm.MethodName)) := ⟨mem_tb 891 (by decide +kernel), by decide +kernel⟩
theorem wj_892 : pWd (Jvm.Cond.selects "java/lang/String" ({ cls := "java/lang/String", name := "indexOf", desc := "(II)I" } : Jvm.MethodName) ({ cls := "java/lang/String", name := "indexOf", desc := "(II)I" } : Jvm.MethodName)) := ⟨mem_tb 892 (by decide +kernel), by decide +kernel⟩
theorem wj_893 : pWd (Jvm.Cond.code ({ cls := "java/lang/String", name := "indexOf", desc := "(II)I" } : Jvm.MethodName) prog_23_method_80_code (3 : Nat) (Option.some Jvm.ClassFile.FieldType.int)) := ⟨mem_tb 893 (by decide +kernel), by decide +kernel⟩
theorem wj_894 : pWd (Jvm.Cond.methodLink "java/lang/String" (505 : Nat) ({ cls := "java/lang/String", name := "length", desc := "()I" } : Jvm.MethodName)) := ⟨mem_tb 894 (by decide +kernel), by decide +kernel⟩
theorem wj_895 : pWd (Jvm.Cond.methodLink "java/lang/String" (637 : Nat) ({ cls := "java/lang/StringLatin1", name := "indexOf", desc := "([BIII)I" } : Jvm.MethodName)) := ⟨mem_tb 895 (by decide +kernel), by decide +kernel⟩
theorem wj_896 : pWd (Jvm.Cond.static ({ cls := "java/lang/StringLatin1", name := "indexOf", desc := "([BIII)I" } : Jvm.MethodName)) := ⟨mem_tb 896 (by decide +kernel), by decide +kernel⟩
theorem wj_897 : pWd (Jvm.Cond.code ({ cls := "java/lang/StringLatin1", name := "indexOf", desc := "([BIII)I" } : Jvm.MethodName) prog_24_method_22_code (4 : Nat) (Option.some Jvm.ClassFile.FieldType.int)) := ⟨mem_tb 897 (by decide +kernel), by decide +kernel⟩
theorem wj_898 : pWd (Jvm.Cond.methodLink "java/lang/StringLatin1" (88 : Nat) ({ cls := "java/lang/StringLatin1", name := "canEncode", desc := "(I)Z" } : Jvm.MethodName)) := ⟨mem_tb 898 (by decide +kernel), by decide +kernel⟩
theorem wj_899 : pWd (Jvm.Cond.static ({ cls := "java/lang/StringLatin1", name := "canEncode", desc := "(I)Z" } : Jvm.MethodName)) := ⟨mem_tb 899 (by decide +kernel), by decide +kernel⟩
theorem wj_900 : pWd (Jvm.Cond.code ({ cls := "java/lang/StringLatin1", name := "canEncode", desc := "(I)Z" } : Jvm.MethodName) prog_24_method_4_code (1 : Nat) (Option.some Jvm.ClassFile.FieldType.boolean)) := ⟨mem_tb 900 (by decide +kernel), by decide +kernel⟩
theorem wj_901 : pWd (Jvm.Cond.methodLink "java/lang/StringLatin1" (92 : Nat) ({ cls := "java/lang/Math", name := "max", desc := "(II)I" } : Jvm.MethodName)) := ⟨mem_tb 901 (by decide +kernel), by decide +kernel⟩
theorem wj_902 : pWd (Jvm.Cond.methodLink "java/lang/StringLatin1" (38 : Nat) ({ cls := "java/lang/Math", name := "min", desc := "(II)I" } : Jvm.MethodName)) := ⟨mem_tb 902 (by decide +kernel), by decide +kernel⟩
theorem wj_903 : pWd (Jvm.Cond.methodLink "java/lang/StringLatin1" (95 : Nat) ({ cls := "java/lang/StringLatin1", name := "indexOfChar", desc := "([BIII)I" } : Jvm.MethodName)) := ⟨mem_tb 903 (by decide +kernel), by decide +kernel⟩
theorem wj_904 : pWd (Jvm.Cond.static ({ cls := "java/lang/StringLatin1", name := "indexOfChar", desc := "([BIII)I" } : Jvm.MethodName)) := ⟨mem_tb 904 (by decide +kernel), by decide +kernel⟩
theorem wj_905 : pWd (Jvm.Cond.code ({ cls := "java/lang/StringLatin1", name := "indexOfChar", desc := "([BIII)I" } : Jvm.MethodName) prog_24_method_23_code (6 : Nat) (Option.some Jvm.ClassFile.FieldType.int)) := ⟨mem_tb 905 (by decide +kernel), by decide +kernel⟩
theorem wj_1110 : pWd (Jvm.Cond.fieldLink "java/lang/String" (9 : Nat) "java/lang/String" "value" "[B") := ⟨mem_tb 1110 (by decide +kernel), by decide +kernel⟩
theorem wj_1111 : pWd (Jvm.Cond.fieldLink "java/lang/String" (15 : Nat) "java/lang/String" "coder" "B") := ⟨mem_tb 1111 (by decide +kernel), by decide +kernel⟩
def mJ0_coder_7d493 : pMI := (yJ0_coder_7d493, cJ0_coder_7d493, 1, some .byte, [])
theorem okJ0_coder_7d493 : pMIok mJ0_coder_7d493 := ⟨by decide +kernel, by decide, wj_482⟩
theorem ceJ0_coder_7d493 : pCallee mJ0_coder_7d493 0 := ⟨rfl, wj_7, by decide, by decide +kernel⟩
theorem selJ0_coder_7d493 : Cond.selects yJ0_coder_7d493.cls yJ0_coder_7d493 yJ0_coder_7d493 ∈ pTs := pTs_in wj_481
def mJ0_length_8abf5 : pMI := (yJ0_length_8abf5, cJ0_length_8abf5, 1, some .int, [])
theorem okJ0_length_8abf5 : pMIok mJ0_length_8abf5 := ⟨by decide +kernel, by decide, wj_478⟩
theorem ceJ0_length_8abf5 : pCallee mJ0_length_8abf5 0 := ⟨rfl, wj_7, by decide, by decide +kernel⟩
theorem selJ0_length_8abf5 : Cond.selects yJ0_length_8abf5.cls yJ0_length_8abf5 yJ0_length_8abf5 ∈ pTs := pTs_in wj_477
def mJ0_isLatin1_aae02 : pMI := (yJ0_isLatin1_aae02, cJ0_isLatin1_aae02, 1, some .boolean, [])
theorem okJ0_isLatin1_aae02 : pMIok mJ0_isLatin1_aae02 := ⟨by decide +kernel, by decide, wj_492⟩
theorem ceJ0_isLatin1_aae02 : pCallee mJ0_isLatin1_aae02 0 := ⟨rfl, wj_7, by decide, by decide +kernel⟩
theorem selJ0_isLatin1_aae02 : Cond.selects yJ0_isLatin1_aae02.cls yJ0_isLatin1_aae02 yJ0_isLatin1_aae02 ∈ pTs := pTs_in wj_491
def mJ3_checkIndex_8e157 : pMI := (yJ3_checkIndex_8e157, cJ3_checkIndex_8e157, 3, some .int, [])
theorem okJ3_checkIndex_8e157 : pMIok mJ3_checkIndex_8e157 := ⟨by decide +kernel, by decide, wj_503⟩
theorem ceJ3_checkIndex_8e157 : pCallee mJ3_checkIndex_8e157 3 := ⟨rfl, wj_9, by decide, by decide +kernel⟩
def mJ0_checkIndex_df160 : pMI := (yJ0_checkIndex_df160, cJ0_checkIndex_df160, 2, none, [])
theorem okJ0_checkIndex_df160 : pMIok mJ0_checkIndex_df160 := ⟨by decide +kernel, by decide, wj_498⟩
theorem ceJ0_checkIndex_df160 : pCallee mJ0_checkIndex_df160 2 := ⟨rfl, wj_7, by decide, by decide +kernel⟩
def mJ1_charAt_3b067 : pMI := (yJ1_charAt_3b067, cJ1_charAt_3b067, 2, some .char, [])
theorem okJ1_charAt_3b067 : pMIok mJ1_charAt_3b067 := ⟨by decide +kernel, by decide, wj_495⟩
theorem ceJ1_charAt_3b067 : pCallee mJ1_charAt_3b067 2 := ⟨rfl, wj_8, by decide, by decide +kernel⟩
def mJ0_charAt_5068e : pMI := (yJ0_charAt_5068e, cJ0_charAt_5068e, 2, some .char, [])
theorem okJ0_charAt_5068e : pMIok mJ0_charAt_5068e := ⟨by decide +kernel, by decide, wj_488⟩
theorem ceJ0_charAt_5068e : pCallee mJ0_charAt_5068e 1 := ⟨rfl, wj_7, by decide, by decide +kernel⟩
theorem selJ0_charAt_5068e : Cond.selects yJ0_charAt_5068e.cls yJ0_charAt_5068e yJ0_charAt_5068e ∈ pTs := pTs_in wj_487
def mJ1_canEncode_9a6ad : pMI := (yJ1_canEncode_9a6ad, cJ1_canEncode_9a6ad, 1, some .boolean, [])
theorem okJ1_canEncode_9a6ad : pMIok mJ1_canEncode_9a6ad := ⟨by decide +kernel, by decide, wj_900⟩
theorem ceJ1_canEncode_9a6ad : pCallee mJ1_canEncode_9a6ad 1 := ⟨rfl, wj_8, by decide, by decide +kernel⟩
def mJ1_indexOfChar_4cfef : pMI := (yJ1_indexOfChar_4cfef, cJ1_indexOfChar_4cfef, 6, some .int, [])
theorem okJ1_indexOfChar_4cfef : pMIok mJ1_indexOfChar_4cfef := ⟨by decide +kernel, by decide, wj_905⟩
theorem ceJ1_indexOfChar_4cfef : pCallee mJ1_indexOfChar_4cfef 4 := ⟨rfl, wj_8, by decide, by decide +kernel⟩
def mJ1_indexOf_4cfef : pMI := (yJ1_indexOf_4cfef, cJ1_indexOf_4cfef, 4, some .int, [])
theorem okJ1_indexOf_4cfef : pMIok mJ1_indexOf_4cfef := ⟨by decide +kernel, by decide, wj_897⟩
theorem ceJ1_indexOf_4cfef : pCallee mJ1_indexOf_4cfef 4 := ⟨rfl, wj_8, by decide, by decide +kernel⟩
def mJ0_indexOf_7cf53 : pMI := (yJ0_indexOf_7cf53, cJ0_indexOf_7cf53, 3, some .int, [])
theorem okJ0_indexOf_7cf53 : pMIok mJ0_indexOf_7cf53 := ⟨by decide +kernel, by decide, wj_893⟩
theorem ceJ0_indexOf_7cf53 : pCallee mJ0_indexOf_7cf53 2 := ⟨rfl, wj_7, by decide, by decide +kernel⟩
theorem selJ0_indexOf_7cf53 : Cond.selects yJ0_indexOf_7cf53.cls yJ0_indexOf_7cf53 yJ0_indexOf_7cf53 ∈ pTs := pTs_in wj_892
def mJ0_indexOf_0f7a4 : pMI := (yJ0_indexOf_0f7a4, cJ0_indexOf_0f7a4, 2, some .int, [])
theorem okJ0_indexOf_0f7a4 : pMIok mJ0_indexOf_0f7a4 := ⟨by decide +kernel, by decide, wj_889⟩
theorem ceJ0_indexOf_0f7a4 : pCallee mJ0_indexOf_0f7a4 1 := ⟨rfl, wj_7, by decide, by decide +kernel⟩
theorem selJ0_indexOf_0f7a4 : Cond.selects yJ0_indexOf_0f7a4.cls yJ0_indexOf_0f7a4 yJ0_indexOf_0f7a4 ∈ pTs := pTs_in wj_888
theorem oJ0_coder_7d493_0 : OpS mJ0_coder_7d493 0 (o_const (.int 1) 3) := s_gsC wj_483 (by decide +kernel : decode cJ0_coder_7d493 0 = .ok (.getstatic 38, 3))
theorem oJ0_coder_7d493_3 : OpS mJ0_coder_7d493 3 (o_if (fun x => x = 0) 13 6) := s_if_eq (by decide +kernel : decode cJ0_coder_7d493 3 = .ok (.ifCond .eq 10, 3)) (by decide)
theorem oJ0_coder_7d493_6 : OpS mJ0_coder_7d493 6 (o_aload 0 7) := s_aload_n (by decide +kernel : decode cJ0_coder_7d493 6 = .ok (.aload_n 0, 1)) rfl
theorem oJ0_coder_7d493_7 : OpS mJ0_coder_7d493 7 (o_scod 10) := s_scod wj_1111 (by decide +kernel : decode cJ0_coder_7d493 7 = .ok (.getfield 15, 3))
theorem oJ0_coder_7d493_10 : OpS mJ0_coder_7d493 10 (o_goto 14) := s_goto (by decide +kernel : decode cJ0_coder_7d493 10 = .ok (.goto 4, 3)) (by decide)
theorem oJ0_coder_7d493_14 : OpS mJ0_coder_7d493 14 (o_nret .byte) := s_nret (Or.inr rfl) rfl (by decide +kernel : decode cJ0_coder_7d493 14 = .ok (.ireturn, 1))
theorem oJ0_length_8abf5_0 : OpS mJ0_length_8abf5 0 (o_aload 0 1) := s_aload_n (by decide +kernel : decode cJ0_length_8abf5 0 = .ok (.aload_n 0, 1)) rfl
theorem oJ0_length_8abf5_1 : OpS mJ0_length_8abf5 1 (o_sval 4) := s_sval wj_1110 (by decide +kernel : decode cJ0_length_8abf5 1 = .ok (.getfield 9, 3))
theorem oJ0_length_8abf5_4 : OpS mJ0_length_8abf5 4 (o_salen 5) := s_salen (by decide +kernel : decode cJ0_length_8abf5 4 = .ok (.arraylength, 1))
theorem oJ0_length_8abf5_5 : OpS mJ0_length_8abf5 5 (o_aload 0 6) := s_aload_n (by decide +kernel : decode cJ0_length_8abf5 5 = .ok (.aload_n 0, 1)) rfl
theorem oJ0_length_8abf5_6 : OpS mJ0_length_8abf5 6 (o_callSt mJ0_coder_7d493 0 9) := s_callSt ceJ0_coder_7d493 rfl wj_479 wj_480 selJ0_coder_7d493 (by decide +kernel : decode cJ0_length_8abf5 6 = .ok (.invokevirtual 335, 3))
theorem oJ0_length_8abf5_9 : OpS mJ0_length_8abf5 9 (o_ibin (fun x y => x >>> (y &&& 31)) 10) := s_ishr (by decide +kernel : decode cJ0_length_8abf5 9 = .ok (.ishr, 1))
theorem oJ0_length_8abf5_10 : OpS mJ0_length_8abf5 10 (o_iret) := s_iret rfl (by decide +kernel : decode cJ0_length_8abf5 10 = .ok (.ireturn, 1))
theorem oJ0_isLatin1_aae02_0 : OpS mJ0_isLatin1_aae02 0 (o_const (.int 1) 3) := s_gsC wj_483 (by decide +kernel : decode cJ0_isLatin1_aae02 0 = .ok (.getstatic 38, 3))
theorem oJ0_isLatin1_aae02_3 : OpS mJ0_isLatin1_aae02 3 (o_if (fun x => x = 0) 17 6) := s_if_eq (by decide +kernel : decode cJ0_isLatin1_aae02 3 = .ok (.ifCond .eq 14, 3)) (by decide)
theorem oJ0_isLatin1_aae02_6 : OpS mJ0_isLatin1_aae02 6 (o_aload 0 7) := s_aload_n (by decide +kernel : decode cJ0_isLatin1_aae02 6 = .ok (.aload_n 0, 1)) rfl
theorem oJ0_isLatin1_aae02_7 : OpS mJ0_isLatin1_aae02 7 (o_scod 10) := s_scod wj_1111 (by decide +kernel : decode cJ0_isLatin1_aae02 7 = .ok (.getfield 15, 3))
theorem oJ0_isLatin1_aae02_10 : OpS mJ0_isLatin1_aae02 10 (o_if (fun x => x = 0) 13 17) := s_if_ne (by decide +kernel : decode cJ0_isLatin1_aae02 10 = .ok (.ifCond .ne 7, 3)) (by decide)
theorem oJ0_isLatin1_aae02_13 : OpS mJ0_isLatin1_aae02 13 (o_const (.int 1) 14) := s_iconst (by decide +kernel : decode cJ0_isLatin1_aae02 13 = .ok (.iconst 1, 1)) (by decide)
theorem oJ0_isLatin1_aae02_14 : OpS mJ0_isLatin1_aae02 14 (o_goto 18) := s_goto (by decide +kernel : decode cJ0_isLatin1_aae02 14 = .ok (.goto 4, 3)) (by decide)
theorem oJ0_isLatin1_aae02_18 : OpS mJ0_isLatin1_aae02 18 (o_zret) := s_zret rfl (by decide +kernel : decode cJ0_isLatin1_aae02 18 = .ok (.ireturn, 1))
theorem oJ3_checkIndex_8e157_0 : OpS mJ3_checkIndex_8e157 0 (o_iload 0 1) := s_iload_n (by decide +kernel : decode cJ3_checkIndex_8e157 0 = .ok (.iload_n 0, 1)) rfl
theorem oJ3_checkIndex_8e157_1 : OpS mJ3_checkIndex_8e157 1 (o_if (fun x => x < 0) 9 4) := s_if_lt (by decide +kernel : decode cJ3_checkIndex_8e157 1 = .ok (.ifCond .lt 8, 3)) (by decide)
theorem oJ3_checkIndex_8e157_4 : OpS mJ3_checkIndex_8e157 4 (o_iload 0 5) := s_iload_n (by decide +kernel : decode cJ3_checkIndex_8e157 4 = .ok (.iload_n 0, 1)) rfl
theorem oJ3_checkIndex_8e157_5 : OpS mJ3_checkIndex_8e157 5 (o_iload 1 6) := s_iload_n (by decide +kernel : decode cJ3_checkIndex_8e157 5 = .ok (.iload_n 1, 1)) rfl
theorem oJ3_checkIndex_8e157_6 : OpS mJ3_checkIndex_8e157 6 (o_icmp (fun x y => x < y) 16 9) := s_icmp_lt (by decide +kernel : decode cJ3_checkIndex_8e157 6 = .ok (.if_icmp .lt 10, 3)) (by decide)
theorem oJ3_checkIndex_8e157_16 : OpS mJ3_checkIndex_8e157 16 (o_iload 0 17) := s_iload_n (by decide +kernel : decode cJ3_checkIndex_8e157 16 = .ok (.iload_n 0, 1)) rfl
theorem oJ3_checkIndex_8e157_17 : OpS mJ3_checkIndex_8e157 17 (o_iret) := s_iret rfl (by decide +kernel : decode cJ3_checkIndex_8e157 17 = .ok (.ireturn, 1))
theorem oJ0_checkIndex_df160_0 : OpS mJ0_checkIndex_df160 0 (o_iload 0 1) := s_iload_n (by decide +kernel : decode cJ0_checkIndex_df160 0 = .ok (.iload_n 0, 1)) rfl
theorem oJ0_checkIndex_df160_1 : OpS mJ0_checkIndex_df160 1 (o_iload 1 2) := s_iload_n (by decide +kernel : decode cJ0_checkIndex_df160 1 = .ok (.iload_n 1, 1)) rfl
theorem oJ0_checkIndex_df160_2 : OpS mJ0_checkIndex_df160 2 (o_fmt 5) := s_gsF wj_499 (by decide +kernel : decode cJ0_checkIndex_df160 2 = .ok (.getstatic 1053, 3))
theorem oJ0_checkIndex_df160_5 : OpS mJ0_checkIndex_df160 5 (o_callS mJ3_checkIndex_8e157 3 8) := s_callS ceJ3_checkIndex_8e157 (Or.inl wj_501) wj_502 (by decide +kernel : decode cJ0_checkIndex_df160 5 = .ok (.invokestatic 1059, 3))
theorem oJ0_checkIndex_df160_8 : OpS mJ0_checkIndex_df160 8 (o_pop 9) := s_pop (by decide +kernel : decode cJ0_checkIndex_df160 8 = .ok (.pop, 1))
theorem oJ0_checkIndex_df160_9 : OpS mJ0_checkIndex_df160 9 (o_vret) := s_vret rfl (by decide +kernel : decode cJ0_checkIndex_df160 9 = .ok (.return_, 1))
theorem oJ1_charAt_3b067_0 : OpS mJ1_charAt_3b067 0 (o_iload 1 1) := s_iload_n (by decide +kernel : decode cJ1_charAt_3b067 0 = .ok (.iload_n 1, 1)) rfl
theorem oJ1_charAt_3b067_1 : OpS mJ1_charAt_3b067 1 (o_aload 0 2) := s_aload_n (by decide +kernel : decode cJ1_charAt_3b067 1 = .ok (.aload_n 0, 1)) rfl
theorem oJ1_charAt_3b067_2 : OpS mJ1_charAt_3b067 2 (o_salen 3) := s_salen (by decide +kernel : decode cJ1_charAt_3b067 2 = .ok (.arraylength, 1))
theorem oJ1_charAt_3b067_3 : OpS mJ1_charAt_3b067 3 (o_callS mJ0_checkIndex_df160 2 6) := s_callS ceJ0_checkIndex_df160 (Or.inl wj_496) wj_497 (by decide +kernel : decode cJ1_charAt_3b067 3 = .ok (.invokestatic 9, 3))
theorem oJ1_charAt_3b067_6 : OpS mJ1_charAt_3b067 6 (o_aload 0 7) := s_aload_n (by decide +kernel : decode cJ1_charAt_3b067 6 = .ok (.aload_n 0, 1)) rfl
theorem oJ1_charAt_3b067_7 : OpS mJ1_charAt_3b067 7 (o_iload 1 8) := s_iload_n (by decide +kernel : decode cJ1_charAt_3b067 7 = .ok (.iload_n 1, 1)) rfl
theorem oJ1_charAt_3b067_8 : OpS mJ1_charAt_3b067 8 (o_sbald 9) := s_sbald (by decide +kernel : decode cJ1_charAt_3b067 8 = .ok (.baload, 1))
theorem oJ1_charAt_3b067_9 : OpS mJ1_charAt_3b067 9 (o_const (.int 255) 12) := s_sipush (by decide +kernel : decode cJ1_charAt_3b067 9 = .ok (.sipush 255, 3)) (by decide)
theorem oJ1_charAt_3b067_12 : OpS mJ1_charAt_3b067 12 (o_ibin (fun x y => x &&& y) 13) := s_iand (by decide +kernel : decode cJ1_charAt_3b067 12 = .ok (.iand, 1))
theorem oJ1_charAt_3b067_13 : OpS mJ1_charAt_3b067 13 (o_iun (fun x => (x.toUInt32 % 65536).toInt32) 14) := s_i2c (by decide +kernel : decode cJ1_charAt_3b067 13 = .ok (.i2c, 1))
theorem oJ1_charAt_3b067_14 : OpS mJ1_charAt_3b067 14 (o_nret .char) := s_nret (Or.inl rfl) rfl (by decide +kernel : decode cJ1_charAt_3b067 14 = .ok (.ireturn, 1))
theorem oJ0_charAt_5068e_0 : OpS mJ0_charAt_5068e 0 (o_aload 0 1) := s_aload_n (by decide +kernel : decode cJ0_charAt_5068e 0 = .ok (.aload_n 0, 1)) rfl
theorem oJ0_charAt_5068e_1 : OpS mJ0_charAt_5068e 1 (o_callSt mJ0_isLatin1_aae02 0 4) := s_callSt ceJ0_isLatin1_aae02 rfl wj_489 wj_490 selJ0_isLatin1_aae02 (by decide +kernel : decode cJ0_charAt_5068e 1 = .ok (.invokevirtual 492, 3))
theorem oJ0_charAt_5068e_4 : OpS mJ0_charAt_5068e 4 (o_if (fun x => x = 0) 16 7) := s_if_eq (by decide +kernel : decode cJ0_charAt_5068e 4 = .ok (.ifCond .eq 12, 3)) (by decide)
theorem oJ0_charAt_5068e_7 : OpS mJ0_charAt_5068e 7 (o_aload 0 8) := s_aload_n (by decide +kernel : decode cJ0_charAt_5068e 7 = .ok (.aload_n 0, 1)) rfl
theorem oJ0_charAt_5068e_8 : OpS mJ0_charAt_5068e 8 (o_sval 11) := s_sval wj_1110 (by decide +kernel : decode cJ0_charAt_5068e 8 = .ok (.getfield 9, 3))
theorem oJ0_charAt_5068e_11 : OpS mJ0_charAt_5068e 11 (o_iload 1 12) := s_iload_n (by decide +kernel : decode cJ0_charAt_5068e 11 = .ok (.iload_n 1, 1)) rfl
theorem oJ0_charAt_5068e_12 : OpS mJ0_charAt_5068e 12 (o_callS mJ1_charAt_3b067 2 15) := s_callS ceJ1_charAt_3b067 (Or.inl wj_493) wj_494 (by decide +kernel : decode cJ0_charAt_5068e 12 = .ok (.invokestatic 495, 3))
theorem oJ0_charAt_5068e_15 : OpS mJ0_charAt_5068e 15 (o_nret .char) := s_nret (Or.inl rfl) rfl (by decide +kernel : decode cJ0_charAt_5068e 15 = .ok (.ireturn, 1))
theorem oJ1_canEncode_9a6ad_0 : OpS mJ1_canEncode_9a6ad 0 (o_iload 0 1) := s_iload_n (by decide +kernel : decode cJ1_canEncode_9a6ad 0 = .ok (.iload_n 0, 1)) rfl
theorem oJ1_canEncode_9a6ad_1 : OpS mJ1_canEncode_9a6ad 1 (o_if (fun x => x < 0) 15 4) := s_if_lt (by decide +kernel : decode cJ1_canEncode_9a6ad 1 = .ok (.ifCond .lt 14, 3)) (by decide)
theorem oJ1_canEncode_9a6ad_4 : OpS mJ1_canEncode_9a6ad 4 (o_iload 0 5) := s_iload_n (by decide +kernel : decode cJ1_canEncode_9a6ad 4 = .ok (.iload_n 0, 1)) rfl
theorem oJ1_canEncode_9a6ad_5 : OpS mJ1_canEncode_9a6ad 5 (o_const (.int 255) 8) := s_sipush (by decide +kernel : decode cJ1_canEncode_9a6ad 5 = .ok (.sipush 255, 3)) (by decide)
theorem oJ1_canEncode_9a6ad_8 : OpS mJ1_canEncode_9a6ad 8 (o_icmp (fun x y => y < x) 15 11) := s_icmp_gt (by decide +kernel : decode cJ1_canEncode_9a6ad 8 = .ok (.if_icmp .gt 7, 3)) (by decide)
theorem oJ1_canEncode_9a6ad_11 : OpS mJ1_canEncode_9a6ad 11 (o_const (.int 1) 12) := s_iconst (by decide +kernel : decode cJ1_canEncode_9a6ad 11 = .ok (.iconst 1, 1)) (by decide)
theorem oJ1_canEncode_9a6ad_12 : OpS mJ1_canEncode_9a6ad 12 (o_goto 16) := s_goto (by decide +kernel : decode cJ1_canEncode_9a6ad 12 = .ok (.goto 4, 3)) (by decide)
theorem oJ1_canEncode_9a6ad_15 : OpS mJ1_canEncode_9a6ad 15 (o_const (.int 0) 16) := s_iconst (by decide +kernel : decode cJ1_canEncode_9a6ad 15 = .ok (.iconst 0, 1)) (by decide)
theorem oJ1_canEncode_9a6ad_16 : OpS mJ1_canEncode_9a6ad 16 (o_zret) := s_zret rfl (by decide +kernel : decode cJ1_canEncode_9a6ad 16 = .ok (.ireturn, 1))
theorem oJ1_indexOfChar_4cfef_0 : OpS mJ1_indexOfChar_4cfef 0 (o_iload 1 1) := s_iload_n (by decide +kernel : decode cJ1_indexOfChar_4cfef 0 = .ok (.iload_n 1, 1)) rfl
theorem oJ1_indexOfChar_4cfef_1 : OpS mJ1_indexOfChar_4cfef 1 (o_iun (fun x => x.toInt8.toInt32) 2) := s_i2b (by decide +kernel : decode cJ1_indexOfChar_4cfef 1 = .ok (.i2b, 1))
theorem oJ1_indexOfChar_4cfef_2 : OpS mJ1_indexOfChar_4cfef 2 (o_istore 4 6 4) := s_istore (by decide +kernel : decode cJ1_indexOfChar_4cfef 2 = .ok (.istore 4, 2)) rfl
theorem oJ1_indexOfChar_4cfef_4 : OpS mJ1_indexOfChar_4cfef 4 (o_iload 2 5) := s_iload_n (by decide +kernel : decode cJ1_indexOfChar_4cfef 4 = .ok (.iload_n 2, 1)) rfl
theorem oJ1_indexOfChar_4cfef_5 : OpS mJ1_indexOfChar_4cfef 5 (o_istore 5 6 7) := s_istore (by decide +kernel : decode cJ1_indexOfChar_4cfef 5 = .ok (.istore 5, 2)) rfl
theorem oJ1_indexOfChar_4cfef_7 : OpS mJ1_indexOfChar_4cfef 7 (o_iload 5 9) := s_iload (by decide +kernel : decode cJ1_indexOfChar_4cfef 7 = .ok (.iload 5, 2))
theorem oJ1_indexOfChar_4cfef_9 : OpS mJ1_indexOfChar_4cfef 9 (o_iload 3 10) := s_iload_n (by decide +kernel : decode cJ1_indexOfChar_4cfef 9 = .ok (.iload_n 3, 1)) rfl
theorem oJ1_indexOfChar_4cfef_10 : OpS mJ1_indexOfChar_4cfef 10 (o_icmp (fun x y => y ≤ x) 31 13) := s_icmp_ge (by decide +kernel : decode cJ1_indexOfChar_4cfef 10 = .ok (.if_icmp .ge 21, 3)) (by decide)
theorem oJ1_indexOfChar_4cfef_13 : OpS mJ1_indexOfChar_4cfef 13 (o_aload 0 14) := s_aload_n (by decide +kernel : decode cJ1_indexOfChar_4cfef 13 = .ok (.aload_n 0, 1)) rfl
theorem oJ1_indexOfChar_4cfef_14 : OpS mJ1_indexOfChar_4cfef 14 (o_iload 5 16) := s_iload (by decide +kernel : decode cJ1_indexOfChar_4cfef 14 = .ok (.iload 5, 2))
theorem oJ1_indexOfChar_4cfef_16 : OpS mJ1_indexOfChar_4cfef 16 (o_sbald 17) := s_sbald (by decide +kernel : decode cJ1_indexOfChar_4cfef 16 = .ok (.baload, 1))
theorem oJ1_indexOfChar_4cfef_17 : OpS mJ1_indexOfChar_4cfef 17 (o_iload 4 19) := s_iload (by decide +kernel : decode cJ1_indexOfChar_4cfef 17 = .ok (.iload 4, 2))
theorem oJ1_indexOfChar_4cfef_19 : OpS mJ1_indexOfChar_4cfef 19 (o_icmp (fun x y => x = y) 22 25) := s_icmp_ne (by decide +kernel : decode cJ1_indexOfChar_4cfef 19 = .ok (.if_icmp .ne 6, 3)) (by decide)
theorem oJ1_indexOfChar_4cfef_22 : OpS mJ1_indexOfChar_4cfef 22 (o_iload 5 24) := s_iload (by decide +kernel : decode cJ1_indexOfChar_4cfef 22 = .ok (.iload 5, 2))
theorem oJ1_indexOfChar_4cfef_24 : OpS mJ1_indexOfChar_4cfef 24 (o_iret) := s_iret rfl (by decide +kernel : decode cJ1_indexOfChar_4cfef 24 = .ok (.ireturn, 1))
theorem oJ1_indexOfChar_4cfef_25 : OpS mJ1_indexOfChar_4cfef 25 (o_iinc 5 6 1 28) := s_iinc (by decide +kernel : decode cJ1_indexOfChar_4cfef 25 = .ok (.iinc 5 1, 3)) (by decide) rfl
theorem oJ1_indexOfChar_4cfef_28 : OpS mJ1_indexOfChar_4cfef 28 (o_goto 7) := s_goto (by decide +kernel : decode cJ1_indexOfChar_4cfef 28 = .ok (.goto (-21), 3)) (by decide)
theorem oJ1_indexOfChar_4cfef_31 : OpS mJ1_indexOfChar_4cfef 31 (o_const (.int (-1)) 32) := s_iconst (by decide +kernel : decode cJ1_indexOfChar_4cfef 31 = .ok (.iconst (-1), 1)) (by decide)
theorem oJ1_indexOfChar_4cfef_32 : OpS mJ1_indexOfChar_4cfef 32 (o_iret) := s_iret rfl (by decide +kernel : decode cJ1_indexOfChar_4cfef 32 = .ok (.ireturn, 1))
theorem oJ1_indexOf_4cfef_0 : OpS mJ1_indexOf_4cfef 0 (o_iload 1 1) := s_iload_n (by decide +kernel : decode cJ1_indexOf_4cfef 0 = .ok (.iload_n 1, 1)) rfl
theorem oJ1_indexOf_4cfef_1 : OpS mJ1_indexOf_4cfef 1 (o_callS mJ1_canEncode_9a6ad 1 4) := s_callS ceJ1_canEncode_9a6ad (Or.inl wj_898) wj_899 (by decide +kernel : decode cJ1_indexOf_4cfef 1 = .ok (.invokestatic 88, 3))
theorem oJ1_indexOf_4cfef_4 : OpS mJ1_indexOf_4cfef 4 (o_if (fun x => x = 0) 7 9) := s_if_ne (by decide +kernel : decode cJ1_indexOf_4cfef 4 = .ok (.ifCond .ne 5, 3)) (by decide)
theorem oJ1_indexOf_4cfef_7 : OpS mJ1_indexOf_4cfef 7 (o_const (.int (-1)) 8) := s_iconst (by decide +kernel : decode cJ1_indexOf_4cfef 7 = .ok (.iconst (-1), 1)) (by decide)
theorem oJ1_indexOf_4cfef_8 : OpS mJ1_indexOf_4cfef 8 (o_iret) := s_iret rfl (by decide +kernel : decode cJ1_indexOf_4cfef 8 = .ok (.ireturn, 1))
theorem oJ1_indexOf_4cfef_9 : OpS mJ1_indexOf_4cfef 9 (o_iload 2 10) := s_iload_n (by decide +kernel : decode cJ1_indexOf_4cfef 9 = .ok (.iload_n 2, 1)) rfl
theorem oJ1_indexOf_4cfef_10 : OpS mJ1_indexOf_4cfef 10 (o_const (.int 0) 11) := s_iconst (by decide +kernel : decode cJ1_indexOf_4cfef 10 = .ok (.iconst 0, 1)) (by decide)
theorem oJ1_indexOf_4cfef_11 : OpS mJ1_indexOf_4cfef 11 (o_max 14) := s_max wj_901 wj_193 wj_3 wj_194 (by decide +kernel : decode cJ1_indexOf_4cfef 11 = .ok (.invokestatic 92, 3))
theorem oJ1_indexOf_4cfef_14 : OpS mJ1_indexOf_4cfef 14 (o_istore 2 4 15) := s_istore_n (by decide +kernel : decode cJ1_indexOf_4cfef 14 = .ok (.istore_n 2, 1)) rfl rfl
theorem oJ1_indexOf_4cfef_15 : OpS mJ1_indexOf_4cfef 15 (o_iload 3 16) := s_iload_n (by decide +kernel : decode cJ1_indexOf_4cfef 15 = .ok (.iload_n 3, 1)) rfl
theorem oJ1_indexOf_4cfef_16 : OpS mJ1_indexOf_4cfef 16 (o_aload 0 17) := s_aload_n (by decide +kernel : decode cJ1_indexOf_4cfef 16 = .ok (.aload_n 0, 1)) rfl
theorem oJ1_indexOf_4cfef_17 : OpS mJ1_indexOf_4cfef 17 (o_salen 18) := s_salen (by decide +kernel : decode cJ1_indexOf_4cfef 17 = .ok (.arraylength, 1))
theorem oJ1_indexOf_4cfef_18 : OpS mJ1_indexOf_4cfef 18 (o_min 21) := s_min wj_902 wj_146 wj_3 wj_147 (by decide +kernel : decode cJ1_indexOf_4cfef 18 = .ok (.invokestatic 38, 3))
theorem oJ1_indexOf_4cfef_21 : OpS mJ1_indexOf_4cfef 21 (o_istore 3 4 22) := s_istore_n (by decide +kernel : decode cJ1_indexOf_4cfef 21 = .ok (.istore_n 3, 1)) rfl rfl
theorem oJ1_indexOf_4cfef_22 : OpS mJ1_indexOf_4cfef 22 (o_iload 2 23) := s_iload_n (by decide +kernel : decode cJ1_indexOf_4cfef 22 = .ok (.iload_n 2, 1)) rfl
theorem oJ1_indexOf_4cfef_23 : OpS mJ1_indexOf_4cfef 23 (o_iload 3 24) := s_iload_n (by decide +kernel : decode cJ1_indexOf_4cfef 23 = .ok (.iload_n 3, 1)) rfl
theorem oJ1_indexOf_4cfef_24 : OpS mJ1_indexOf_4cfef 24 (o_icmp (fun x y => x < y) 29 27) := s_icmp_lt (by decide +kernel : decode cJ1_indexOf_4cfef 24 = .ok (.if_icmp .lt 5, 3)) (by decide)
theorem oJ1_indexOf_4cfef_27 : OpS mJ1_indexOf_4cfef 27 (o_const (.int (-1)) 28) := s_iconst (by decide +kernel : decode cJ1_indexOf_4cfef 27 = .ok (.iconst (-1), 1)) (by decide)
theorem oJ1_indexOf_4cfef_28 : OpS mJ1_indexOf_4cfef 28 (o_iret) := s_iret rfl (by decide +kernel : decode cJ1_indexOf_4cfef 28 = .ok (.ireturn, 1))
theorem oJ1_indexOf_4cfef_29 : OpS mJ1_indexOf_4cfef 29 (o_aload 0 30) := s_aload_n (by decide +kernel : decode cJ1_indexOf_4cfef 29 = .ok (.aload_n 0, 1)) rfl
theorem oJ1_indexOf_4cfef_30 : OpS mJ1_indexOf_4cfef 30 (o_iload 1 31) := s_iload_n (by decide +kernel : decode cJ1_indexOf_4cfef 30 = .ok (.iload_n 1, 1)) rfl
theorem oJ1_indexOf_4cfef_31 : OpS mJ1_indexOf_4cfef 31 (o_iload 2 32) := s_iload_n (by decide +kernel : decode cJ1_indexOf_4cfef 31 = .ok (.iload_n 2, 1)) rfl
theorem oJ1_indexOf_4cfef_32 : OpS mJ1_indexOf_4cfef 32 (o_iload 3 33) := s_iload_n (by decide +kernel : decode cJ1_indexOf_4cfef 32 = .ok (.iload_n 3, 1)) rfl
theorem oJ1_indexOf_4cfef_33 : OpS mJ1_indexOf_4cfef 33 (o_callS mJ1_indexOfChar_4cfef 4 36) := s_callS ceJ1_indexOfChar_4cfef (Or.inl wj_903) wj_904 (by decide +kernel : decode cJ1_indexOf_4cfef 33 = .ok (.invokestatic 95, 3))
theorem oJ1_indexOf_4cfef_36 : OpS mJ1_indexOf_4cfef 36 (o_iret) := s_iret rfl (by decide +kernel : decode cJ1_indexOf_4cfef 36 = .ok (.ireturn, 1))
theorem oJ0_indexOf_7cf53_0 : OpS mJ0_indexOf_7cf53 0 (o_aload 0 1) := s_aload_n (by decide +kernel : decode cJ0_indexOf_7cf53 0 = .ok (.aload_n 0, 1)) rfl
theorem oJ0_indexOf_7cf53_1 : OpS mJ0_indexOf_7cf53 1 (o_callSt mJ0_isLatin1_aae02 0 4) := s_callSt ceJ0_isLatin1_aae02 rfl wj_489 wj_490 selJ0_isLatin1_aae02 (by decide +kernel : decode cJ0_indexOf_7cf53 1 = .ok (.invokevirtual 492, 3))
theorem oJ0_indexOf_7cf53_4 : OpS mJ0_indexOf_7cf53 4 (o_if (fun x => x = 0) 23 7) := s_if_eq (by decide +kernel : decode cJ0_indexOf_7cf53 4 = .ok (.ifCond .eq 19, 3)) (by decide)
theorem oJ0_indexOf_7cf53_7 : OpS mJ0_indexOf_7cf53 7 (o_aload 0 8) := s_aload_n (by decide +kernel : decode cJ0_indexOf_7cf53 7 = .ok (.aload_n 0, 1)) rfl
theorem oJ0_indexOf_7cf53_8 : OpS mJ0_indexOf_7cf53 8 (o_sval 11) := s_sval wj_1110 (by decide +kernel : decode cJ0_indexOf_7cf53 8 = .ok (.getfield 9, 3))
theorem oJ0_indexOf_7cf53_11 : OpS mJ0_indexOf_7cf53 11 (o_iload 1 12) := s_iload_n (by decide +kernel : decode cJ0_indexOf_7cf53 11 = .ok (.iload_n 1, 1)) rfl
theorem oJ0_indexOf_7cf53_12 : OpS mJ0_indexOf_7cf53 12 (o_iload 2 13) := s_iload_n (by decide +kernel : decode cJ0_indexOf_7cf53 12 = .ok (.iload_n 2, 1)) rfl
theorem oJ0_indexOf_7cf53_13 : OpS mJ0_indexOf_7cf53 13 (o_aload 0 14) := s_aload_n (by decide +kernel : decode cJ0_indexOf_7cf53 13 = .ok (.aload_n 0, 1)) rfl
theorem oJ0_indexOf_7cf53_14 : OpS mJ0_indexOf_7cf53 14 (o_callSt mJ0_length_8abf5 0 17) := s_callSt ceJ0_length_8abf5 rfl wj_894 wj_476 selJ0_length_8abf5 (by decide +kernel : decode cJ0_indexOf_7cf53 14 = .ok (.invokevirtual 505, 3))
theorem oJ0_indexOf_7cf53_17 : OpS mJ0_indexOf_7cf53 17 (o_callS mJ1_indexOf_4cfef 4 20) := s_callS ceJ1_indexOf_4cfef (Or.inl wj_895) wj_896 (by decide +kernel : decode cJ0_indexOf_7cf53 17 = .ok (.invokestatic 637, 3))
theorem oJ0_indexOf_7cf53_20 : OpS mJ0_indexOf_7cf53 20 (o_goto 36) := s_goto (by decide +kernel : decode cJ0_indexOf_7cf53 20 = .ok (.goto 16, 3)) (by decide)
theorem oJ0_indexOf_7cf53_36 : OpS mJ0_indexOf_7cf53 36 (o_iret) := s_iret rfl (by decide +kernel : decode cJ0_indexOf_7cf53 36 = .ok (.ireturn, 1))
theorem oJ0_indexOf_0f7a4_0 : OpS mJ0_indexOf_0f7a4 0 (o_aload 0 1) := s_aload_n (by decide +kernel : decode cJ0_indexOf_0f7a4 0 = .ok (.aload_n 0, 1)) rfl
theorem oJ0_indexOf_0f7a4_1 : OpS mJ0_indexOf_0f7a4 1 (o_iload 1 2) := s_iload_n (by decide +kernel : decode cJ0_indexOf_0f7a4 1 = .ok (.iload_n 1, 1)) rfl
theorem oJ0_indexOf_0f7a4_2 : OpS mJ0_indexOf_0f7a4 2 (o_const (.int 0) 3) := s_iconst (by decide +kernel : decode cJ0_indexOf_0f7a4 2 = .ok (.iconst 0, 1)) (by decide)
theorem oJ0_indexOf_0f7a4_3 : OpS mJ0_indexOf_0f7a4 3 (o_callSt mJ0_indexOf_7cf53 2 6) := s_callSt ceJ0_indexOf_7cf53 rfl wj_890 wj_891 selJ0_indexOf_7cf53 (by decide +kernel : decode cJ0_indexOf_0f7a4 3 = .ok (.invokevirtual 633, 3))
theorem oJ0_indexOf_0f7a4_6 : OpS mJ0_indexOf_0f7a4 6 (o_iret) := s_iret rfl (by decide +kernel : decode cJ0_indexOf_0f7a4 6 = .ok (.ireturn, 1))
theorem oX10_init_75 : OpS mX10_init 75 (o_const (.ref (pBIG + 0)) 77) := s_ldcS (i := 0) rfl (by decide +kernel : decode cX10_init 75 = .ok (.ldc 36, 2))
theorem oX10_init_77 : OpS mX10_init 77 (o_callSt mJ0_length_8abf5 0 80) := s_callSt ceJ0_length_8abf5 rfl wj_475 wj_476 selJ0_length_8abf5 (by decide +kernel : decode cX10_init 77 = .ok (.invokevirtual 38, 3))
theorem oX10_init_83 : OpS mX10_init 83 (o_const (.ref (pBIG + 0)) 85) := s_ldcS (i := 0) rfl (by decide +kernel : decode cX10_init 83 = .ok (.ldc 36, 2))
theorem oX10_init_86 : OpS mX10_init 86 (o_callSt mJ0_charAt_5068e 1 89) := s_callSt ceJ0_charAt_5068e rfl wj_485 wj_486 selJ0_charAt_5068e (by decide +kernel : decode cX10_init 86 = .ok (.invokevirtual 44, 3))
theorem oX10_init_98 : OpS mX10_init 98 (o_const (.ref (pBIG + 0)) 100) := s_ldcS (i := 0) rfl (by decide +kernel : decode cX10_init 98 = .ok (.ldc 36, 2))
theorem oX10_init_101 : OpS mX10_init 101 (o_callSt mJ0_charAt_5068e 1 104) := s_callSt ceJ0_charAt_5068e rfl wj_485 wj_486 selJ0_charAt_5068e (by decide +kernel : decode cX10_init 101 = .ok (.invokevirtual 44, 3))
theorem oX10_kindAt_110 : OpS mX10_kindAt 110 (o_const (.ref (pBIG + 1)) 112) := s_ldcS (i := 1) rfl (by decide +kernel : decode cX10_kindAt 110 = .ok (.ldc 93, 2))
theorem oX10_kindAt_115 : OpS mX10_kindAt 115 (o_callSt mJ0_indexOf_0f7a4 1 118) := s_callSt ceJ0_indexOf_0f7a4 rfl wj_886 wj_887 selJ0_indexOf_0f7a4 (by decide +kernel : decode cX10_kindAt 115 = .ok (.invokevirtual 95, 3))
