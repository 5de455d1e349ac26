abbrev b_String_isLatin1 : ByteArray := prog_17_method_154_code
def y_String_isLatin1 : MethodName := ⟨"java/lang/String", "isLatin1", "()Z"⟩
theorem kd_String_isLatin1 : kd_ok y_String_isLatin1 0 := by decide +kernel
abbrev b_String_coder : ByteArray := prog_17_method_152_code
def y_String_coder : MethodName := ⟨"java/lang/String", "coder", "()B"⟩
theorem kd_String_coder : kd_ok y_String_coder 0 := by decide +kernel
abbrev b_String_length : ByteArray := prog_17_method_54_code
def y_String_length : MethodName := ⟨"java/lang/String", "length", "()I"⟩
theorem kd_String_length : kd_ok y_String_length 0 := by decide +kernel
abbrev b_StringLatin1_canEncode : ByteArray := prog_18_method_4_code
def y_StringLatin1_canEncode : MethodName := ⟨"java/lang/StringLatin1", "canEncode", "(I)Z"⟩
theorem kd_StringLatin1_canEncode : kd_ok y_StringLatin1_canEncode 1 := by decide +kernel
abbrev b_StringLatin1_indexOfChar : ByteArray := prog_18_method_23_code
def y_StringLatin1_indexOfChar : MethodName := ⟨"java/lang/StringLatin1", "indexOfChar", "([BIII)I"⟩
theorem kd_StringLatin1_indexOfChar : kd_ok y_StringLatin1_indexOfChar 4 := by decide +kernel
abbrev b_StringLatin1_indexOf : ByteArray := prog_18_method_22_code
def y_StringLatin1_indexOf : MethodName := ⟨"java/lang/StringLatin1", "indexOf", "([BIII)I"⟩
theorem kd_StringLatin1_indexOf : kd_ok y_StringLatin1_indexOf 4 := by decide +kernel
abbrev b_String_indexOf_II : ByteArray := prog_17_method_80_code
def y_String_indexOf_II : MethodName := ⟨"java/lang/String", "indexOf", "(II)I"⟩
theorem kd_String_indexOf_II : kd_ok y_String_indexOf_II 2 := by decide +kernel
abbrev b_String_indexOf_I : ByteArray := prog_17_method_79_code
def y_String_indexOf_I : MethodName := ⟨"java/lang/String", "indexOf", "(I)I"⟩
theorem kd_String_indexOf_I : kd_ok y_String_indexOf_I 1 := by decide +kernel
abbrev b_Preconditions_checkIndex : ByteArray := prog_20_method_11_code
def y_Preconditions_checkIndex : MethodName := ⟨"jdk/internal/util/Preconditions", "checkIndex", "(IILjava/util/function/BiFunction;)I"⟩
theorem kd_Preconditions_checkIndex : kd_ok y_Preconditions_checkIndex 3 := by decide +kernel
abbrev b_String_checkIndex : ByteArray := prog_17_method_155_code
def y_String_checkIndex : MethodName := ⟨"java/lang/String", "checkIndex", "(II)V"⟩
theorem kd_String_checkIndex : kd_ok y_String_checkIndex 2 := by decide +kernel
abbrev b_StringLatin1_charAt : ByteArray := prog_18_method_2_code
def y_StringLatin1_charAt : MethodName := ⟨"java/lang/StringLatin1", "charAt", "([BI)C"⟩
theorem kd_StringLatin1_charAt : kd_ok y_StringLatin1_charAt 2 := by decide +kernel
abbrev b_String_charAt : ByteArray := prog_17_method_56_code
def y_String_charAt : MethodName := ⟨"java/lang/String", "charAt", "(I)C"⟩
theorem kd_String_charAt : kd_ok y_String_charAt 1 := by decide +kernel
theorem gm_2_109 : Cond.fieldLink "java/lang/String" (38 : Nat) "java/lang/String" "COMPACT_STRINGS" "Z" ∈ GW := gw_2 (i := 109) rfl rfl
theorem gm_6_42 : Cond.fieldLink "java/lang/String" (15 : Nat) "java/lang/String" "coder" "B" ∈ GW := gw_6 (i := 42) rfl rfl
theorem gm_6_43 : Cond.fieldLink "java/lang/String" (9 : Nat) "java/lang/String" "value" "[B" ∈ GW := gw_6 (i := 43) rfl rfl
theorem gm_2_118 : Cond.code ({ cls := "java/lang/String", name := "coder", desc := "()B" } : MethodName) prog_17_method_152_code (1 : Nat) (Option.some FieldType.byte) ∈ GW := gw_2 (i := 118) rfl rfl
theorem gm_2_115 : Cond.methodLink "java/lang/String" (335 : Nat) ({ cls := "java/lang/String", name := "coder", desc := "()B" } : MethodName) ∈ GW := gw_2 (i := 115) rfl rfl
theorem gm_1_14 : Cond.initialized "java/lang/String" ∈ GW := gw_1 (i := 14) rfl rfl
theorem gm_2_116 : Cond.instanceMethod ({ cls := "java/lang/String", name := "coder", desc := "()B" } : MethodName) ∈ GW := gw_2 (i := 116) rfl rfl
theorem gm_2_117 : Cond.selects "java/lang/String" ({ cls := "java/lang/String", name := "coder", desc := "()B" } : MethodName) ({ cls := "java/lang/String", name := "coder", desc := "()B" } : MethodName) ∈ GW := gw_2 (i := 117) rfl rfl
theorem gm_2_124 : Cond.code ({ cls := "java/lang/StringLatin1", name := "canEncode", desc := "(I)Z" } : MethodName) prog_18_method_4_code (1 : Nat) (Option.some FieldType.boolean) ∈ GW := gw_2 (i := 124) rfl rfl
theorem gm_2_122 : Cond.methodLink "java/lang/StringLatin1" (88 : Nat) ({ cls := "java/lang/StringLatin1", name := "canEncode", desc := "(I)Z" } : MethodName) ∈ GW := gw_2 (i := 122) rfl rfl
theorem gm_1_15 : Cond.initialized "java/lang/StringLatin1" ∈ GW := gw_1 (i := 15) rfl rfl
theorem gm_2_123 : Cond.static ({ cls := "java/lang/StringLatin1", name := "canEncode", desc := "(I)Z" } : MethodName) ∈ GW := gw_2 (i := 123) rfl rfl
theorem gm_2_125 : Cond.methodLink "java/lang/StringLatin1" (92 : Nat) ({ cls := "java/lang/Math", name := "max", desc := "(II)I" } : MethodName) ∈ GW := gw_2 (i := 125) rfl rfl
theorem gm_2_128 : Cond.methodLink "java/lang/StringLatin1" (38 : Nat) ({ cls := "java/lang/Math", name := "min", desc := "(II)I" } : MethodName) ∈ GW := gw_2 (i := 128) rfl rfl
theorem gm_2_133 : Cond.code ({ cls := "java/lang/StringLatin1", name := "indexOfChar", desc := "([BIII)I" } : MethodName) prog_18_method_23_code (6 : Nat) (Option.some FieldType.int) ∈ GW := gw_2 (i := 133) rfl rfl
theorem gm_2_131 : Cond.methodLink "java/lang/StringLatin1" (95 : Nat) ({ cls := "java/lang/StringLatin1", name := "indexOfChar", desc := "([BIII)I" } : MethodName) ∈ GW := gw_2 (i := 131) rfl rfl
theorem gm_2_132 : Cond.static ({ cls := "java/lang/StringLatin1", name := "indexOfChar", desc := "([BIII)I" } : MethodName) ∈ GW := gw_2 (i := 132) rfl rfl
theorem gm_2_108 : Cond.code ({ cls := "java/lang/String", name := "isLatin1", desc := "()Z" } : MethodName) prog_17_method_154_code (1 : Nat) (Option.some FieldType.boolean) ∈ GW := gw_2 (i := 108) rfl rfl
theorem gm_2_105 : Cond.methodLink "java/lang/String" (492 : Nat) ({ cls := "java/lang/String", name := "isLatin1", desc := "()Z" } : MethodName) ∈ GW := gw_2 (i := 105) rfl rfl
theorem gm_2_106 : Cond.instanceMethod ({ cls := "java/lang/String", name := "isLatin1", desc := "()Z" } : MethodName) ∈ GW := gw_2 (i := 106) rfl rfl
theorem gm_2_107 : Cond.selects "java/lang/String" ({ cls := "java/lang/String", name := "isLatin1", desc := "()Z" } : MethodName) ({ cls := "java/lang/String", name := "isLatin1", desc := "()Z" } : MethodName) ∈ GW := gw_2 (i := 107) rfl rfl
theorem gm_2_114 : Cond.code ({ cls := "java/lang/String", name := "length", desc := "()I" } : MethodName) prog_17_method_54_code (1 : Nat) (Option.some FieldType.int) ∈ GW := gw_2 (i := 114) rfl rfl
theorem gm_2_111 : Cond.methodLink "java/lang/String" (505 : Nat) ({ cls := "java/lang/String", name := "length", desc := "()I" } : MethodName) ∈ GW := gw_2 (i := 111) rfl rfl
theorem gm_2_112 : Cond.instanceMethod ({ cls := "java/lang/String", name := "length", desc := "()I" } : MethodName) ∈ GW := gw_2 (i := 112) rfl rfl
theorem gm_2_113 : Cond.selects "java/lang/String" ({ cls := "java/lang/String", name := "length", desc := "()I" } : MethodName) ({ cls := "java/lang/String", name := "length", desc := "()I" } : MethodName) ∈ GW := gw_2 (i := 113) rfl rfl
theorem gm_2_121 : Cond.code ({ cls := "java/lang/StringLatin1", name := "indexOf", desc := "([BIII)I" } : MethodName) prog_18_method_22_code (4 : Nat) (Option.some FieldType.int) ∈ GW := gw_2 (i := 121) rfl rfl
theorem gm_2_119 : Cond.methodLink "java/lang/String" (637 : Nat) ({ cls := "java/lang/StringLatin1", name := "indexOf", desc := "([BIII)I" } : MethodName) ∈ GW := gw_2 (i := 119) rfl rfl
theorem gm_2_120 : Cond.static ({ cls := "java/lang/StringLatin1", name := "indexOf", desc := "([BIII)I" } : MethodName) ∈ GW := gw_2 (i := 120) rfl rfl
theorem gm_2_104 : Cond.code ({ cls := "java/lang/String", name := "indexOf", desc := "(II)I" } : MethodName) prog_17_method_80_code (3 : Nat) (Option.some FieldType.int) ∈ GW := gw_2 (i := 104) rfl rfl
theorem gm_2_101 : Cond.methodLink "java/lang/String" (633 : Nat) ({ cls := "java/lang/String", name := "indexOf", desc := "(II)I" } : MethodName) ∈ GW := gw_2 (i := 101) rfl rfl
theorem gm_2_102 : Cond.instanceMethod ({ cls := "java/lang/String", name := "indexOf", desc := "(II)I" } : MethodName) ∈ GW := gw_2 (i := 102) rfl rfl
theorem gm_2_103 : Cond.selects "java/lang/String" ({ cls := "java/lang/String", name := "indexOf", desc := "(II)I" } : MethodName) ({ cls := "java/lang/String", name := "indexOf", desc := "(II)I" } : MethodName) ∈ GW := gw_2 (i := 103) rfl rfl
theorem gm_2_152 : Cond.fieldLink "java/lang/String" (1053 : Nat) "jdk/internal/util/Preconditions" "SIOOBE_FORMATTER" "Ljava/util/function/BiFunction;" ∈ GW := gw_2 (i := 152) rfl rfl
theorem gm_3_114 : Cond.code ({ cls := "jdk/internal/util/Preconditions", name := "checkIndex", desc := "(IILjava/util/function/BiFunction;)I" } : MethodName) prog_20_method_11_code (3 : Nat) (Option.some FieldType.int) ∈ GW := gw_3 (i := 114) rfl rfl
theorem gm_3_112 : Cond.methodLink "java/lang/String" (1059 : Nat) ({ cls := "jdk/internal/util/Preconditions", name := "checkIndex", desc := "(IILjava/util/function/BiFunction;)I" } : MethodName) ∈ GW := gw_3 (i := 112) rfl rfl
theorem gm_1_17 : Cond.initialized "jdk/internal/util/Preconditions" ∈ GW := gw_1 (i := 17) rfl rfl
theorem gm_3_113 : Cond.static ({ cls := "jdk/internal/util/Preconditions", name := "checkIndex", desc := "(IILjava/util/function/BiFunction;)I" } : MethodName) ∈ GW := gw_3 (i := 113) rfl rfl
theorem gm_3_111 : Cond.code ({ cls := "java/lang/String", name := "checkIndex", desc := "(II)V" } : MethodName) prog_17_method_155_code (2 : Nat) (Option.none : Option FieldType) ∈ GW := gw_3 (i := 111) rfl rfl
theorem gm_3_109 : Cond.methodLink "java/lang/StringLatin1" (9 : Nat) ({ cls := "java/lang/String", name := "checkIndex", desc := "(II)V" } : MethodName) ∈ GW := gw_3 (i := 109) rfl rfl
theorem gm_3_110 : Cond.static ({ cls := "java/lang/String", name := "checkIndex", desc := "(II)V" } : MethodName) ∈ GW := gw_3 (i := 110) rfl rfl
theorem gm_3_108 : Cond.code ({ cls := "java/lang/StringLatin1", name := "charAt", desc := "([BI)C" } : MethodName) prog_18_method_2_code (2 : Nat) (Option.some FieldType.char) ∈ GW := gw_3 (i := 108) rfl rfl
theorem gm_3_106 : Cond.methodLink "java/lang/String" (495 : Nat) ({ cls := "java/lang/StringLatin1", name := "charAt", desc := "([BI)C" } : MethodName) ∈ GW := gw_3 (i := 106) rfl rfl
theorem gm_3_107 : Cond.static ({ cls := "java/lang/StringLatin1", name := "charAt", desc := "([BI)C" } : MethodName) ∈ GW := gw_3 (i := 107) rfl rfl
theorem d_String_isLatin1_0 : decode b_String_isLatin1 0 = .ok (.getstatic 38, 3) := by decide +kernel
theorem d_String_isLatin1_3 : decode b_String_isLatin1 3 = .ok (.ifCond .eq 14, 3) := by decide +kernel
theorem d_String_isLatin1_6 : decode b_String_isLatin1 6 = .ok (.aload_n 0, 1) := by decide +kernel
theorem d_String_isLatin1_7 : decode b_String_isLatin1 7 = .ok (.getfield 15, 3) := by decide +kernel
theorem d_String_isLatin1_10 : decode b_String_isLatin1 10 = .ok (.ifCond .ne 7, 3) := by decide +kernel
theorem d_String_isLatin1_13 : decode b_String_isLatin1 13 = .ok (.iconst 1, 1) := by decide +kernel
theorem d_String_isLatin1_14 : decode b_String_isLatin1 14 = .ok (.goto 4, 3) := by decide +kernel
theorem d_String_isLatin1_17 : decode b_String_isLatin1 17 = .ok (.iconst 0, 1) := by decide +kernel
theorem d_String_isLatin1_18 : decode b_String_isLatin1 18 = .ok (.ireturn, 1) := by decide +kernel
theorem d_String_coder_0 : decode b_String_coder 0 = .ok (.getstatic 38, 3) := by decide +kernel
theorem d_String_coder_3 : decode b_String_coder 3 = .ok (.ifCond .eq 10, 3) := by decide +kernel
theorem d_String_coder_6 : decode b_String_coder 6 = .ok (.aload_n 0, 1) := by decide +kernel
theorem d_String_coder_7 : decode b_String_coder 7 = .ok (.getfield 15, 3) := by decide +kernel
theorem d_String_coder_10 : decode b_String_coder 10 = .ok (.goto 4, 3) := by decide +kernel
theorem d_String_coder_13 : decode b_String_coder 13 = .ok (.iconst 1, 1) := by decide +kernel
theorem d_String_coder_14 : decode b_String_coder 14 = .ok (.ireturn, 1) := by decide +kernel
theorem d_String_length_0 : decode b_String_length 0 = .ok (.aload_n 0, 1) := by decide +kernel
theorem d_String_length_1 : decode b_String_length 1 = .ok (.getfield 9, 3) := by decide +kernel
theorem d_String_length_4 : decode b_String_length 4 = .ok (.arraylength, 1) := by decide +kernel
theorem d_String_length_5 : decode b_String_length 5 = .ok (.aload_n 0, 1) := by decide +kernel
theorem d_String_length_6 : decode b_String_length 6 = .ok (.invokevirtual 335, 3) := by decide +kernel
theorem d_String_length_9 : decode b_String_length 9 = .ok (.ishr, 1) := by decide +kernel
theorem d_String_length_10 : decode b_String_length 10 = .ok (.ireturn, 1) := by decide +kernel
theorem d_StringLatin1_canEncode_0 : decode b_StringLatin1_canEncode 0 = .ok (.iload_n 0, 1) := by decide +kernel
theorem d_StringLatin1_canEncode_1 : decode b_StringLatin1_canEncode 1 = .ok (.ifCond .lt 14, 3) := by decide +kernel
theorem d_StringLatin1_canEncode_4 : decode b_StringLatin1_canEncode 4 = .ok (.iload_n 0, 1) := by decide +kernel
theorem d_StringLatin1_canEncode_5 : decode b_StringLatin1_canEncode 5 = .ok (.sipush 255, 3) := by decide +kernel
theorem d_StringLatin1_canEncode_8 : decode b_StringLatin1_canEncode 8 = .ok (.if_icmp .gt 7, 3) := by decide +kernel
theorem d_StringLatin1_canEncode_11 : decode b_StringLatin1_canEncode 11 = .ok (.iconst 1, 1) := by decide +kernel
theorem d_StringLatin1_canEncode_12 : decode b_StringLatin1_canEncode 12 = .ok (.goto 4, 3) := by decide +kernel
theorem d_StringLatin1_canEncode_15 : decode b_StringLatin1_canEncode 15 = .ok (.iconst 0, 1) := by decide +kernel
theorem d_StringLatin1_canEncode_16 : decode b_StringLatin1_canEncode 16 = .ok (.ireturn, 1) := by decide +kernel
theorem d_StringLatin1_indexOfChar_0 : decode b_StringLatin1_indexOfChar 0 = .ok (.iload_n 1, 1) := by decide +kernel
theorem d_StringLatin1_indexOfChar_1 : decode b_StringLatin1_indexOfChar 1 = .ok (.i2b, 1) := by decide +kernel
theorem d_StringLatin1_indexOfChar_2 : decode b_StringLatin1_indexOfChar 2 = .ok (.istore 4, 2) := by decide +kernel
theorem d_StringLatin1_indexOfChar_4 : decode b_StringLatin1_indexOfChar 4 = .ok (.iload_n 2, 1) := by decide +kernel
theorem d_StringLatin1_indexOfChar_5 : decode b_StringLatin1_indexOfChar 5 = .ok (.istore 5, 2) := by decide +kernel
theorem d_StringLatin1_indexOfChar_7 : decode b_StringLatin1_indexOfChar 7 = .ok (.iload 5, 2) := by decide +kernel
theorem d_StringLatin1_indexOfChar_9 : decode b_StringLatin1_indexOfChar 9 = .ok (.iload_n 3, 1) := by decide +kernel
theorem d_StringLatin1_indexOfChar_10 : decode b_StringLatin1_indexOfChar 10 = .ok (.if_icmp .ge 21, 3) := by decide +kernel
theorem d_StringLatin1_indexOfChar_13 : decode b_StringLatin1_indexOfChar 13 = .ok (.aload_n 0, 1) := by decide +kernel
theorem d_StringLatin1_indexOfChar_14 : decode b_StringLatin1_indexOfChar 14 = .ok (.iload 5, 2) := by decide +kernel
theorem d_StringLatin1_indexOfChar_16 : decode b_StringLatin1_indexOfChar 16 = .ok (.baload, 1) := by decide +kernel
theorem d_StringLatin1_indexOfChar_17 : decode b_StringLatin1_indexOfChar 17 = .ok (.iload 4, 2) := by decide +kernel
theorem d_StringLatin1_indexOfChar_19 : decode b_StringLatin1_indexOfChar 19 = .ok (.if_icmp .ne 6, 3) := by decide +kernel
theorem d_StringLatin1_indexOfChar_22 : decode b_StringLatin1_indexOfChar 22 = .ok (.iload 5, 2) := by decide +kernel
theorem d_StringLatin1_indexOfChar_24 : decode b_StringLatin1_indexOfChar 24 = .ok (.ireturn, 1) := by decide +kernel
theorem d_StringLatin1_indexOfChar_25 : decode b_StringLatin1_indexOfChar 25 = .ok (.iinc 5 1, 3) := by decide +kernel
theorem d_StringLatin1_indexOfChar_28 : decode b_StringLatin1_indexOfChar 28 = .ok (.goto (-21), 3) := by decide +kernel
theorem d_StringLatin1_indexOfChar_31 : decode b_StringLatin1_indexOfChar 31 = .ok (.iconst (-1), 1) := by decide +kernel
theorem d_StringLatin1_indexOfChar_32 : decode b_StringLatin1_indexOfChar 32 = .ok (.ireturn, 1) := by decide +kernel
theorem d_StringLatin1_indexOf_0 : decode b_StringLatin1_indexOf 0 = .ok (.iload_n 1, 1) := by decide +kernel
theorem d_StringLatin1_indexOf_1 : decode b_StringLatin1_indexOf 1 = .ok (.invokestatic 88, 3) := by decide +kernel
theorem d_StringLatin1_indexOf_4 : decode b_StringLatin1_indexOf 4 = .ok (.ifCond .ne 5, 3) := by decide +kernel
theorem d_StringLatin1_indexOf_7 : decode b_StringLatin1_indexOf 7 = .ok (.iconst (-1), 1) := by decide +kernel
theorem d_StringLatin1_indexOf_8 : decode b_StringLatin1_indexOf 8 = .ok (.ireturn, 1) := by decide +kernel
theorem d_StringLatin1_indexOf_9 : decode b_StringLatin1_indexOf 9 = .ok (.iload_n 2, 1) := by decide +kernel
theorem d_StringLatin1_indexOf_10 : decode b_StringLatin1_indexOf 10 = .ok (.iconst 0, 1) := by decide +kernel
theorem d_StringLatin1_indexOf_11 : decode b_StringLatin1_indexOf 11 = .ok (.invokestatic 92, 3) := by decide +kernel
theorem d_StringLatin1_indexOf_14 : decode b_StringLatin1_indexOf 14 = .ok (.istore_n 2, 1) := by decide +kernel
theorem d_StringLatin1_indexOf_15 : decode b_StringLatin1_indexOf 15 = .ok (.iload_n 3, 1) := by decide +kernel
theorem d_StringLatin1_indexOf_16 : decode b_StringLatin1_indexOf 16 = .ok (.aload_n 0, 1) := by decide +kernel
theorem d_StringLatin1_indexOf_17 : decode b_StringLatin1_indexOf 17 = .ok (.arraylength, 1) := by decide +kernel
theorem d_StringLatin1_indexOf_18 : decode b_StringLatin1_indexOf 18 = .ok (.invokestatic 38, 3) := by decide +kernel
theorem d_StringLatin1_indexOf_21 : decode b_StringLatin1_indexOf 21 = .ok (.istore_n 3, 1) := by decide +kernel
theorem d_StringLatin1_indexOf_22 : decode b_StringLatin1_indexOf 22 = .ok (.iload_n 2, 1) := by decide +kernel
theorem d_StringLatin1_indexOf_23 : decode b_StringLatin1_indexOf 23 = .ok (.iload_n 3, 1) := by decide +kernel
theorem d_StringLatin1_indexOf_24 : decode b_StringLatin1_indexOf 24 = .ok (.if_icmp .lt 5, 3) := by decide +kernel
theorem d_StringLatin1_indexOf_27 : decode b_StringLatin1_indexOf 27 = .ok (.iconst (-1), 1) := by decide +kernel
theorem d_StringLatin1_indexOf_28 : decode b_StringLatin1_indexOf 28 = .ok (.ireturn, 1) := by decide +kernel
theorem d_StringLatin1_indexOf_29 : decode b_StringLatin1_indexOf 29 = .ok (.aload_n 0, 1) := by decide +kernel
theorem d_StringLatin1_indexOf_30 : decode b_StringLatin1_indexOf 30 = .ok (.iload_n 1, 1) := by decide +kernel
theorem d_StringLatin1_indexOf_31 : decode b_StringLatin1_indexOf 31 = .ok (.iload_n 2, 1) := by decide +kernel
theorem d_StringLatin1_indexOf_32 : decode b_StringLatin1_indexOf 32 = .ok (.iload_n 3, 1) := by decide +kernel
theorem d_StringLatin1_indexOf_33 : decode b_StringLatin1_indexOf 33 = .ok (.invokestatic 95, 3) := by decide +kernel
theorem d_StringLatin1_indexOf_36 : decode b_StringLatin1_indexOf 36 = .ok (.ireturn, 1) := by decide +kernel
theorem d_String_indexOf_II_0 : decode b_String_indexOf_II 0 = .ok (.aload_n 0, 1) := by decide +kernel
theorem d_String_indexOf_II_1 : decode b_String_indexOf_II 1 = .ok (.invokevirtual 492, 3) := by decide +kernel
theorem d_String_indexOf_II_4 : decode b_String_indexOf_II 4 = .ok (.ifCond .eq 19, 3) := by decide +kernel
theorem d_String_indexOf_II_7 : decode b_String_indexOf_II 7 = .ok (.aload_n 0, 1) := by decide +kernel
theorem d_String_indexOf_II_8 : decode b_String_indexOf_II 8 = .ok (.getfield 9, 3) := by decide +kernel
theorem d_String_indexOf_II_11 : decode b_String_indexOf_II 11 = .ok (.iload_n 1, 1) := by decide +kernel
theorem d_String_indexOf_II_12 : decode b_String_indexOf_II 12 = .ok (.iload_n 2, 1) := by decide +kernel
theorem d_String_indexOf_II_13 : decode b_String_indexOf_II 13 = .ok (.aload_n 0, 1) := by decide +kernel
theorem d_String_indexOf_II_14 : decode b_String_indexOf_II 14 = .ok (.invokevirtual 505, 3) := by decide +kernel
theorem d_String_indexOf_II_17 : decode b_String_indexOf_II 17 = .ok (.invokestatic 637, 3) := by decide +kernel
theorem d_String_indexOf_II_20 : decode b_String_indexOf_II 20 = .ok (.goto 16, 3) := by decide +kernel
theorem d_String_indexOf_II_23 : decode b_String_indexOf_II 23 = .ok (.aload_n 0, 1) := by decide +kernel
theorem d_String_indexOf_II_24 : decode b_String_indexOf_II 24 = .ok (.getfield 9, 3) := by decide +kernel
theorem d_String_indexOf_II_27 : decode b_String_indexOf_II 27 = .ok (.iload_n 1, 1) := by decide +kernel
theorem d_String_indexOf_II_28 : decode b_String_indexOf_II 28 = .ok (.iload_n 2, 1) := by decide +kernel
theorem d_String_indexOf_II_29 : decode b_String_indexOf_II 29 = .ok (.aload_n 0, 1) := by decide +kernel
theorem d_String_indexOf_II_30 : decode b_String_indexOf_II 30 = .ok (.invokevirtual 505, 3) := by decide +kernel
theorem d_String_indexOf_II_33 : decode b_String_indexOf_II 33 = .ok (.invokestatic 640, 3) := by decide +kernel
theorem d_String_indexOf_II_36 : decode b_String_indexOf_II 36 = .ok (.ireturn, 1) := by decide +kernel
theorem d_String_indexOf_I_0 : decode b_String_indexOf_I 0 = .ok (.aload_n 0, 1) := by decide +kernel
theorem d_String_indexOf_I_1 : decode b_String_indexOf_I 1 = .ok (.iload_n 1, 1) := by decide +kernel
theorem d_String_indexOf_I_2 : decode b_String_indexOf_I 2 = .ok (.iconst 0, 1) := by decide +kernel
theorem d_String_indexOf_I_3 : decode b_String_indexOf_I 3 = .ok (.invokevirtual 633, 3) := by decide +kernel
theorem d_String_indexOf_I_6 : decode b_String_indexOf_I 6 = .ok (.ireturn, 1) := by decide +kernel
theorem d_Preconditions_checkIndex_0 : decode b_Preconditions_checkIndex 0 = .ok (.iload_n 0, 1) := by decide +kernel
theorem d_Preconditions_checkIndex_1 : decode b_Preconditions_checkIndex 1 = .ok (.ifCond .lt 8, 3) := by decide +kernel
theorem d_Preconditions_checkIndex_4 : decode b_Preconditions_checkIndex 4 = .ok (.iload_n 0, 1) := by decide +kernel
theorem d_Preconditions_checkIndex_5 : decode b_Preconditions_checkIndex 5 = .ok (.iload_n 1, 1) := by decide +kernel
theorem d_Preconditions_checkIndex_6 : decode b_Preconditions_checkIndex 6 = .ok (.if_icmp .lt 10, 3) := by decide +kernel
theorem d_Preconditions_checkIndex_9 : decode b_Preconditions_checkIndex 9 = .ok (.aload_n 2, 1) := by decide +kernel
theorem d_Preconditions_checkIndex_10 : decode b_Preconditions_checkIndex 10 = .ok (.iload_n 0, 1) := by decide +kernel
theorem d_Preconditions_checkIndex_11 : decode b_Preconditions_checkIndex 11 = .ok (.iload_n 1, 1) := by decide +kernel
theorem d_Preconditions_checkIndex_12 : decode b_Preconditions_checkIndex 12 = .ok (.invokestatic 95, 3) := by decide +kernel
theorem d_Preconditions_checkIndex_15 : decode b_Preconditions_checkIndex 15 = .ok (.athrow, 1) := by decide +kernel
theorem d_Preconditions_checkIndex_16 : decode b_Preconditions_checkIndex 16 = .ok (.iload_n 0, 1) := by decide +kernel
theorem d_Preconditions_checkIndex_17 : decode b_Preconditions_checkIndex 17 = .ok (.ireturn, 1) := by decide +kernel
theorem d_String_checkIndex_0 : decode b_String_checkIndex 0 = .ok (.iload_n 0, 1) := by decide +kernel
theorem d_String_checkIndex_1 : decode b_String_checkIndex 1 = .ok (.iload_n 1, 1) := by decide +kernel
theorem d_String_checkIndex_2 : decode b_String_checkIndex 2 = .ok (.getstatic 1053, 3) := by decide +kernel
theorem d_String_checkIndex_5 : decode b_String_checkIndex 5 = .ok (.invokestatic 1059, 3) := by decide +kernel
theorem d_String_checkIndex_8 : decode b_String_checkIndex 8 = .ok (.pop, 1) := by decide +kernel
theorem d_String_checkIndex_9 : decode b_String_checkIndex 9 = .ok (.return_, 1) := by decide +kernel
theorem d_StringLatin1_charAt_0 : decode b_StringLatin1_charAt 0 = .ok (.iload_n 1, 1) := by decide +kernel
theorem d_StringLatin1_charAt_1 : decode b_StringLatin1_charAt 1 = .ok (.aload_n 0, 1) := by decide +kernel
theorem d_StringLatin1_charAt_2 : decode b_StringLatin1_charAt 2 = .ok (.arraylength, 1) := by decide +kernel
theorem d_StringLatin1_charAt_3 : decode b_StringLatin1_charAt 3 = .ok (.invokestatic 9, 3) := by decide +kernel
theorem d_StringLatin1_charAt_6 : decode b_StringLatin1_charAt 6 = .ok (.aload_n 0, 1) := by decide +kernel
theorem d_StringLatin1_charAt_7 : decode b_StringLatin1_charAt 7 = .ok (.iload_n 1, 1) := by decide +kernel
theorem d_StringLatin1_charAt_8 : decode b_StringLatin1_charAt 8 = .ok (.baload, 1) := by decide +kernel
theorem d_StringLatin1_charAt_9 : decode b_StringLatin1_charAt 9 = .ok (.sipush 255, 3) := by decide +kernel
theorem d_StringLatin1_charAt_12 : decode b_StringLatin1_charAt 12 = .ok (.iand, 1) := by decide +kernel
theorem d_StringLatin1_charAt_13 : decode b_StringLatin1_charAt 13 = .ok (.i2c, 1) := by decide +kernel
theorem d_StringLatin1_charAt_14 : decode b_StringLatin1_charAt 14 = .ok (.ireturn, 1) := by decide +kernel
theorem d_String_charAt_0 : decode b_String_charAt 0 = .ok (.aload_n 0, 1) := by decide +kernel
theorem d_String_charAt_1 : decode b_String_charAt 1 = .ok (.invokevirtual 492, 3) := by decide +kernel
theorem d_String_charAt_4 : decode b_String_charAt 4 = .ok (.ifCond .eq 12, 3) := by decide +kernel
theorem d_String_charAt_7 : decode b_String_charAt 7 = .ok (.aload_n 0, 1) := by decide +kernel
theorem d_String_charAt_8 : decode b_String_charAt 8 = .ok (.getfield 9, 3) := by decide +kernel
theorem d_String_charAt_11 : decode b_String_charAt 11 = .ok (.iload_n 1, 1) := by decide +kernel
theorem d_String_charAt_12 : decode b_String_charAt 12 = .ok (.invokestatic 495, 3) := by decide +kernel
theorem d_String_charAt_15 : decode b_String_charAt 15 = .ok (.ireturn, 1) := by decide +kernel
theorem d_String_charAt_16 : decode b_String_charAt 16 = .ok (.aload_n 0, 1) := by decide +kernel
theorem d_String_charAt_17 : decode b_String_charAt 17 = .ok (.getfield 9, 3) := by decide +kernel
theorem d_String_charAt_20 : decode b_String_charAt 20 = .ok (.iload_n 1, 1) := by decide +kernel
theorem d_String_charAt_21 : decode b_String_charAt 21 = .ok (.invokestatic 498, 3) := by decide +kernel
theorem d_String_charAt_24 : decode b_String_charAt 24 = .ok (.ireturn, 1) := by decide +kernel
abbrev rm_String_isLatin1 : Room := { frames := 0, cells := 0, slots := 0, locals := 0 }
set_option maxHeartbeats 4000000 in
set_option maxRecDepth 100000 in
theorem c_String_isLatin1 (l : Launch) (D : va_G) (kk : Nat → ClassId) (st : Nat → Nat) (sz : Nat) (i : Nat) (hi : i < 4) (o : Int32) (he : f_String_isLatin1 i = some o) : Met l y_String_isLatin1 (Cond.code y_String_isLatin1 b_String_isLatin1 1 (some .boolean) :: GW) rm_String_isLatin1 (KPc D kk st [.ref (st (10 + i))] [] sz) (KQi D kk o [] (va_A [] sz)) 0 0 (va_A [] sz) := by
  refine k_start (Qc := fun A => KQi D kk o [] A) (by decide +kernel) (Nat.le_of_ble_eq_true rfl) ?_
  intro p e s m below meth c A ls S hnm hr hlk hA X hP hD hS hl
  have hl : lv_has ls 1 [(0, .ref (st (10 + i)))] := hl
  have hx := S.1
  have hb := S.2.1
  unfold f_String_isLatin1 at he
  refine va_gets hx hb (SW.zc X.2.2) hS S.2.2.2.1 (S.2.2.2.2 _ gm_2_109) (fun _ h => h) d_String_isLatin1_0 ?_
  refine lv_if_eq (tgt := 17) hx hb d_String_isLatin1_3 rfl (fun hc => ?_) (fun hc => ?_)
  · exact absurd hc (by decide)
  · refine lv_aload_n hx hb d_String_isLatin1_6 rfl (lv_at hl 0 rfl) ?_
    refine vk_getf hx hb ((SW.vs X.2.2).1 i hi).2.1 hS S.2.2.2.1 (S.2.2.2.2 _ gm_6_42) (fun _ h => h) d_String_isLatin1_7 ?_
    refine lv_if_ne (tgt := 17) hx hb d_String_isLatin1_10 rfl (fun hc => ?_) (fun hc => ?_)
    · exact absurd (by decide) hc
    · refine lv_iconst (v := (1 : Int32)) hx hb d_String_isLatin1_13 (by decide) ?_
      refine lv_goto (tgt := 18) hx hb d_String_isLatin1_14 rfl ?_
      cases he
      exact k_zre hx hb hr hlk X hP hD hS (Or.inr rfl) d_String_isLatin1_18
abbrev rm_String_coder : Room := { frames := 0, cells := 0, slots := 0, locals := 0 }
set_option maxHeartbeats 4000000 in
set_option maxRecDepth 100000 in
theorem c_String_coder (l : Launch) (D : va_G) (kk : Nat → ClassId) (st : Nat → Nat) (sz : Nat) (i : Nat) (hi : i < 4) (o : Int32) (he : f_String_coder i = some o) : Met l y_String_coder (Cond.code y_String_coder b_String_coder 1 (some .byte) :: GW) rm_String_coder (KPc D kk st [.ref (st (10 + i))] [] sz) (KQi D kk o [] (va_A [] sz)) 0 0 (va_A [] sz) := by
  refine k_start (Qc := fun A => KQi D kk o [] A) (by decide +kernel) (Nat.le_of_ble_eq_true rfl) ?_
  intro p e s m below meth c A ls S hnm hr hlk hA X hP hD hS hl
  have hl : lv_has ls 1 [(0, .ref (st (10 + i)))] := hl
  have hx := S.1
  have hb := S.2.1
  unfold f_String_coder at he
  refine va_gets hx hb (SW.zc X.2.2) hS S.2.2.2.1 (S.2.2.2.2 _ gm_2_109) (fun _ h => h) d_String_coder_0 ?_
  refine lv_if_eq (tgt := 13) hx hb d_String_coder_3 rfl (fun hc => ?_) (fun hc => ?_)
  · exact absurd hc (by decide)
  · refine lv_aload_n hx hb d_String_coder_6 rfl (lv_at hl 0 rfl) ?_
    refine vk_getf hx hb ((SW.vs X.2.2).1 i hi).2.1 hS S.2.2.2.1 (S.2.2.2.2 _ gm_6_42) (fun _ h => h) d_String_coder_7 ?_
    refine lv_goto (tgt := 14) hx hb d_String_coder_10 rfl ?_
    cases he
    exact k_nre hx hb hr hlk X hP hD hS rfl d_String_coder_14
abbrev rm_String_length : Room := { frames := 1, cells := 0, slots := 0, locals := 20 }
set_option maxHeartbeats 4000000 in
set_option maxRecDepth 100000 in
theorem c_String_length (l : Launch) (D : va_G) (kk : Nat → ClassId) (st : Nat → Nat) (sz : Nat) (i : Nat) (hi : i < 4) (o : Int32) (he : f_String_length i = some o) : Met l y_String_length (Cond.code y_String_length b_String_length 1 (some .int) :: GW) rm_String_length (KPc D kk st [.ref (st (10 + i))] [] sz) (KQi D kk o [] (va_A [] sz)) 0 0 (va_A [] sz) := by
  refine k_start (Qc := fun A => KQi D kk o [] A) (by decide +kernel) (Nat.le_of_ble_eq_true rfl) ?_
  intro p e s m below meth c A ls S hnm hr hlk hA X hP hD hS hl
  have hl : lv_has ls 1 [(0, .ref (st (10 + i)))] := hl
  have hx := S.1
  have hb := S.2.1
  unfold f_String_length at he
  refine lv_aload_n hx hb d_String_length_0 rfl (lv_at hl 0 rfl) ?_
  refine vk_getf hx hb ((SW.vs X.2.2).1 i hi).2.2.1 hS S.2.2.2.1 (S.2.2.2.2 _ gm_6_43) (fun _ h => h) d_String_length_1 ?_
  refine va_tlen (v := (Int32.ofNat (tx_len.getD i 0))) hx hb ((SW.vs X.2.2).1 i hi).2.2.2 hS rfl d_String_length_4 ?_
  refine lv_aload_n hx hb d_String_length_5 rfl (lv_at hl 0 rfl) ?_
  obtain ⟨u1, e2, he⟩ := ih_b he
  refine k_io (r_VH (As := []) S X hA hP hD hS (c_String_coder l D kk st _ i hi u1 e2) gm_2_118 gm_2_115 gm_2_116 gm_2_117 gm_1_14 ⟨rfl, rfl, by decide, by decide⟩ kd_String_coder [] rfl rfl rfl (SW.rv X.2.2 i hi hS) rfl hl.1 rfl (Nat.le_of_ble_eq_true rfl) d_String_length_6 ⟨Nat.zero_le _, Nat.zero_le _⟩) hA hP hD hS [] rfl (fun H locs hP hS => ?_)
  refine lv_ishr hx hb d_String_length_9 ?_
  cases he
  exact k_ire hx hb hr hlk X hP hD hS d_String_length_10
abbrev rm_StringLatin1_canEncode : Room := { frames := 0, cells := 0, slots := 0, locals := 0 }
set_option maxHeartbeats 4000000 in
set_option maxRecDepth 100000 in
theorem c_StringLatin1_canEncode (l : Launch) (D : va_G) (kk : Nat → ClassId) (st : Nat → Nat) (sz : Nat) (x0 : Int32) (o : Int32) (he : f_StringLatin1_canEncode x0 = some o) : Met l y_StringLatin1_canEncode (Cond.code y_StringLatin1_canEncode b_StringLatin1_canEncode 1 (some .boolean) :: GW) rm_StringLatin1_canEncode (KPc D kk st [.int x0] [] sz) (KQi D kk o [] (va_A [] sz)) 0 0 (va_A [] sz) := by
  refine k_start (Qc := fun A => KQi D kk o [] A) (by decide +kernel) (Nat.le_of_ble_eq_true rfl) ?_
  intro p e s m below meth c A ls S hnm hr hlk hA X hP hD hS hl
  have hl : lv_has ls 1 [(0, .int x0)] := hl
  have hx := S.1
  have hb := S.2.1
  unfold f_StringLatin1_canEncode at he
  refine lv_iload_n hx hb d_StringLatin1_canEncode_0 rfl (lv_at hl 0 rfl) ?_
  refine lv_if_lt (tgt := 15) hx hb d_StringLatin1_canEncode_1 rfl (fun hc => ?_) (fun hc => ?_)
  · have he := ih_t hc he
    refine lv_iconst (v := (0 : Int32)) hx hb d_StringLatin1_canEncode_15 (by decide) ?_
    cases he
    exact k_zre hx hb hr hlk X hP hD hS (Or.inl rfl) d_StringLatin1_canEncode_16
  · have he := ih_f hc he
    refine lv_iload_n hx hb d_StringLatin1_canEncode_4 rfl (lv_at hl 0 rfl) ?_
    refine lv_sipush (v := (255 : Int32)) hx hb d_StringLatin1_canEncode_5 (by decide) ?_
    refine lv_icmp_gt (tgt := 15) hx hb d_StringLatin1_canEncode_8 rfl (fun hc => ?_) (fun hc => ?_)
    · have he := ih_t hc he
      refine lv_iconst (v := (0 : Int32)) hx hb d_StringLatin1_canEncode_15 (by decide) ?_
      cases he
      exact k_zre hx hb hr hlk X hP hD hS (Or.inl rfl) d_StringLatin1_canEncode_16
    · have he := ih_f hc he
      refine lv_iconst (v := (1 : Int32)) hx hb d_StringLatin1_canEncode_11 (by decide) ?_
      refine lv_goto (tgt := 16) hx hb d_StringLatin1_canEncode_12 rfl ?_
      cases he
      exact k_zre hx hb hr hlk X hP hD hS (Or.inr rfl) d_StringLatin1_canEncode_16
abbrev rm_StringLatin1_indexOfChar : Room := { frames := 0, cells := 0, slots := 0, locals := 0 }
set_option maxHeartbeats 4000000 in
set_option maxRecDepth 100000 in
theorem w_StringLatin1_indexOfChar_7 {p : Program} {l : Launch} {e : Env} {s : State} {m : MethodId} {args : Array Value} {below : List Frame} {meth : Method} {c : Code} {Q : State → Prop} {A : Nat → Prop} {D : va_G} {kk : Nat → ClassId} {st : Nat → Nat} (i : Nat) (hi : i < 4) (x3 : Int32) (x4 : Int32) (S : CallFix p m c b_StringLatin1_indexOfChar 6 s args GW y_StringLatin1_indexOfChar.cls) (hr : meth.sig.returnType = (some .int)) (hlk : meth.locks = false) (hA : ∀ q, s.heap.size ≤ q → A q) (X : KX D kk st A s) : ∀ (n : Nat) (x5 : Int32) (v : (Int32) ⊕ (Int32)) (H : Heap) (locs : List Loc) (ls : Array Slot), lp_StringLatin1_indexOfChar_7 i x3 x4 n x5 = some v → lv_has ls 6 [(0, .ref (st (20 + i))), (3, .int x3), (4, .int x4), (5, .int x5)] → va_P D classes [] H → va_D A [] → va_S A s.heap H locs → (∀ o : Int32, v = .inl o → Q = MQ below (KQi D kk o [] A) args s 0 0 A) → (∀ v' : Int32, v = .inr v' → ∀ (H : Heap) (locs : List Loc) (ls : Array Slot), lv_has ls 6 [(0, .ref (st (20 + i))), (3, .int x3), (4, .int x4), (5, .int v')] → va_P D classes [] H → va_D A [] → va_S A s.heap H locs → W p l e rm_StringLatin1_indexOfChar s m args below meth c H locs 0 0 Q (F0 m 31 ls [])) → W p l e rm_StringLatin1_indexOfChar s m args below meth c H locs 0 0 Q (F0 m 7 ls []) := by
  intro n
  induction n with
  | zero =>
    intro x5 v H locs ls he hl hP hD hS hret K
    exact ih_n he
  | succ n ih =>
    intro x5 v H locs ls he hl hP hD hS hret K
    have hx := S.1
    have hb := S.2.1
    have he : st_StringLatin1_indexOfChar_7 i x3 x4 (lp_StringLatin1_indexOfChar_7 i x3 x4 n) x5 = some v := he
    unfold st_StringLatin1_indexOfChar_7 at he
    refine lv_iload hx hb d_StringLatin1_indexOfChar_7 (lv_at hl 3 rfl) ?_
    refine lv_iload_n hx hb d_StringLatin1_indexOfChar_9 rfl (lv_at hl 1 rfl) ?_
    refine lv_icmp_ge (tgt := 31) hx hb d_StringLatin1_indexOfChar_10 rfl (fun hc => ?_) (fun hc => ?_)
    · have he := ih_t hc he
      have hl : lv_has ls 6 [(0, .ref (st (20 + i))), (3, .int x3), (4, .int x4), (5, .int x5)] := lv_sub hl [0, 1, 2, 3] rfl
      cases he
      exact K _ rfl _ _ _ hl hP hD hS
    · have he := ih_f hc he
      refine lv_aload_n hx hb d_StringLatin1_indexOfChar_13 rfl (lv_at hl 0 rfl) ?_
      refine lv_iload hx hb d_StringLatin1_indexOfChar_14 (lv_at hl 3 rfl) ?_
      obtain ⟨hi1, he⟩ := ih_g he
      refine va_tb hx hb ((SW.vs X.2.2).1 i hi).2.2.2 hS hi1 rfl d_StringLatin1_indexOfChar_16 ?_
      refine lv_iload hx hb d_StringLatin1_indexOfChar_17 (lv_at hl 2 rfl) ?_
      refine lv_icmp_ne (tgt := 25) hx hb d_StringLatin1_indexOfChar_19 rfl (fun hc => ?_) (fun hc => ?_)
      · have he := ih_f hc he
        refine lv_iinc (k := 3) hx hb d_StringLatin1_indexOfChar_25 hl rfl (ii_ (v := (1 : Int32)) (by decide)) (by decide) rfl (fun ls hl => ?_)
        have hl : lv_has ls 6 [(5, .int (x5 + (1 : Int32))), (0, .ref (st (20 + i))), (3, .int x3), (4, .int x4)] := hl
        refine lv_goto (tgt := 7) hx hb d_StringLatin1_indexOfChar_28 rfl ?_
        have hl : lv_has ls 6 [(0, .ref (st (20 + i))), (3, .int x3), (4, .int x4), (5, .int (x5 + (1 : Int32)))] := lv_sub hl [1, 2, 3, 0] rfl
        exact ih _ _ _ _ _ he hl hP hD hS hret K
      · have he := ih_t hc he
        refine lv_iload hx hb d_StringLatin1_indexOfChar_22 (lv_at hl 3 rfl) ?_
        cases he
        have hq := hret _ rfl
        subst hq
        exact k_ire hx hb hr hlk X hP hD hS d_StringLatin1_indexOfChar_24
set_option maxHeartbeats 4000000 in
set_option maxRecDepth 100000 in
theorem c_StringLatin1_indexOfChar (l : Launch) (D : va_G) (kk : Nat → ClassId) (st : Nat → Nat) (sz : Nat) (i : Nat) (hi : i < 4) (x1 : Int32) (x2 : Int32) (x3 : Int32) (o : Int32) (he : f_StringLatin1_indexOfChar i x1 x2 x3 = some o) : Met l y_StringLatin1_indexOfChar (Cond.code y_StringLatin1_indexOfChar b_StringLatin1_indexOfChar 6 (some .int) :: GW) rm_StringLatin1_indexOfChar (KPc D kk st [.ref (st (20 + i)), .int x1, .int x2, .int x3] [] sz) (KQi D kk o [] (va_A [] sz)) 0 0 (va_A [] sz) := by
  refine k_start (Qc := fun A => KQi D kk o [] A) (by decide +kernel) (Nat.le_of_ble_eq_true rfl) ?_
  intro p e s m below meth c A ls S hnm hr hlk hA X hP hD hS hl
  have hl : lv_has ls 6 [(0, .ref (st (20 + i))), (1, .int x1), (2, .int x2), (3, .int x3)] := hl
  have hx := S.1
  have hb := S.2.1
  unfold f_StringLatin1_indexOfChar at he
  refine lv_iload_n hx hb d_StringLatin1_indexOfChar_0 rfl (lv_at hl 1 rfl) ?_
  refine lv_i2b hx hb d_StringLatin1_indexOfChar_1 rfl ?_
  refine lv_istore hx hb d_StringLatin1_indexOfChar_2 hl (by decide) rfl (fun ls hl => ?_)
  have hl : lv_has ls 6 [(4, .int ((Int32.toInt8 x1).toInt32)), (0, .ref (st (20 + i))), (1, .int x1), (2, .int x2), (3, .int x3)] := hl
  refine lv_iload_n hx hb d_StringLatin1_indexOfChar_4 rfl (lv_at hl 3 rfl) ?_
  refine lv_istore hx hb d_StringLatin1_indexOfChar_5 hl (by decide) rfl (fun ls hl => ?_)
  have hl : lv_has ls 6 [(5, .int x2), (4, .int ((Int32.toInt8 x1).toInt32)), (0, .ref (st (20 + i))), (1, .int x1), (2, .int x2), (3, .int x3)] := hl
  obtain ⟨u2, e3, he⟩ := ih_b he
  have hl : lv_has ls 6 [(0, .ref (st (20 + i))), (3, .int x3), (4, .int ((Int32.toInt8 x1).toInt32)), (5, .int x2)] := lv_sub hl [2, 5, 1, 0] rfl
  rcases u2 with o4 | v5
  · have he := sel_l he
    cases he
    exact w_StringLatin1_indexOfChar_7 i hi x3 ((Int32.toInt8 x1).toInt32) S hr hlk hA X FU x2 _ _ _ ls e3 hl hP hD hS (fun o h => by cases h; rfl) (fun v h => by cases h)
  · have he := sel_r he
    refine w_StringLatin1_indexOfChar_7 i hi x3 ((Int32.toInt8 x1).toInt32) S hr hlk hA X FU x2 _ _ _ ls e3 hl hP hD hS (fun o h => by cases h) (fun v h H locs ls hl hP hD hS => ?_)
    have h := Sum.inr.inj h
    subst h
    refine lv_iconst (v := (-1 : Int32)) hx hb d_StringLatin1_indexOfChar_31 (by decide) ?_
    cases he
    exact k_ire hx hb hr hlk X hP hD hS d_StringLatin1_indexOfChar_32
abbrev rm_StringLatin1_indexOf : Room := { frames := 1, cells := 0, slots := 0, locals := 25 }
set_option maxHeartbeats 4000000 in
set_option maxRecDepth 100000 in
theorem c_StringLatin1_indexOf (l : Launch) (D : va_G) (kk : Nat → ClassId) (st : Nat → Nat) (sz : Nat) (i : Nat) (hi : i < 4) (x1 : Int32) (x2 : Int32) (x3 : Int32) (o : Int32) (he : f_StringLatin1_indexOf i x1 x2 x3 = some o) : Met l y_StringLatin1_indexOf (Cond.code y_StringLatin1_indexOf b_StringLatin1_indexOf 4 (some .int) :: GW) rm_StringLatin1_indexOf (KPc D kk st [.ref (st (20 + i)), .int x1, .int x2, .int x3] [] sz) (KQi D kk o [] (va_A [] sz)) 0 0 (va_A [] sz) := by
  refine k_start (Qc := fun A => KQi D kk o [] A) (by decide +kernel) (Nat.le_of_ble_eq_true rfl) ?_
  intro p e s m below meth c A ls S hnm hr hlk hA X hP hD hS hl
  have hl : lv_has ls 4 [(0, .ref (st (20 + i))), (1, .int x1), (2, .int x2), (3, .int x3)] := hl
  have hx := S.1
  have hb := S.2.1
  unfold f_StringLatin1_indexOf at he
  refine lv_iload_n hx hb d_StringLatin1_indexOf_0 rfl (lv_at hl 1 rfl) ?_
  obtain ⟨u1, e2, he⟩ := ih_b he
  refine k_io (r_S (As := [.int x1]) S X hA hP hD hS (c_StringLatin1_canEncode l D kk st _ x1 u1 e2) gm_2_124 gm_2_122 gm_2_123 gm_1_15 ⟨rfl, rfl, by decide, by decide⟩ kd_StringLatin1_canEncode [] rfl rfl rfl rfl hl.1 rfl (Nat.le_of_ble_eq_true rfl) d_StringLatin1_indexOf_1 ⟨Nat.zero_le _, Nat.zero_le _⟩) hA hP hD hS [] rfl (fun H locs hP hS => ?_)
  refine lv_if_ne (tgt := 9) hx hb d_StringLatin1_indexOf_4 rfl (fun hc => ?_) (fun hc => ?_)
  · have he := ih_f hc he
    refine lv_iload_n hx hb d_StringLatin1_indexOf_9 rfl (lv_at hl 2 rfl) ?_
    refine lv_iconst (v := (0 : Int32)) hx hb d_StringLatin1_indexOf_10 (by decide) ?_
    refine va_mmax hx hb (by rw [S.2.2.1]; exact hl.1.symm) S.2.2.2.1 (S.2.2.2.2 _ gm_2_125) (S.2.2.2.2 _ gm_2_126) (S.2.2.2.2 _ gm_1_11) (S.2.2.2.2 _ gm_2_127) (by decide) (Nat.le_of_ble_eq_true rfl) (Nat.zero_le _) (Nat.zero_le _) d_StringLatin1_indexOf_11 ?_
    refine lv_istore_n hx hb d_StringLatin1_indexOf_14 rfl hl (by decide) rfl (fun ls hl => ?_)
    have hl : lv_has ls 4 [(2, .int (if x2 < (0 : Int32) then (0 : Int32) else x2)), (0, .ref (st (20 + i))), (1, .int x1), (3, .int x3)] := hl
    refine lv_iload_n hx hb d_StringLatin1_indexOf_15 rfl (lv_at hl 3 rfl) ?_
    refine lv_aload_n hx hb d_StringLatin1_indexOf_16 rfl (lv_at hl 1 rfl) ?_
    refine va_tlen (v := (Int32.ofNat (tx_len.getD i 0))) hx hb ((SW.vs X.2.2).1 i hi).2.2.2 hS rfl d_StringLatin1_indexOf_17 ?_
    refine va_mmin hx hb (by rw [S.2.2.1]; exact hl.1.symm) S.2.2.2.1 (S.2.2.2.2 _ gm_2_128) (S.2.2.2.2 _ gm_2_129) (S.2.2.2.2 _ gm_1_11) (S.2.2.2.2 _ gm_2_130) (by decide) (Nat.le_of_ble_eq_true rfl) (Nat.zero_le _) (Nat.zero_le _) d_StringLatin1_indexOf_18 ?_
    refine lv_istore_n hx hb d_StringLatin1_indexOf_21 rfl hl (by decide) rfl (fun ls hl => ?_)
    have hl : lv_has ls 4 [(3, .int (if (Int32.ofNat (tx_len.getD i 0)) < x3 then (Int32.ofNat (tx_len.getD i 0)) else x3)), (2, .int (if x2 < (0 : Int32) then (0 : Int32) else x2)), (0, .ref (st (20 + i))), (1, .int x1)] := hl
    refine lv_iload_n hx hb d_StringLatin1_indexOf_22 rfl (lv_at hl 1 rfl) ?_
    refine lv_iload_n hx hb d_StringLatin1_indexOf_23 rfl (lv_at hl 0 rfl) ?_
    refine lv_icmp_lt (tgt := 29) hx hb d_StringLatin1_indexOf_24 rfl (fun hc => ?_) (fun hc => ?_)
    · have he := ih_t hc he
      refine lv_aload_n hx hb d_StringLatin1_indexOf_29 rfl (lv_at hl 2 rfl) ?_
      refine lv_iload_n hx hb d_StringLatin1_indexOf_30 rfl (lv_at hl 3 rfl) ?_
      refine lv_iload_n hx hb d_StringLatin1_indexOf_31 rfl (lv_at hl 1 rfl) ?_
      refine lv_iload_n hx hb d_StringLatin1_indexOf_32 rfl (lv_at hl 0 rfl) ?_
      obtain ⟨u3, e4, he⟩ := ih_b he
      refine k_io (r_S (As := [.ref (st (20 + i)), .int x1, .int (if x2 < (0 : Int32) then (0 : Int32) else x2), .int (if (Int32.ofNat (tx_len.getD i 0)) < x3 then (Int32.ofNat (tx_len.getD i 0)) else x3)]) S X hA hP hD hS (c_StringLatin1_indexOfChar l D kk st _ i hi x1 (if x2 < (0 : Int32) then (0 : Int32) else x2) (if (Int32.ofNat (tx_len.getD i 0)) < x3 then (Int32.ofNat (tx_len.getD i 0)) else x3) u3 e4) gm_2_133 gm_2_131 gm_2_132 gm_1_15 ⟨rfl, rfl, by decide, by decide⟩ kd_StringLatin1_indexOfChar [] rfl rfl rfl rfl hl.1 rfl (Nat.le_of_ble_eq_true rfl) d_StringLatin1_indexOf_33 ⟨Nat.zero_le _, Nat.zero_le _⟩) hA hP hD hS [] rfl (fun H locs hP hS => ?_)
      cases he
      exact k_ire hx hb hr hlk X hP hD hS d_StringLatin1_indexOf_36
    · have he := ih_f hc he
      refine lv_iconst (v := (-1 : Int32)) hx hb d_StringLatin1_indexOf_27 (by decide) ?_
      cases he
      exact k_ire hx hb hr hlk X hP hD hS d_StringLatin1_indexOf_28
  · have he := ih_t hc he
    refine lv_iconst (v := (-1 : Int32)) hx hb d_StringLatin1_indexOf_7 (by decide) ?_
    cases he
    exact k_ire hx hb hr hlk X hP hD hS d_StringLatin1_indexOf_8
abbrev rm_String_indexOf_II : Room := { frames := 2, cells := 0, slots := 0, locals := 48 }
set_option maxHeartbeats 4000000 in
set_option maxRecDepth 100000 in
theorem c_String_indexOf_II (l : Launch) (D : va_G) (kk : Nat → ClassId) (st : Nat → Nat) (sz : Nat) (i : Nat) (hi : i < 4) (x1 : Int32) (x2 : Int32) (o : Int32) (he : f_String_indexOf_II i x1 x2 = some o) : Met l y_String_indexOf_II (Cond.code y_String_indexOf_II b_String_indexOf_II 3 (some .int) :: GW) rm_String_indexOf_II (KPc D kk st [.ref (st (10 + i)), .int x1, .int x2] [] sz) (KQi D kk o [] (va_A [] sz)) 0 0 (va_A [] sz) := by
  refine k_start (Qc := fun A => KQi D kk o [] A) (by decide +kernel) (Nat.le_of_ble_eq_true rfl) ?_
  intro p e s m below meth c A ls S hnm hr hlk hA X hP hD hS hl
  have hl : lv_has ls 3 [(0, .ref (st (10 + i))), (1, .int x1), (2, .int x2)] := hl
  have hx := S.1
  have hb := S.2.1
  unfold f_String_indexOf_II at he
  refine lv_aload_n hx hb d_String_indexOf_II_0 rfl (lv_at hl 0 rfl) ?_
  obtain ⟨u1, e2, he⟩ := ih_b he
  refine k_io (r_VH (As := []) S X hA hP hD hS (c_String_isLatin1 l D kk st _ i hi u1 e2) gm_2_108 gm_2_105 gm_2_106 gm_2_107 gm_1_14 ⟨rfl, rfl, by decide, by decide⟩ kd_String_isLatin1 [] rfl rfl rfl (SW.rv X.2.2 i hi hS) rfl hl.1 rfl (Nat.le_of_ble_eq_true rfl) d_String_indexOf_II_1 ⟨Nat.zero_le _, Nat.zero_le _⟩) hA hP hD hS [] rfl (fun H locs hP hS => ?_)
  refine lv_if_eq (tgt := 23) hx hb d_String_indexOf_II_4 rfl (fun hc => ?_) (fun hc => ?_)
  · have he := ih_t hc he
    exact ih_n he
  · have he := ih_f hc he
    refine lv_aload_n hx hb d_String_indexOf_II_7 rfl (lv_at hl 0 rfl) ?_
    refine vk_getf hx hb ((SW.vs X.2.2).1 i hi).2.2.1 hS S.2.2.2.1 (S.2.2.2.2 _ gm_6_43) (fun _ h => h) d_String_indexOf_II_8 ?_
    refine lv_iload_n hx hb d_String_indexOf_II_11 rfl (lv_at hl 1 rfl) ?_
    refine lv_iload_n hx hb d_String_indexOf_II_12 rfl (lv_at hl 2 rfl) ?_
    refine lv_aload_n hx hb d_String_indexOf_II_13 rfl (lv_at hl 0 rfl) ?_
    obtain ⟨u3, e4, he⟩ := ih_b he
    refine k_io (r_VH (As := []) S X hA hP hD hS (c_String_length l D kk st _ i hi u3 e4) gm_2_114 gm_2_111 gm_2_112 gm_2_113 gm_1_14 ⟨rfl, rfl, by decide, by decide⟩ kd_String_length [] rfl rfl rfl (SW.rv X.2.2 i hi hS) rfl hl.1 rfl (Nat.le_of_ble_eq_true rfl) d_String_indexOf_II_14 ⟨Nat.zero_le _, Nat.zero_le _⟩) hA hP hD hS [] rfl (fun H locs hP hS => ?_)
    obtain ⟨u5, e6, he⟩ := ih_b he
    refine k_io (r_S (As := [.ref (st (20 + i)), .int x1, .int x2, .int u3]) S X hA hP hD hS (c_StringLatin1_indexOf l D kk st _ i hi x1 x2 u3 u5 e6) gm_2_121 gm_2_119 gm_2_120 gm_1_15 ⟨rfl, rfl, by decide, by decide⟩ kd_StringLatin1_indexOf [] rfl rfl rfl rfl hl.1 rfl (Nat.le_of_ble_eq_true rfl) d_String_indexOf_II_17 ⟨Nat.zero_le _, Nat.zero_le _⟩) hA hP hD hS [] rfl (fun H locs hP hS => ?_)
    refine lv_goto (tgt := 36) hx hb d_String_indexOf_II_20 rfl ?_
    cases he
    exact k_ire hx hb hr hlk X hP hD hS d_String_indexOf_II_36
abbrev rm_String_indexOf_I : Room := { frames := 3, cells := 0, slots := 0, locals := 70 }
set_option maxHeartbeats 4000000 in
set_option maxRecDepth 100000 in
theorem c_String_indexOf_I (l : Launch) (D : va_G) (kk : Nat → ClassId) (st : Nat → Nat) (sz : Nat) (i : Nat) (hi : i < 4) (x1 : Int32) (o : Int32) (he : f_String_indexOf_I i x1 = some o) : Met l y_String_indexOf_I (Cond.code y_String_indexOf_I b_String_indexOf_I 2 (some .int) :: GW) rm_String_indexOf_I (KPc D kk st [.ref (st (10 + i)), .int x1] [] sz) (KQi D kk o [] (va_A [] sz)) 0 0 (va_A [] sz) := by
  refine k_start (Qc := fun A => KQi D kk o [] A) (by decide +kernel) (Nat.le_of_ble_eq_true rfl) ?_
  intro p e s m below meth c A ls S hnm hr hlk hA X hP hD hS hl
  have hl : lv_has ls 2 [(0, .ref (st (10 + i))), (1, .int x1)] := hl
  have hx := S.1
  have hb := S.2.1
  unfold f_String_indexOf_I at he
  refine lv_aload_n hx hb d_String_indexOf_I_0 rfl (lv_at hl 0 rfl) ?_
  refine lv_iload_n hx hb d_String_indexOf_I_1 rfl (lv_at hl 1 rfl) ?_
  refine lv_iconst (v := (0 : Int32)) hx hb d_String_indexOf_I_2 (by decide) ?_
  obtain ⟨u1, e2, he⟩ := ih_b he
  refine k_io (r_VH (As := [.int x1, .int (0 : Int32)]) S X hA hP hD hS (c_String_indexOf_II l D kk st _ i hi x1 (0 : Int32) u1 e2) gm_2_104 gm_2_101 gm_2_102 gm_2_103 gm_1_14 ⟨rfl, rfl, by decide, by decide⟩ kd_String_indexOf_II [] rfl rfl rfl (SW.rv X.2.2 i hi hS) rfl hl.1 rfl (Nat.le_of_ble_eq_true rfl) d_String_indexOf_I_3 ⟨Nat.zero_le _, Nat.zero_le _⟩) hA hP hD hS [] rfl (fun H locs hP hS => ?_)
  cases he
  exact k_ire hx hb hr hlk X hP hD hS d_String_indexOf_I_6
abbrev rm_Preconditions_checkIndex : Room := { frames := 0, cells := 0, slots := 0, locals := 0 }
set_option maxHeartbeats 4000000 in
set_option maxRecDepth 100000 in
theorem c_Preconditions_checkIndex (l : Launch) (D : va_G) (kk : Nat → ClassId) (st : Nat → Nat) (sz : Nat) (x0 : Int32) (x1 : Int32) (o : Int32) (he : f_Preconditions_checkIndex x0 x1 = some o) : Met l y_Preconditions_checkIndex (Cond.code y_Preconditions_checkIndex b_Preconditions_checkIndex 3 (some .int) :: GW) rm_Preconditions_checkIndex (KPc D kk st [.int x0, .int x1, va_rf (sq (st 2))] [] sz) (KQi D kk o [] (va_A [] sz)) 0 0 (va_A [] sz) := by
  refine k_start (Qc := fun A => KQi D kk o [] A) (by decide) (by cases sq (st 2) <;> exact Nat.le_of_ble_eq_true rfl) ?_
  intro p e s m below meth c A ls S hnm hr hlk hA X hP hD hS hl
  have hl : lv_has ls 3 [(0, .int x0), (1, .int x1), (2, va_rf (sq (st 2)))] := hl
  have hx := S.1
  have hb := S.2.1
  unfold f_Preconditions_checkIndex at he
  refine lv_iload_n hx hb d_Preconditions_checkIndex_0 rfl (lv_at hl 0 rfl) ?_
  refine lv_if_lt (tgt := 9) hx hb d_Preconditions_checkIndex_1 rfl (fun hc => ?_) (fun hc => ?_)
  · have he := ih_t hc he
    exact ih_n he
  · have he := ih_f hc he
    refine lv_iload_n hx hb d_Preconditions_checkIndex_4 rfl (lv_at hl 0 rfl) ?_
    refine lv_iload_n hx hb d_Preconditions_checkIndex_5 rfl (lv_at hl 1 rfl) ?_
    refine lv_icmp_lt (tgt := 16) hx hb d_Preconditions_checkIndex_6 rfl (fun hc => ?_) (fun hc => ?_)
    · have he := ih_t hc he
      refine lv_iload_n hx hb d_Preconditions_checkIndex_16 rfl (lv_at hl 0 rfl) ?_
      cases he
      exact k_ire hx hb hr hlk X hP hD hS d_Preconditions_checkIndex_17
    · have he := ih_f hc he
      exact ih_n he
abbrev rm_String_checkIndex : Room := { frames := 1, cells := 0, slots := 0, locals := 22 }
set_option maxHeartbeats 4000000 in
set_option maxRecDepth 100000 in
theorem c_String_checkIndex (l : Launch) (D : va_G) (kk : Nat → ClassId) (st : Nat → Nat) (sz : Nat) (x0 : Int32) (x1 : Int32) (o : Unit) (he : f_String_checkIndex x0 x1 = some o) : Met l y_String_checkIndex (Cond.code y_String_checkIndex b_String_checkIndex 2 none :: GW) rm_String_checkIndex (KPc D kk st [.int x0, .int x1] [] sz) (KQv D kk [] (va_A [] sz)) 0 0 (va_A [] sz) := by
  refine k_start (Qc := fun A => KQv D kk [] A) (by decide +kernel) (Nat.le_of_ble_eq_true rfl) ?_
  intro p e s m below meth c A ls S hnm hr hlk hA X hP hD hS hl
  have hl : lv_has ls 2 [(0, .int x0), (1, .int x1)] := hl
  have hx := S.1
  have hb := S.2.1
  unfold f_String_checkIndex at he
  refine lv_iload_n hx hb d_String_checkIndex_0 rfl (lv_at hl 0 rfl) ?_
  refine lv_iload_n hx hb d_String_checkIndex_1 rfl (lv_at hl 1 rfl) ?_
  refine va_gets hx hb (SW.zq X.2.2) hS S.2.2.2.1 (S.2.2.2.2 _ gm_2_152) (fun _ h => h) d_String_checkIndex_2 ?_
  obtain ⟨u1, e2, he⟩ := ih_b he
  refine k_io (r_S (As := [.int x0, .int x1, va_rf (sq (st 2))]) S X hA hP hD hS (c_Preconditions_checkIndex l D kk st _ x0 x1 u1 e2) gm_3_114 gm_3_112 gm_3_113 gm_1_17 ⟨rfl, rfl, by decide, by decide⟩ kd_Preconditions_checkIndex [] rfl rfl rfl rfl hl.1 rfl (Nat.le_of_ble_eq_true rfl) d_String_checkIndex_5 ⟨Nat.zero_le _, Nat.zero_le _⟩) hA hP hD hS [] rfl (fun H locs hP hS => ?_)
  refine lv_pop hx hb d_String_checkIndex_8 rfl ?_
  cases he
  exact k_vre hx hb hr hlk X hP hD hS d_String_checkIndex_9
abbrev rm_StringLatin1_charAt : Room := { frames := 2, cells := 0, slots := 0, locals := 43 }
set_option maxHeartbeats 4000000 in
set_option maxRecDepth 100000 in
theorem c_StringLatin1_charAt (l : Launch) (D : va_G) (kk : Nat → ClassId) (st : Nat → Nat) (sz : Nat) (i : Nat) (hi : i < 4) (x1 : Int32) (o : Int32) (he : f_StringLatin1_charAt i x1 = some o) : Met l y_StringLatin1_charAt (Cond.code y_StringLatin1_charAt b_StringLatin1_charAt 2 (some .char) :: GW) rm_StringLatin1_charAt (KPc D kk st [.ref (st (20 + i)), .int x1] [] sz) (KQi D kk o [] (va_A [] sz)) 0 0 (va_A [] sz) := by
  refine k_start (Qc := fun A => KQi D kk o [] A) (by decide +kernel) (Nat.le_of_ble_eq_true rfl) ?_
  intro p e s m below meth c A ls S hnm hr hlk hA X hP hD hS hl
  have hl : lv_has ls 2 [(0, .ref (st (20 + i))), (1, .int x1)] := hl
  have hx := S.1
  have hb := S.2.1
  unfold f_StringLatin1_charAt at he
  refine lv_iload_n hx hb d_StringLatin1_charAt_0 rfl (lv_at hl 1 rfl) ?_
  refine lv_aload_n hx hb d_StringLatin1_charAt_1 rfl (lv_at hl 0 rfl) ?_
  refine va_tlen (v := (Int32.ofNat (tx_len.getD i 0))) hx hb ((SW.vs X.2.2).1 i hi).2.2.2 hS rfl d_StringLatin1_charAt_2 ?_
  obtain ⟨u1, e2, he⟩ := ih_b he
  refine k_vo (r_S (As := [.int x1, .int (Int32.ofNat (tx_len.getD i 0))]) S X hA hP hD hS (c_String_checkIndex l D kk st _ x1 (Int32.ofNat (tx_len.getD i 0)) u1 e2) gm_3_111 gm_3_109 gm_3_110 gm_1_14 ⟨rfl, rfl, by decide, by decide⟩ kd_String_checkIndex [] rfl rfl rfl rfl hl.1 rfl (Nat.le_of_ble_eq_true rfl) d_StringLatin1_charAt_3 ⟨Nat.zero_le _, Nat.zero_le _⟩) hA hP hD hS [] rfl (fun H locs hP hS => ?_)
  refine lv_aload_n hx hb d_StringLatin1_charAt_6 rfl (lv_at hl 0 rfl) ?_
  refine lv_iload_n hx hb d_StringLatin1_charAt_7 rfl (lv_at hl 1 rfl) ?_
  obtain ⟨hi3, he⟩ := ih_g he
  refine va_tb hx hb ((SW.vs X.2.2).1 i hi).2.2.2 hS hi3 rfl d_StringLatin1_charAt_8 ?_
  refine lv_sipush (v := (255 : Int32)) hx hb d_StringLatin1_charAt_9 (by decide) ?_
  refine lv_iand hx hb d_StringLatin1_charAt_12 ?_
  refine lv_i2c hx hb d_StringLatin1_charAt_13 rfl ?_
  cases he
  exact k_nre hx hb hr hlk X hP hD hS (pk_nc _) d_StringLatin1_charAt_14
abbrev rm_String_charAt : Room := { frames := 3, cells := 0, slots := 0, locals := 64 }
set_option maxHeartbeats 4000000 in
set_option maxRecDepth 100000 in
theorem c_String_charAt (l : Launch) (D : va_G) (kk : Nat → ClassId) (st : Nat → Nat) (sz : Nat) (i : Nat) (hi : i < 4) (x1 : Int32) (o : Int32) (he : f_String_charAt i x1 = some o) : Met l y_String_charAt (Cond.code y_String_charAt b_String_charAt 2 (some .char) :: GW) rm_String_charAt (KPc D kk st [.ref (st (10 + i)), .int x1] [] sz) (KQi D kk o [] (va_A [] sz)) 0 0 (va_A [] sz) := by
  refine k_start (Qc := fun A => KQi D kk o [] A) (by decide +kernel) (Nat.le_of_ble_eq_true rfl) ?_
  intro p e s m below meth c A ls S hnm hr hlk hA X hP hD hS hl
  have hl : lv_has ls 2 [(0, .ref (st (10 + i))), (1, .int x1)] := hl
  have hx := S.1
  have hb := S.2.1
  unfold f_String_charAt at he
  refine lv_aload_n hx hb d_String_charAt_0 rfl (lv_at hl 0 rfl) ?_
  obtain ⟨u1, e2, he⟩ := ih_b he
  refine k_io (r_VH (As := []) S X hA hP hD hS (c_String_isLatin1 l D kk st _ i hi u1 e2) gm_2_108 gm_2_105 gm_2_106 gm_2_107 gm_1_14 ⟨rfl, rfl, by decide, by decide⟩ kd_String_isLatin1 [] rfl rfl rfl (SW.rv X.2.2 i hi hS) rfl hl.1 rfl (Nat.le_of_ble_eq_true rfl) d_String_charAt_1 ⟨Nat.zero_le _, Nat.zero_le _⟩) hA hP hD hS [] rfl (fun H locs hP hS => ?_)
  refine lv_if_eq (tgt := 16) hx hb d_String_charAt_4 rfl (fun hc => ?_) (fun hc => ?_)
  · have he := ih_t hc he
    exact ih_n he
  · have he := ih_f hc he
    refine lv_aload_n hx hb d_String_charAt_7 rfl (lv_at hl 0 rfl) ?_
    refine vk_getf hx hb ((SW.vs X.2.2).1 i hi).2.2.1 hS S.2.2.2.1 (S.2.2.2.2 _ gm_6_43) (fun _ h => h) d_String_charAt_8 ?_
    refine lv_iload_n hx hb d_String_charAt_11 rfl (lv_at hl 1 rfl) ?_
    obtain ⟨u3, e4, he⟩ := ih_b he
    refine k_io (r_S (As := [.ref (st (20 + i)), .int x1]) S X hA hP hD hS (c_StringLatin1_charAt l D kk st _ i hi x1 u3 e4) gm_3_108 gm_3_106 gm_3_107 gm_1_15 ⟨rfl, rfl, by decide, by decide⟩ kd_StringLatin1_charAt [] rfl rfl rfl rfl hl.1 rfl (Nat.le_of_ble_eq_true rfl) d_String_charAt_12 ⟨Nat.zero_le _, Nat.zero_le _⟩) hA hP hD hS [] rfl (fun H locs hP hS => ?_)
    obtain ⟨hv5, he⟩ := ih_g he
    cases he
    exact k_nre hx hb hr hlk X hP hD hS (congrArg Value.int hv5) d_String_charAt_15
