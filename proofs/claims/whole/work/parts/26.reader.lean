abbrev b_TextReader_small : ByteArray := prog_12_method_6_code
def y_TextReader_small : MethodName := ⟨"SkeletonClock$TextReader", "small", "(I)I"⟩
theorem kd_TextReader_small : kd_ok y_TextReader_small 1 := by decide +kernel
abbrev b_TextReader_isAlike : ByteArray := prog_12_method_5_code
def y_TextReader_isAlike : MethodName := ⟨"SkeletonClock$TextReader", "isAlike", "(II)Z"⟩
theorem kd_TextReader_isAlike : kd_ok y_TextReader_isAlike 2 := by decide +kernel
abbrev b_TextReader_endOfLetters : ByteArray := prog_12_method_8_code
def y_TextReader_endOfLetters : MethodName := ⟨"SkeletonClock$TextReader", "endOfLetters", "(LSkeletonClock$Row;III)I"⟩
theorem kd_TextReader_endOfLetters : kd_ok y_TextReader_endOfLetters 4 := by decide +kernel
abbrev b_TextReader_endWith : ByteArray := prog_12_method_4_code
def y_TextReader_endWith : MethodName := ⟨"SkeletonClock$TextReader", "endWith", "(III)I"⟩
theorem kd_TextReader_endWith : kd_ok y_TextReader_endWith 3 := by decide +kernel
abbrev b_TextReader_endOfName : ByteArray := prog_12_method_7_code
def y_TextReader_endOfName : MethodName := ⟨"SkeletonClock$TextReader", "endOfName", "(LSkeletonClock$Row;II)I"⟩
theorem kd_TextReader_endOfName : kd_ok y_TextReader_endOfName 3 := by decide +kernel
abbrev b_TextReader_endOfOffset : ByteArray := prog_12_method_13_code
def y_TextReader_endOfOffset : MethodName := ⟨"SkeletonClock$TextReader", "endOfOffset", "(LSkeletonClock$Row;II)I"⟩
theorem kd_TextReader_endOfOffset : kd_ok y_TextReader_endOfOffset 3 := by decide +kernel
abbrev b_TextReader_endOfFixed : ByteArray := prog_12_method_9_code
def y_TextReader_endOfFixed : MethodName := ⟨"SkeletonClock$TextReader", "endOfFixed", "(LSkeletonClock$Row;II)I"⟩
theorem kd_TextReader_endOfFixed : kd_ok y_TextReader_endOfFixed 3 := by decide +kernel
abbrev b_TextReader_signOf : ByteArray := prog_12_method_11_code
def y_TextReader_signOf : MethodName := ⟨"SkeletonClock$TextReader", "signOf", "(LSkeletonClock$Row;II)I"⟩
theorem kd_TextReader_signOf : kd_ok y_TextReader_signOf 3 := by decide +kernel
abbrev b_TextReader_mostDigits : ByteArray := prog_12_method_12_code
def y_TextReader_mostDigits : MethodName := ⟨"SkeletonClock$TextReader", "mostDigits", "(I)I"⟩
theorem kd_TextReader_mostDigits : kd_ok y_TextReader_mostDigits 1 := by decide +kernel
theorem gm_1_155 : Cond.fieldLink "SkeletonClock$TextReader" (25 : Nat) "SkeletonClock$TextReader" "loose" "Z" ∈ GW := gw_1 (i := 155) rfl rfl
theorem gm_3_200 : Cond.code ({ cls := "SkeletonClock$TextReader", name := "small", desc := "(I)I" } : MethodName) prog_12_method_6_code (1 : Nat) (Option.some FieldType.int) ∈ GW := gw_3 (i := 200) rfl rfl
theorem gm_3_198 : Cond.methodLink "SkeletonClock$TextReader" (116 : Nat) ({ cls := "SkeletonClock$TextReader", name := "small", desc := "(I)I" } : MethodName) ∈ GW := gw_3 (i := 198) rfl rfl
theorem gm_1_7 : Cond.initialized "SkeletonClock$TextReader" ∈ GW := gw_1 (i := 7) rfl rfl
theorem gm_3_199 : Cond.static ({ cls := "SkeletonClock$TextReader", name := "small", desc := "(I)I" } : MethodName) ∈ GW := gw_3 (i := 199) rfl rfl
theorem gm_3_214 : Cond.methodLink "SkeletonClock$TextReader" (135 : Nat) ({ cls := "SkeletonClock$Names", name := "letter", desc := "(IIII)I" } : MethodName) ∈ GW := gw_3 (i := 214) rfl rfl
theorem gm_1_156 : Cond.fieldLink "SkeletonClock$TextReader" (29 : Nat) "SkeletonClock$TextReader" "place" "I" ∈ GW := gw_1 (i := 156) rfl rfl
theorem gm_3_193 : Cond.methodLink "SkeletonClock$TextReader" (86 : Nat) ({ cls := "SkeletonClock$Row", name := "codeAt", desc := "(I)I" } : MethodName) ∈ GW := gw_3 (i := 193) rfl rfl
theorem gm_3_197 : Cond.code ({ cls := "SkeletonClock$TextReader", name := "isAlike", desc := "(II)Z" } : MethodName) prog_12_method_5_code (3 : Nat) (Option.some FieldType.boolean) ∈ GW := gw_3 (i := 197) rfl rfl
theorem gm_3_194 : Cond.methodLink "SkeletonClock$TextReader" (89 : Nat) ({ cls := "SkeletonClock$TextReader", name := "isAlike", desc := "(II)Z" } : MethodName) ∈ GW := gw_3 (i := 194) rfl rfl
theorem gm_3_196 : Cond.instanceMethod ({ cls := "SkeletonClock$TextReader", name := "isAlike", desc := "(II)Z" } : MethodName) ∈ GW := gw_3 (i := 196) rfl rfl
theorem gm_p2_0 : Cond.selects "SkeletonClock$TextReader" ⟨"SkeletonClock$TextReader", "isAlike", "(II)Z"⟩ ⟨"SkeletonClock$TextReader", "isAlike", "(II)Z"⟩ ∈ GW := gs_2 (i := 0) rfl
theorem gm_1_152 : Cond.fieldLink "SkeletonClock$TextReader" (12 : Nat) "SkeletonClock$TextReader" "known" "LSkeletonClock$Known;" ∈ GW := gw_1 (i := 152) rfl rfl
theorem gm_3_222 : Cond.code ({ cls := "SkeletonClock$Known", name := "learn", desc := "(II)Z" } : MethodName) prog_3_method_2_code (3 : Nat) (Option.some FieldType.boolean) ∈ GW := gw_3 (i := 222) rfl rfl
theorem gm_3_219 : Cond.methodLink "SkeletonClock$TextReader" (113 : Nat) ({ cls := "SkeletonClock$Known", name := "learn", desc := "(II)Z" } : MethodName) ∈ GW := gw_3 (i := 219) rfl rfl
theorem gm_3_220 : Cond.instanceMethod ({ cls := "SkeletonClock$Known", name := "learn", desc := "(II)Z" } : MethodName) ∈ GW := gw_3 (i := 220) rfl rfl
theorem gm_3_221 : Cond.selects "SkeletonClock$Known" ({ cls := "SkeletonClock$Known", name := "learn", desc := "(II)Z" } : MethodName) ({ cls := "SkeletonClock$Known", name := "learn", desc := "(II)Z" } : MethodName) ∈ GW := gw_3 (i := 221) rfl rfl
theorem gm_3_206 : Cond.methodLink "SkeletonClock$TextReader" (119 : Nat) ({ cls := "SkeletonClock$Names", name := "first", desc := "(I)I" } : MethodName) ∈ GW := gw_3 (i := 206) rfl rfl
theorem gm_3_209 : Cond.code ({ cls := "SkeletonClock$Names", name := "last", desc := "(I)I" } : MethodName) prog_5_method_5_code (1 : Nat) (Option.some FieldType.int) ∈ GW := gw_3 (i := 209) rfl rfl
theorem gm_3_207 : Cond.methodLink "SkeletonClock$TextReader" (124 : Nat) ({ cls := "SkeletonClock$Names", name := "last", desc := "(I)I" } : MethodName) ∈ GW := gw_3 (i := 207) rfl rfl
theorem gm_3_208 : Cond.static ({ cls := "SkeletonClock$Names", name := "last", desc := "(I)I" } : MethodName) ∈ GW := gw_3 (i := 208) rfl rfl
theorem gm_3_213 : Cond.code ({ cls := "SkeletonClock$TextReader", name := "endOfLetters", desc := "(LSkeletonClock$Row;III)I" } : MethodName) prog_12_method_8_code (6 : Nat) (Option.some FieldType.int) ∈ GW := gw_3 (i := 213) rfl rfl
theorem gm_3_210 : Cond.methodLink "SkeletonClock$TextReader" (127 : Nat) ({ cls := "SkeletonClock$TextReader", name := "endOfLetters", desc := "(LSkeletonClock$Row;III)I" } : MethodName) ∈ GW := gw_3 (i := 210) rfl rfl
theorem gm_3_212 : Cond.instanceMethod ({ cls := "SkeletonClock$TextReader", name := "endOfLetters", desc := "(LSkeletonClock$Row;III)I" } : MethodName) ∈ GW := gw_3 (i := 212) rfl rfl
theorem gm_p2_2 : Cond.selects "SkeletonClock$TextReader" ⟨"SkeletonClock$TextReader", "endOfLetters", "(LSkeletonClock$Row;III)I"⟩ ⟨"SkeletonClock$TextReader", "endOfLetters", "(LSkeletonClock$Row;III)I"⟩ ∈ GW := gs_2 (i := 2) rfl
theorem gm_3_218 : Cond.code ({ cls := "SkeletonClock$TextReader", name := "endWith", desc := "(III)I" } : MethodName) prog_12_method_4_code (4 : Nat) (Option.some FieldType.int) ∈ GW := gw_3 (i := 218) rfl rfl
theorem gm_3_215 : Cond.methodLink "SkeletonClock$TextReader" (131 : Nat) ({ cls := "SkeletonClock$TextReader", name := "endWith", desc := "(III)I" } : MethodName) ∈ GW := gw_3 (i := 215) rfl rfl
theorem gm_3_217 : Cond.instanceMethod ({ cls := "SkeletonClock$TextReader", name := "endWith", desc := "(III)I" } : MethodName) ∈ GW := gw_3 (i := 217) rfl rfl
theorem gm_p2_3 : Cond.selects "SkeletonClock$TextReader" ⟨"SkeletonClock$TextReader", "endWith", "(III)I"⟩ ⟨"SkeletonClock$TextReader", "endWith", "(III)I"⟩ ∈ GW := gs_2 (i := 3) rfl
theorem gm_3_230 : Cond.code ({ cls := "SkeletonClock$Row", name := "digits", desc := "(II)I" } : MethodName) prog_11_method_8_code (4 : Nat) (Option.some FieldType.int) ∈ GW := gw_3 (i := 230) rfl rfl
theorem gm_3_227 : Cond.methodLink "SkeletonClock$TextReader" (139 : Nat) ({ cls := "SkeletonClock$Row", name := "digits", desc := "(II)I" } : MethodName) ∈ GW := gw_3 (i := 227) rfl rfl
theorem gm_3_228 : Cond.instanceMethod ({ cls := "SkeletonClock$Row", name := "digits", desc := "(II)I" } : MethodName) ∈ GW := gw_3 (i := 228) rfl rfl
theorem gm_3_229 : Cond.selects "SkeletonClock$Row" ({ cls := "SkeletonClock$Row", name := "digits", desc := "(II)I" } : MethodName) ({ cls := "SkeletonClock$Row", name := "digits", desc := "(II)I" } : MethodName) ∈ GW := gw_3 (i := 229) rfl rfl
theorem gm_3_234 : Cond.code ({ cls := "SkeletonClock$Row", name := "number", desc := "(II)I" } : MethodName) prog_11_method_9_code (5 : Nat) (Option.some FieldType.int) ∈ GW := gw_3 (i := 234) rfl rfl
theorem gm_3_231 : Cond.methodLink "SkeletonClock$TextReader" (142 : Nat) ({ cls := "SkeletonClock$Row", name := "number", desc := "(II)I" } : MethodName) ∈ GW := gw_3 (i := 231) rfl rfl
theorem gm_3_232 : Cond.instanceMethod ({ cls := "SkeletonClock$Row", name := "number", desc := "(II)I" } : MethodName) ∈ GW := gw_3 (i := 232) rfl rfl
theorem gm_3_233 : Cond.selects "SkeletonClock$Row" ({ cls := "SkeletonClock$Row", name := "number", desc := "(II)I" } : MethodName) ({ cls := "SkeletonClock$Row", name := "number", desc := "(II)I" } : MethodName) ∈ GW := gw_3 (i := 233) rfl rfl
theorem gm_4_3 : Cond.methodLinkNest "SkeletonClock$TextReader" (144 : Nat) ({ cls := "SkeletonClock", name := "isYearField", desc := "(I)Z" } : MethodName) "SkeletonClock" ∈ NW := gn_4 (i := 3) rfl rfl
theorem d_TextReader_small_0 : decode b_TextReader_small 0 = .ok (.iload_n 0, 1) := by decide +kernel
theorem d_TextReader_small_1 : decode b_TextReader_small 1 = .ok (.bipush 65, 2) := by decide +kernel
theorem d_TextReader_small_3 : decode b_TextReader_small 3 = .ok (.if_icmp .lt 19, 3) := by decide +kernel
theorem d_TextReader_small_6 : decode b_TextReader_small 6 = .ok (.iload_n 0, 1) := by decide +kernel
theorem d_TextReader_small_7 : decode b_TextReader_small 7 = .ok (.bipush 90, 2) := by decide +kernel
theorem d_TextReader_small_9 : decode b_TextReader_small 9 = .ok (.if_icmp .gt 13, 3) := by decide +kernel
theorem d_TextReader_small_12 : decode b_TextReader_small 12 = .ok (.iload_n 0, 1) := by decide +kernel
theorem d_TextReader_small_13 : decode b_TextReader_small 13 = .ok (.bipush 65, 2) := by decide +kernel
theorem d_TextReader_small_15 : decode b_TextReader_small 15 = .ok (.isub, 1) := by decide +kernel
theorem d_TextReader_small_16 : decode b_TextReader_small 16 = .ok (.bipush 97, 2) := by decide +kernel
theorem d_TextReader_small_18 : decode b_TextReader_small 18 = .ok (.iadd, 1) := by decide +kernel
theorem d_TextReader_small_19 : decode b_TextReader_small 19 = .ok (.goto 4, 3) := by decide +kernel
theorem d_TextReader_small_22 : decode b_TextReader_small 22 = .ok (.iload_n 0, 1) := by decide +kernel
theorem d_TextReader_small_23 : decode b_TextReader_small 23 = .ok (.ireturn, 1) := by decide +kernel
theorem d_TextReader_isAlike_0 : decode b_TextReader_isAlike 0 = .ok (.iload_n 1, 1) := by decide +kernel
theorem d_TextReader_isAlike_1 : decode b_TextReader_isAlike 1 = .ok (.iload_n 2, 1) := by decide +kernel
theorem d_TextReader_isAlike_2 : decode b_TextReader_isAlike 2 = .ok (.if_icmp .eq 21, 3) := by decide +kernel
theorem d_TextReader_isAlike_5 : decode b_TextReader_isAlike 5 = .ok (.aload_n 0, 1) := by decide +kernel
theorem d_TextReader_isAlike_6 : decode b_TextReader_isAlike 6 = .ok (.getfield 25, 3) := by decide +kernel
theorem d_TextReader_isAlike_9 : decode b_TextReader_isAlike 9 = .ok (.ifCond .eq 18, 3) := by decide +kernel
theorem d_TextReader_isAlike_12 : decode b_TextReader_isAlike 12 = .ok (.iload_n 1, 1) := by decide +kernel
theorem d_TextReader_isAlike_13 : decode b_TextReader_isAlike 13 = .ok (.invokestatic 116, 3) := by decide +kernel
theorem d_TextReader_isAlike_16 : decode b_TextReader_isAlike 16 = .ok (.iload_n 2, 1) := by decide +kernel
theorem d_TextReader_isAlike_17 : decode b_TextReader_isAlike 17 = .ok (.invokestatic 116, 3) := by decide +kernel
theorem d_TextReader_isAlike_20 : decode b_TextReader_isAlike 20 = .ok (.if_icmp .ne 7, 3) := by decide +kernel
theorem d_TextReader_isAlike_23 : decode b_TextReader_isAlike 23 = .ok (.iconst 1, 1) := by decide +kernel
theorem d_TextReader_isAlike_24 : decode b_TextReader_isAlike 24 = .ok (.goto 4, 3) := by decide +kernel
theorem d_TextReader_isAlike_27 : decode b_TextReader_isAlike 27 = .ok (.iconst 0, 1) := by decide +kernel
theorem d_TextReader_isAlike_28 : decode b_TextReader_isAlike 28 = .ok (.ireturn, 1) := by decide +kernel
theorem d_TextReader_endOfLetters_0 : decode b_TextReader_endOfLetters 0 = .ok (.iconst 0, 1) := by decide +kernel
theorem d_TextReader_endOfLetters_1 : decode b_TextReader_endOfLetters 1 = .ok (.istore 5, 2) := by decide +kernel
theorem d_TextReader_endOfLetters_3 : decode b_TextReader_endOfLetters 3 = .ok (.iload 5, 2) := by decide +kernel
theorem d_TextReader_endOfLetters_5 : decode b_TextReader_endOfLetters 5 = .ok (.bipush 9, 2) := by decide +kernel
theorem d_TextReader_endOfLetters_7 : decode b_TextReader_endOfLetters 7 = .ok (.if_icmp .ge 51, 3) := by decide +kernel
theorem d_TextReader_endOfLetters_10 : decode b_TextReader_endOfLetters 10 = .ok (.iload_n 2, 1) := by decide +kernel
theorem d_TextReader_endOfLetters_11 : decode b_TextReader_endOfLetters 11 = .ok (.iload_n 3, 1) := by decide +kernel
theorem d_TextReader_endOfLetters_12 : decode b_TextReader_endOfLetters 12 = .ok (.iload 4, 2) := by decide +kernel
theorem d_TextReader_endOfLetters_14 : decode b_TextReader_endOfLetters 14 = .ok (.iload 5, 2) := by decide +kernel
theorem d_TextReader_endOfLetters_16 : decode b_TextReader_endOfLetters 16 = .ok (.invokestatic 135, 3) := by decide +kernel
theorem d_TextReader_endOfLetters_19 : decode b_TextReader_endOfLetters 19 = .ok (.iconst (-1), 1) := by decide +kernel
theorem d_TextReader_endOfLetters_20 : decode b_TextReader_endOfLetters 20 = .ok (.if_icmp .eq 38, 3) := by decide +kernel
theorem d_TextReader_endOfLetters_23 : decode b_TextReader_endOfLetters 23 = .ok (.aload_n 0, 1) := by decide +kernel
theorem d_TextReader_endOfLetters_24 : decode b_TextReader_endOfLetters 24 = .ok (.aload_n 1, 1) := by decide +kernel
theorem d_TextReader_endOfLetters_25 : decode b_TextReader_endOfLetters 25 = .ok (.aload_n 0, 1) := by decide +kernel
theorem d_TextReader_endOfLetters_26 : decode b_TextReader_endOfLetters 26 = .ok (.getfield 29, 3) := by decide +kernel
theorem d_TextReader_endOfLetters_29 : decode b_TextReader_endOfLetters 29 = .ok (.iload 5, 2) := by decide +kernel
theorem d_TextReader_endOfLetters_31 : decode b_TextReader_endOfLetters 31 = .ok (.iadd, 1) := by decide +kernel
theorem d_TextReader_endOfLetters_32 : decode b_TextReader_endOfLetters 32 = .ok (.invokevirtual 86, 3) := by decide +kernel
theorem d_TextReader_endOfLetters_35 : decode b_TextReader_endOfLetters 35 = .ok (.iload_n 2, 1) := by decide +kernel
theorem d_TextReader_endOfLetters_36 : decode b_TextReader_endOfLetters 36 = .ok (.iload_n 3, 1) := by decide +kernel
theorem d_TextReader_endOfLetters_37 : decode b_TextReader_endOfLetters 37 = .ok (.iload 4, 2) := by decide +kernel
theorem d_TextReader_endOfLetters_39 : decode b_TextReader_endOfLetters 39 = .ok (.iload 5, 2) := by decide +kernel
theorem d_TextReader_endOfLetters_41 : decode b_TextReader_endOfLetters 41 = .ok (.invokestatic 135, 3) := by decide +kernel
theorem d_TextReader_endOfLetters_44 : decode b_TextReader_endOfLetters 44 = .ok (.invokevirtual 89, 3) := by decide +kernel
theorem d_TextReader_endOfLetters_47 : decode b_TextReader_endOfLetters 47 = .ok (.ifCond .ne 5, 3) := by decide +kernel
theorem d_TextReader_endOfLetters_50 : decode b_TextReader_endOfLetters 50 = .ok (.iconst (-1), 1) := by decide +kernel
theorem d_TextReader_endOfLetters_51 : decode b_TextReader_endOfLetters 51 = .ok (.ireturn, 1) := by decide +kernel
theorem d_TextReader_endOfLetters_52 : decode b_TextReader_endOfLetters 52 = .ok (.iinc 5 1, 3) := by decide +kernel
theorem d_TextReader_endOfLetters_55 : decode b_TextReader_endOfLetters 55 = .ok (.goto (-52), 3) := by decide +kernel
theorem d_TextReader_endOfLetters_58 : decode b_TextReader_endOfLetters 58 = .ok (.aload_n 0, 1) := by decide +kernel
theorem d_TextReader_endOfLetters_59 : decode b_TextReader_endOfLetters 59 = .ok (.getfield 29, 3) := by decide +kernel
theorem d_TextReader_endOfLetters_62 : decode b_TextReader_endOfLetters 62 = .ok (.iload 5, 2) := by decide +kernel
theorem d_TextReader_endOfLetters_64 : decode b_TextReader_endOfLetters 64 = .ok (.iadd, 1) := by decide +kernel
theorem d_TextReader_endOfLetters_65 : decode b_TextReader_endOfLetters 65 = .ok (.ireturn, 1) := by decide +kernel
theorem d_TextReader_endWith_0 : decode b_TextReader_endWith 0 = .ok (.aload_n 0, 1) := by decide +kernel
theorem d_TextReader_endWith_1 : decode b_TextReader_endWith 1 = .ok (.getfield 12, 3) := by decide +kernel
theorem d_TextReader_endWith_4 : decode b_TextReader_endWith 4 = .ok (.iload_n 1, 1) := by decide +kernel
theorem d_TextReader_endWith_5 : decode b_TextReader_endWith 5 = .ok (.iload_n 2, 1) := by decide +kernel
theorem d_TextReader_endWith_6 : decode b_TextReader_endWith 6 = .ok (.invokevirtual 113, 3) := by decide +kernel
theorem d_TextReader_endWith_9 : decode b_TextReader_endWith 9 = .ok (.ifCond .eq 7, 3) := by decide +kernel
theorem d_TextReader_endWith_12 : decode b_TextReader_endWith 12 = .ok (.iload_n 3, 1) := by decide +kernel
theorem d_TextReader_endWith_13 : decode b_TextReader_endWith 13 = .ok (.goto 4, 3) := by decide +kernel
theorem d_TextReader_endWith_16 : decode b_TextReader_endWith 16 = .ok (.iconst (-1), 1) := by decide +kernel
theorem d_TextReader_endWith_17 : decode b_TextReader_endWith 17 = .ok (.ireturn, 1) := by decide +kernel
theorem d_TextReader_endOfName_0 : decode b_TextReader_endOfName 0 = .ok (.iload_n 2, 1) := by decide +kernel
theorem d_TextReader_endOfName_1 : decode b_TextReader_endOfName 1 = .ok (.invokestatic 119, 3) := by decide +kernel
theorem d_TextReader_endOfName_4 : decode b_TextReader_endOfName 4 = .ok (.istore 4, 2) := by decide +kernel
theorem d_TextReader_endOfName_6 : decode b_TextReader_endOfName 6 = .ok (.iload 4, 2) := by decide +kernel
theorem d_TextReader_endOfName_8 : decode b_TextReader_endOfName 8 = .ok (.iload_n 2, 1) := by decide +kernel
theorem d_TextReader_endOfName_9 : decode b_TextReader_endOfName 9 = .ok (.invokestatic 124, 3) := by decide +kernel
theorem d_TextReader_endOfName_12 : decode b_TextReader_endOfName 12 = .ok (.if_icmp .gt 36, 3) := by decide +kernel
theorem d_TextReader_endOfName_15 : decode b_TextReader_endOfName 15 = .ok (.aload_n 0, 1) := by decide +kernel
theorem d_TextReader_endOfName_16 : decode b_TextReader_endOfName 16 = .ok (.aload_n 1, 1) := by decide +kernel
theorem d_TextReader_endOfName_17 : decode b_TextReader_endOfName 17 = .ok (.iload_n 2, 1) := by decide +kernel
theorem d_TextReader_endOfName_18 : decode b_TextReader_endOfName 18 = .ok (.iload_n 3, 1) := by decide +kernel
theorem d_TextReader_endOfName_19 : decode b_TextReader_endOfName 19 = .ok (.iload 4, 2) := by decide +kernel
theorem d_TextReader_endOfName_21 : decode b_TextReader_endOfName 21 = .ok (.invokevirtual 127, 3) := by decide +kernel
theorem d_TextReader_endOfName_24 : decode b_TextReader_endOfName 24 = .ok (.istore 5, 2) := by decide +kernel
theorem d_TextReader_endOfName_26 : decode b_TextReader_endOfName 26 = .ok (.iload 5, 2) := by decide +kernel
theorem d_TextReader_endOfName_28 : decode b_TextReader_endOfName 28 = .ok (.iconst (-1), 1) := by decide +kernel
theorem d_TextReader_endOfName_29 : decode b_TextReader_endOfName 29 = .ok (.if_icmp .eq 13, 3) := by decide +kernel
theorem d_TextReader_endOfName_32 : decode b_TextReader_endOfName 32 = .ok (.aload_n 0, 1) := by decide +kernel
theorem d_TextReader_endOfName_33 : decode b_TextReader_endOfName 33 = .ok (.iload_n 2, 1) := by decide +kernel
theorem d_TextReader_endOfName_34 : decode b_TextReader_endOfName 34 = .ok (.iload 4, 2) := by decide +kernel
theorem d_TextReader_endOfName_36 : decode b_TextReader_endOfName 36 = .ok (.iload 5, 2) := by decide +kernel
theorem d_TextReader_endOfName_38 : decode b_TextReader_endOfName 38 = .ok (.invokevirtual 131, 3) := by decide +kernel
theorem d_TextReader_endOfName_41 : decode b_TextReader_endOfName 41 = .ok (.ireturn, 1) := by decide +kernel
theorem d_TextReader_endOfName_42 : decode b_TextReader_endOfName 42 = .ok (.iinc 4 1, 3) := by decide +kernel
theorem d_TextReader_endOfName_45 : decode b_TextReader_endOfName 45 = .ok (.goto (-39), 3) := by decide +kernel
theorem d_TextReader_endOfName_48 : decode b_TextReader_endOfName 48 = .ok (.iconst (-1), 1) := by decide +kernel
theorem d_TextReader_endOfName_49 : decode b_TextReader_endOfName 49 = .ok (.ireturn, 1) := by decide +kernel
theorem d_TextReader_endOfOffset_0 : decode b_TextReader_endOfOffset 0 = .ok (.aload_n 1, 1) := by decide +kernel
theorem d_TextReader_endOfOffset_1 : decode b_TextReader_endOfOffset 1 = .ok (.aload_n 0, 1) := by decide +kernel
theorem d_TextReader_endOfOffset_2 : decode b_TextReader_endOfOffset 2 = .ok (.getfield 29, 3) := by decide +kernel
theorem d_TextReader_endOfOffset_5 : decode b_TextReader_endOfOffset 5 = .ok (.invokevirtual 86, 3) := by decide +kernel
theorem d_TextReader_endOfOffset_8 : decode b_TextReader_endOfOffset 8 = .ok (.istore 4, 2) := by decide +kernel
theorem d_TextReader_endOfOffset_10 : decode b_TextReader_endOfOffset 10 = .ok (.iload_n 2, 1) := by decide +kernel
theorem d_TextReader_endOfOffset_11 : decode b_TextReader_endOfOffset 11 = .ok (.bipush 13, 2) := by decide +kernel
theorem d_TextReader_endOfOffset_13 : decode b_TextReader_endOfOffset 13 = .ok (.if_icmp .ne 28, 3) := by decide +kernel
theorem d_TextReader_endOfOffset_16 : decode b_TextReader_endOfOffset 16 = .ok (.aload_n 0, 1) := by decide +kernel
theorem d_TextReader_endOfOffset_17 : decode b_TextReader_endOfOffset 17 = .ok (.iload 4, 2) := by decide +kernel
theorem d_TextReader_endOfOffset_19 : decode b_TextReader_endOfOffset 19 = .ok (.bipush 90, 2) := by decide +kernel
theorem d_TextReader_endOfOffset_21 : decode b_TextReader_endOfOffset 21 = .ok (.invokevirtual 89, 3) := by decide +kernel
theorem d_TextReader_endOfOffset_24 : decode b_TextReader_endOfOffset 24 = .ok (.ifCond .eq 17, 3) := by decide +kernel
theorem d_TextReader_endOfOffset_27 : decode b_TextReader_endOfOffset 27 = .ok (.aload_n 0, 1) := by decide +kernel
theorem d_TextReader_endOfOffset_28 : decode b_TextReader_endOfOffset 28 = .ok (.bipush 13, 2) := by decide +kernel
theorem d_TextReader_endOfOffset_30 : decode b_TextReader_endOfOffset 30 = .ok (.iconst 0, 1) := by decide +kernel
theorem d_TextReader_endOfOffset_31 : decode b_TextReader_endOfOffset 31 = .ok (.aload_n 0, 1) := by decide +kernel
theorem d_TextReader_endOfOffset_32 : decode b_TextReader_endOfOffset 32 = .ok (.getfield 29, 3) := by decide +kernel
theorem d_TextReader_endOfOffset_35 : decode b_TextReader_endOfOffset 35 = .ok (.iconst 1, 1) := by decide +kernel
theorem d_TextReader_endOfOffset_36 : decode b_TextReader_endOfOffset 36 = .ok (.iadd, 1) := by decide +kernel
theorem d_TextReader_endOfOffset_37 : decode b_TextReader_endOfOffset 37 = .ok (.invokevirtual 131, 3) := by decide +kernel
theorem d_TextReader_endOfOffset_40 : decode b_TextReader_endOfOffset 40 = .ok (.ireturn, 1) := by decide +kernel
theorem d_TextReader_endOfOffset_41 : decode b_TextReader_endOfOffset 41 = .ok (.iload 4, 2) := by decide +kernel
theorem d_TextReader_endOfOffset_43 : decode b_TextReader_endOfOffset 43 = .ok (.bipush 43, 2) := by decide +kernel
theorem d_TextReader_endOfOffset_45 : decode b_TextReader_endOfOffset 45 = .ok (.if_icmp .eq 10, 3) := by decide +kernel
theorem d_TextReader_endOfOffset_48 : decode b_TextReader_endOfOffset 48 = .ok (.iload 4, 2) := by decide +kernel
theorem d_TextReader_endOfOffset_50 : decode b_TextReader_endOfOffset 50 = .ok (.bipush 45, 2) := by decide +kernel
theorem d_TextReader_endOfOffset_52 : decode b_TextReader_endOfOffset 52 = .ok (.if_icmp .ne 18, 3) := by decide +kernel
theorem d_TextReader_endOfOffset_55 : decode b_TextReader_endOfOffset 55 = .ok (.aload_n 1, 1) := by decide +kernel
theorem d_TextReader_endOfOffset_56 : decode b_TextReader_endOfOffset 56 = .ok (.aload_n 0, 1) := by decide +kernel
theorem d_TextReader_endOfOffset_57 : decode b_TextReader_endOfOffset 57 = .ok (.getfield 29, 3) := by decide +kernel
theorem d_TextReader_endOfOffset_60 : decode b_TextReader_endOfOffset 60 = .ok (.iconst 1, 1) := by decide +kernel
theorem d_TextReader_endOfOffset_61 : decode b_TextReader_endOfOffset 61 = .ok (.iadd, 1) := by decide +kernel
theorem d_TextReader_endOfOffset_62 : decode b_TextReader_endOfOffset 62 = .ok (.iconst 2, 1) := by decide +kernel
theorem d_TextReader_endOfOffset_63 : decode b_TextReader_endOfOffset 63 = .ok (.invokevirtual 139, 3) := by decide +kernel
theorem d_TextReader_endOfOffset_66 : decode b_TextReader_endOfOffset 66 = .ok (.iconst 2, 1) := by decide +kernel
theorem d_TextReader_endOfOffset_67 : decode b_TextReader_endOfOffset 67 = .ok (.if_icmp .ge 5, 3) := by decide +kernel
theorem d_TextReader_endOfOffset_70 : decode b_TextReader_endOfOffset 70 = .ok (.iconst (-1), 1) := by decide +kernel
theorem d_TextReader_endOfOffset_71 : decode b_TextReader_endOfOffset 71 = .ok (.ireturn, 1) := by decide +kernel
theorem d_TextReader_endOfOffset_72 : decode b_TextReader_endOfOffset 72 = .ok (.aload_n 0, 1) := by decide +kernel
theorem d_TextReader_endOfOffset_73 : decode b_TextReader_endOfOffset 73 = .ok (.getfield 29, 3) := by decide +kernel
theorem d_TextReader_endOfOffset_76 : decode b_TextReader_endOfOffset 76 = .ok (.iconst 3, 1) := by decide +kernel
theorem d_TextReader_endOfOffset_77 : decode b_TextReader_endOfOffset 77 = .ok (.iadd, 1) := by decide +kernel
theorem d_TextReader_endOfOffset_78 : decode b_TextReader_endOfOffset 78 = .ok (.istore 5, 2) := by decide +kernel
theorem d_TextReader_endOfOffset_80 : decode b_TextReader_endOfOffset 80 = .ok (.iload_n 3, 1) := by decide +kernel
theorem d_TextReader_endOfOffset_81 : decode b_TextReader_endOfOffset 81 = .ok (.iconst 3, 1) := by decide +kernel
theorem d_TextReader_endOfOffset_82 : decode b_TextReader_endOfOffset 82 = .ok (.if_icmp .ne 19, 3) := by decide +kernel
theorem d_TextReader_endOfOffset_85 : decode b_TextReader_endOfOffset 85 = .ok (.aload_n 1, 1) := by decide +kernel
theorem d_TextReader_endOfOffset_86 : decode b_TextReader_endOfOffset 86 = .ok (.iload 5, 2) := by decide +kernel
theorem d_TextReader_endOfOffset_88 : decode b_TextReader_endOfOffset 88 = .ok (.invokevirtual 86, 3) := by decide +kernel
theorem d_TextReader_endOfOffset_91 : decode b_TextReader_endOfOffset 91 = .ok (.bipush 58, 2) := by decide +kernel
theorem d_TextReader_endOfOffset_93 : decode b_TextReader_endOfOffset 93 = .ok (.if_icmp .eq 5, 3) := by decide +kernel
theorem d_TextReader_endOfOffset_96 : decode b_TextReader_endOfOffset 96 = .ok (.iconst (-1), 1) := by decide +kernel
theorem d_TextReader_endOfOffset_97 : decode b_TextReader_endOfOffset 97 = .ok (.ireturn, 1) := by decide +kernel
theorem d_TextReader_endOfOffset_98 : decode b_TextReader_endOfOffset 98 = .ok (.iinc 5 1, 3) := by decide +kernel
theorem d_TextReader_endOfOffset_101 : decode b_TextReader_endOfOffset 101 = .ok (.iconst 0, 1) := by decide +kernel
theorem d_TextReader_endOfOffset_102 : decode b_TextReader_endOfOffset 102 = .ok (.istore 6, 2) := by decide +kernel
theorem d_TextReader_endOfOffset_104 : decode b_TextReader_endOfOffset 104 = .ok (.aload_n 1, 1) := by decide +kernel
theorem d_TextReader_endOfOffset_105 : decode b_TextReader_endOfOffset 105 = .ok (.iload 5, 2) := by decide +kernel
theorem d_TextReader_endOfOffset_107 : decode b_TextReader_endOfOffset 107 = .ok (.iconst 2, 1) := by decide +kernel
theorem d_TextReader_endOfOffset_108 : decode b_TextReader_endOfOffset 108 = .ok (.invokevirtual 139, 3) := by decide +kernel
theorem d_TextReader_endOfOffset_111 : decode b_TextReader_endOfOffset 111 = .ok (.iconst 2, 1) := by decide +kernel
theorem d_TextReader_endOfOffset_112 : decode b_TextReader_endOfOffset 112 = .ok (.if_icmp .ne 18, 3) := by decide +kernel
theorem d_TextReader_endOfOffset_115 : decode b_TextReader_endOfOffset 115 = .ok (.aload_n 1, 1) := by decide +kernel
theorem d_TextReader_endOfOffset_116 : decode b_TextReader_endOfOffset 116 = .ok (.iload 5, 2) := by decide +kernel
theorem d_TextReader_endOfOffset_118 : decode b_TextReader_endOfOffset 118 = .ok (.iconst 2, 1) := by decide +kernel
theorem d_TextReader_endOfOffset_119 : decode b_TextReader_endOfOffset 119 = .ok (.invokevirtual 142, 3) := by decide +kernel
theorem d_TextReader_endOfOffset_122 : decode b_TextReader_endOfOffset 122 = .ok (.istore 6, 2) := by decide +kernel
theorem d_TextReader_endOfOffset_124 : decode b_TextReader_endOfOffset 124 = .ok (.iinc 5 2, 3) := by decide +kernel
theorem d_TextReader_endOfOffset_127 : decode b_TextReader_endOfOffset 127 = .ok (.goto 10, 3) := by decide +kernel
theorem d_TextReader_endOfOffset_130 : decode b_TextReader_endOfOffset 130 = .ok (.iload_n 3, 1) := by decide +kernel
theorem d_TextReader_endOfOffset_131 : decode b_TextReader_endOfOffset 131 = .ok (.iconst 1, 1) := by decide +kernel
theorem d_TextReader_endOfOffset_132 : decode b_TextReader_endOfOffset 132 = .ok (.if_icmp .eq 5, 3) := by decide +kernel
theorem d_TextReader_endOfOffset_135 : decode b_TextReader_endOfOffset 135 = .ok (.iconst (-1), 1) := by decide +kernel
theorem d_TextReader_endOfOffset_136 : decode b_TextReader_endOfOffset 136 = .ok (.ireturn, 1) := by decide +kernel
theorem d_TextReader_endOfOffset_137 : decode b_TextReader_endOfOffset 137 = .ok (.bipush 60, 2) := by decide +kernel
theorem d_TextReader_endOfOffset_139 : decode b_TextReader_endOfOffset 139 = .ok (.aload_n 1, 1) := by decide +kernel
theorem d_TextReader_endOfOffset_140 : decode b_TextReader_endOfOffset 140 = .ok (.aload_n 0, 1) := by decide +kernel
theorem d_TextReader_endOfOffset_141 : decode b_TextReader_endOfOffset 141 = .ok (.getfield 29, 3) := by decide +kernel
theorem d_TextReader_endOfOffset_144 : decode b_TextReader_endOfOffset 144 = .ok (.iconst 1, 1) := by decide +kernel
theorem d_TextReader_endOfOffset_145 : decode b_TextReader_endOfOffset 145 = .ok (.iadd, 1) := by decide +kernel
theorem d_TextReader_endOfOffset_146 : decode b_TextReader_endOfOffset 146 = .ok (.iconst 2, 1) := by decide +kernel
theorem d_TextReader_endOfOffset_147 : decode b_TextReader_endOfOffset 147 = .ok (.invokevirtual 142, 3) := by decide +kernel
theorem d_TextReader_endOfOffset_150 : decode b_TextReader_endOfOffset 150 = .ok (.imul, 1) := by decide +kernel
theorem d_TextReader_endOfOffset_151 : decode b_TextReader_endOfOffset 151 = .ok (.iload 6, 2) := by decide +kernel
theorem d_TextReader_endOfOffset_153 : decode b_TextReader_endOfOffset 153 = .ok (.iadd, 1) := by decide +kernel
theorem d_TextReader_endOfOffset_154 : decode b_TextReader_endOfOffset 154 = .ok (.istore 7, 2) := by decide +kernel
theorem d_TextReader_endOfOffset_156 : decode b_TextReader_endOfOffset 156 = .ok (.iload 6, 2) := by decide +kernel
theorem d_TextReader_endOfOffset_158 : decode b_TextReader_endOfOffset 158 = .ok (.bipush 59, 2) := by decide +kernel
theorem d_TextReader_endOfOffset_160 : decode b_TextReader_endOfOffset 160 = .ok (.if_icmp .gt 11, 3) := by decide +kernel
theorem d_TextReader_endOfOffset_163 : decode b_TextReader_endOfOffset 163 = .ok (.iload 7, 2) := by decide +kernel
theorem d_TextReader_endOfOffset_165 : decode b_TextReader_endOfOffset 165 = .ok (.sipush 1080, 3) := by decide +kernel
theorem d_TextReader_endOfOffset_168 : decode b_TextReader_endOfOffset 168 = .ok (.if_icmp .le 5, 3) := by decide +kernel
theorem d_TextReader_endOfOffset_171 : decode b_TextReader_endOfOffset 171 = .ok (.iconst (-1), 1) := by decide +kernel
theorem d_TextReader_endOfOffset_172 : decode b_TextReader_endOfOffset 172 = .ok (.ireturn, 1) := by decide +kernel
theorem d_TextReader_endOfOffset_173 : decode b_TextReader_endOfOffset 173 = .ok (.aload_n 0, 1) := by decide +kernel
theorem d_TextReader_endOfOffset_174 : decode b_TextReader_endOfOffset 174 = .ok (.bipush 13, 2) := by decide +kernel
theorem d_TextReader_endOfOffset_176 : decode b_TextReader_endOfOffset 176 = .ok (.iload 4, 2) := by decide +kernel
theorem d_TextReader_endOfOffset_178 : decode b_TextReader_endOfOffset 178 = .ok (.bipush 45, 2) := by decide +kernel
theorem d_TextReader_endOfOffset_180 : decode b_TextReader_endOfOffset 180 = .ok (.if_icmp .ne 9, 3) := by decide +kernel
theorem d_TextReader_endOfOffset_183 : decode b_TextReader_endOfOffset 183 = .ok (.iload 7, 2) := by decide +kernel
theorem d_TextReader_endOfOffset_185 : decode b_TextReader_endOfOffset 185 = .ok (.ineg, 1) := by decide +kernel
theorem d_TextReader_endOfOffset_186 : decode b_TextReader_endOfOffset 186 = .ok (.goto 5, 3) := by decide +kernel
theorem d_TextReader_endOfOffset_189 : decode b_TextReader_endOfOffset 189 = .ok (.iload 7, 2) := by decide +kernel
theorem d_TextReader_endOfOffset_191 : decode b_TextReader_endOfOffset 191 = .ok (.iload 5, 2) := by decide +kernel
theorem d_TextReader_endOfOffset_193 : decode b_TextReader_endOfOffset 193 = .ok (.invokevirtual 131, 3) := by decide +kernel
theorem d_TextReader_endOfOffset_196 : decode b_TextReader_endOfOffset 196 = .ok (.ireturn, 1) := by decide +kernel
theorem d_TextReader_endOfFixed_0 : decode b_TextReader_endOfFixed 0 = .ok (.aload_n 1, 1) := by decide +kernel
theorem d_TextReader_endOfFixed_1 : decode b_TextReader_endOfFixed 1 = .ok (.aload_n 0, 1) := by decide +kernel
theorem d_TextReader_endOfFixed_2 : decode b_TextReader_endOfFixed 2 = .ok (.getfield 29, 3) := by decide +kernel
theorem d_TextReader_endOfFixed_5 : decode b_TextReader_endOfFixed 5 = .ok (.iload_n 3, 1) := by decide +kernel
theorem d_TextReader_endOfFixed_6 : decode b_TextReader_endOfFixed 6 = .ok (.invokevirtual 139, 3) := by decide +kernel
theorem d_TextReader_endOfFixed_9 : decode b_TextReader_endOfFixed 9 = .ok (.iload_n 3, 1) := by decide +kernel
theorem d_TextReader_endOfFixed_10 : decode b_TextReader_endOfFixed 10 = .ok (.if_icmp .ge 5, 3) := by decide +kernel
theorem d_TextReader_endOfFixed_13 : decode b_TextReader_endOfFixed 13 = .ok (.iconst (-1), 1) := by decide +kernel
theorem d_TextReader_endOfFixed_14 : decode b_TextReader_endOfFixed 14 = .ok (.ireturn, 1) := by decide +kernel
theorem d_TextReader_endOfFixed_15 : decode b_TextReader_endOfFixed 15 = .ok (.aload_n 1, 1) := by decide +kernel
theorem d_TextReader_endOfFixed_16 : decode b_TextReader_endOfFixed 16 = .ok (.aload_n 0, 1) := by decide +kernel
theorem d_TextReader_endOfFixed_17 : decode b_TextReader_endOfFixed 17 = .ok (.getfield 29, 3) := by decide +kernel
theorem d_TextReader_endOfFixed_20 : decode b_TextReader_endOfFixed 20 = .ok (.iload_n 3, 1) := by decide +kernel
theorem d_TextReader_endOfFixed_21 : decode b_TextReader_endOfFixed 21 = .ok (.invokevirtual 142, 3) := by decide +kernel
theorem d_TextReader_endOfFixed_24 : decode b_TextReader_endOfFixed 24 = .ok (.istore 4, 2) := by decide +kernel
theorem d_TextReader_endOfFixed_26 : decode b_TextReader_endOfFixed 26 = .ok (.iload_n 2, 1) := by decide +kernel
theorem d_TextReader_endOfFixed_27 : decode b_TextReader_endOfFixed 27 = .ok (.invokestatic 144, 3) := by decide +kernel
theorem d_TextReader_endOfFixed_30 : decode b_TextReader_endOfFixed 30 = .ok (.ifCond .eq 9, 3) := by decide +kernel
theorem d_TextReader_endOfFixed_33 : decode b_TextReader_endOfFixed 33 = .ok (.iinc 4 2000, 6) := by decide +kernel
theorem d_TextReader_endOfFixed_39 : decode b_TextReader_endOfFixed 39 = .ok (.iload_n 2, 1) := by decide +kernel
theorem d_TextReader_endOfFixed_40 : decode b_TextReader_endOfFixed 40 = .ok (.bipush 12, 2) := by decide +kernel
theorem d_TextReader_endOfFixed_42 : decode b_TextReader_endOfFixed 42 = .ok (.if_icmp .ne 26, 3) := by decide +kernel
theorem d_TextReader_endOfFixed_45 : decode b_TextReader_endOfFixed 45 = .ok (.iload_n 3, 1) := by decide +kernel
theorem d_TextReader_endOfFixed_46 : decode b_TextReader_endOfFixed 46 = .ok (.istore 5, 2) := by decide +kernel
theorem d_TextReader_endOfFixed_48 : decode b_TextReader_endOfFixed 48 = .ok (.iload 5, 2) := by decide +kernel
theorem d_TextReader_endOfFixed_50 : decode b_TextReader_endOfFixed 50 = .ok (.bipush 9, 2) := by decide +kernel
theorem d_TextReader_endOfFixed_52 : decode b_TextReader_endOfFixed 52 = .ok (.if_icmp .ge 16, 3) := by decide +kernel
theorem d_TextReader_endOfFixed_55 : decode b_TextReader_endOfFixed 55 = .ok (.iload 4, 2) := by decide +kernel
theorem d_TextReader_endOfFixed_57 : decode b_TextReader_endOfFixed 57 = .ok (.bipush 10, 2) := by decide +kernel
theorem d_TextReader_endOfFixed_59 : decode b_TextReader_endOfFixed 59 = .ok (.imul, 1) := by decide +kernel
theorem d_TextReader_endOfFixed_60 : decode b_TextReader_endOfFixed 60 = .ok (.istore 4, 2) := by decide +kernel
theorem d_TextReader_endOfFixed_62 : decode b_TextReader_endOfFixed 62 = .ok (.iinc 5 1, 3) := by decide +kernel
theorem d_TextReader_endOfFixed_65 : decode b_TextReader_endOfFixed 65 = .ok (.goto (-17), 3) := by decide +kernel
theorem d_TextReader_endOfFixed_68 : decode b_TextReader_endOfFixed 68 = .ok (.aload_n 0, 1) := by decide +kernel
theorem d_TextReader_endOfFixed_69 : decode b_TextReader_endOfFixed 69 = .ok (.iload_n 2, 1) := by decide +kernel
theorem d_TextReader_endOfFixed_70 : decode b_TextReader_endOfFixed 70 = .ok (.iload 4, 2) := by decide +kernel
theorem d_TextReader_endOfFixed_72 : decode b_TextReader_endOfFixed 72 = .ok (.aload_n 0, 1) := by decide +kernel
theorem d_TextReader_endOfFixed_73 : decode b_TextReader_endOfFixed 73 = .ok (.getfield 29, 3) := by decide +kernel
theorem d_TextReader_endOfFixed_76 : decode b_TextReader_endOfFixed 76 = .ok (.iload_n 3, 1) := by decide +kernel
theorem d_TextReader_endOfFixed_77 : decode b_TextReader_endOfFixed 77 = .ok (.iadd, 1) := by decide +kernel
theorem d_TextReader_endOfFixed_78 : decode b_TextReader_endOfFixed 78 = .ok (.invokevirtual 131, 3) := by decide +kernel
theorem d_TextReader_endOfFixed_81 : decode b_TextReader_endOfFixed 81 = .ok (.ireturn, 1) := by decide +kernel
theorem d_TextReader_signOf_0 : decode b_TextReader_signOf 0 = .ok (.aload_n 1, 1) := by decide +kernel
theorem d_TextReader_signOf_1 : decode b_TextReader_signOf 1 = .ok (.aload_n 0, 1) := by decide +kernel
theorem d_TextReader_signOf_2 : decode b_TextReader_signOf 2 = .ok (.getfield 29, 3) := by decide +kernel
theorem d_TextReader_signOf_5 : decode b_TextReader_signOf 5 = .ok (.invokevirtual 86, 3) := by decide +kernel
theorem d_TextReader_signOf_8 : decode b_TextReader_signOf 8 = .ok (.istore 4, 2) := by decide +kernel
theorem d_TextReader_signOf_10 : decode b_TextReader_signOf 10 = .ok (.iload_n 2, 1) := by decide +kernel
theorem d_TextReader_signOf_11 : decode b_TextReader_signOf 11 = .ok (.invokestatic 144, 3) := by decide +kernel
theorem d_TextReader_signOf_14 : decode b_TextReader_signOf 14 = .ok (.ifCond .eq 27, 3) := by decide +kernel
theorem d_TextReader_signOf_17 : decode b_TextReader_signOf 17 = .ok (.iload 4, 2) := by decide +kernel
theorem d_TextReader_signOf_19 : decode b_TextReader_signOf 19 = .ok (.bipush 45, 2) := by decide +kernel
theorem d_TextReader_signOf_21 : decode b_TextReader_signOf 21 = .ok (.if_icmp .eq 15, 3) := by decide +kernel
theorem d_TextReader_signOf_24 : decode b_TextReader_signOf 24 = .ok (.iload 4, 2) := by decide +kernel
theorem d_TextReader_signOf_26 : decode b_TextReader_signOf 26 = .ok (.bipush 43, 2) := by decide +kernel
theorem d_TextReader_signOf_28 : decode b_TextReader_signOf 28 = .ok (.if_icmp .ne 13, 3) := by decide +kernel
theorem d_TextReader_signOf_31 : decode b_TextReader_signOf 31 = .ok (.iload_n 3, 1) := by decide +kernel
theorem d_TextReader_signOf_32 : decode b_TextReader_signOf 32 = .ok (.iconst 4, 1) := by decide +kernel
theorem d_TextReader_signOf_33 : decode b_TextReader_signOf 33 = .ok (.if_icmp .ne 8, 3) := by decide +kernel
theorem d_TextReader_signOf_36 : decode b_TextReader_signOf 36 = .ok (.iload 4, 2) := by decide +kernel
theorem d_TextReader_signOf_38 : decode b_TextReader_signOf 38 = .ok (.goto 4, 3) := by decide +kernel
theorem d_TextReader_signOf_41 : decode b_TextReader_signOf 41 = .ok (.iconst (-1), 1) := by decide +kernel
theorem d_TextReader_signOf_42 : decode b_TextReader_signOf 42 = .ok (.ireturn, 1) := by decide +kernel
theorem d_TextReader_mostDigits_0 : decode b_TextReader_mostDigits 0 = .ok (.iload_n 0, 1) := by decide +kernel
theorem d_TextReader_mostDigits_1 : decode b_TextReader_mostDigits 1 = .ok (.invokestatic 144, 3) := by decide +kernel
theorem d_TextReader_mostDigits_4 : decode b_TextReader_mostDigits 4 = .ok (.ifCond .eq 6, 3) := by decide +kernel
theorem d_TextReader_mostDigits_7 : decode b_TextReader_mostDigits 7 = .ok (.bipush 9, 2) := by decide +kernel
theorem d_TextReader_mostDigits_9 : decode b_TextReader_mostDigits 9 = .ok (.ireturn, 1) := by decide +kernel
theorem d_TextReader_mostDigits_10 : decode b_TextReader_mostDigits 10 = .ok (.iload_n 0, 1) := by decide +kernel
theorem d_TextReader_mostDigits_11 : decode b_TextReader_mostDigits 11 = .ok (.iconst 4, 1) := by decide +kernel
theorem d_TextReader_mostDigits_12 : decode b_TextReader_mostDigits 12 = .ok (.if_icmp .ne 7, 3) := by decide +kernel
theorem d_TextReader_mostDigits_15 : decode b_TextReader_mostDigits 15 = .ok (.iconst 3, 1) := by decide +kernel
theorem d_TextReader_mostDigits_16 : decode b_TextReader_mostDigits 16 = .ok (.goto 4, 3) := by decide +kernel
theorem d_TextReader_mostDigits_19 : decode b_TextReader_mostDigits 19 = .ok (.iconst 2, 1) := by decide +kernel
theorem d_TextReader_mostDigits_20 : decode b_TextReader_mostDigits 20 = .ok (.ireturn, 1) := by decide +kernel
abbrev rm_TextReader_small : Room := { frames := 0, cells := 0, slots := 0, locals := 0 }
set_option maxHeartbeats 4000000 in
set_option maxRecDepth 100000 in
theorem c_TextReader_small (l : Launch) (D : va_G) (kk : Nat → ClassId) (st : Nat → Nat) (sz : Nat) (x0 : Int32) (o : Int32) (he : f_TextReader_small x0 = some o) : Met l y_TextReader_small (Cond.code y_TextReader_small b_TextReader_small 1 (some .int) :: GW) rm_TextReader_small (KPc D kk st [.int x0] [] sz) (KQi D kk o [] (va_A [] sz)) 0 0 (va_A [] sz) := by
  refine k_start (Qc := fun A => KQi D kk o [] A) (by decide) (Nat.le_of_ble_eq_true rfl) ?_
  intro p e s m below meth c A ls S hnm hr hlk hA X hP hD hS hl
  have hl : lv_has ls 1 [(0, .int x0)] := hl
  have hx := S.1
  have hb := S.2.1
  unfold f_TextReader_small at he
  refine lv_iload_n hx hb d_TextReader_small_0 rfl (lv_at hl 0 rfl) ?_
  refine lv_bipush (v := (65 : Int32)) hx hb d_TextReader_small_1 (by decide) ?_
  refine lv_icmp_lt (tgt := 22) hx hb d_TextReader_small_3 rfl (fun hc => ?_) (fun hc => ?_)
  · have he := ih_t hc he
    refine lv_iload_n hx hb d_TextReader_small_22 rfl (lv_at hl 0 rfl) ?_
    cases he
    exact k_ire hx hb hr hlk X hP hD hS d_TextReader_small_23
  · have he := ih_f hc he
    refine lv_iload_n hx hb d_TextReader_small_6 rfl (lv_at hl 0 rfl) ?_
    refine lv_bipush (v := (90 : Int32)) hx hb d_TextReader_small_7 (by decide) ?_
    refine lv_icmp_gt (tgt := 22) hx hb d_TextReader_small_9 rfl (fun hc => ?_) (fun hc => ?_)
    · have he := ih_t hc he
      refine lv_iload_n hx hb d_TextReader_small_22 rfl (lv_at hl 0 rfl) ?_
      cases he
      exact k_ire hx hb hr hlk X hP hD hS d_TextReader_small_23
    · have he := ih_f hc he
      refine lv_iload_n hx hb d_TextReader_small_12 rfl (lv_at hl 0 rfl) ?_
      refine lv_bipush (v := (65 : Int32)) hx hb d_TextReader_small_13 (by decide) ?_
      refine lv_isub hx hb d_TextReader_small_15 ?_
      refine lv_bipush (v := (97 : Int32)) hx hb d_TextReader_small_16 (by decide) ?_
      refine lv_iadd hx hb d_TextReader_small_18 ?_
      refine lv_goto (tgt := 23) hx hb d_TextReader_small_19 rfl ?_
      cases he
      exact k_ire hx hb hr hlk X hP hD hS d_TextReader_small_23
abbrev rm_TextReader_isAlike : Room := { frames := 1, cells := 0, slots := 0, locals := 20 }
set_option maxHeartbeats 4000000 in
set_option maxRecDepth 100000 in
theorem c_TextReader_isAlike (l : Launch) (D : va_G) (kk : Nat → ClassId) (st : Nat → Nat) (a_t a_t_known a_t_nest : Nat) (sz : Nat) (t_loose : Int32) (t_place : Int32) (x1 : Int32) (x2 : Int32) (o : Int32) (he : f_TextReader_isAlike t_loose x1 x2 = some o) : Met l y_TextReader_isAlike (Cond.code y_TextReader_isAlike b_TextReader_isAlike 3 (some .boolean) :: GW) rm_TextReader_isAlike (KPc D kk st [.ref a_t, .int x1, .int x2] [(a_t, .inr (8, [.ref a_t_known, .ref a_t_nest, .int t_loose, .int t_place]))] sz) (KQi D kk o [(a_t, .inr (8, [.ref a_t_known, .ref a_t_nest, .int t_loose, .int t_place]))] (va_A [(a_t, .inr (8, [.ref a_t_known, .ref a_t_nest, .int t_loose, .int t_place]))] sz)) 0 0 (va_A [(a_t, .inr (8, [.ref a_t_known, .ref a_t_nest, .int t_loose, .int t_place]))] sz) := by
  refine k_start (Qc := fun A => KQi D kk o [(a_t, .inr (8, [.ref a_t_known, .ref a_t_nest, .int t_loose, .int t_place]))] A) (by decide) (Nat.le_of_ble_eq_true rfl) ?_
  intro p e s m below meth c A ls S hnm hr hlk hA X hP hD hS hl
  have hl : lv_has ls 3 [(0, .ref a_t), (1, .int x1), (2, .int x2)] := hl
  have hx := S.1
  have hb := S.2.1
  unfold f_TextReader_isAlike at he
  refine lv_iload_n hx hb d_TextReader_isAlike_0 rfl (lv_at hl 1 rfl) ?_
  refine lv_iload_n hx hb d_TextReader_isAlike_1 rfl (lv_at hl 2 rfl) ?_
  refine lv_icmp_eq (tgt := 23) hx hb d_TextReader_isAlike_2 rfl (fun hc => ?_) (fun hc => ?_)
  · have he := ih_t hc he
    refine lv_iconst (v := (1 : Int32)) hx hb d_TextReader_isAlike_23 (by decide) ?_
    refine lv_goto (tgt := 28) hx hb d_TextReader_isAlike_24 rfl ?_
    cases he
    exact k_zre hx hb hr hlk X hP hD hS (Or.inr rfl) d_TextReader_isAlike_28
  · have he := ih_f hc he
    refine lv_aload_n hx hb d_TextReader_isAlike_5 rfl (lv_at hl 0 rfl) ?_
    refine k_get S X us_TextReader hP 0 rfl rfl 2 (by decide) gm_1_155 rfl d_TextReader_isAlike_6 ?_
    refine lv_if_eq (tgt := 27) hx hb d_TextReader_isAlike_9 rfl (fun hc => ?_) (fun hc => ?_)
    · have he := ih_t hc he
      refine lv_iconst (v := (0 : Int32)) hx hb d_TextReader_isAlike_27 (by decide) ?_
      cases he
      exact k_zre hx hb hr hlk X hP hD hS (Or.inl rfl) d_TextReader_isAlike_28
    · have he := ih_f hc he
      refine lv_iload_n hx hb d_TextReader_isAlike_12 rfl (lv_at hl 1 rfl) ?_
      obtain ⟨u1, e2, he⟩ := ih_b he
      refine k_io (r_S (As := [.int x1]) S X hA hP hD hS (c_TextReader_small l D kk st _ x1 u1 e2) gm_3_200 gm_3_198 gm_3_199 gm_1_7 ⟨rfl, rfl, by decide, by decide⟩ kd_TextReader_small [] rfl rfl rfl rfl hl.1 rfl (Nat.le_of_ble_eq_true rfl) d_TextReader_isAlike_13 ⟨Nat.zero_le _, Nat.zero_le _⟩) hA hP hD hS [] rfl (fun H locs hP hS => ?_)
      refine lv_iload_n hx hb d_TextReader_isAlike_16 rfl (lv_at hl 2 rfl) ?_
      obtain ⟨u3, e4, he⟩ := ih_b he
      refine k_io (r_S (As := [.int x2]) S X hA hP hD hS (c_TextReader_small l D kk st _ x2 u3 e4) gm_3_200 gm_3_198 gm_3_199 gm_1_7 ⟨rfl, rfl, by decide, by decide⟩ kd_TextReader_small [] rfl rfl rfl rfl hl.1 rfl (Nat.le_of_ble_eq_true rfl) d_TextReader_isAlike_17 ⟨Nat.zero_le _, Nat.zero_le _⟩) hA hP hD hS [] rfl (fun H locs hP hS => ?_)
      refine lv_icmp_ne (tgt := 27) hx hb d_TextReader_isAlike_20 rfl (fun hc => ?_) (fun hc => ?_)
      · have he := ih_f hc he
        refine lv_iconst (v := (0 : Int32)) hx hb d_TextReader_isAlike_27 (by decide) ?_
        cases he
        exact k_zre hx hb hr hlk X hP hD hS (Or.inl rfl) d_TextReader_isAlike_28
      · have he := ih_t hc he
        refine lv_iconst (v := (1 : Int32)) hx hb d_TextReader_isAlike_23 (by decide) ?_
        refine lv_goto (tgt := 28) hx hb d_TextReader_isAlike_24 rfl ?_
        cases he
        exact k_zre hx hb hr hlk X hP hD hS (Or.inr rfl) d_TextReader_isAlike_28
abbrev rm_TextReader_endOfLetters : Room := { frames := 5, cells := 0, slots := 0, locals := 111 }
set_option maxHeartbeats 4000000 in
set_option maxRecDepth 100000 in
theorem w_TextReader_endOfLetters_3 {p : Program} {l : Launch} {e : Env} {s : State} {m : MethodId} {args : Array Value} {below : List Frame} {meth : Method} {c : Code} {Q : State → Prop} {A : Nat → Prop} {D : va_G} {kk : Nat → ClassId} {st : Nat → Nat} (a_t a_q1 a_q1_cells a_t_known a_t_nest : Nat) (n_q1_cells : Nat) (t_loose : Int32) (t_place : Int32) (q1_size : Int32) (q1_cells : Nat → Int32) (x2 : Int32) (x3 : Int32) (x4 : Int32) (S : CallFix p m c b_TextReader_endOfLetters 6 s args GW y_TextReader_endOfLetters.cls) (hr : meth.sig.returnType = (some .int)) (hlk : meth.locks = false) (hA : ∀ q, s.heap.size ≤ q → A q) (X : KX D kk st A s) : ∀ (n : Nat) (x5 : Int32) (v : (Int32) ⊕ (Int32)) (H : Heap) (locs : List Loc) (ls : Array Slot), lp_TextReader_endOfLetters_3 n_q1_cells t_loose t_place q1_size q1_cells x2 x3 x4 n x5 = some v → lv_has ls 6 [(0, .ref a_t), (1, .ref a_q1), (2, .int x2), (3, .int x3), (4, .int x4), (5, .int x5)] → va_P D classes [(a_t, .inr (8, [.ref a_t_known, .ref a_t_nest, .int t_loose, .int t_place])), (a_q1, .inr (1, [.ref a_q1_cells, .int q1_size])), (a_q1_cells, .inl (kk 1, n_q1_cells, .inl q1_cells))] H → va_D A [(a_t, .inr (8, [.ref a_t_known, .ref a_t_nest, .int t_loose, .int t_place])), (a_q1, .inr (1, [.ref a_q1_cells, .int q1_size])), (a_q1_cells, .inl (kk 1, n_q1_cells, .inl q1_cells))] → va_S A s.heap H locs → (∀ o : Int32, v = .inl o → Q = MQ below (KQi D kk o [(a_t, .inr (8, [.ref a_t_known, .ref a_t_nest, .int t_loose, .int t_place])), (a_q1, .inr (1, [.ref a_q1_cells, .int q1_size])), (a_q1_cells, .inl (kk 1, n_q1_cells, .inl q1_cells))] A) args s 0 0 A) → (∀ v' : Int32, v = .inr v' → ∀ (H : Heap) (locs : List Loc) (ls : Array Slot), lv_has ls 6 [(0, .ref a_t), (1, .ref a_q1), (2, .int x2), (3, .int x3), (4, .int x4), (5, .int v')] → va_P D classes [(a_t, .inr (8, [.ref a_t_known, .ref a_t_nest, .int t_loose, .int t_place])), (a_q1, .inr (1, [.ref a_q1_cells, .int q1_size])), (a_q1_cells, .inl (kk 1, n_q1_cells, .inl q1_cells))] H → va_D A [(a_t, .inr (8, [.ref a_t_known, .ref a_t_nest, .int t_loose, .int t_place])), (a_q1, .inr (1, [.ref a_q1_cells, .int q1_size])), (a_q1_cells, .inl (kk 1, n_q1_cells, .inl q1_cells))] → va_S A s.heap H locs → W p l e rm_TextReader_endOfLetters s m args below meth c H locs 0 0 Q (F0 m 58 ls [])) → W p l e rm_TextReader_endOfLetters s m args below meth c H locs 0 0 Q (F0 m 3 ls []) := by
  intro n
  induction n with
  | zero =>
    intro x5 v H locs ls he hl hP hD hS hret K
    exact ih_n he
  | succ n ih =>
    intro x5 v H locs ls he hl hP hD hS hret K
    have hx := S.1
    have hb := S.2.1
    have he : st_TextReader_endOfLetters_3 n_q1_cells t_loose t_place q1_size q1_cells x2 x3 x4 (lp_TextReader_endOfLetters_3 n_q1_cells t_loose t_place q1_size q1_cells x2 x3 x4 n) x5 = some v := he
    unfold st_TextReader_endOfLetters_3 at he
    refine lv_iload hx hb d_TextReader_endOfLetters_3 (lv_at hl 5 rfl) ?_
    refine lv_bipush (v := (9 : Int32)) hx hb d_TextReader_endOfLetters_5 (by decide) ?_
    refine lv_icmp_ge (tgt := 58) hx hb d_TextReader_endOfLetters_7 rfl (fun hc => ?_) (fun hc => ?_)
    · have he := ih_t hc he
      have hl : lv_has ls 6 [(0, .ref a_t), (1, .ref a_q1), (2, .int x2), (3, .int x3), (4, .int x4), (5, .int x5)] := lv_sub hl [0, 1, 2, 3, 4, 5] rfl
      cases he
      exact K _ rfl _ _ _ hl hP hD hS
    · have he := ih_f hc he
      refine lv_iload_n hx hb d_TextReader_endOfLetters_10 rfl (lv_at hl 2 rfl) ?_
      refine lv_iload_n hx hb d_TextReader_endOfLetters_11 rfl (lv_at hl 3 rfl) ?_
      refine lv_iload hx hb d_TextReader_endOfLetters_12 (lv_at hl 4 rfl) ?_
      refine lv_iload hx hb d_TextReader_endOfLetters_14 (lv_at hl 5 rfl) ?_
      obtain ⟨u1, e2, he⟩ := ih_b he
      refine k_io (r_S (As := [.int x2, .int x3, .int x4, .int x5]) S X hA hP hD hS (c_Names_letter l D kk st _ x2 x3 x4 x5 u1 e2) gm_3_88 gm_3_214 gm_3_87 gm_1_19 ⟨rfl, rfl, by decide, by decide⟩ kd_Names_letter [] rfl rfl rfl rfl hl.1 rfl (Nat.le_of_ble_eq_true rfl) d_TextReader_endOfLetters_16 ⟨Nat.zero_le _, Nat.zero_le _⟩) hA hP hD hS [] rfl (fun H locs hP hS => ?_)
      refine lv_iconst (v := (-1 : Int32)) hx hb d_TextReader_endOfLetters_19 (by decide) ?_
      refine lv_icmp_eq (tgt := 58) hx hb d_TextReader_endOfLetters_20 rfl (fun hc => ?_) (fun hc => ?_)
      · have he := ih_t hc he
        have hl : lv_has ls 6 [(0, .ref a_t), (1, .ref a_q1), (2, .int x2), (3, .int x3), (4, .int x4), (5, .int x5)] := lv_sub hl [0, 1, 2, 3, 4, 5] rfl
        cases he
        exact K _ rfl _ _ _ hl hP hD hS
      · have he := ih_f hc he
        refine lv_aload_n hx hb d_TextReader_endOfLetters_23 rfl (lv_at hl 0 rfl) ?_
        refine lv_aload_n hx hb d_TextReader_endOfLetters_24 rfl (lv_at hl 1 rfl) ?_
        refine lv_aload_n hx hb d_TextReader_endOfLetters_25 rfl (lv_at hl 0 rfl) ?_
        refine k_get S X us_TextReader hP 0 rfl rfl 3 (by decide) gm_1_156 rfl d_TextReader_endOfLetters_26 ?_
        refine lv_iload hx hb d_TextReader_endOfLetters_29 (lv_at hl 5 rfl) ?_
        refine lv_iadd hx hb d_TextReader_endOfLetters_31 ?_
        obtain ⟨u3, e4, he⟩ := ih_b he
        refine k_io (r_V (As := [.int (t_place + x5)]) S X hA hP hD hS (c_Row_codeAt l D kk st a_q1 a_q1_cells _ n_q1_cells q1_size q1_cells (t_place + x5) u3 e4) gm_2_76 gm_3_193 gm_2_74 gm_2_75 gm_1_2 ⟨rfl, rfl, by decide, by decide⟩ kd_Row_codeAt [1, 2] rfl rfl rfl 1 1 rfl rfl rfl rfl hl.1 rfl (Nat.le_of_ble_eq_true rfl) d_TextReader_endOfLetters_32 ⟨Nat.zero_le _, Nat.zero_le _⟩) hA hP hD hS [1, 2] rfl (fun H locs hP hS => ?_)
        refine lv_iload_n hx hb d_TextReader_endOfLetters_35 rfl (lv_at hl 2 rfl) ?_
        refine lv_iload_n hx hb d_TextReader_endOfLetters_36 rfl (lv_at hl 3 rfl) ?_
        refine lv_iload hx hb d_TextReader_endOfLetters_37 (lv_at hl 4 rfl) ?_
        refine lv_iload hx hb d_TextReader_endOfLetters_39 (lv_at hl 5 rfl) ?_
        obtain ⟨u5, e6, he⟩ := ih_b he
        refine k_io (r_S (As := [.int x2, .int x3, .int x4, .int x5]) S X hA hP hD hS (c_Names_letter l D kk st _ x2 x3 x4 x5 u5 e6) gm_3_88 gm_3_214 gm_3_87 gm_1_19 ⟨rfl, rfl, by decide, by decide⟩ kd_Names_letter [] rfl rfl rfl rfl hl.1 rfl (Nat.le_of_ble_eq_true rfl) d_TextReader_endOfLetters_41 ⟨Nat.zero_le _, Nat.zero_le _⟩) hA hP hD hS [] rfl (fun H locs hP hS => ?_)
        obtain ⟨u7, e8, he⟩ := ih_b he
        refine k_io (r_V (As := [.int u3, .int u5]) S X hA hP hD hS (c_TextReader_isAlike l D kk st a_t a_t_known a_t_nest _ t_loose t_place u3 u5 u7 e8) gm_3_197 gm_3_194 gm_3_196 gm_p2_0 gm_1_7 ⟨rfl, rfl, by decide, by decide⟩ kd_TextReader_isAlike [0] rfl rfl rfl 0 8 rfl rfl rfl rfl hl.1 rfl (Nat.le_of_ble_eq_true rfl) d_TextReader_endOfLetters_44 ⟨Nat.zero_le _, Nat.zero_le _⟩) hA hP hD hS [0] rfl (fun H locs hP hS => ?_)
        refine lv_if_ne (tgt := 52) hx hb d_TextReader_endOfLetters_47 rfl (fun hc => ?_) (fun hc => ?_)
        · have he := ih_f hc he
          refine lv_iinc (k := 5) hx hb d_TextReader_endOfLetters_52 hl rfl (ii_ (v := (1 : Int32)) (by decide)) (by decide) rfl (fun ls hl => ?_)
          have hl : lv_has ls 6 [(5, .int (x5 + (1 : Int32))), (0, .ref a_t), (1, .ref a_q1), (2, .int x2), (3, .int x3), (4, .int x4)] := hl
          refine lv_goto (tgt := 3) hx hb d_TextReader_endOfLetters_55 rfl ?_
          have hl : lv_has ls 6 [(0, .ref a_t), (1, .ref a_q1), (2, .int x2), (3, .int x3), (4, .int x4), (5, .int (x5 + (1 : Int32)))] := lv_sub hl [1, 2, 3, 4, 5, 0] rfl
          exact ih _ _ _ _ _ he hl hP hD hS hret K
        · have he := ih_t hc he
          refine lv_iconst (v := (-1 : Int32)) hx hb d_TextReader_endOfLetters_50 (by decide) ?_
          cases he
          have hq := hret _ rfl
          subst hq
          exact k_ire hx hb hr hlk X hP hD hS d_TextReader_endOfLetters_51
set_option maxHeartbeats 4000000 in
set_option maxRecDepth 100000 in
theorem c_TextReader_endOfLetters (l : Launch) (D : va_G) (kk : Nat → ClassId) (st : Nat → Nat) (a_t a_q1 a_q1_cells a_t_known a_t_nest : Nat) (sz : Nat) (n_q1_cells : Nat) (t_loose : Int32) (t_place : Int32) (q1_size : Int32) (q1_cells : Nat → Int32) (x2 : Int32) (x3 : Int32) (x4 : Int32) (o : Int32) (he : f_TextReader_endOfLetters n_q1_cells t_loose t_place q1_size q1_cells x2 x3 x4 = some o) : Met l y_TextReader_endOfLetters (Cond.code y_TextReader_endOfLetters b_TextReader_endOfLetters 6 (some .int) :: GW) rm_TextReader_endOfLetters (KPc D kk st [.ref a_t, .ref a_q1, .int x2, .int x3, .int x4] [(a_t, .inr (8, [.ref a_t_known, .ref a_t_nest, .int t_loose, .int t_place])), (a_q1, .inr (1, [.ref a_q1_cells, .int q1_size])), (a_q1_cells, .inl (kk 1, n_q1_cells, .inl q1_cells))] sz) (KQi D kk o [(a_t, .inr (8, [.ref a_t_known, .ref a_t_nest, .int t_loose, .int t_place])), (a_q1, .inr (1, [.ref a_q1_cells, .int q1_size])), (a_q1_cells, .inl (kk 1, n_q1_cells, .inl q1_cells))] (va_A [(a_t, .inr (8, [.ref a_t_known, .ref a_t_nest, .int t_loose, .int t_place])), (a_q1, .inr (1, [.ref a_q1_cells, .int q1_size])), (a_q1_cells, .inl (kk 1, n_q1_cells, .inl q1_cells))] sz)) 0 0 (va_A [(a_t, .inr (8, [.ref a_t_known, .ref a_t_nest, .int t_loose, .int t_place])), (a_q1, .inr (1, [.ref a_q1_cells, .int q1_size])), (a_q1_cells, .inl (kk 1, n_q1_cells, .inl q1_cells))] sz) := by
  refine k_start (Qc := fun A => KQi D kk o [(a_t, .inr (8, [.ref a_t_known, .ref a_t_nest, .int t_loose, .int t_place])), (a_q1, .inr (1, [.ref a_q1_cells, .int q1_size])), (a_q1_cells, .inl (kk 1, n_q1_cells, .inl q1_cells))] A) (by decide) (Nat.le_of_ble_eq_true rfl) ?_
  intro p e s m below meth c A ls S hnm hr hlk hA X hP hD hS hl
  have hl : lv_has ls 6 [(0, .ref a_t), (1, .ref a_q1), (2, .int x2), (3, .int x3), (4, .int x4)] := hl
  have hx := S.1
  have hb := S.2.1
  unfold f_TextReader_endOfLetters at he
  refine lv_iconst (v := (0 : Int32)) hx hb d_TextReader_endOfLetters_0 (by decide) ?_
  refine lv_istore hx hb d_TextReader_endOfLetters_1 hl (by decide) rfl (fun ls hl => ?_)
  have hl : lv_has ls 6 [(5, .int (0 : Int32)), (0, .ref a_t), (1, .ref a_q1), (2, .int x2), (3, .int x3), (4, .int x4)] := hl
  obtain ⟨u9, e10, he⟩ := ih_b he
  have hl : lv_has ls 6 [(0, .ref a_t), (1, .ref a_q1), (2, .int x2), (3, .int x3), (4, .int x4), (5, .int (0 : Int32))] := lv_sub hl [1, 2, 3, 4, 5, 0] rfl
  rcases u9 with o11 | v12
  · have he := sel_l he
    cases he
    exact w_TextReader_endOfLetters_3 a_t a_q1 a_q1_cells a_t_known a_t_nest n_q1_cells t_loose t_place q1_size q1_cells x2 x3 x4 S hr hlk hA X FU (0 : Int32) _ _ _ ls e10 hl hP hD hS (fun o h => by cases h; rfl) (fun v h => by cases h)
  · have he := sel_r he
    refine w_TextReader_endOfLetters_3 a_t a_q1 a_q1_cells a_t_known a_t_nest n_q1_cells t_loose t_place q1_size q1_cells x2 x3 x4 S hr hlk hA X FU (0 : Int32) _ _ _ ls e10 hl hP hD hS (fun o h => by cases h) (fun v h H locs ls hl hP hD hS => ?_)
    have h := Sum.inr.inj h
    subst h
    refine lv_aload_n hx hb d_TextReader_endOfLetters_58 rfl (lv_at hl 0 rfl) ?_
    refine k_get S X us_TextReader hP 0 rfl rfl 3 (by decide) gm_1_156 rfl d_TextReader_endOfLetters_59 ?_
    refine lv_iload hx hb d_TextReader_endOfLetters_62 (lv_at hl 5 rfl) ?_
    refine lv_iadd hx hb d_TextReader_endOfLetters_64 ?_
    cases he
    exact k_ire hx hb hr hlk X hP hD hS d_TextReader_endOfLetters_65
abbrev rm_TextReader_endWith : Room := { frames := 1, cells := 0, slots := 0, locals := 22 }
set_option maxHeartbeats 4000000 in
set_option maxRecDepth 100000 in
theorem c_TextReader_endWith (l : Launch) (D : va_G) (kk : Nat → ClassId) (st : Nat → Nat) (a_t a_t_known a_t_known_values a_t_known_flags a_t_known_order a_t_nest : Nat) (sz : Nat) (t_loose : Int32) (t_place : Int32) (t_known_size : Int32) (t_known_values : Nat → Int32) (t_known_flags : Nat → Int32) (t_known_order : Nat → Int32) (x1 : Int32) (x2 : Int32) (x3 : Int32) (o : Int32 × Int32 × (Nat → Int32) × (Nat → Int32) × (Nat → Int32)) (he : f_TextReader_endWith t_known_size t_known_values t_known_flags t_known_order x1 x2 x3 = some o) : Met l y_TextReader_endWith (Cond.code y_TextReader_endWith b_TextReader_endWith 4 (some .int) :: GW) rm_TextReader_endWith (KPc D kk st [.ref a_t, .int x1, .int x2, .int x3] [(a_t, .inr (8, [.ref a_t_known, .ref a_t_nest, .int t_loose, .int t_place])), (a_t_known, .inr (7, [.ref a_t_known_values, .ref a_t_known_flags, .ref a_t_known_order, .int t_known_size])), (a_t_known_values, .inl (kk 0, 14, .inl t_known_values)), (a_t_known_flags, .inl (kk 2, 14, .inl t_known_flags)), (a_t_known_order, .inl (kk 0, 14, .inl t_known_order))] sz) (KQi D kk o.1 [(a_t, .inr (8, [.ref a_t_known, .ref a_t_nest, .int t_loose, .int t_place])), (a_t_known, .inr (7, [.ref a_t_known_values, .ref a_t_known_flags, .ref a_t_known_order, .int o.2.1])), (a_t_known_values, .inl (kk 0, 14, .inl o.2.2.1)), (a_t_known_flags, .inl (kk 2, 14, .inl o.2.2.2.1)), (a_t_known_order, .inl (kk 0, 14, .inl o.2.2.2.2))] (va_A [(a_t, .inr (8, [.ref a_t_known, .ref a_t_nest, .int t_loose, .int t_place])), (a_t_known, .inr (7, [.ref a_t_known_values, .ref a_t_known_flags, .ref a_t_known_order, .int t_known_size])), (a_t_known_values, .inl (kk 0, 14, .inl t_known_values)), (a_t_known_flags, .inl (kk 2, 14, .inl t_known_flags)), (a_t_known_order, .inl (kk 0, 14, .inl t_known_order))] sz)) 0 0 (va_A [(a_t, .inr (8, [.ref a_t_known, .ref a_t_nest, .int t_loose, .int t_place])), (a_t_known, .inr (7, [.ref a_t_known_values, .ref a_t_known_flags, .ref a_t_known_order, .int t_known_size])), (a_t_known_values, .inl (kk 0, 14, .inl t_known_values)), (a_t_known_flags, .inl (kk 2, 14, .inl t_known_flags)), (a_t_known_order, .inl (kk 0, 14, .inl t_known_order))] sz) := by
  refine k_start (Qc := fun A => KQi D kk o.1 [(a_t, .inr (8, [.ref a_t_known, .ref a_t_nest, .int t_loose, .int t_place])), (a_t_known, .inr (7, [.ref a_t_known_values, .ref a_t_known_flags, .ref a_t_known_order, .int o.2.1])), (a_t_known_values, .inl (kk 0, 14, .inl o.2.2.1)), (a_t_known_flags, .inl (kk 2, 14, .inl o.2.2.2.1)), (a_t_known_order, .inl (kk 0, 14, .inl o.2.2.2.2))] A) (by decide) (Nat.le_of_ble_eq_true rfl) ?_
  intro p e s m below meth c A ls S hnm hr hlk hA X hP hD hS hl
  have hl : lv_has ls 4 [(0, .ref a_t), (1, .int x1), (2, .int x2), (3, .int x3)] := hl
  have hx := S.1
  have hb := S.2.1
  unfold f_TextReader_endWith at he
  refine lv_aload_n hx hb d_TextReader_endWith_0 rfl (lv_at hl 0 rfl) ?_
  refine k_get S X us_TextReader hP 0 rfl rfl 0 (by decide) gm_1_152 rfl d_TextReader_endWith_1 ?_
  refine lv_iload_n hx hb d_TextReader_endWith_4 rfl (lv_at hl 1 rfl) ?_
  refine lv_iload_n hx hb d_TextReader_endWith_5 rfl (lv_at hl 2 rfl) ?_
  obtain ⟨u1, e2, he⟩ := ih_b he
  refine k_i (wr := [(a_t, .inr (8, [.ref a_t_known, .ref a_t_nest, .int t_loose, .int t_place]))]) (w1 := [(a_t_known, .inr (7, [.ref a_t_known_values, .ref a_t_known_flags, .ref a_t_known_order, .int u1.2.1])), (a_t_known_values, .inl (kk 0, 14, .inl u1.2.2.1)), (a_t_known_flags, .inl (kk 2, 14, .inl u1.2.2.2.1)), (a_t_known_order, .inl (kk 0, 14, .inl u1.2.2.2.2))]) (w2 := [(a_t, .inr (8, [.ref a_t_known, .ref a_t_nest, .int t_loose, .int t_place])), (a_t_known, .inr (7, [.ref a_t_known_values, .ref a_t_known_flags, .ref a_t_known_order, .int u1.2.1])), (a_t_known_values, .inl (kk 0, 14, .inl u1.2.2.1)), (a_t_known_flags, .inl (kk 2, 14, .inl u1.2.2.2.1)), (a_t_known_order, .inl (kk 0, 14, .inl u1.2.2.2.2))]) (r_V (As := [.int x1, .int x2]) S X hA hP hD hS (c_Known_learn l D kk st a_t_known a_t_known_values a_t_known_flags a_t_known_order _ t_known_size t_known_values t_known_flags t_known_order x1 x2 u1 e2) gm_3_222 gm_3_219 gm_3_220 gm_3_221 gm_1_8 ⟨rfl, rfl, by decide, by decide⟩ kd_Known_learn [1, 2, 3, 4] rfl rfl rfl 1 7 rfl rfl rfl rfl hl.1 rfl (Nat.le_of_ble_eq_true rfl) d_TextReader_endWith_6 ⟨Nat.zero_le _, Nat.zero_le _⟩) hA hP hD hS [1, 2, 3, 4] [0] [0, 1, 2, 3, 4] rfl rfl rfl (by decide) rfl rfl rfl (fun H locs hP hD hS => ?_)
  refine lv_if_eq (tgt := 16) hx hb d_TextReader_endWith_9 rfl (fun hc => ?_) (fun hc => ?_)
  · have he := ih_t hc he
    refine lv_iconst (v := (-1 : Int32)) hx hb d_TextReader_endWith_16 (by decide) ?_
    cases he
    exact k_ire hx hb hr hlk X hP hD hS d_TextReader_endWith_17
  · have he := ih_f hc he
    refine lv_iload_n hx hb d_TextReader_endWith_12 rfl (lv_at hl 3 rfl) ?_
    refine lv_goto (tgt := 17) hx hb d_TextReader_endWith_13 rfl ?_
    cases he
    exact k_ire hx hb hr hlk X hP hD hS d_TextReader_endWith_17
abbrev rm_TextReader_endOfName : Room := { frames := 6, cells := 0, slots := 0, locals := 136 }
set_option maxHeartbeats 4000000 in
set_option maxRecDepth 100000 in
theorem w_TextReader_endOfName_6 {p : Program} {l : Launch} {e : Env} {s : State} {m : MethodId} {args : Array Value} {below : List Frame} {meth : Method} {c : Code} {Q : State → Prop} {A : Nat → Prop} {D : va_G} {kk : Nat → ClassId} {st : Nat → Nat} (a_t a_t_known a_t_known_values a_t_known_flags a_t_known_order a_q1 a_q1_cells a_t_nest : Nat) (n_q1_cells : Nat) (t_loose : Int32) (t_place : Int32) (q1_size : Int32) (q1_cells : Nat → Int32) (x2 : Int32) (x3 : Int32) (S : CallFix p m c b_TextReader_endOfName 6 s args GW y_TextReader_endOfName.cls) (hr : meth.sig.returnType = (some .int)) (hlk : meth.locks = false) (hA : ∀ q, s.heap.size ≤ q → A q) (X : KX D kk st A s) : ∀ (n : Nat) (x4 : Int32) (t_known_size : Int32) (t_known_values : Nat → Int32) (t_known_flags : Nat → Int32) (t_known_order : Nat → Int32) (v : (Int32 × Int32 × (Nat → Int32) × (Nat → Int32) × (Nat → Int32)) ⊕ (Int32 × Int32 × (Nat → Int32) × (Nat → Int32) × (Nat → Int32))) (H : Heap) (locs : List Loc) (ls : Array Slot), lp_TextReader_endOfName_6 n_q1_cells t_loose t_place q1_size q1_cells x2 x3 n x4 t_known_size t_known_values t_known_flags t_known_order = some v → lv_has ls 6 [(0, .ref a_t), (1, .ref a_q1), (2, .int x2), (3, .int x3), (4, .int x4)] → va_P D classes [(a_t, .inr (8, [.ref a_t_known, .ref a_t_nest, .int t_loose, .int t_place])), (a_t_known, .inr (7, [.ref a_t_known_values, .ref a_t_known_flags, .ref a_t_known_order, .int t_known_size])), (a_t_known_values, .inl (kk 0, 14, .inl t_known_values)), (a_t_known_flags, .inl (kk 2, 14, .inl t_known_flags)), (a_t_known_order, .inl (kk 0, 14, .inl t_known_order)), (a_q1, .inr (1, [.ref a_q1_cells, .int q1_size])), (a_q1_cells, .inl (kk 1, n_q1_cells, .inl q1_cells))] H → va_D A [(a_t, .inr (8, [.ref a_t_known, .ref a_t_nest, .int t_loose, .int t_place])), (a_t_known, .inr (7, [.ref a_t_known_values, .ref a_t_known_flags, .ref a_t_known_order, .int t_known_size])), (a_t_known_values, .inl (kk 0, 14, .inl t_known_values)), (a_t_known_flags, .inl (kk 2, 14, .inl t_known_flags)), (a_t_known_order, .inl (kk 0, 14, .inl t_known_order)), (a_q1, .inr (1, [.ref a_q1_cells, .int q1_size])), (a_q1_cells, .inl (kk 1, n_q1_cells, .inl q1_cells))] → va_S A s.heap H locs → (∀ o : Int32 × Int32 × (Nat → Int32) × (Nat → Int32) × (Nat → Int32), v = .inl o → Q = MQ below (KQi D kk o.1 [(a_t, .inr (8, [.ref a_t_known, .ref a_t_nest, .int t_loose, .int t_place])), (a_t_known, .inr (7, [.ref a_t_known_values, .ref a_t_known_flags, .ref a_t_known_order, .int o.2.1])), (a_t_known_values, .inl (kk 0, 14, .inl o.2.2.1)), (a_t_known_flags, .inl (kk 2, 14, .inl o.2.2.2.1)), (a_t_known_order, .inl (kk 0, 14, .inl o.2.2.2.2)), (a_q1, .inr (1, [.ref a_q1_cells, .int q1_size])), (a_q1_cells, .inl (kk 1, n_q1_cells, .inl q1_cells))] A) args s 0 0 A) → (∀ v' : Int32 × Int32 × (Nat → Int32) × (Nat → Int32) × (Nat → Int32), v = .inr v' → ∀ (H : Heap) (locs : List Loc) (ls : Array Slot), lv_has ls 6 [(0, .ref a_t), (1, .ref a_q1), (2, .int x2), (3, .int x3), (4, .int v'.1)] → va_P D classes [(a_t, .inr (8, [.ref a_t_known, .ref a_t_nest, .int t_loose, .int t_place])), (a_t_known, .inr (7, [.ref a_t_known_values, .ref a_t_known_flags, .ref a_t_known_order, .int v'.2.1])), (a_t_known_values, .inl (kk 0, 14, .inl v'.2.2.1)), (a_t_known_flags, .inl (kk 2, 14, .inl v'.2.2.2.1)), (a_t_known_order, .inl (kk 0, 14, .inl v'.2.2.2.2)), (a_q1, .inr (1, [.ref a_q1_cells, .int q1_size])), (a_q1_cells, .inl (kk 1, n_q1_cells, .inl q1_cells))] H → va_D A [(a_t, .inr (8, [.ref a_t_known, .ref a_t_nest, .int t_loose, .int t_place])), (a_t_known, .inr (7, [.ref a_t_known_values, .ref a_t_known_flags, .ref a_t_known_order, .int v'.2.1])), (a_t_known_values, .inl (kk 0, 14, .inl v'.2.2.1)), (a_t_known_flags, .inl (kk 2, 14, .inl v'.2.2.2.1)), (a_t_known_order, .inl (kk 0, 14, .inl v'.2.2.2.2)), (a_q1, .inr (1, [.ref a_q1_cells, .int q1_size])), (a_q1_cells, .inl (kk 1, n_q1_cells, .inl q1_cells))] → va_S A s.heap H locs → W p l e rm_TextReader_endOfName s m args below meth c H locs 0 0 Q (F0 m 48 ls [])) → W p l e rm_TextReader_endOfName s m args below meth c H locs 0 0 Q (F0 m 6 ls []) := by
  intro n
  induction n with
  | zero =>
    intro x4 t_known_size t_known_values t_known_flags t_known_order v H locs ls he hl hP hD hS hret K
    exact ih_n he
  | succ n ih =>
    intro x4 t_known_size t_known_values t_known_flags t_known_order v H locs ls he hl hP hD hS hret K
    have hx := S.1
    have hb := S.2.1
    have he : st_TextReader_endOfName_6 n_q1_cells t_loose t_place q1_size q1_cells x2 x3 (lp_TextReader_endOfName_6 n_q1_cells t_loose t_place q1_size q1_cells x2 x3 n) x4 t_known_size t_known_values t_known_flags t_known_order = some v := he
    unfold st_TextReader_endOfName_6 at he
    refine lv_iload hx hb d_TextReader_endOfName_6 (lv_at hl 4 rfl) ?_
    refine lv_iload_n hx hb d_TextReader_endOfName_8 rfl (lv_at hl 2 rfl) ?_
    obtain ⟨u3, e4, he⟩ := ih_b he
    refine k_io (r_S (As := [.int x2]) S X hA hP hD hS (c_Names_last l D kk st _ x2 u3 e4) gm_3_209 gm_3_207 gm_3_208 gm_1_19 ⟨rfl, rfl, by decide, by decide⟩ kd_Names_last [] rfl rfl rfl rfl hl.1 rfl (Nat.le_of_ble_eq_true rfl) d_TextReader_endOfName_9 ⟨Nat.zero_le _, Nat.zero_le _⟩) hA hP hD hS [] rfl (fun H locs hP hS => ?_)
    refine lv_icmp_gt (tgt := 48) hx hb d_TextReader_endOfName_12 rfl (fun hc => ?_) (fun hc => ?_)
    · have he := ih_t hc he
      have hl : lv_has ls 6 [(0, .ref a_t), (1, .ref a_q1), (2, .int x2), (3, .int x3), (4, .int x4)] := lv_sub hl [0, 1, 2, 3, 4] rfl
      cases he
      exact K _ rfl _ _ _ hl hP hD hS
    · have he := ih_f hc he
      refine lv_aload_n hx hb d_TextReader_endOfName_15 rfl (lv_at hl 0 rfl) ?_
      refine lv_aload_n hx hb d_TextReader_endOfName_16 rfl (lv_at hl 1 rfl) ?_
      refine lv_iload_n hx hb d_TextReader_endOfName_17 rfl (lv_at hl 2 rfl) ?_
      refine lv_iload_n hx hb d_TextReader_endOfName_18 rfl (lv_at hl 3 rfl) ?_
      refine lv_iload hx hb d_TextReader_endOfName_19 (lv_at hl 4 rfl) ?_
      obtain ⟨u5, e6, he⟩ := ih_b he
      refine k_io (r_V (As := [.ref a_q1, .int x2, .int x3, .int x4]) S X hA hP hD hS (c_TextReader_endOfLetters l D kk st a_t a_q1 a_q1_cells a_t_known a_t_nest _ n_q1_cells t_loose t_place q1_size q1_cells x2 x3 x4 u5 e6) gm_3_213 gm_3_210 gm_3_212 gm_p2_2 gm_1_7 ⟨rfl, rfl, by decide, by decide⟩ kd_TextReader_endOfLetters [0, 5, 6] rfl rfl rfl 0 8 rfl rfl rfl rfl hl.1 rfl (Nat.le_of_ble_eq_true rfl) d_TextReader_endOfName_21 ⟨Nat.zero_le _, Nat.zero_le _⟩) hA hP hD hS [0, 5, 6] rfl (fun H locs hP hS => ?_)
      refine lv_istore hx hb d_TextReader_endOfName_24 hl (by decide) rfl (fun ls hl => ?_)
      have hl : lv_has ls 6 [(5, .int u5), (0, .ref a_t), (1, .ref a_q1), (2, .int x2), (3, .int x3), (4, .int x4)] := hl
      refine lv_iload hx hb d_TextReader_endOfName_26 (lv_at hl 0 rfl) ?_
      refine lv_iconst (v := (-1 : Int32)) hx hb d_TextReader_endOfName_28 (by decide) ?_
      refine lv_icmp_eq (tgt := 42) hx hb d_TextReader_endOfName_29 rfl (fun hc => ?_) (fun hc => ?_)
      · have he := ih_t hc he
        refine lv_iinc (k := 5) hx hb d_TextReader_endOfName_42 hl rfl (ii_ (v := (1 : Int32)) (by decide)) (by decide) rfl (fun ls hl => ?_)
        have hl : lv_has ls 6 [(4, .int (x4 + (1 : Int32))), (5, .int u5), (0, .ref a_t), (1, .ref a_q1), (2, .int x2), (3, .int x3)] := hl
        refine lv_goto (tgt := 6) hx hb d_TextReader_endOfName_45 rfl ?_
        have hl : lv_has ls 6 [(0, .ref a_t), (1, .ref a_q1), (2, .int x2), (3, .int x3), (4, .int (x4 + (1 : Int32)))] := lv_sub hl [2, 3, 4, 5, 0] rfl
        exact ih _ _ _ _ _ _ _ _ _ he hl hP hD hS hret K
      · have he := ih_f hc he
        refine lv_aload_n hx hb d_TextReader_endOfName_32 rfl (lv_at hl 1 rfl) ?_
        refine lv_iload_n hx hb d_TextReader_endOfName_33 rfl (lv_at hl 3 rfl) ?_
        refine lv_iload hx hb d_TextReader_endOfName_34 (lv_at hl 5 rfl) ?_
        refine lv_iload hx hb d_TextReader_endOfName_36 (lv_at hl 0 rfl) ?_
        obtain ⟨u7, e8, he⟩ := ih_b he
        refine k_i (wr := [(a_q1, .inr (1, [.ref a_q1_cells, .int q1_size])), (a_q1_cells, .inl (kk 1, n_q1_cells, .inl q1_cells))]) (w1 := [(a_t, .inr (8, [.ref a_t_known, .ref a_t_nest, .int t_loose, .int t_place])), (a_t_known, .inr (7, [.ref a_t_known_values, .ref a_t_known_flags, .ref a_t_known_order, .int u7.2.1])), (a_t_known_values, .inl (kk 0, 14, .inl u7.2.2.1)), (a_t_known_flags, .inl (kk 2, 14, .inl u7.2.2.2.1)), (a_t_known_order, .inl (kk 0, 14, .inl u7.2.2.2.2))]) (w2 := [(a_t, .inr (8, [.ref a_t_known, .ref a_t_nest, .int t_loose, .int t_place])), (a_t_known, .inr (7, [.ref a_t_known_values, .ref a_t_known_flags, .ref a_t_known_order, .int u7.2.1])), (a_t_known_values, .inl (kk 0, 14, .inl u7.2.2.1)), (a_t_known_flags, .inl (kk 2, 14, .inl u7.2.2.2.1)), (a_t_known_order, .inl (kk 0, 14, .inl u7.2.2.2.2)), (a_q1, .inr (1, [.ref a_q1_cells, .int q1_size])), (a_q1_cells, .inl (kk 1, n_q1_cells, .inl q1_cells))]) (r_V (As := [.int x2, .int x4, .int u5]) S X hA hP hD hS (c_TextReader_endWith l D kk st a_t a_t_known a_t_known_values a_t_known_flags a_t_known_order a_t_nest _ t_loose t_place t_known_size t_known_values t_known_flags t_known_order x2 x4 u5 u7 e8) gm_3_218 gm_3_215 gm_3_217 gm_p2_3 gm_1_7 ⟨rfl, rfl, by decide, by decide⟩ kd_TextReader_endWith [0, 1, 2, 3, 4] rfl rfl rfl 0 8 rfl rfl rfl rfl hl.1 rfl (Nat.le_of_ble_eq_true rfl) d_TextReader_endOfName_38 ⟨Nat.zero_le _, Nat.zero_le _⟩) hA hP hD hS [0, 1, 2, 3, 4] [5, 6] [2, 3, 4, 5, 6, 0, 1] rfl rfl rfl (by decide) rfl rfl rfl (fun H locs hP hD hS => ?_)
        cases he
        have hq := hret _ rfl
        subst hq
        exact k_ire hx hb hr hlk X hP hD hS d_TextReader_endOfName_41
set_option maxHeartbeats 4000000 in
set_option maxRecDepth 100000 in
theorem c_TextReader_endOfName (l : Launch) (D : va_G) (kk : Nat → ClassId) (st : Nat → Nat) (a_t a_t_known a_t_known_values a_t_known_flags a_t_known_order a_q1 a_q1_cells a_t_nest : Nat) (sz : Nat) (n_q1_cells : Nat) (t_loose : Int32) (t_place : Int32) (t_known_size : Int32) (t_known_values : Nat → Int32) (t_known_flags : Nat → Int32) (t_known_order : Nat → Int32) (q1_size : Int32) (q1_cells : Nat → Int32) (x2 : Int32) (x3 : Int32) (o : Int32 × Int32 × (Nat → Int32) × (Nat → Int32) × (Nat → Int32)) (he : f_TextReader_endOfName n_q1_cells t_loose t_place t_known_size t_known_values t_known_flags t_known_order q1_size q1_cells x2 x3 = some o) : Met l y_TextReader_endOfName (Cond.code y_TextReader_endOfName b_TextReader_endOfName 6 (some .int) :: GW) rm_TextReader_endOfName (KPc D kk st [.ref a_t, .ref a_q1, .int x2, .int x3] [(a_t, .inr (8, [.ref a_t_known, .ref a_t_nest, .int t_loose, .int t_place])), (a_t_known, .inr (7, [.ref a_t_known_values, .ref a_t_known_flags, .ref a_t_known_order, .int t_known_size])), (a_t_known_values, .inl (kk 0, 14, .inl t_known_values)), (a_t_known_flags, .inl (kk 2, 14, .inl t_known_flags)), (a_t_known_order, .inl (kk 0, 14, .inl t_known_order)), (a_q1, .inr (1, [.ref a_q1_cells, .int q1_size])), (a_q1_cells, .inl (kk 1, n_q1_cells, .inl q1_cells))] sz) (KQi D kk o.1 [(a_t, .inr (8, [.ref a_t_known, .ref a_t_nest, .int t_loose, .int t_place])), (a_t_known, .inr (7, [.ref a_t_known_values, .ref a_t_known_flags, .ref a_t_known_order, .int o.2.1])), (a_t_known_values, .inl (kk 0, 14, .inl o.2.2.1)), (a_t_known_flags, .inl (kk 2, 14, .inl o.2.2.2.1)), (a_t_known_order, .inl (kk 0, 14, .inl o.2.2.2.2)), (a_q1, .inr (1, [.ref a_q1_cells, .int q1_size])), (a_q1_cells, .inl (kk 1, n_q1_cells, .inl q1_cells))] (va_A [(a_t, .inr (8, [.ref a_t_known, .ref a_t_nest, .int t_loose, .int t_place])), (a_t_known, .inr (7, [.ref a_t_known_values, .ref a_t_known_flags, .ref a_t_known_order, .int t_known_size])), (a_t_known_values, .inl (kk 0, 14, .inl t_known_values)), (a_t_known_flags, .inl (kk 2, 14, .inl t_known_flags)), (a_t_known_order, .inl (kk 0, 14, .inl t_known_order)), (a_q1, .inr (1, [.ref a_q1_cells, .int q1_size])), (a_q1_cells, .inl (kk 1, n_q1_cells, .inl q1_cells))] sz)) 0 0 (va_A [(a_t, .inr (8, [.ref a_t_known, .ref a_t_nest, .int t_loose, .int t_place])), (a_t_known, .inr (7, [.ref a_t_known_values, .ref a_t_known_flags, .ref a_t_known_order, .int t_known_size])), (a_t_known_values, .inl (kk 0, 14, .inl t_known_values)), (a_t_known_flags, .inl (kk 2, 14, .inl t_known_flags)), (a_t_known_order, .inl (kk 0, 14, .inl t_known_order)), (a_q1, .inr (1, [.ref a_q1_cells, .int q1_size])), (a_q1_cells, .inl (kk 1, n_q1_cells, .inl q1_cells))] sz) := by
  refine k_start (Qc := fun A => KQi D kk o.1 [(a_t, .inr (8, [.ref a_t_known, .ref a_t_nest, .int t_loose, .int t_place])), (a_t_known, .inr (7, [.ref a_t_known_values, .ref a_t_known_flags, .ref a_t_known_order, .int o.2.1])), (a_t_known_values, .inl (kk 0, 14, .inl o.2.2.1)), (a_t_known_flags, .inl (kk 2, 14, .inl o.2.2.2.1)), (a_t_known_order, .inl (kk 0, 14, .inl o.2.2.2.2)), (a_q1, .inr (1, [.ref a_q1_cells, .int q1_size])), (a_q1_cells, .inl (kk 1, n_q1_cells, .inl q1_cells))] A) (by decide) (Nat.le_of_ble_eq_true rfl) ?_
  intro p e s m below meth c A ls S hnm hr hlk hA X hP hD hS hl
  have hl : lv_has ls 6 [(0, .ref a_t), (1, .ref a_q1), (2, .int x2), (3, .int x3)] := hl
  have hx := S.1
  have hb := S.2.1
  unfold f_TextReader_endOfName at he
  refine lv_iload_n hx hb d_TextReader_endOfName_0 rfl (lv_at hl 2 rfl) ?_
  obtain ⟨u1, e2, he⟩ := ih_b he
  refine k_io (r_S (As := [.int x2]) S X hA hP hD hS (c_Names_first l D kk st _ x2 u1 e2) gm_3_94 gm_3_206 gm_3_93 gm_1_19 ⟨rfl, rfl, by decide, by decide⟩ kd_Names_first [] rfl rfl rfl rfl hl.1 rfl (Nat.le_of_ble_eq_true rfl) d_TextReader_endOfName_1 ⟨Nat.zero_le _, Nat.zero_le _⟩) hA hP hD hS [] rfl (fun H locs hP hS => ?_)
  refine lv_istore hx hb d_TextReader_endOfName_4 hl (by decide) rfl (fun ls hl => ?_)
  have hl : lv_has ls 6 [(4, .int u1), (0, .ref a_t), (1, .ref a_q1), (2, .int x2), (3, .int x3)] := hl
  obtain ⟨u9, e10, he⟩ := ih_b he
  have hl : lv_has ls 6 [(0, .ref a_t), (1, .ref a_q1), (2, .int x2), (3, .int x3), (4, .int u1)] := lv_sub hl [1, 2, 3, 4, 0] rfl
  rcases u9 with o11 | v12
  · have he := sel_l he
    cases he
    exact w_TextReader_endOfName_6 a_t a_t_known a_t_known_values a_t_known_flags a_t_known_order a_q1 a_q1_cells a_t_nest n_q1_cells t_loose t_place q1_size q1_cells x2 x3 S hr hlk hA X FU u1 t_known_size t_known_values t_known_flags t_known_order _ _ _ ls e10 hl hP hD hS (fun o h => by cases h; rfl) (fun v h => by cases h)
  · have he := sel_r he
    refine w_TextReader_endOfName_6 a_t a_t_known a_t_known_values a_t_known_flags a_t_known_order a_q1 a_q1_cells a_t_nest n_q1_cells t_loose t_place q1_size q1_cells x2 x3 S hr hlk hA X FU u1 t_known_size t_known_values t_known_flags t_known_order _ _ _ ls e10 hl hP hD hS (fun o h => by cases h) (fun v h H locs ls hl hP hD hS => ?_)
    have h := Sum.inr.inj h
    subst h
    refine lv_iconst (v := (-1 : Int32)) hx hb d_TextReader_endOfName_48 (by decide) ?_
    cases he
    exact k_ire hx hb hr hlk X hP hD hS d_TextReader_endOfName_49
abbrev rm_TextReader_endOfOffset : Room := { frames := 2, cells := 0, slots := 0, locals := 45 }
set_option maxHeartbeats 4000000 in
set_option maxRecDepth 100000 in
theorem w_TextReader_endOfOffset_137 {p : Program} {l : Launch} {e : Env} {s : State} {m : MethodId} {args : Array Value} {below : List Frame} {meth : Method} {c : Code} {A : Nat → Prop} {D : va_G} {kk : Nat → ClassId} {st : Nat → Nat} (a_t a_t_known a_t_known_values a_t_known_flags a_t_known_order a_q1 a_q1_cells a_t_nest : Nat) (n_q1_cells : Nat) (t_loose : Int32) (t_place : Int32) (t_known_size : Int32) (t_known_values : Nat → Int32) (t_known_flags : Nat → Int32) (t_known_order : Nat → Int32) (q1_size : Int32) (q1_cells : Nat → Int32) (x4 : Int32) (x5 : Int32) (x6 : Int32) (o : Int32 × Int32 × (Nat → Int32) × (Nat → Int32) × (Nat → Int32)) (S : CallFix p m c b_TextReader_endOfOffset 8 s args GW y_TextReader_endOfOffset.cls) (hr : meth.sig.returnType = (some .int)) (hlk : meth.locks = false) (hA : ∀ q, s.heap.size ≤ q → A q) (X : KX D kk st A s) (H : Heap) (locs : List Loc) (ls : Array Slot) (he : jn_TextReader_endOfOffset_137 n_q1_cells t_loose t_place t_known_size t_known_values t_known_flags t_known_order q1_size q1_cells x4 x5 x6 = some o) (hl : lv_has ls 8 [(0, .ref a_t), (1, .ref a_q1), (4, .int x4), (5, .int x5), (6, .int x6)]) (hP : va_P D classes [(a_t, .inr (8, [.ref a_t_known, .ref a_t_nest, .int t_loose, .int t_place])), (a_t_known, .inr (7, [.ref a_t_known_values, .ref a_t_known_flags, .ref a_t_known_order, .int t_known_size])), (a_t_known_values, .inl (kk 0, 14, .inl t_known_values)), (a_t_known_flags, .inl (kk 2, 14, .inl t_known_flags)), (a_t_known_order, .inl (kk 0, 14, .inl t_known_order)), (a_q1, .inr (1, [.ref a_q1_cells, .int q1_size])), (a_q1_cells, .inl (kk 1, n_q1_cells, .inl q1_cells))] H) (hD : va_D A [(a_t, .inr (8, [.ref a_t_known, .ref a_t_nest, .int t_loose, .int t_place])), (a_t_known, .inr (7, [.ref a_t_known_values, .ref a_t_known_flags, .ref a_t_known_order, .int t_known_size])), (a_t_known_values, .inl (kk 0, 14, .inl t_known_values)), (a_t_known_flags, .inl (kk 2, 14, .inl t_known_flags)), (a_t_known_order, .inl (kk 0, 14, .inl t_known_order)), (a_q1, .inr (1, [.ref a_q1_cells, .int q1_size])), (a_q1_cells, .inl (kk 1, n_q1_cells, .inl q1_cells))]) (hS : va_S A s.heap H locs) : W p l e rm_TextReader_endOfOffset s m args below meth c H locs 0 0 (MQ below (KQi D kk o.1 [(a_t, .inr (8, [.ref a_t_known, .ref a_t_nest, .int t_loose, .int t_place])), (a_t_known, .inr (7, [.ref a_t_known_values, .ref a_t_known_flags, .ref a_t_known_order, .int o.2.1])), (a_t_known_values, .inl (kk 0, 14, .inl o.2.2.1)), (a_t_known_flags, .inl (kk 2, 14, .inl o.2.2.2.1)), (a_t_known_order, .inl (kk 0, 14, .inl o.2.2.2.2)), (a_q1, .inr (1, [.ref a_q1_cells, .int q1_size])), (a_q1_cells, .inl (kk 1, n_q1_cells, .inl q1_cells))] A) args s 0 0 A) (F0 m 137 ls []) := by
  have hx := S.1
  have hb := S.2.1
  unfold jn_TextReader_endOfOffset_137 at he
  refine lv_bipush (v := (60 : Int32)) hx hb d_TextReader_endOfOffset_137 (by decide) ?_
  refine lv_aload_n hx hb d_TextReader_endOfOffset_139 rfl (lv_at hl 1 rfl) ?_
  refine lv_aload_n hx hb d_TextReader_endOfOffset_140 rfl (lv_at hl 0 rfl) ?_
  refine k_get S X us_TextReader hP 0 rfl rfl 3 (by decide) gm_1_156 rfl d_TextReader_endOfOffset_141 ?_
  refine lv_iconst (v := (1 : Int32)) hx hb d_TextReader_endOfOffset_144 (by decide) ?_
  refine lv_iadd hx hb d_TextReader_endOfOffset_145 ?_
  refine lv_iconst (v := (2 : Int32)) hx hb d_TextReader_endOfOffset_146 (by decide) ?_
  obtain ⟨u7, e8, he⟩ := ih_b he
  refine k_io (r_V (As := [.int (t_place + (1 : Int32)), .int (2 : Int32)]) S X hA hP hD hS (c_Row_number l D kk st a_q1 a_q1_cells _ n_q1_cells q1_size q1_cells (t_place + (1 : Int32)) (2 : Int32) u7 e8) gm_3_234 gm_3_231 gm_3_232 gm_3_233 gm_1_2 ⟨rfl, rfl, by decide, by decide⟩ kd_Row_number [5, 6] rfl rfl rfl 5 1 rfl rfl rfl rfl hl.1 rfl (Nat.le_of_ble_eq_true rfl) d_TextReader_endOfOffset_147 ⟨Nat.zero_le _, Nat.zero_le _⟩) hA hP hD hS [5, 6] rfl (fun H locs hP hS => ?_)
  refine lv_imul hx hb d_TextReader_endOfOffset_150 ?_
  refine lv_iload hx hb d_TextReader_endOfOffset_151 (lv_at hl 4 rfl) ?_
  refine lv_iadd hx hb d_TextReader_endOfOffset_153 ?_
  refine lv_istore hx hb d_TextReader_endOfOffset_154 hl (by decide) rfl (fun ls hl => ?_)
  have hl : lv_has ls 8 [(7, .int (((60 : Int32) * u7) + x6)), (0, .ref a_t), (1, .ref a_q1), (4, .int x4), (5, .int x5), (6, .int x6)] := hl
  refine lv_iload hx hb d_TextReader_endOfOffset_156 (lv_at hl 5 rfl) ?_
  refine lv_bipush (v := (59 : Int32)) hx hb d_TextReader_endOfOffset_158 (by decide) ?_
  refine lv_icmp_gt (tgt := 171) hx hb d_TextReader_endOfOffset_160 rfl (fun hc => ?_) (fun hc => ?_)
  · have he := ih_t hc he
    refine lv_iconst (v := (-1 : Int32)) hx hb d_TextReader_endOfOffset_171 (by decide) ?_
    cases he
    exact k_ire hx hb hr hlk X hP hD hS d_TextReader_endOfOffset_172
  · have he := ih_f hc he
    refine lv_iload hx hb d_TextReader_endOfOffset_163 (lv_at hl 0 rfl) ?_
    refine lv_sipush (v := (1080 : Int32)) hx hb d_TextReader_endOfOffset_165 (by decide) ?_
    refine lv_icmp_le (tgt := 173) hx hb d_TextReader_endOfOffset_168 rfl (fun hc => ?_) (fun hc => ?_)
    · have he := ih_t hc he
      refine lv_aload_n hx hb d_TextReader_endOfOffset_173 rfl (lv_at hl 1 rfl) ?_
      refine lv_bipush (v := (13 : Int32)) hx hb d_TextReader_endOfOffset_174 (by decide) ?_
      refine lv_iload hx hb d_TextReader_endOfOffset_176 (lv_at hl 3 rfl) ?_
      refine lv_bipush (v := (45 : Int32)) hx hb d_TextReader_endOfOffset_178 (by decide) ?_
      refine lv_icmp_ne (tgt := 189) hx hb d_TextReader_endOfOffset_180 rfl (fun hc => ?_) (fun hc => ?_)
      · have he := ih_f hc he
        refine lv_iload hx hb d_TextReader_endOfOffset_189 (lv_at hl 0 rfl) ?_
        refine lv_iload hx hb d_TextReader_endOfOffset_191 (lv_at hl 4 rfl) ?_
        obtain ⟨u9, e10, he⟩ := ih_b he
        refine k_i (wr := [(a_q1, .inr (1, [.ref a_q1_cells, .int q1_size])), (a_q1_cells, .inl (kk 1, n_q1_cells, .inl q1_cells))]) (w1 := [(a_t, .inr (8, [.ref a_t_known, .ref a_t_nest, .int t_loose, .int t_place])), (a_t_known, .inr (7, [.ref a_t_known_values, .ref a_t_known_flags, .ref a_t_known_order, .int u9.2.1])), (a_t_known_values, .inl (kk 0, 14, .inl u9.2.2.1)), (a_t_known_flags, .inl (kk 2, 14, .inl u9.2.2.2.1)), (a_t_known_order, .inl (kk 0, 14, .inl u9.2.2.2.2))]) (w2 := [(a_t, .inr (8, [.ref a_t_known, .ref a_t_nest, .int t_loose, .int t_place])), (a_t_known, .inr (7, [.ref a_t_known_values, .ref a_t_known_flags, .ref a_t_known_order, .int u9.2.1])), (a_t_known_values, .inl (kk 0, 14, .inl u9.2.2.1)), (a_t_known_flags, .inl (kk 2, 14, .inl u9.2.2.2.1)), (a_t_known_order, .inl (kk 0, 14, .inl u9.2.2.2.2)), (a_q1, .inr (1, [.ref a_q1_cells, .int q1_size])), (a_q1_cells, .inl (kk 1, n_q1_cells, .inl q1_cells))]) (r_V (As := [.int (13 : Int32), .int (((60 : Int32) * u7) + x6), .int x5]) S X hA hP hD hS (c_TextReader_endWith l D kk st a_t a_t_known a_t_known_values a_t_known_flags a_t_known_order a_t_nest _ t_loose t_place t_known_size t_known_values t_known_flags t_known_order (13 : Int32) (((60 : Int32) * u7) + x6) x5 u9 e10) gm_3_218 gm_3_215 gm_3_217 gm_p2_3 gm_1_7 ⟨rfl, rfl, by decide, by decide⟩ kd_TextReader_endWith [0, 1, 2, 3, 4] rfl rfl rfl 0 8 rfl rfl rfl rfl hl.1 rfl (Nat.le_of_ble_eq_true rfl) d_TextReader_endOfOffset_193 ⟨Nat.zero_le _, Nat.zero_le _⟩) hA hP hD hS [0, 1, 2, 3, 4] [5, 6] [2, 3, 4, 5, 6, 0, 1] rfl rfl rfl (by decide) rfl rfl rfl (fun H locs hP hD hS => ?_)
        cases he
        exact k_ire hx hb hr hlk X hP hD hS d_TextReader_endOfOffset_196
      · have he := ih_t hc he
        refine lv_iload hx hb d_TextReader_endOfOffset_183 (lv_at hl 0 rfl) ?_
        refine lv_ineg hx hb d_TextReader_endOfOffset_185 ?_
        refine lv_goto (tgt := 191) hx hb d_TextReader_endOfOffset_186 rfl ?_
        refine lv_iload hx hb d_TextReader_endOfOffset_191 (lv_at hl 4 rfl) ?_
        obtain ⟨u11, e12, he⟩ := ih_b he
        refine k_i (wr := [(a_q1, .inr (1, [.ref a_q1_cells, .int q1_size])), (a_q1_cells, .inl (kk 1, n_q1_cells, .inl q1_cells))]) (w1 := [(a_t, .inr (8, [.ref a_t_known, .ref a_t_nest, .int t_loose, .int t_place])), (a_t_known, .inr (7, [.ref a_t_known_values, .ref a_t_known_flags, .ref a_t_known_order, .int u11.2.1])), (a_t_known_values, .inl (kk 0, 14, .inl u11.2.2.1)), (a_t_known_flags, .inl (kk 2, 14, .inl u11.2.2.2.1)), (a_t_known_order, .inl (kk 0, 14, .inl u11.2.2.2.2))]) (w2 := [(a_t, .inr (8, [.ref a_t_known, .ref a_t_nest, .int t_loose, .int t_place])), (a_t_known, .inr (7, [.ref a_t_known_values, .ref a_t_known_flags, .ref a_t_known_order, .int u11.2.1])), (a_t_known_values, .inl (kk 0, 14, .inl u11.2.2.1)), (a_t_known_flags, .inl (kk 2, 14, .inl u11.2.2.2.1)), (a_t_known_order, .inl (kk 0, 14, .inl u11.2.2.2.2)), (a_q1, .inr (1, [.ref a_q1_cells, .int q1_size])), (a_q1_cells, .inl (kk 1, n_q1_cells, .inl q1_cells))]) (r_V (As := [.int (13 : Int32), .int (-(((60 : Int32) * u7) + x6)), .int x5]) S X hA hP hD hS (c_TextReader_endWith l D kk st a_t a_t_known a_t_known_values a_t_known_flags a_t_known_order a_t_nest _ t_loose t_place t_known_size t_known_values t_known_flags t_known_order (13 : Int32) (-(((60 : Int32) * u7) + x6)) x5 u11 e12) gm_3_218 gm_3_215 gm_3_217 gm_p2_3 gm_1_7 ⟨rfl, rfl, by decide, by decide⟩ kd_TextReader_endWith [0, 1, 2, 3, 4] rfl rfl rfl 0 8 rfl rfl rfl rfl hl.1 rfl (Nat.le_of_ble_eq_true rfl) d_TextReader_endOfOffset_193 ⟨Nat.zero_le _, Nat.zero_le _⟩) hA hP hD hS [0, 1, 2, 3, 4] [5, 6] [2, 3, 4, 5, 6, 0, 1] rfl rfl rfl (by decide) rfl rfl rfl (fun H locs hP hD hS => ?_)
        cases he
        exact k_ire hx hb hr hlk X hP hD hS d_TextReader_endOfOffset_196
    · have he := ih_f hc he
      refine lv_iconst (v := (-1 : Int32)) hx hb d_TextReader_endOfOffset_171 (by decide) ?_
      cases he
      exact k_ire hx hb hr hlk X hP hD hS d_TextReader_endOfOffset_172
set_option maxHeartbeats 4000000 in
set_option maxRecDepth 100000 in
theorem w_TextReader_endOfOffset_101 {p : Program} {l : Launch} {e : Env} {s : State} {m : MethodId} {args : Array Value} {below : List Frame} {meth : Method} {c : Code} {A : Nat → Prop} {D : va_G} {kk : Nat → ClassId} {st : Nat → Nat} (a_t a_t_known a_t_known_values a_t_known_flags a_t_known_order a_q1 a_q1_cells a_t_nest : Nat) (n_q1_cells : Nat) (t_loose : Int32) (t_place : Int32) (t_known_size : Int32) (t_known_values : Nat → Int32) (t_known_flags : Nat → Int32) (t_known_order : Nat → Int32) (q1_size : Int32) (q1_cells : Nat → Int32) (x3 : Int32) (x4 : Int32) (x5 : Int32) (o : Int32 × Int32 × (Nat → Int32) × (Nat → Int32) × (Nat → Int32)) (S : CallFix p m c b_TextReader_endOfOffset 8 s args GW y_TextReader_endOfOffset.cls) (hr : meth.sig.returnType = (some .int)) (hlk : meth.locks = false) (hA : ∀ q, s.heap.size ≤ q → A q) (X : KX D kk st A s) (H : Heap) (locs : List Loc) (ls : Array Slot) (he : jn_TextReader_endOfOffset_101 n_q1_cells t_loose t_place t_known_size t_known_values t_known_flags t_known_order q1_size q1_cells x3 x4 x5 = some o) (hl : lv_has ls 8 [(0, .ref a_t), (1, .ref a_q1), (3, .int x3), (4, .int x4), (5, .int x5)]) (hP : va_P D classes [(a_t, .inr (8, [.ref a_t_known, .ref a_t_nest, .int t_loose, .int t_place])), (a_t_known, .inr (7, [.ref a_t_known_values, .ref a_t_known_flags, .ref a_t_known_order, .int t_known_size])), (a_t_known_values, .inl (kk 0, 14, .inl t_known_values)), (a_t_known_flags, .inl (kk 2, 14, .inl t_known_flags)), (a_t_known_order, .inl (kk 0, 14, .inl t_known_order)), (a_q1, .inr (1, [.ref a_q1_cells, .int q1_size])), (a_q1_cells, .inl (kk 1, n_q1_cells, .inl q1_cells))] H) (hD : va_D A [(a_t, .inr (8, [.ref a_t_known, .ref a_t_nest, .int t_loose, .int t_place])), (a_t_known, .inr (7, [.ref a_t_known_values, .ref a_t_known_flags, .ref a_t_known_order, .int t_known_size])), (a_t_known_values, .inl (kk 0, 14, .inl t_known_values)), (a_t_known_flags, .inl (kk 2, 14, .inl t_known_flags)), (a_t_known_order, .inl (kk 0, 14, .inl t_known_order)), (a_q1, .inr (1, [.ref a_q1_cells, .int q1_size])), (a_q1_cells, .inl (kk 1, n_q1_cells, .inl q1_cells))]) (hS : va_S A s.heap H locs) : W p l e rm_TextReader_endOfOffset s m args below meth c H locs 0 0 (MQ below (KQi D kk o.1 [(a_t, .inr (8, [.ref a_t_known, .ref a_t_nest, .int t_loose, .int t_place])), (a_t_known, .inr (7, [.ref a_t_known_values, .ref a_t_known_flags, .ref a_t_known_order, .int o.2.1])), (a_t_known_values, .inl (kk 0, 14, .inl o.2.2.1)), (a_t_known_flags, .inl (kk 2, 14, .inl o.2.2.2.1)), (a_t_known_order, .inl (kk 0, 14, .inl o.2.2.2.2)), (a_q1, .inr (1, [.ref a_q1_cells, .int q1_size])), (a_q1_cells, .inl (kk 1, n_q1_cells, .inl q1_cells))] A) args s 0 0 A) (F0 m 101 ls []) := by
  have hx := S.1
  have hb := S.2.1
  unfold jn_TextReader_endOfOffset_101 at he
  refine lv_iconst (v := (0 : Int32)) hx hb d_TextReader_endOfOffset_101 (by decide) ?_
  refine lv_istore hx hb d_TextReader_endOfOffset_102 hl (by decide) rfl (fun ls hl => ?_)
  have hl : lv_has ls 8 [(6, .int (0 : Int32)), (0, .ref a_t), (1, .ref a_q1), (3, .int x3), (4, .int x4), (5, .int x5)] := hl
  refine lv_aload_n hx hb d_TextReader_endOfOffset_104 rfl (lv_at hl 2 rfl) ?_
  refine lv_iload hx hb d_TextReader_endOfOffset_105 (lv_at hl 5 rfl) ?_
  refine lv_iconst (v := (2 : Int32)) hx hb d_TextReader_endOfOffset_107 (by decide) ?_
  obtain ⟨u5, e6, he⟩ := ih_b he
  refine k_io (r_V (As := [.int x5, .int (2 : Int32)]) S X hA hP hD hS (c_Row_digits l D kk st a_q1 a_q1_cells _ n_q1_cells q1_size q1_cells x5 (2 : Int32) u5 e6) gm_3_230 gm_3_227 gm_3_228 gm_3_229 gm_1_2 ⟨rfl, rfl, by decide, by decide⟩ kd_Row_digits [5, 6] rfl rfl rfl 5 1 rfl rfl rfl rfl hl.1 rfl (Nat.le_of_ble_eq_true rfl) d_TextReader_endOfOffset_108 ⟨Nat.zero_le _, Nat.zero_le _⟩) hA hP hD hS [5, 6] rfl (fun H locs hP hS => ?_)
  refine lv_iconst (v := (2 : Int32)) hx hb d_TextReader_endOfOffset_111 (by decide) ?_
  refine lv_icmp_ne (tgt := 130) hx hb d_TextReader_endOfOffset_112 rfl (fun hc => ?_) (fun hc => ?_)
  · have he := ih_f hc he
    refine lv_iload_n hx hb d_TextReader_endOfOffset_130 rfl (lv_at hl 3 rfl) ?_
    refine lv_iconst (v := (1 : Int32)) hx hb d_TextReader_endOfOffset_131 (by decide) ?_
    refine lv_icmp_eq (tgt := 137) hx hb d_TextReader_endOfOffset_132 rfl (fun hc => ?_) (fun hc => ?_)
    · have he := ih_t hc he
      have hl : lv_has ls 8 [(0, .ref a_t), (1, .ref a_q1), (4, .int x4), (5, .int x5), (6, .int (0 : Int32))] := lv_sub hl [1, 2, 4, 5, 0] rfl
      exact w_TextReader_endOfOffset_137 a_t a_t_known a_t_known_values a_t_known_flags a_t_known_order a_q1 a_q1_cells a_t_nest n_q1_cells t_loose t_place t_known_size t_known_values t_known_flags t_known_order q1_size q1_cells x4 x5 (0 : Int32) o S hr hlk hA X _ _ ls he hl hP hD hS
    · have he := ih_f hc he
      refine lv_iconst (v := (-1 : Int32)) hx hb d_TextReader_endOfOffset_135 (by decide) ?_
      cases he
      exact k_ire hx hb hr hlk X hP hD hS d_TextReader_endOfOffset_136
  · have he := ih_t hc he
    refine lv_aload_n hx hb d_TextReader_endOfOffset_115 rfl (lv_at hl 2 rfl) ?_
    refine lv_iload hx hb d_TextReader_endOfOffset_116 (lv_at hl 5 rfl) ?_
    refine lv_iconst (v := (2 : Int32)) hx hb d_TextReader_endOfOffset_118 (by decide) ?_
    obtain ⟨u13, e14, he⟩ := ih_b he
    refine k_io (r_V (As := [.int x5, .int (2 : Int32)]) S X hA hP hD hS (c_Row_number l D kk st a_q1 a_q1_cells _ n_q1_cells q1_size q1_cells x5 (2 : Int32) u13 e14) gm_3_234 gm_3_231 gm_3_232 gm_3_233 gm_1_2 ⟨rfl, rfl, by decide, by decide⟩ kd_Row_number [5, 6] rfl rfl rfl 5 1 rfl rfl rfl rfl hl.1 rfl (Nat.le_of_ble_eq_true rfl) d_TextReader_endOfOffset_119 ⟨Nat.zero_le _, Nat.zero_le _⟩) hA hP hD hS [5, 6] rfl (fun H locs hP hS => ?_)
    refine lv_istore hx hb d_TextReader_endOfOffset_122 hl (by decide) rfl (fun ls hl => ?_)
    have hl : lv_has ls 8 [(6, .int u13), (0, .ref a_t), (1, .ref a_q1), (3, .int x3), (4, .int x4), (5, .int x5)] := hl
    refine lv_iinc (k := 5) hx hb d_TextReader_endOfOffset_124 hl rfl (ii_ (v := (2 : Int32)) (by decide)) (by decide) rfl (fun ls hl => ?_)
    have hl : lv_has ls 8 [(5, .int (x5 + (2 : Int32))), (6, .int u13), (0, .ref a_t), (1, .ref a_q1), (3, .int x3), (4, .int x4)] := hl
    refine lv_goto (tgt := 137) hx hb d_TextReader_endOfOffset_127 rfl ?_
    have hl : lv_has ls 8 [(0, .ref a_t), (1, .ref a_q1), (4, .int x4), (5, .int (x5 + (2 : Int32))), (6, .int u13)] := lv_sub hl [2, 3, 5, 0, 1] rfl
    exact w_TextReader_endOfOffset_137 a_t a_t_known a_t_known_values a_t_known_flags a_t_known_order a_q1 a_q1_cells a_t_nest n_q1_cells t_loose t_place t_known_size t_known_values t_known_flags t_known_order q1_size q1_cells x4 (x5 + (2 : Int32)) u13 o S hr hlk hA X _ _ ls he hl hP hD hS
set_option maxHeartbeats 4000000 in
set_option maxRecDepth 100000 in
theorem w_TextReader_endOfOffset_55 {p : Program} {l : Launch} {e : Env} {s : State} {m : MethodId} {args : Array Value} {below : List Frame} {meth : Method} {c : Code} {A : Nat → Prop} {D : va_G} {kk : Nat → ClassId} {st : Nat → Nat} (a_t a_t_known a_t_known_values a_t_known_flags a_t_known_order a_q1 a_q1_cells a_t_nest : Nat) (n_q1_cells : Nat) (t_loose : Int32) (t_place : Int32) (t_known_size : Int32) (t_known_values : Nat → Int32) (t_known_flags : Nat → Int32) (t_known_order : Nat → Int32) (q1_size : Int32) (q1_cells : Nat → Int32) (x3 : Int32) (x4 : Int32) (o : Int32 × Int32 × (Nat → Int32) × (Nat → Int32) × (Nat → Int32)) (S : CallFix p m c b_TextReader_endOfOffset 8 s args GW y_TextReader_endOfOffset.cls) (hr : meth.sig.returnType = (some .int)) (hlk : meth.locks = false) (hA : ∀ q, s.heap.size ≤ q → A q) (X : KX D kk st A s) (H : Heap) (locs : List Loc) (ls : Array Slot) (he : jn_TextReader_endOfOffset_55 n_q1_cells t_loose t_place t_known_size t_known_values t_known_flags t_known_order q1_size q1_cells x3 x4 = some o) (hl : lv_has ls 8 [(0, .ref a_t), (1, .ref a_q1), (3, .int x3), (4, .int x4)]) (hP : va_P D classes [(a_t, .inr (8, [.ref a_t_known, .ref a_t_nest, .int t_loose, .int t_place])), (a_t_known, .inr (7, [.ref a_t_known_values, .ref a_t_known_flags, .ref a_t_known_order, .int t_known_size])), (a_t_known_values, .inl (kk 0, 14, .inl t_known_values)), (a_t_known_flags, .inl (kk 2, 14, .inl t_known_flags)), (a_t_known_order, .inl (kk 0, 14, .inl t_known_order)), (a_q1, .inr (1, [.ref a_q1_cells, .int q1_size])), (a_q1_cells, .inl (kk 1, n_q1_cells, .inl q1_cells))] H) (hD : va_D A [(a_t, .inr (8, [.ref a_t_known, .ref a_t_nest, .int t_loose, .int t_place])), (a_t_known, .inr (7, [.ref a_t_known_values, .ref a_t_known_flags, .ref a_t_known_order, .int t_known_size])), (a_t_known_values, .inl (kk 0, 14, .inl t_known_values)), (a_t_known_flags, .inl (kk 2, 14, .inl t_known_flags)), (a_t_known_order, .inl (kk 0, 14, .inl t_known_order)), (a_q1, .inr (1, [.ref a_q1_cells, .int q1_size])), (a_q1_cells, .inl (kk 1, n_q1_cells, .inl q1_cells))]) (hS : va_S A s.heap H locs) : W p l e rm_TextReader_endOfOffset s m args below meth c H locs 0 0 (MQ below (KQi D kk o.1 [(a_t, .inr (8, [.ref a_t_known, .ref a_t_nest, .int t_loose, .int t_place])), (a_t_known, .inr (7, [.ref a_t_known_values, .ref a_t_known_flags, .ref a_t_known_order, .int o.2.1])), (a_t_known_values, .inl (kk 0, 14, .inl o.2.2.1)), (a_t_known_flags, .inl (kk 2, 14, .inl o.2.2.2.1)), (a_t_known_order, .inl (kk 0, 14, .inl o.2.2.2.2)), (a_q1, .inr (1, [.ref a_q1_cells, .int q1_size])), (a_q1_cells, .inl (kk 1, n_q1_cells, .inl q1_cells))] A) args s 0 0 A) (F0 m 55 ls []) := by
  have hx := S.1
  have hb := S.2.1
  unfold jn_TextReader_endOfOffset_55 at he
  refine lv_aload_n hx hb d_TextReader_endOfOffset_55 rfl (lv_at hl 1 rfl) ?_
  refine lv_aload_n hx hb d_TextReader_endOfOffset_56 rfl (lv_at hl 0 rfl) ?_
  refine k_get S X us_TextReader hP 0 rfl rfl 3 (by decide) gm_1_156 rfl d_TextReader_endOfOffset_57 ?_
  refine lv_iconst (v := (1 : Int32)) hx hb d_TextReader_endOfOffset_60 (by decide) ?_
  refine lv_iadd hx hb d_TextReader_endOfOffset_61 ?_
  refine lv_iconst (v := (2 : Int32)) hx hb d_TextReader_endOfOffset_62 (by decide) ?_
  obtain ⟨u3, e4, he⟩ := ih_b he
  refine k_io (r_V (As := [.int (t_place + (1 : Int32)), .int (2 : Int32)]) S X hA hP hD hS (c_Row_digits l D kk st a_q1 a_q1_cells _ n_q1_cells q1_size q1_cells (t_place + (1 : Int32)) (2 : Int32) u3 e4) gm_3_230 gm_3_227 gm_3_228 gm_3_229 gm_1_2 ⟨rfl, rfl, by decide, by decide⟩ kd_Row_digits [5, 6] rfl rfl rfl 5 1 rfl rfl rfl rfl hl.1 rfl (Nat.le_of_ble_eq_true rfl) d_TextReader_endOfOffset_63 ⟨Nat.zero_le _, Nat.zero_le _⟩) hA hP hD hS [5, 6] rfl (fun H locs hP hS => ?_)
  refine lv_iconst (v := (2 : Int32)) hx hb d_TextReader_endOfOffset_66 (by decide) ?_
  refine lv_icmp_ge (tgt := 72) hx hb d_TextReader_endOfOffset_67 rfl (fun hc => ?_) (fun hc => ?_)
  · have he := ih_t hc he
    refine lv_aload_n hx hb d_TextReader_endOfOffset_72 rfl (lv_at hl 0 rfl) ?_
    refine k_get S X us_TextReader hP 0 rfl rfl 3 (by decide) gm_1_156 rfl d_TextReader_endOfOffset_73 ?_
    refine lv_iconst (v := (3 : Int32)) hx hb d_TextReader_endOfOffset_76 (by decide) ?_
    refine lv_iadd hx hb d_TextReader_endOfOffset_77 ?_
    refine lv_istore hx hb d_TextReader_endOfOffset_78 hl (by decide) rfl (fun ls hl => ?_)
    have hl : lv_has ls 8 [(5, .int (t_place + (3 : Int32))), (0, .ref a_t), (1, .ref a_q1), (3, .int x3), (4, .int x4)] := hl
    refine lv_iload_n hx hb d_TextReader_endOfOffset_80 rfl (lv_at hl 3 rfl) ?_
    refine lv_iconst (v := (3 : Int32)) hx hb d_TextReader_endOfOffset_81 (by decide) ?_
    refine lv_icmp_ne (tgt := 101) hx hb d_TextReader_endOfOffset_82 rfl (fun hc => ?_) (fun hc => ?_)
    · have he := ih_f hc he
      have hl : lv_has ls 8 [(0, .ref a_t), (1, .ref a_q1), (3, .int x3), (4, .int x4), (5, .int (t_place + (3 : Int32)))] := lv_sub hl [1, 2, 3, 4, 0] rfl
      exact w_TextReader_endOfOffset_101 a_t a_t_known a_t_known_values a_t_known_flags a_t_known_order a_q1 a_q1_cells a_t_nest n_q1_cells t_loose t_place t_known_size t_known_values t_known_flags t_known_order q1_size q1_cells x3 x4 (t_place + (3 : Int32)) o S hr hlk hA X _ _ ls he hl hP hD hS
    · have he := ih_t hc he
      refine lv_aload_n hx hb d_TextReader_endOfOffset_85 rfl (lv_at hl 2 rfl) ?_
      refine lv_iload hx hb d_TextReader_endOfOffset_86 (lv_at hl 0 rfl) ?_
      obtain ⟨u15, e16, he⟩ := ih_b he
      refine k_io (r_V (As := [.int (t_place + (3 : Int32))]) S X hA hP hD hS (c_Row_codeAt l D kk st a_q1 a_q1_cells _ n_q1_cells q1_size q1_cells (t_place + (3 : Int32)) u15 e16) gm_2_76 gm_3_193 gm_2_74 gm_2_75 gm_1_2 ⟨rfl, rfl, by decide, by decide⟩ kd_Row_codeAt [5, 6] rfl rfl rfl 5 1 rfl rfl rfl rfl hl.1 rfl (Nat.le_of_ble_eq_true rfl) d_TextReader_endOfOffset_88 ⟨Nat.zero_le _, Nat.zero_le _⟩) hA hP hD hS [5, 6] rfl (fun H locs hP hS => ?_)
      refine lv_bipush (v := (58 : Int32)) hx hb d_TextReader_endOfOffset_91 (by decide) ?_
      refine lv_icmp_eq (tgt := 98) hx hb d_TextReader_endOfOffset_93 rfl (fun hc => ?_) (fun hc => ?_)
      · have he := ih_t hc he
        refine lv_iinc (k := 0) hx hb d_TextReader_endOfOffset_98 hl rfl (ii_ (v := (1 : Int32)) (by decide)) (by decide) rfl (fun ls hl => ?_)
        have hl : lv_has ls 8 [(5, .int ((t_place + (3 : Int32)) + (1 : Int32))), (0, .ref a_t), (1, .ref a_q1), (3, .int x3), (4, .int x4)] := hl
        have hl : lv_has ls 8 [(0, .ref a_t), (1, .ref a_q1), (3, .int x3), (4, .int x4), (5, .int ((t_place + (3 : Int32)) + (1 : Int32)))] := lv_sub hl [1, 2, 3, 4, 0] rfl
        exact w_TextReader_endOfOffset_101 a_t a_t_known a_t_known_values a_t_known_flags a_t_known_order a_q1 a_q1_cells a_t_nest n_q1_cells t_loose t_place t_known_size t_known_values t_known_flags t_known_order q1_size q1_cells x3 x4 ((t_place + (3 : Int32)) + (1 : Int32)) o S hr hlk hA X _ _ ls he hl hP hD hS
      · have he := ih_f hc he
        refine lv_iconst (v := (-1 : Int32)) hx hb d_TextReader_endOfOffset_96 (by decide) ?_
        cases he
        exact k_ire hx hb hr hlk X hP hD hS d_TextReader_endOfOffset_97
  · have he := ih_f hc he
    refine lv_iconst (v := (-1 : Int32)) hx hb d_TextReader_endOfOffset_70 (by decide) ?_
    cases he
    exact k_ire hx hb hr hlk X hP hD hS d_TextReader_endOfOffset_71
set_option maxHeartbeats 4000000 in
set_option maxRecDepth 100000 in
theorem w_TextReader_endOfOffset_41 {p : Program} {l : Launch} {e : Env} {s : State} {m : MethodId} {args : Array Value} {below : List Frame} {meth : Method} {c : Code} {A : Nat → Prop} {D : va_G} {kk : Nat → ClassId} {st : Nat → Nat} (a_t a_t_known a_t_known_values a_t_known_flags a_t_known_order a_q1 a_q1_cells a_t_nest : Nat) (n_q1_cells : Nat) (t_loose : Int32) (t_place : Int32) (t_known_size : Int32) (t_known_values : Nat → Int32) (t_known_flags : Nat → Int32) (t_known_order : Nat → Int32) (q1_size : Int32) (q1_cells : Nat → Int32) (x3 : Int32) (x4 : Int32) (o : Int32 × Int32 × (Nat → Int32) × (Nat → Int32) × (Nat → Int32)) (S : CallFix p m c b_TextReader_endOfOffset 8 s args GW y_TextReader_endOfOffset.cls) (hr : meth.sig.returnType = (some .int)) (hlk : meth.locks = false) (hA : ∀ q, s.heap.size ≤ q → A q) (X : KX D kk st A s) (H : Heap) (locs : List Loc) (ls : Array Slot) (he : jn_TextReader_endOfOffset_41 n_q1_cells t_loose t_place t_known_size t_known_values t_known_flags t_known_order q1_size q1_cells x3 x4 = some o) (hl : lv_has ls 8 [(0, .ref a_t), (1, .ref a_q1), (3, .int x3), (4, .int x4)]) (hP : va_P D classes [(a_t, .inr (8, [.ref a_t_known, .ref a_t_nest, .int t_loose, .int t_place])), (a_t_known, .inr (7, [.ref a_t_known_values, .ref a_t_known_flags, .ref a_t_known_order, .int t_known_size])), (a_t_known_values, .inl (kk 0, 14, .inl t_known_values)), (a_t_known_flags, .inl (kk 2, 14, .inl t_known_flags)), (a_t_known_order, .inl (kk 0, 14, .inl t_known_order)), (a_q1, .inr (1, [.ref a_q1_cells, .int q1_size])), (a_q1_cells, .inl (kk 1, n_q1_cells, .inl q1_cells))] H) (hD : va_D A [(a_t, .inr (8, [.ref a_t_known, .ref a_t_nest, .int t_loose, .int t_place])), (a_t_known, .inr (7, [.ref a_t_known_values, .ref a_t_known_flags, .ref a_t_known_order, .int t_known_size])), (a_t_known_values, .inl (kk 0, 14, .inl t_known_values)), (a_t_known_flags, .inl (kk 2, 14, .inl t_known_flags)), (a_t_known_order, .inl (kk 0, 14, .inl t_known_order)), (a_q1, .inr (1, [.ref a_q1_cells, .int q1_size])), (a_q1_cells, .inl (kk 1, n_q1_cells, .inl q1_cells))]) (hS : va_S A s.heap H locs) : W p l e rm_TextReader_endOfOffset s m args below meth c H locs 0 0 (MQ below (KQi D kk o.1 [(a_t, .inr (8, [.ref a_t_known, .ref a_t_nest, .int t_loose, .int t_place])), (a_t_known, .inr (7, [.ref a_t_known_values, .ref a_t_known_flags, .ref a_t_known_order, .int o.2.1])), (a_t_known_values, .inl (kk 0, 14, .inl o.2.2.1)), (a_t_known_flags, .inl (kk 2, 14, .inl o.2.2.2.1)), (a_t_known_order, .inl (kk 0, 14, .inl o.2.2.2.2)), (a_q1, .inr (1, [.ref a_q1_cells, .int q1_size])), (a_q1_cells, .inl (kk 1, n_q1_cells, .inl q1_cells))] A) args s 0 0 A) (F0 m 41 ls []) := by
  have hx := S.1
  have hb := S.2.1
  unfold jn_TextReader_endOfOffset_41 at he
  refine lv_iload hx hb d_TextReader_endOfOffset_41 (lv_at hl 3 rfl) ?_
  refine lv_bipush (v := (43 : Int32)) hx hb d_TextReader_endOfOffset_43 (by decide) ?_
  refine lv_icmp_eq (tgt := 55) hx hb d_TextReader_endOfOffset_45 rfl (fun hc => ?_) (fun hc => ?_)
  · have he := ih_t hc he
    have hl : lv_has ls 8 [(0, .ref a_t), (1, .ref a_q1), (3, .int x3), (4, .int x4)] := lv_sub hl [0, 1, 2, 3] rfl
    exact w_TextReader_endOfOffset_55 a_t a_t_known a_t_known_values a_t_known_flags a_t_known_order a_q1 a_q1_cells a_t_nest n_q1_cells t_loose t_place t_known_size t_known_values t_known_flags t_known_order q1_size q1_cells x3 x4 o S hr hlk hA X _ _ ls he hl hP hD hS
  · have he := ih_f hc he
    refine lv_iload hx hb d_TextReader_endOfOffset_48 (lv_at hl 3 rfl) ?_
    refine lv_bipush (v := (45 : Int32)) hx hb d_TextReader_endOfOffset_50 (by decide) ?_
    refine lv_icmp_ne (tgt := 70) hx hb d_TextReader_endOfOffset_52 rfl (fun hc => ?_) (fun hc => ?_)
    · have he := ih_f hc he
      refine lv_iconst (v := (-1 : Int32)) hx hb d_TextReader_endOfOffset_70 (by decide) ?_
      cases he
      exact k_ire hx hb hr hlk X hP hD hS d_TextReader_endOfOffset_71
    · have he := ih_t hc he
      have hl : lv_has ls 8 [(0, .ref a_t), (1, .ref a_q1), (3, .int x3), (4, .int x4)] := lv_sub hl [0, 1, 2, 3] rfl
      exact w_TextReader_endOfOffset_55 a_t a_t_known a_t_known_values a_t_known_flags a_t_known_order a_q1 a_q1_cells a_t_nest n_q1_cells t_loose t_place t_known_size t_known_values t_known_flags t_known_order q1_size q1_cells x3 x4 o S hr hlk hA X _ _ ls he hl hP hD hS
set_option maxHeartbeats 4000000 in
set_option maxRecDepth 100000 in
theorem c_TextReader_endOfOffset (l : Launch) (D : va_G) (kk : Nat → ClassId) (st : Nat → Nat) (a_t a_t_known a_t_known_values a_t_known_flags a_t_known_order a_q1 a_q1_cells a_t_nest : Nat) (sz : Nat) (n_q1_cells : Nat) (t_loose : Int32) (t_place : Int32) (t_known_size : Int32) (t_known_values : Nat → Int32) (t_known_flags : Nat → Int32) (t_known_order : Nat → Int32) (q1_size : Int32) (q1_cells : Nat → Int32) (x2 : Int32) (x3 : Int32) (o : Int32 × Int32 × (Nat → Int32) × (Nat → Int32) × (Nat → Int32)) (he : f_TextReader_endOfOffset n_q1_cells t_loose t_place t_known_size t_known_values t_known_flags t_known_order q1_size q1_cells x2 x3 = some o) : Met l y_TextReader_endOfOffset (Cond.code y_TextReader_endOfOffset b_TextReader_endOfOffset 8 (some .int) :: GW) rm_TextReader_endOfOffset (KPc D kk st [.ref a_t, .ref a_q1, .int x2, .int x3] [(a_t, .inr (8, [.ref a_t_known, .ref a_t_nest, .int t_loose, .int t_place])), (a_t_known, .inr (7, [.ref a_t_known_values, .ref a_t_known_flags, .ref a_t_known_order, .int t_known_size])), (a_t_known_values, .inl (kk 0, 14, .inl t_known_values)), (a_t_known_flags, .inl (kk 2, 14, .inl t_known_flags)), (a_t_known_order, .inl (kk 0, 14, .inl t_known_order)), (a_q1, .inr (1, [.ref a_q1_cells, .int q1_size])), (a_q1_cells, .inl (kk 1, n_q1_cells, .inl q1_cells))] sz) (KQi D kk o.1 [(a_t, .inr (8, [.ref a_t_known, .ref a_t_nest, .int t_loose, .int t_place])), (a_t_known, .inr (7, [.ref a_t_known_values, .ref a_t_known_flags, .ref a_t_known_order, .int o.2.1])), (a_t_known_values, .inl (kk 0, 14, .inl o.2.2.1)), (a_t_known_flags, .inl (kk 2, 14, .inl o.2.2.2.1)), (a_t_known_order, .inl (kk 0, 14, .inl o.2.2.2.2)), (a_q1, .inr (1, [.ref a_q1_cells, .int q1_size])), (a_q1_cells, .inl (kk 1, n_q1_cells, .inl q1_cells))] (va_A [(a_t, .inr (8, [.ref a_t_known, .ref a_t_nest, .int t_loose, .int t_place])), (a_t_known, .inr (7, [.ref a_t_known_values, .ref a_t_known_flags, .ref a_t_known_order, .int t_known_size])), (a_t_known_values, .inl (kk 0, 14, .inl t_known_values)), (a_t_known_flags, .inl (kk 2, 14, .inl t_known_flags)), (a_t_known_order, .inl (kk 0, 14, .inl t_known_order)), (a_q1, .inr (1, [.ref a_q1_cells, .int q1_size])), (a_q1_cells, .inl (kk 1, n_q1_cells, .inl q1_cells))] sz)) 0 0 (va_A [(a_t, .inr (8, [.ref a_t_known, .ref a_t_nest, .int t_loose, .int t_place])), (a_t_known, .inr (7, [.ref a_t_known_values, .ref a_t_known_flags, .ref a_t_known_order, .int t_known_size])), (a_t_known_values, .inl (kk 0, 14, .inl t_known_values)), (a_t_known_flags, .inl (kk 2, 14, .inl t_known_flags)), (a_t_known_order, .inl (kk 0, 14, .inl t_known_order)), (a_q1, .inr (1, [.ref a_q1_cells, .int q1_size])), (a_q1_cells, .inl (kk 1, n_q1_cells, .inl q1_cells))] sz) := by
  refine k_start (Qc := fun A => KQi D kk o.1 [(a_t, .inr (8, [.ref a_t_known, .ref a_t_nest, .int t_loose, .int t_place])), (a_t_known, .inr (7, [.ref a_t_known_values, .ref a_t_known_flags, .ref a_t_known_order, .int o.2.1])), (a_t_known_values, .inl (kk 0, 14, .inl o.2.2.1)), (a_t_known_flags, .inl (kk 2, 14, .inl o.2.2.2.1)), (a_t_known_order, .inl (kk 0, 14, .inl o.2.2.2.2)), (a_q1, .inr (1, [.ref a_q1_cells, .int q1_size])), (a_q1_cells, .inl (kk 1, n_q1_cells, .inl q1_cells))] A) (by decide) (Nat.le_of_ble_eq_true rfl) ?_
  intro p e s m below meth c A ls S hnm hr hlk hA X hP hD hS hl
  have hl : lv_has ls 8 [(0, .ref a_t), (1, .ref a_q1), (2, .int x2), (3, .int x3)] := hl
  have hx := S.1
  have hb := S.2.1
  unfold f_TextReader_endOfOffset at he
  refine lv_aload_n hx hb d_TextReader_endOfOffset_0 rfl (lv_at hl 1 rfl) ?_
  refine lv_aload_n hx hb d_TextReader_endOfOffset_1 rfl (lv_at hl 0 rfl) ?_
  refine k_get S X us_TextReader hP 0 rfl rfl 3 (by decide) gm_1_156 rfl d_TextReader_endOfOffset_2 ?_
  obtain ⟨u1, e2, he⟩ := ih_b he
  refine k_io (r_V (As := [.int t_place]) S X hA hP hD hS (c_Row_codeAt l D kk st a_q1 a_q1_cells _ n_q1_cells q1_size q1_cells t_place u1 e2) gm_2_76 gm_3_193 gm_2_74 gm_2_75 gm_1_2 ⟨rfl, rfl, by decide, by decide⟩ kd_Row_codeAt [5, 6] rfl rfl rfl 5 1 rfl rfl rfl rfl hl.1 rfl (Nat.le_of_ble_eq_true rfl) d_TextReader_endOfOffset_5 ⟨Nat.zero_le _, Nat.zero_le _⟩) hA hP hD hS [5, 6] rfl (fun H locs hP hS => ?_)
  refine lv_istore hx hb d_TextReader_endOfOffset_8 hl (by decide) rfl (fun ls hl => ?_)
  have hl : lv_has ls 8 [(4, .int u1), (0, .ref a_t), (1, .ref a_q1), (2, .int x2), (3, .int x3)] := hl
  refine lv_iload_n hx hb d_TextReader_endOfOffset_10 rfl (lv_at hl 3 rfl) ?_
  refine lv_bipush (v := (13 : Int32)) hx hb d_TextReader_endOfOffset_11 (by decide) ?_
  refine lv_icmp_ne (tgt := 41) hx hb d_TextReader_endOfOffset_13 rfl (fun hc => ?_) (fun hc => ?_)
  · have he := ih_f hc he
    have hl : lv_has ls 8 [(0, .ref a_t), (1, .ref a_q1), (3, .int x3), (4, .int u1)] := lv_sub hl [1, 2, 4, 0] rfl
    exact w_TextReader_endOfOffset_41 a_t a_t_known a_t_known_values a_t_known_flags a_t_known_order a_q1 a_q1_cells a_t_nest n_q1_cells t_loose t_place t_known_size t_known_values t_known_flags t_known_order q1_size q1_cells x3 u1 o S hr hlk hA X _ _ ls he hl hP hD hS
  · have he := ih_t hc he
    refine lv_aload_n hx hb d_TextReader_endOfOffset_16 rfl (lv_at hl 1 rfl) ?_
    refine lv_iload hx hb d_TextReader_endOfOffset_17 (lv_at hl 0 rfl) ?_
    refine lv_bipush (v := (90 : Int32)) hx hb d_TextReader_endOfOffset_19 (by decide) ?_
    obtain ⟨u17, e18, he⟩ := ih_b he
    refine k_io (r_V (As := [.int u1, .int (90 : Int32)]) S X hA hP hD hS (c_TextReader_isAlike l D kk st a_t a_t_known a_t_nest _ t_loose t_place u1 (90 : Int32) u17 e18) gm_3_197 gm_3_194 gm_3_196 gm_p2_0 gm_1_7 ⟨rfl, rfl, by decide, by decide⟩ kd_TextReader_isAlike [0] rfl rfl rfl 0 8 rfl rfl rfl rfl hl.1 rfl (Nat.le_of_ble_eq_true rfl) d_TextReader_endOfOffset_21 ⟨Nat.zero_le _, Nat.zero_le _⟩) hA hP hD hS [0] rfl (fun H locs hP hS => ?_)
    refine lv_if_eq (tgt := 41) hx hb d_TextReader_endOfOffset_24 rfl (fun hc => ?_) (fun hc => ?_)
    · have he := ih_t hc he
      have hl : lv_has ls 8 [(0, .ref a_t), (1, .ref a_q1), (3, .int x3), (4, .int u1)] := lv_sub hl [1, 2, 4, 0] rfl
      exact w_TextReader_endOfOffset_41 a_t a_t_known a_t_known_values a_t_known_flags a_t_known_order a_q1 a_q1_cells a_t_nest n_q1_cells t_loose t_place t_known_size t_known_values t_known_flags t_known_order q1_size q1_cells x3 u1 o S hr hlk hA X _ _ ls he hl hP hD hS
    · have he := ih_f hc he
      refine lv_aload_n hx hb d_TextReader_endOfOffset_27 rfl (lv_at hl 1 rfl) ?_
      refine lv_bipush (v := (13 : Int32)) hx hb d_TextReader_endOfOffset_28 (by decide) ?_
      refine lv_iconst (v := (0 : Int32)) hx hb d_TextReader_endOfOffset_30 (by decide) ?_
      refine lv_aload_n hx hb d_TextReader_endOfOffset_31 rfl (lv_at hl 1 rfl) ?_
      refine k_get S X us_TextReader hP 0 rfl rfl 3 (by decide) gm_1_156 rfl d_TextReader_endOfOffset_32 ?_
      refine lv_iconst (v := (1 : Int32)) hx hb d_TextReader_endOfOffset_35 (by decide) ?_
      refine lv_iadd hx hb d_TextReader_endOfOffset_36 ?_
      obtain ⟨u19, e20, he⟩ := ih_b he
      refine k_i (wr := [(a_q1, .inr (1, [.ref a_q1_cells, .int q1_size])), (a_q1_cells, .inl (kk 1, n_q1_cells, .inl q1_cells))]) (w1 := [(a_t, .inr (8, [.ref a_t_known, .ref a_t_nest, .int t_loose, .int t_place])), (a_t_known, .inr (7, [.ref a_t_known_values, .ref a_t_known_flags, .ref a_t_known_order, .int u19.2.1])), (a_t_known_values, .inl (kk 0, 14, .inl u19.2.2.1)), (a_t_known_flags, .inl (kk 2, 14, .inl u19.2.2.2.1)), (a_t_known_order, .inl (kk 0, 14, .inl u19.2.2.2.2))]) (w2 := [(a_t, .inr (8, [.ref a_t_known, .ref a_t_nest, .int t_loose, .int t_place])), (a_t_known, .inr (7, [.ref a_t_known_values, .ref a_t_known_flags, .ref a_t_known_order, .int u19.2.1])), (a_t_known_values, .inl (kk 0, 14, .inl u19.2.2.1)), (a_t_known_flags, .inl (kk 2, 14, .inl u19.2.2.2.1)), (a_t_known_order, .inl (kk 0, 14, .inl u19.2.2.2.2)), (a_q1, .inr (1, [.ref a_q1_cells, .int q1_size])), (a_q1_cells, .inl (kk 1, n_q1_cells, .inl q1_cells))]) (r_V (As := [.int (13 : Int32), .int (0 : Int32), .int (t_place + (1 : Int32))]) S X hA hP hD hS (c_TextReader_endWith l D kk st a_t a_t_known a_t_known_values a_t_known_flags a_t_known_order a_t_nest _ t_loose t_place t_known_size t_known_values t_known_flags t_known_order (13 : Int32) (0 : Int32) (t_place + (1 : Int32)) u19 e20) gm_3_218 gm_3_215 gm_3_217 gm_p2_3 gm_1_7 ⟨rfl, rfl, by decide, by decide⟩ kd_TextReader_endWith [0, 1, 2, 3, 4] rfl rfl rfl 0 8 rfl rfl rfl rfl hl.1 rfl (Nat.le_of_ble_eq_true rfl) d_TextReader_endOfOffset_37 ⟨Nat.zero_le _, Nat.zero_le _⟩) hA hP hD hS [0, 1, 2, 3, 4] [5, 6] [2, 3, 4, 5, 6, 0, 1] rfl rfl rfl (by decide) rfl rfl rfl (fun H locs hP hD hS => ?_)
      cases he
      exact k_ire hx hb hr hlk X hP hD hS d_TextReader_endOfOffset_40
abbrev rm_TextReader_endOfFixed : Room := { frames := 2, cells := 0, slots := 0, locals := 45 }
set_option maxHeartbeats 4000000 in
set_option maxRecDepth 100000 in
theorem w_TextReader_endOfFixed_48 {p : Program} {l : Launch} {e : Env} {s : State} {m : MethodId} {args : Array Value} {below : List Frame} {meth : Method} {c : Code} {Q : State → Prop} {A : Nat → Prop} {D : va_G} {kk : Nat → ClassId} {st : Nat → Nat} (a_t a_t_known a_t_known_values a_t_known_flags a_t_known_order a_q1 a_q1_cells a_t_nest : Nat) (n_q1_cells : Nat) (t_loose : Int32) (t_place : Int32) (t_known_size : Int32) (t_known_values : Nat → Int32) (t_known_flags : Nat → Int32) (t_known_order : Nat → Int32) (q1_size : Int32) (q1_cells : Nat → Int32) (x2 : Int32) (x3 : Int32) (S : CallFix p m c b_TextReader_endOfFixed 6 s args GW y_TextReader_endOfFixed.cls) (hr : meth.sig.returnType = (some .int)) (hlk : meth.locks = false) (hA : ∀ q, s.heap.size ≤ q → A q) (X : KX D kk st A s) : ∀ (n : Nat) (x4 : Int32) (x5 : Int32) (v : Int32 × Int32) (H : Heap) (locs : List Loc) (ls : Array Slot), lp_TextReader_endOfFixed_48 n_q1_cells x2 x3 n x4 x5 = some v → lv_has ls 6 [(0, .ref a_t), (2, .int x2), (3, .int x3), (4, .int x4), (5, .int x5)] → va_P D classes [(a_t, .inr (8, [.ref a_t_known, .ref a_t_nest, .int t_loose, .int t_place])), (a_t_known, .inr (7, [.ref a_t_known_values, .ref a_t_known_flags, .ref a_t_known_order, .int t_known_size])), (a_t_known_values, .inl (kk 0, 14, .inl t_known_values)), (a_t_known_flags, .inl (kk 2, 14, .inl t_known_flags)), (a_t_known_order, .inl (kk 0, 14, .inl t_known_order)), (a_q1, .inr (1, [.ref a_q1_cells, .int q1_size])), (a_q1_cells, .inl (kk 1, n_q1_cells, .inl q1_cells))] H → va_D A [(a_t, .inr (8, [.ref a_t_known, .ref a_t_nest, .int t_loose, .int t_place])), (a_t_known, .inr (7, [.ref a_t_known_values, .ref a_t_known_flags, .ref a_t_known_order, .int t_known_size])), (a_t_known_values, .inl (kk 0, 14, .inl t_known_values)), (a_t_known_flags, .inl (kk 2, 14, .inl t_known_flags)), (a_t_known_order, .inl (kk 0, 14, .inl t_known_order)), (a_q1, .inr (1, [.ref a_q1_cells, .int q1_size])), (a_q1_cells, .inl (kk 1, n_q1_cells, .inl q1_cells))] → va_S A s.heap H locs → (∀ (H : Heap) (locs : List Loc) (ls : Array Slot), lv_has ls 6 [(0, .ref a_t), (2, .int x2), (3, .int x3), (4, .int v.1), (5, .int v.2)] → va_P D classes [(a_t, .inr (8, [.ref a_t_known, .ref a_t_nest, .int t_loose, .int t_place])), (a_t_known, .inr (7, [.ref a_t_known_values, .ref a_t_known_flags, .ref a_t_known_order, .int t_known_size])), (a_t_known_values, .inl (kk 0, 14, .inl t_known_values)), (a_t_known_flags, .inl (kk 2, 14, .inl t_known_flags)), (a_t_known_order, .inl (kk 0, 14, .inl t_known_order)), (a_q1, .inr (1, [.ref a_q1_cells, .int q1_size])), (a_q1_cells, .inl (kk 1, n_q1_cells, .inl q1_cells))] H → va_D A [(a_t, .inr (8, [.ref a_t_known, .ref a_t_nest, .int t_loose, .int t_place])), (a_t_known, .inr (7, [.ref a_t_known_values, .ref a_t_known_flags, .ref a_t_known_order, .int t_known_size])), (a_t_known_values, .inl (kk 0, 14, .inl t_known_values)), (a_t_known_flags, .inl (kk 2, 14, .inl t_known_flags)), (a_t_known_order, .inl (kk 0, 14, .inl t_known_order)), (a_q1, .inr (1, [.ref a_q1_cells, .int q1_size])), (a_q1_cells, .inl (kk 1, n_q1_cells, .inl q1_cells))] → va_S A s.heap H locs → W p l e rm_TextReader_endOfFixed s m args below meth c H locs 0 0 Q (F0 m 68 ls [])) → W p l e rm_TextReader_endOfFixed s m args below meth c H locs 0 0 Q (F0 m 48 ls []) := by
  intro n
  induction n with
  | zero =>
    intro x4 x5 v H locs ls he hl hP hD hS K
    exact ih_n he
  | succ n ih =>
    intro x4 x5 v H locs ls he hl hP hD hS K
    have hx := S.1
    have hb := S.2.1
    have he : st_TextReader_endOfFixed_48 n_q1_cells x2 x3 (lp_TextReader_endOfFixed_48 n_q1_cells x2 x3 n) x4 x5 = some v := he
    unfold st_TextReader_endOfFixed_48 at he
    refine lv_iload hx hb d_TextReader_endOfFixed_48 (lv_at hl 4 rfl) ?_
    refine lv_bipush (v := (9 : Int32)) hx hb d_TextReader_endOfFixed_50 (by decide) ?_
    refine lv_icmp_ge (tgt := 68) hx hb d_TextReader_endOfFixed_52 rfl (fun hc => ?_) (fun hc => ?_)
    · have he := ih_t hc he
      have hl : lv_has ls 6 [(0, .ref a_t), (2, .int x2), (3, .int x3), (4, .int x4), (5, .int x5)] := lv_sub hl [0, 1, 2, 3, 4] rfl
      cases he
      exact K _ _ _ hl hP hD hS
    · have he := ih_f hc he
      refine lv_iload hx hb d_TextReader_endOfFixed_55 (lv_at hl 3 rfl) ?_
      refine lv_bipush (v := (10 : Int32)) hx hb d_TextReader_endOfFixed_57 (by decide) ?_
      refine lv_imul hx hb d_TextReader_endOfFixed_59 ?_
      refine lv_istore hx hb d_TextReader_endOfFixed_60 hl (by decide) rfl (fun ls hl => ?_)
      have hl : lv_has ls 6 [(4, .int (x4 * (10 : Int32))), (0, .ref a_t), (2, .int x2), (3, .int x3), (5, .int x5)] := hl
      refine lv_iinc (k := 4) hx hb d_TextReader_endOfFixed_62 hl rfl (ii_ (v := (1 : Int32)) (by decide)) (by decide) rfl (fun ls hl => ?_)
      have hl : lv_has ls 6 [(5, .int (x5 + (1 : Int32))), (4, .int (x4 * (10 : Int32))), (0, .ref a_t), (2, .int x2), (3, .int x3)] := hl
      refine lv_goto (tgt := 48) hx hb d_TextReader_endOfFixed_65 rfl ?_
      have hl : lv_has ls 6 [(0, .ref a_t), (2, .int x2), (3, .int x3), (4, .int (x4 * (10 : Int32))), (5, .int (x5 + (1 : Int32)))] := lv_sub hl [2, 3, 4, 1, 0] rfl
      exact ih _ _ _ _ _ _ he hl hP hD hS K
set_option maxHeartbeats 4000000 in
set_option maxRecDepth 100000 in
theorem w_TextReader_endOfFixed_39 {p : Program} {l : Launch} {e : Env} {s : State} {m : MethodId} {args : Array Value} {below : List Frame} {meth : Method} {c : Code} {A : Nat → Prop} {D : va_G} {kk : Nat → ClassId} {st : Nat → Nat} (a_t a_t_known a_t_known_values a_t_known_flags a_t_known_order a_q1 a_q1_cells a_t_nest : Nat) (n_q1_cells : Nat) (t_loose : Int32) (t_place : Int32) (t_known_size : Int32) (t_known_values : Nat → Int32) (t_known_flags : Nat → Int32) (t_known_order : Nat → Int32) (q1_size : Int32) (q1_cells : Nat → Int32) (x2 : Int32) (x3 : Int32) (x4 : Int32) (o : Int32 × Int32 × (Nat → Int32) × (Nat → Int32) × (Nat → Int32)) (S : CallFix p m c b_TextReader_endOfFixed 6 s args GW y_TextReader_endOfFixed.cls) (hr : meth.sig.returnType = (some .int)) (hlk : meth.locks = false) (hA : ∀ q, s.heap.size ≤ q → A q) (X : KX D kk st A s) (H : Heap) (locs : List Loc) (ls : Array Slot) (he : jn_TextReader_endOfFixed_39 n_q1_cells t_place t_known_size t_known_values t_known_flags t_known_order q1_size q1_cells x2 x3 x4 = some o) (hl : lv_has ls 6 [(0, .ref a_t), (2, .int x2), (3, .int x3), (4, .int x4)]) (hP : va_P D classes [(a_t, .inr (8, [.ref a_t_known, .ref a_t_nest, .int t_loose, .int t_place])), (a_t_known, .inr (7, [.ref a_t_known_values, .ref a_t_known_flags, .ref a_t_known_order, .int t_known_size])), (a_t_known_values, .inl (kk 0, 14, .inl t_known_values)), (a_t_known_flags, .inl (kk 2, 14, .inl t_known_flags)), (a_t_known_order, .inl (kk 0, 14, .inl t_known_order)), (a_q1, .inr (1, [.ref a_q1_cells, .int q1_size])), (a_q1_cells, .inl (kk 1, n_q1_cells, .inl q1_cells))] H) (hD : va_D A [(a_t, .inr (8, [.ref a_t_known, .ref a_t_nest, .int t_loose, .int t_place])), (a_t_known, .inr (7, [.ref a_t_known_values, .ref a_t_known_flags, .ref a_t_known_order, .int t_known_size])), (a_t_known_values, .inl (kk 0, 14, .inl t_known_values)), (a_t_known_flags, .inl (kk 2, 14, .inl t_known_flags)), (a_t_known_order, .inl (kk 0, 14, .inl t_known_order)), (a_q1, .inr (1, [.ref a_q1_cells, .int q1_size])), (a_q1_cells, .inl (kk 1, n_q1_cells, .inl q1_cells))]) (hS : va_S A s.heap H locs) : W p l e rm_TextReader_endOfFixed s m args below meth c H locs 0 0 (MQ below (KQi D kk o.1 [(a_t, .inr (8, [.ref a_t_known, .ref a_t_nest, .int t_loose, .int t_place])), (a_t_known, .inr (7, [.ref a_t_known_values, .ref a_t_known_flags, .ref a_t_known_order, .int o.2.1])), (a_t_known_values, .inl (kk 0, 14, .inl o.2.2.1)), (a_t_known_flags, .inl (kk 2, 14, .inl o.2.2.2.1)), (a_t_known_order, .inl (kk 0, 14, .inl o.2.2.2.2)), (a_q1, .inr (1, [.ref a_q1_cells, .int q1_size])), (a_q1_cells, .inl (kk 1, n_q1_cells, .inl q1_cells))] A) args s 0 0 A) (F0 m 39 ls []) := by
  have hx := S.1
  have hb := S.2.1
  unfold jn_TextReader_endOfFixed_39 at he
  refine lv_iload_n hx hb d_TextReader_endOfFixed_39 rfl (lv_at hl 1 rfl) ?_
  refine lv_bipush (v := (12 : Int32)) hx hb d_TextReader_endOfFixed_40 (by decide) ?_
  refine lv_icmp_ne (tgt := 68) hx hb d_TextReader_endOfFixed_42 rfl (fun hc => ?_) (fun hc => ?_)
  · have he := ih_f hc he
    refine lv_aload_n hx hb d_TextReader_endOfFixed_68 rfl (lv_at hl 0 rfl) ?_
    refine lv_iload_n hx hb d_TextReader_endOfFixed_69 rfl (lv_at hl 1 rfl) ?_
    refine lv_iload hx hb d_TextReader_endOfFixed_70 (lv_at hl 3 rfl) ?_
    refine lv_aload_n hx hb d_TextReader_endOfFixed_72 rfl (lv_at hl 0 rfl) ?_
    refine k_get S X us_TextReader hP 0 rfl rfl 3 (by decide) gm_1_156 rfl d_TextReader_endOfFixed_73 ?_
    refine lv_iload_n hx hb d_TextReader_endOfFixed_76 rfl (lv_at hl 2 rfl) ?_
    refine lv_iadd hx hb d_TextReader_endOfFixed_77 ?_
    obtain ⟨u7, e8, he⟩ := ih_b he
    refine k_i (wr := [(a_q1, .inr (1, [.ref a_q1_cells, .int q1_size])), (a_q1_cells, .inl (kk 1, n_q1_cells, .inl q1_cells))]) (w1 := [(a_t, .inr (8, [.ref a_t_known, .ref a_t_nest, .int t_loose, .int t_place])), (a_t_known, .inr (7, [.ref a_t_known_values, .ref a_t_known_flags, .ref a_t_known_order, .int u7.2.1])), (a_t_known_values, .inl (kk 0, 14, .inl u7.2.2.1)), (a_t_known_flags, .inl (kk 2, 14, .inl u7.2.2.2.1)), (a_t_known_order, .inl (kk 0, 14, .inl u7.2.2.2.2))]) (w2 := [(a_t, .inr (8, [.ref a_t_known, .ref a_t_nest, .int t_loose, .int t_place])), (a_t_known, .inr (7, [.ref a_t_known_values, .ref a_t_known_flags, .ref a_t_known_order, .int u7.2.1])), (a_t_known_values, .inl (kk 0, 14, .inl u7.2.2.1)), (a_t_known_flags, .inl (kk 2, 14, .inl u7.2.2.2.1)), (a_t_known_order, .inl (kk 0, 14, .inl u7.2.2.2.2)), (a_q1, .inr (1, [.ref a_q1_cells, .int q1_size])), (a_q1_cells, .inl (kk 1, n_q1_cells, .inl q1_cells))]) (r_V (As := [.int x2, .int x4, .int (t_place + x3)]) S X hA hP hD hS (c_TextReader_endWith l D kk st a_t a_t_known a_t_known_values a_t_known_flags a_t_known_order a_t_nest _ t_loose t_place t_known_size t_known_values t_known_flags t_known_order x2 x4 (t_place + x3) u7 e8) gm_3_218 gm_3_215 gm_3_217 gm_p2_3 gm_1_7 ⟨rfl, rfl, by decide, by decide⟩ kd_TextReader_endWith [0, 1, 2, 3, 4] rfl rfl rfl 0 8 rfl rfl rfl rfl hl.1 rfl (Nat.le_of_ble_eq_true rfl) d_TextReader_endOfFixed_78 ⟨Nat.zero_le _, Nat.zero_le _⟩) hA hP hD hS [0, 1, 2, 3, 4] [5, 6] [2, 3, 4, 5, 6, 0, 1] rfl rfl rfl (by decide) rfl rfl rfl (fun H locs hP hD hS => ?_)
    cases he
    exact k_ire hx hb hr hlk X hP hD hS d_TextReader_endOfFixed_81
  · have he := ih_t hc he
    refine lv_iload_n hx hb d_TextReader_endOfFixed_45 rfl (lv_at hl 2 rfl) ?_
    refine lv_istore hx hb d_TextReader_endOfFixed_46 hl (by decide) rfl (fun ls hl => ?_)
    have hl : lv_has ls 6 [(5, .int x3), (0, .ref a_t), (2, .int x2), (3, .int x3), (4, .int x4)] := hl
    obtain ⟨u9, e10, he⟩ := ih_b he
    have hl : lv_has ls 6 [(0, .ref a_t), (2, .int x2), (3, .int x3), (4, .int x4), (5, .int x3)] := lv_sub hl [1, 2, 3, 4, 0] rfl
    refine w_TextReader_endOfFixed_48 a_t a_t_known a_t_known_values a_t_known_flags a_t_known_order a_q1 a_q1_cells a_t_nest n_q1_cells t_loose t_place t_known_size t_known_values t_known_flags t_known_order q1_size q1_cells x2 x3 S hr hlk hA X FU x4 x3 u9 _ _ ls e10 hl hP hD hS (fun H locs ls hl hP hD hS => ?_)
    refine lv_aload_n hx hb d_TextReader_endOfFixed_68 rfl (lv_at hl 0 rfl) ?_
    refine lv_iload_n hx hb d_TextReader_endOfFixed_69 rfl (lv_at hl 1 rfl) ?_
    refine lv_iload hx hb d_TextReader_endOfFixed_70 (lv_at hl 3 rfl) ?_
    refine lv_aload_n hx hb d_TextReader_endOfFixed_72 rfl (lv_at hl 0 rfl) ?_
    refine k_get S X us_TextReader hP 0 rfl rfl 3 (by decide) gm_1_156 rfl d_TextReader_endOfFixed_73 ?_
    refine lv_iload_n hx hb d_TextReader_endOfFixed_76 rfl (lv_at hl 2 rfl) ?_
    refine lv_iadd hx hb d_TextReader_endOfFixed_77 ?_
    obtain ⟨u11, e12, he⟩ := ih_b he
    refine k_i (wr := [(a_q1, .inr (1, [.ref a_q1_cells, .int q1_size])), (a_q1_cells, .inl (kk 1, n_q1_cells, .inl q1_cells))]) (w1 := [(a_t, .inr (8, [.ref a_t_known, .ref a_t_nest, .int t_loose, .int t_place])), (a_t_known, .inr (7, [.ref a_t_known_values, .ref a_t_known_flags, .ref a_t_known_order, .int u11.2.1])), (a_t_known_values, .inl (kk 0, 14, .inl u11.2.2.1)), (a_t_known_flags, .inl (kk 2, 14, .inl u11.2.2.2.1)), (a_t_known_order, .inl (kk 0, 14, .inl u11.2.2.2.2))]) (w2 := [(a_t, .inr (8, [.ref a_t_known, .ref a_t_nest, .int t_loose, .int t_place])), (a_t_known, .inr (7, [.ref a_t_known_values, .ref a_t_known_flags, .ref a_t_known_order, .int u11.2.1])), (a_t_known_values, .inl (kk 0, 14, .inl u11.2.2.1)), (a_t_known_flags, .inl (kk 2, 14, .inl u11.2.2.2.1)), (a_t_known_order, .inl (kk 0, 14, .inl u11.2.2.2.2)), (a_q1, .inr (1, [.ref a_q1_cells, .int q1_size])), (a_q1_cells, .inl (kk 1, n_q1_cells, .inl q1_cells))]) (r_V (As := [.int x2, .int u9.1, .int (t_place + x3)]) S X hA hP hD hS (c_TextReader_endWith l D kk st a_t a_t_known a_t_known_values a_t_known_flags a_t_known_order a_t_nest _ t_loose t_place t_known_size t_known_values t_known_flags t_known_order x2 u9.1 (t_place + x3) u11 e12) gm_3_218 gm_3_215 gm_3_217 gm_p2_3 gm_1_7 ⟨rfl, rfl, by decide, by decide⟩ kd_TextReader_endWith [0, 1, 2, 3, 4] rfl rfl rfl 0 8 rfl rfl rfl rfl hl.1 rfl (Nat.le_of_ble_eq_true rfl) d_TextReader_endOfFixed_78 ⟨Nat.zero_le _, Nat.zero_le _⟩) hA hP hD hS [0, 1, 2, 3, 4] [5, 6] [2, 3, 4, 5, 6, 0, 1] rfl rfl rfl (by decide) rfl rfl rfl (fun H locs hP hD hS => ?_)
    cases he
    exact k_ire hx hb hr hlk X hP hD hS d_TextReader_endOfFixed_81
set_option maxHeartbeats 4000000 in
set_option maxRecDepth 100000 in
theorem c_TextReader_endOfFixed (l : Launch) (D : va_G) (kk : Nat → ClassId) (st : Nat → Nat) (a_t a_t_known a_t_known_values a_t_known_flags a_t_known_order a_q1 a_q1_cells a_t_nest : Nat) (sz : Nat) (n_q1_cells : Nat) (t_loose : Int32) (t_place : Int32) (t_known_size : Int32) (t_known_values : Nat → Int32) (t_known_flags : Nat → Int32) (t_known_order : Nat → Int32) (q1_size : Int32) (q1_cells : Nat → Int32) (x2 : Int32) (x3 : Int32) (o : Int32 × Int32 × (Nat → Int32) × (Nat → Int32) × (Nat → Int32)) (he : f_TextReader_endOfFixed n_q1_cells t_place t_known_size t_known_values t_known_flags t_known_order q1_size q1_cells x2 x3 = some o) : Met l y_TextReader_endOfFixed (Cond.code y_TextReader_endOfFixed b_TextReader_endOfFixed 6 (some .int) :: GW) rm_TextReader_endOfFixed (KPc D kk st [.ref a_t, .ref a_q1, .int x2, .int x3] [(a_t, .inr (8, [.ref a_t_known, .ref a_t_nest, .int t_loose, .int t_place])), (a_t_known, .inr (7, [.ref a_t_known_values, .ref a_t_known_flags, .ref a_t_known_order, .int t_known_size])), (a_t_known_values, .inl (kk 0, 14, .inl t_known_values)), (a_t_known_flags, .inl (kk 2, 14, .inl t_known_flags)), (a_t_known_order, .inl (kk 0, 14, .inl t_known_order)), (a_q1, .inr (1, [.ref a_q1_cells, .int q1_size])), (a_q1_cells, .inl (kk 1, n_q1_cells, .inl q1_cells))] sz) (KQi D kk o.1 [(a_t, .inr (8, [.ref a_t_known, .ref a_t_nest, .int t_loose, .int t_place])), (a_t_known, .inr (7, [.ref a_t_known_values, .ref a_t_known_flags, .ref a_t_known_order, .int o.2.1])), (a_t_known_values, .inl (kk 0, 14, .inl o.2.2.1)), (a_t_known_flags, .inl (kk 2, 14, .inl o.2.2.2.1)), (a_t_known_order, .inl (kk 0, 14, .inl o.2.2.2.2)), (a_q1, .inr (1, [.ref a_q1_cells, .int q1_size])), (a_q1_cells, .inl (kk 1, n_q1_cells, .inl q1_cells))] (va_A [(a_t, .inr (8, [.ref a_t_known, .ref a_t_nest, .int t_loose, .int t_place])), (a_t_known, .inr (7, [.ref a_t_known_values, .ref a_t_known_flags, .ref a_t_known_order, .int t_known_size])), (a_t_known_values, .inl (kk 0, 14, .inl t_known_values)), (a_t_known_flags, .inl (kk 2, 14, .inl t_known_flags)), (a_t_known_order, .inl (kk 0, 14, .inl t_known_order)), (a_q1, .inr (1, [.ref a_q1_cells, .int q1_size])), (a_q1_cells, .inl (kk 1, n_q1_cells, .inl q1_cells))] sz)) 0 0 (va_A [(a_t, .inr (8, [.ref a_t_known, .ref a_t_nest, .int t_loose, .int t_place])), (a_t_known, .inr (7, [.ref a_t_known_values, .ref a_t_known_flags, .ref a_t_known_order, .int t_known_size])), (a_t_known_values, .inl (kk 0, 14, .inl t_known_values)), (a_t_known_flags, .inl (kk 2, 14, .inl t_known_flags)), (a_t_known_order, .inl (kk 0, 14, .inl t_known_order)), (a_q1, .inr (1, [.ref a_q1_cells, .int q1_size])), (a_q1_cells, .inl (kk 1, n_q1_cells, .inl q1_cells))] sz) := by
  refine k_start (Qc := fun A => KQi D kk o.1 [(a_t, .inr (8, [.ref a_t_known, .ref a_t_nest, .int t_loose, .int t_place])), (a_t_known, .inr (7, [.ref a_t_known_values, .ref a_t_known_flags, .ref a_t_known_order, .int o.2.1])), (a_t_known_values, .inl (kk 0, 14, .inl o.2.2.1)), (a_t_known_flags, .inl (kk 2, 14, .inl o.2.2.2.1)), (a_t_known_order, .inl (kk 0, 14, .inl o.2.2.2.2)), (a_q1, .inr (1, [.ref a_q1_cells, .int q1_size])), (a_q1_cells, .inl (kk 1, n_q1_cells, .inl q1_cells))] A) (by decide) (Nat.le_of_ble_eq_true rfl) ?_
  intro p e s m below meth c A ls S hnm hr hlk hA X hP hD hS hl
  have hl : lv_has ls 6 [(0, .ref a_t), (1, .ref a_q1), (2, .int x2), (3, .int x3)] := hl
  have hx := S.1
  have hb := S.2.1
  unfold f_TextReader_endOfFixed at he
  refine lv_aload_n hx hb d_TextReader_endOfFixed_0 rfl (lv_at hl 1 rfl) ?_
  refine lv_aload_n hx hb d_TextReader_endOfFixed_1 rfl (lv_at hl 0 rfl) ?_
  refine k_get S X us_TextReader hP 0 rfl rfl 3 (by decide) gm_1_156 rfl d_TextReader_endOfFixed_2 ?_
  refine lv_iload_n hx hb d_TextReader_endOfFixed_5 rfl (lv_at hl 3 rfl) ?_
  obtain ⟨u1, e2, he⟩ := ih_b he
  refine k_io (r_V (As := [.int t_place, .int x3]) S X hA hP hD hS (c_Row_digits l D kk st a_q1 a_q1_cells _ n_q1_cells q1_size q1_cells t_place x3 u1 e2) gm_3_230 gm_3_227 gm_3_228 gm_3_229 gm_1_2 ⟨rfl, rfl, by decide, by decide⟩ kd_Row_digits [5, 6] rfl rfl rfl 5 1 rfl rfl rfl rfl hl.1 rfl (Nat.le_of_ble_eq_true rfl) d_TextReader_endOfFixed_6 ⟨Nat.zero_le _, Nat.zero_le _⟩) hA hP hD hS [5, 6] rfl (fun H locs hP hS => ?_)
  refine lv_iload_n hx hb d_TextReader_endOfFixed_9 rfl (lv_at hl 3 rfl) ?_
  refine lv_icmp_ge (tgt := 15) hx hb d_TextReader_endOfFixed_10 rfl (fun hc => ?_) (fun hc => ?_)
  · have he := ih_t hc he
    refine lv_aload_n hx hb d_TextReader_endOfFixed_15 rfl (lv_at hl 1 rfl) ?_
    refine lv_aload_n hx hb d_TextReader_endOfFixed_16 rfl (lv_at hl 0 rfl) ?_
    refine k_get S X us_TextReader hP 0 rfl rfl 3 (by decide) gm_1_156 rfl d_TextReader_endOfFixed_17 ?_
    refine lv_iload_n hx hb d_TextReader_endOfFixed_20 rfl (lv_at hl 3 rfl) ?_
    obtain ⟨u3, e4, he⟩ := ih_b he
    refine k_io (r_V (As := [.int t_place, .int x3]) S X hA hP hD hS (c_Row_number l D kk st a_q1 a_q1_cells _ n_q1_cells q1_size q1_cells t_place x3 u3 e4) gm_3_234 gm_3_231 gm_3_232 gm_3_233 gm_1_2 ⟨rfl, rfl, by decide, by decide⟩ kd_Row_number [5, 6] rfl rfl rfl 5 1 rfl rfl rfl rfl hl.1 rfl (Nat.le_of_ble_eq_true rfl) d_TextReader_endOfFixed_21 ⟨Nat.zero_le _, Nat.zero_le _⟩) hA hP hD hS [5, 6] rfl (fun H locs hP hS => ?_)
    refine lv_istore hx hb d_TextReader_endOfFixed_24 hl (by decide) rfl (fun ls hl => ?_)
    have hl : lv_has ls 6 [(4, .int u3), (0, .ref a_t), (1, .ref a_q1), (2, .int x2), (3, .int x3)] := hl
    refine lv_iload_n hx hb d_TextReader_endOfFixed_26 rfl (lv_at hl 3 rfl) ?_
    obtain ⟨u5, e6, he⟩ := ih_b he
    refine k_io (r_SN (As := [.int x2]) S X hA hP hD hS (c_SkeletonClock_isYearField l D kk st _ x2 u5 e6) gm_3_124 gm_4_3 gm_3_123 gm_1_1 ⟨rfl, rfl, by decide, by decide⟩ kd_SkeletonClock_isYearField [] rfl rfl rfl rfl hl.1 rfl (Nat.le_of_ble_eq_true rfl) d_TextReader_endOfFixed_27 ⟨Nat.zero_le _, Nat.zero_le _⟩) hA hP hD hS [] rfl (fun H locs hP hS => ?_)
    refine lv_if_eq (tgt := 39) hx hb d_TextReader_endOfFixed_30 rfl (fun hc => ?_) (fun hc => ?_)
    · have he := ih_t hc he
      have hl : lv_has ls 6 [(0, .ref a_t), (2, .int x2), (3, .int x3), (4, .int u3)] := lv_sub hl [1, 3, 4, 0] rfl
      exact w_TextReader_endOfFixed_39 a_t a_t_known a_t_known_values a_t_known_flags a_t_known_order a_q1 a_q1_cells a_t_nest n_q1_cells t_loose t_place t_known_size t_known_values t_known_flags t_known_order q1_size q1_cells x2 x3 u3 o S hr hlk hA X _ _ ls he hl hP hD hS
    · have he := ih_f hc he
      refine lv_iincW (k := 0) hx hb d_TextReader_endOfFixed_33 hl rfl (ii_ (v := (2000 : Int32)) (by decide)) (by decide) rfl (fun ls hl => ?_)
      have hl : lv_has ls 6 [(4, .int (u3 + (2000 : Int32))), (0, .ref a_t), (1, .ref a_q1), (2, .int x2), (3, .int x3)] := hl
      have hl : lv_has ls 6 [(0, .ref a_t), (2, .int x2), (3, .int x3), (4, .int (u3 + (2000 : Int32)))] := lv_sub hl [1, 3, 4, 0] rfl
      exact w_TextReader_endOfFixed_39 a_t a_t_known a_t_known_values a_t_known_flags a_t_known_order a_q1 a_q1_cells a_t_nest n_q1_cells t_loose t_place t_known_size t_known_values t_known_flags t_known_order q1_size q1_cells x2 x3 (u3 + (2000 : Int32)) o S hr hlk hA X _ _ ls he hl hP hD hS
  · have he := ih_f hc he
    refine lv_iconst (v := (-1 : Int32)) hx hb d_TextReader_endOfFixed_13 (by decide) ?_
    cases he
    exact k_ire hx hb hr hlk X hP hD hS d_TextReader_endOfFixed_14
abbrev rm_TextReader_signOf : Room := { frames := 1, cells := 0, slots := 0, locals := 21 }
set_option maxHeartbeats 4000000 in
set_option maxRecDepth 100000 in
theorem c_TextReader_signOf (l : Launch) (D : va_G) (kk : Nat → ClassId) (st : Nat → Nat) (a_t a_q1 a_q1_cells a_t_known a_t_nest : Nat) (sz : Nat) (n_q1_cells : Nat) (t_loose : Int32) (t_place : Int32) (q1_size : Int32) (q1_cells : Nat → Int32) (x2 : Int32) (x3 : Int32) (o : Int32) (he : f_TextReader_signOf n_q1_cells t_place q1_size q1_cells x2 x3 = some o) : Met l y_TextReader_signOf (Cond.code y_TextReader_signOf b_TextReader_signOf 5 (some .int) :: GW) rm_TextReader_signOf (KPc D kk st [.ref a_t, .ref a_q1, .int x2, .int x3] [(a_t, .inr (8, [.ref a_t_known, .ref a_t_nest, .int t_loose, .int t_place])), (a_q1, .inr (1, [.ref a_q1_cells, .int q1_size])), (a_q1_cells, .inl (kk 1, n_q1_cells, .inl q1_cells))] sz) (KQi D kk o [(a_t, .inr (8, [.ref a_t_known, .ref a_t_nest, .int t_loose, .int t_place])), (a_q1, .inr (1, [.ref a_q1_cells, .int q1_size])), (a_q1_cells, .inl (kk 1, n_q1_cells, .inl q1_cells))] (va_A [(a_t, .inr (8, [.ref a_t_known, .ref a_t_nest, .int t_loose, .int t_place])), (a_q1, .inr (1, [.ref a_q1_cells, .int q1_size])), (a_q1_cells, .inl (kk 1, n_q1_cells, .inl q1_cells))] sz)) 0 0 (va_A [(a_t, .inr (8, [.ref a_t_known, .ref a_t_nest, .int t_loose, .int t_place])), (a_q1, .inr (1, [.ref a_q1_cells, .int q1_size])), (a_q1_cells, .inl (kk 1, n_q1_cells, .inl q1_cells))] sz) := by
  refine k_start (Qc := fun A => KQi D kk o [(a_t, .inr (8, [.ref a_t_known, .ref a_t_nest, .int t_loose, .int t_place])), (a_q1, .inr (1, [.ref a_q1_cells, .int q1_size])), (a_q1_cells, .inl (kk 1, n_q1_cells, .inl q1_cells))] A) (by decide) (Nat.le_of_ble_eq_true rfl) ?_
  intro p e s m below meth c A ls S hnm hr hlk hA X hP hD hS hl
  have hl : lv_has ls 5 [(0, .ref a_t), (1, .ref a_q1), (2, .int x2), (3, .int x3)] := hl
  have hx := S.1
  have hb := S.2.1
  unfold f_TextReader_signOf at he
  refine lv_aload_n hx hb d_TextReader_signOf_0 rfl (lv_at hl 1 rfl) ?_
  refine lv_aload_n hx hb d_TextReader_signOf_1 rfl (lv_at hl 0 rfl) ?_
  refine k_get S X us_TextReader hP 0 rfl rfl 3 (by decide) gm_1_156 rfl d_TextReader_signOf_2 ?_
  obtain ⟨u1, e2, he⟩ := ih_b he
  refine k_io (r_V (As := [.int t_place]) S X hA hP hD hS (c_Row_codeAt l D kk st a_q1 a_q1_cells _ n_q1_cells q1_size q1_cells t_place u1 e2) gm_2_76 gm_3_193 gm_2_74 gm_2_75 gm_1_2 ⟨rfl, rfl, by decide, by decide⟩ kd_Row_codeAt [1, 2] rfl rfl rfl 1 1 rfl rfl rfl rfl hl.1 rfl (Nat.le_of_ble_eq_true rfl) d_TextReader_signOf_5 ⟨Nat.zero_le _, Nat.zero_le _⟩) hA hP hD hS [1, 2] rfl (fun H locs hP hS => ?_)
  refine lv_istore hx hb d_TextReader_signOf_8 hl (by decide) rfl (fun ls hl => ?_)
  have hl : lv_has ls 5 [(4, .int u1), (0, .ref a_t), (1, .ref a_q1), (2, .int x2), (3, .int x3)] := hl
  refine lv_iload_n hx hb d_TextReader_signOf_10 rfl (lv_at hl 3 rfl) ?_
  obtain ⟨u3, e4, he⟩ := ih_b he
  refine k_io (r_SN (As := [.int x2]) S X hA hP hD hS (c_SkeletonClock_isYearField l D kk st _ x2 u3 e4) gm_3_124 gm_4_3 gm_3_123 gm_1_1 ⟨rfl, rfl, by decide, by decide⟩ kd_SkeletonClock_isYearField [] rfl rfl rfl rfl hl.1 rfl (Nat.le_of_ble_eq_true rfl) d_TextReader_signOf_11 ⟨Nat.zero_le _, Nat.zero_le _⟩) hA hP hD hS [] rfl (fun H locs hP hS => ?_)
  refine lv_if_eq (tgt := 41) hx hb d_TextReader_signOf_14 rfl (fun hc => ?_) (fun hc => ?_)
  · have he := ih_t hc he
    refine lv_iconst (v := (-1 : Int32)) hx hb d_TextReader_signOf_41 (by decide) ?_
    cases he
    exact k_ire hx hb hr hlk X hP hD hS d_TextReader_signOf_42
  · have he := ih_f hc he
    refine lv_iload hx hb d_TextReader_signOf_17 (lv_at hl 0 rfl) ?_
    refine lv_bipush (v := (45 : Int32)) hx hb d_TextReader_signOf_19 (by decide) ?_
    refine lv_icmp_eq (tgt := 36) hx hb d_TextReader_signOf_21 rfl (fun hc => ?_) (fun hc => ?_)
    · have he := ih_t hc he
      refine lv_iload hx hb d_TextReader_signOf_36 (lv_at hl 0 rfl) ?_
      refine lv_goto (tgt := 42) hx hb d_TextReader_signOf_38 rfl ?_
      cases he
      exact k_ire hx hb hr hlk X hP hD hS d_TextReader_signOf_42
    · have he := ih_f hc he
      refine lv_iload hx hb d_TextReader_signOf_24 (lv_at hl 0 rfl) ?_
      refine lv_bipush (v := (43 : Int32)) hx hb d_TextReader_signOf_26 (by decide) ?_
      refine lv_icmp_ne (tgt := 41) hx hb d_TextReader_signOf_28 rfl (fun hc => ?_) (fun hc => ?_)
      · have he := ih_f hc he
        refine lv_iconst (v := (-1 : Int32)) hx hb d_TextReader_signOf_41 (by decide) ?_
        cases he
        exact k_ire hx hb hr hlk X hP hD hS d_TextReader_signOf_42
      · have he := ih_t hc he
        refine lv_iload_n hx hb d_TextReader_signOf_31 rfl (lv_at hl 4 rfl) ?_
        refine lv_iconst (v := (4 : Int32)) hx hb d_TextReader_signOf_32 (by decide) ?_
        refine lv_icmp_ne (tgt := 41) hx hb d_TextReader_signOf_33 rfl (fun hc => ?_) (fun hc => ?_)
        · have he := ih_f hc he
          refine lv_iconst (v := (-1 : Int32)) hx hb d_TextReader_signOf_41 (by decide) ?_
          cases he
          exact k_ire hx hb hr hlk X hP hD hS d_TextReader_signOf_42
        · have he := ih_t hc he
          refine lv_iload hx hb d_TextReader_signOf_36 (lv_at hl 0 rfl) ?_
          refine lv_goto (tgt := 42) hx hb d_TextReader_signOf_38 rfl ?_
          cases he
          exact k_ire hx hb hr hlk X hP hD hS d_TextReader_signOf_42
abbrev rm_TextReader_mostDigits : Room := { frames := 1, cells := 0, slots := 0, locals := 20 }
set_option maxHeartbeats 4000000 in
set_option maxRecDepth 100000 in
theorem c_TextReader_mostDigits (l : Launch) (D : va_G) (kk : Nat → ClassId) (st : Nat → Nat) (sz : Nat) (x0 : Int32) (o : Int32) (he : f_TextReader_mostDigits x0 = some o) : Met l y_TextReader_mostDigits (Cond.code y_TextReader_mostDigits b_TextReader_mostDigits 1 (some .int) :: GW) rm_TextReader_mostDigits (KPc D kk st [.int x0] [] sz) (KQi D kk o [] (va_A [] sz)) 0 0 (va_A [] sz) := by
  refine k_start (Qc := fun A => KQi D kk o [] A) (by decide) (Nat.le_of_ble_eq_true rfl) ?_
  intro p e s m below meth c A ls S hnm hr hlk hA X hP hD hS hl
  have hl : lv_has ls 1 [(0, .int x0)] := hl
  have hx := S.1
  have hb := S.2.1
  unfold f_TextReader_mostDigits at he
  refine lv_iload_n hx hb d_TextReader_mostDigits_0 rfl (lv_at hl 0 rfl) ?_
  obtain ⟨u1, e2, he⟩ := ih_b he
  refine k_io (r_SN (As := [.int x0]) S X hA hP hD hS (c_SkeletonClock_isYearField l D kk st _ x0 u1 e2) gm_3_124 gm_4_3 gm_3_123 gm_1_1 ⟨rfl, rfl, by decide, by decide⟩ kd_SkeletonClock_isYearField [] rfl rfl rfl rfl hl.1 rfl (Nat.le_of_ble_eq_true rfl) d_TextReader_mostDigits_1 ⟨Nat.zero_le _, Nat.zero_le _⟩) hA hP hD hS [] rfl (fun H locs hP hS => ?_)
  refine lv_if_eq (tgt := 10) hx hb d_TextReader_mostDigits_4 rfl (fun hc => ?_) (fun hc => ?_)
  · have he := ih_t hc he
    refine lv_iload_n hx hb d_TextReader_mostDigits_10 rfl (lv_at hl 0 rfl) ?_
    refine lv_iconst (v := (4 : Int32)) hx hb d_TextReader_mostDigits_11 (by decide) ?_
    refine lv_icmp_ne (tgt := 19) hx hb d_TextReader_mostDigits_12 rfl (fun hc => ?_) (fun hc => ?_)
    · have he := ih_f hc he
      refine lv_iconst (v := (2 : Int32)) hx hb d_TextReader_mostDigits_19 (by decide) ?_
      cases he
      exact k_ire hx hb hr hlk X hP hD hS d_TextReader_mostDigits_20
    · have he := ih_t hc he
      refine lv_iconst (v := (3 : Int32)) hx hb d_TextReader_mostDigits_15 (by decide) ?_
      refine lv_goto (tgt := 20) hx hb d_TextReader_mostDigits_16 rfl ?_
      cases he
      exact k_ire hx hb hr hlk X hP hD hS d_TextReader_mostDigits_20
  · have he := ih_f hc he
    refine lv_bipush (v := (9 : Int32)) hx hb d_TextReader_mostDigits_7 (by decide) ?_
    cases he
    exact k_ire hx hb hr hlk X hP hD hS d_TextReader_mostDigits_9
