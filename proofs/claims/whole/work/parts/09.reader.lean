abbrev b_TextReader_small : ByteArray := prog_12_method_6_code
def y_TextReader_small : MethodName := ⟨"SkeletonClock$TextReader", "small", "(I)I"⟩
theorem kd_TextReader_small : kd_ok y_TextReader_small 1 := by decide +kernel
abbrev b_TextReader_isAlike : ByteArray := prog_12_method_5_code
def y_TextReader_isAlike : MethodName := ⟨"SkeletonClock$TextReader", "isAlike", "(II)Z"⟩
theorem kd_TextReader_isAlike : kd_ok y_TextReader_isAlike 2 := by decide +kernel
abbrev b_TextReader_endWith : ByteArray := prog_12_method_4_code
def y_TextReader_endWith : MethodName := ⟨"SkeletonClock$TextReader", "endWith", "(III)I"⟩
theorem kd_TextReader_endWith : kd_ok y_TextReader_endWith 3 := by decide +kernel
abbrev b_SkeletonClock_isYearField : ByteArray := prog_1_method_20_code
def y_SkeletonClock_isYearField : MethodName := ⟨"SkeletonClock", "isYearField", "(I)Z"⟩
theorem kd_SkeletonClock_isYearField : kd_ok y_SkeletonClock_isYearField 1 := by decide +kernel
abbrev b_TextReader_endOfFixed : ByteArray := prog_12_method_9_code
def y_TextReader_endOfFixed : MethodName := ⟨"SkeletonClock$TextReader", "endOfFixed", "(LSkeletonClock$Row;II)I"⟩
theorem kd_TextReader_endOfFixed : kd_ok y_TextReader_endOfFixed 3 := by decide +kernel
abbrev b_TextReader_signOf : ByteArray := prog_12_method_11_code
def y_TextReader_signOf : MethodName := ⟨"SkeletonClock$TextReader", "signOf", "(LSkeletonClock$Row;II)I"⟩
theorem kd_TextReader_signOf : kd_ok y_TextReader_signOf 3 := by decide +kernel
abbrev b_TextReader_mostDigits : ByteArray := prog_12_method_12_code
def y_TextReader_mostDigits : MethodName := ⟨"SkeletonClock$TextReader", "mostDigits", "(I)I"⟩
theorem kd_TextReader_mostDigits : kd_ok y_TextReader_mostDigits 1 := by decide +kernel
abbrev b_TextReader_endOfFree : ByteArray := prog_12_method_10_code
def y_TextReader_endOfFree : MethodName := ⟨"SkeletonClock$TextReader", "endOfFree", "(LSkeletonClock$Row;LSkeletonClock$Pattern;I)I"⟩
theorem kd_TextReader_endOfFree : kd_ok y_TextReader_endOfFree 3 := by decide +kernel
theorem gm_1_155 : Cond.fieldLink "SkeletonClock$TextReader" (25 : Nat) "SkeletonClock$TextReader" "loose" "Z" ∈ GW := gw_1 (i := 155) rfl rfl
theorem gm_3_200 : Cond.code ({ cls := "SkeletonClock$TextReader", name := "small", desc := "(I)I" } : MethodName) prog_12_method_6_code (1 : Nat) (Option.some FieldType.int) ∈ GW := gw_3 (i := 200) rfl rfl
theorem gm_3_198 : Cond.methodLink "SkeletonClock$TextReader" (116 : Nat) ({ cls := "SkeletonClock$TextReader", name := "small", desc := "(I)I" } : MethodName) ∈ GW := gw_3 (i := 198) rfl rfl
theorem gm_1_7 : Cond.initialized "SkeletonClock$TextReader" ∈ GW := gw_1 (i := 7) rfl rfl
theorem gm_3_199 : Cond.static ({ cls := "SkeletonClock$TextReader", name := "small", desc := "(I)I" } : MethodName) ∈ GW := gw_3 (i := 199) rfl rfl
theorem gm_1_152 : Cond.fieldLink "SkeletonClock$TextReader" (12 : Nat) "SkeletonClock$TextReader" "known" "LSkeletonClock$Known;" ∈ GW := gw_1 (i := 152) rfl rfl
theorem gm_3_222 : Cond.code ({ cls := "SkeletonClock$Known", name := "learn", desc := "(II)Z" } : MethodName) prog_3_method_2_code (3 : Nat) (Option.some FieldType.boolean) ∈ GW := gw_3 (i := 222) rfl rfl
theorem gm_3_219 : Cond.methodLink "SkeletonClock$TextReader" (113 : Nat) ({ cls := "SkeletonClock$Known", name := "learn", desc := "(II)Z" } : MethodName) ∈ GW := gw_3 (i := 219) rfl rfl
theorem gm_3_220 : Cond.instanceMethod ({ cls := "SkeletonClock$Known", name := "learn", desc := "(II)Z" } : MethodName) ∈ GW := gw_3 (i := 220) rfl rfl
theorem gm_3_221 : Cond.selects "SkeletonClock$Known" ({ cls := "SkeletonClock$Known", name := "learn", desc := "(II)Z" } : MethodName) ({ cls := "SkeletonClock$Known", name := "learn", desc := "(II)Z" } : MethodName) ∈ GW := gw_3 (i := 221) rfl rfl
theorem gm_1_156 : Cond.fieldLink "SkeletonClock$TextReader" (29 : Nat) "SkeletonClock$TextReader" "place" "I" ∈ GW := gw_1 (i := 156) rfl rfl
theorem gm_3_230 : Cond.code ({ cls := "SkeletonClock$Row", name := "digits", desc := "(II)I" } : MethodName) prog_11_method_8_code (4 : Nat) (Option.some FieldType.int) ∈ GW := gw_3 (i := 230) rfl rfl
theorem gm_3_227 : Cond.methodLink "SkeletonClock$TextReader" (139 : Nat) ({ cls := "SkeletonClock$Row", name := "digits", desc := "(II)I" } : MethodName) ∈ GW := gw_3 (i := 227) rfl rfl
theorem gm_3_228 : Cond.instanceMethod ({ cls := "SkeletonClock$Row", name := "digits", desc := "(II)I" } : MethodName) ∈ GW := gw_3 (i := 228) rfl rfl
theorem gm_3_229 : Cond.selects "SkeletonClock$Row" ({ cls := "SkeletonClock$Row", name := "digits", desc := "(II)I" } : MethodName) ({ cls := "SkeletonClock$Row", name := "digits", desc := "(II)I" } : MethodName) ∈ GW := gw_3 (i := 229) rfl rfl
theorem gm_3_234 : Cond.code ({ cls := "SkeletonClock$Row", name := "number", desc := "(II)I" } : MethodName) prog_11_method_9_code (5 : Nat) (Option.some FieldType.int) ∈ GW := gw_3 (i := 234) rfl rfl
theorem gm_3_231 : Cond.methodLink "SkeletonClock$TextReader" (142 : Nat) ({ cls := "SkeletonClock$Row", name := "number", desc := "(II)I" } : MethodName) ∈ GW := gw_3 (i := 231) rfl rfl
theorem gm_3_232 : Cond.instanceMethod ({ cls := "SkeletonClock$Row", name := "number", desc := "(II)I" } : MethodName) ∈ GW := gw_3 (i := 232) rfl rfl
theorem gm_3_233 : Cond.selects "SkeletonClock$Row" ({ cls := "SkeletonClock$Row", name := "number", desc := "(II)I" } : MethodName) ({ cls := "SkeletonClock$Row", name := "number", desc := "(II)I" } : MethodName) ∈ GW := gw_3 (i := 233) rfl rfl
theorem gm_3_124 : Cond.code ({ cls := "SkeletonClock", name := "isYearField", desc := "(I)Z" } : MethodName) prog_1_method_20_code (1 : Nat) (Option.some FieldType.boolean) ∈ GW := gw_3 (i := 124) rfl rfl
theorem gm_4_3 : Cond.methodLinkNest "SkeletonClock$TextReader" (144 : Nat) ({ cls := "SkeletonClock", name := "isYearField", desc := "(I)Z" } : MethodName) "SkeletonClock" ∈ NW := gn_4 (i := 3) rfl rfl
theorem gm_3_123 : Cond.static ({ cls := "SkeletonClock", name := "isYearField", desc := "(I)Z" } : MethodName) ∈ GW := gw_3 (i := 123) rfl rfl
theorem gm_3_218 : Cond.code ({ cls := "SkeletonClock$TextReader", name := "endWith", desc := "(III)I" } : MethodName) prog_12_method_4_code (4 : Nat) (Option.some FieldType.int) ∈ GW := gw_3 (i := 218) rfl rfl
theorem gm_3_215 : Cond.methodLink "SkeletonClock$TextReader" (131 : Nat) ({ cls := "SkeletonClock$TextReader", name := "endWith", desc := "(III)I" } : MethodName) ∈ GW := gw_3 (i := 215) rfl rfl
theorem gm_3_217 : Cond.instanceMethod ({ cls := "SkeletonClock$TextReader", name := "endWith", desc := "(III)I" } : MethodName) ∈ GW := gw_3 (i := 217) rfl rfl
theorem gm_p2_3 : Cond.selects "SkeletonClock$TextReader" ⟨"SkeletonClock$TextReader", "endWith", "(III)I"⟩ ⟨"SkeletonClock$TextReader", "endWith", "(III)I"⟩ ∈ GW := gs_2 (i := 3) rfl
theorem gm_3_193 : Cond.methodLink "SkeletonClock$TextReader" (86 : Nat) ({ cls := "SkeletonClock$Row", name := "codeAt", desc := "(I)I" } : MethodName) ∈ GW := gw_3 (i := 193) rfl rfl
theorem gm_3_186 : Cond.methodLink "SkeletonClock$TextReader" (48 : Nat) ({ cls := "SkeletonClock$Pattern", name := "kind", desc := "(I)I" } : MethodName) ∈ GW := gw_3 (i := 186) rfl rfl
theorem gm_3_187 : Cond.methodLink "SkeletonClock$TextReader" (52 : Nat) ({ cls := "SkeletonClock$Pattern", name := "number", desc := "(I)I" } : MethodName) ∈ GW := gw_3 (i := 187) rfl rfl
theorem gm_4_11 : Cond.code ({ cls := "SkeletonClock$TextReader", name := "signOf", desc := "(LSkeletonClock$Row;II)I" } : MethodName) prog_12_method_11_code (5 : Nat) (Option.some FieldType.int) ∈ GW := gw_4 (i := 11) rfl rfl
theorem gm_4_8 : Cond.methodLink "SkeletonClock$TextReader" (147 : Nat) ({ cls := "SkeletonClock$TextReader", name := "signOf", desc := "(LSkeletonClock$Row;II)I" } : MethodName) ∈ GW := gw_4 (i := 8) rfl rfl
theorem gm_4_10 : Cond.instanceMethod ({ cls := "SkeletonClock$TextReader", name := "signOf", desc := "(LSkeletonClock$Row;II)I" } : MethodName) ∈ GW := gw_4 (i := 10) rfl rfl
theorem gm_p2_7 : Cond.selects "SkeletonClock$TextReader" ⟨"SkeletonClock$TextReader", "signOf", "(LSkeletonClock$Row;II)I"⟩ ⟨"SkeletonClock$TextReader", "signOf", "(LSkeletonClock$Row;II)I"⟩ ∈ GW := gs_2 (i := 7) rfl
theorem gm_1_154 : Cond.fieldLink "SkeletonClock$TextReader" (21 : Nat) "SkeletonClock$TextReader" "nest" "LSkeletonClock$Nest;" ∈ GW := gw_1 (i := 154) rfl rfl
theorem gm_1_65 : Cond.fieldLink "SkeletonClock$TextReader" (40 : Nat) "SkeletonClock$Pattern" "size" "I" ∈ GW := gw_1 (i := 65) rfl rfl
theorem gm_3_156 : Cond.code ({ cls := "SkeletonClock$Nest", name := "limit", desc := "(I)I" } : MethodName) prog_6_method_6_code (2 : Nat) (Option.some FieldType.int) ∈ GW := gw_3 (i := 156) rfl rfl
theorem gm_4_12 : Cond.methodLink "SkeletonClock$TextReader" (74 : Nat) ({ cls := "SkeletonClock$Nest", name := "limit", desc := "(I)I" } : MethodName) ∈ GW := gw_4 (i := 12) rfl rfl
theorem gm_1_6 : Cond.initialized "SkeletonClock$Nest" ∈ GW := gw_1 (i := 6) rfl rfl
theorem gm_3_154 : Cond.instanceMethod ({ cls := "SkeletonClock$Nest", name := "limit", desc := "(I)I" } : MethodName) ∈ GW := gw_3 (i := 154) rfl rfl
theorem gm_3_155 : Cond.selects "SkeletonClock$Nest" ({ cls := "SkeletonClock$Nest", name := "limit", desc := "(I)I" } : MethodName) ({ cls := "SkeletonClock$Nest", name := "limit", desc := "(I)I" } : MethodName) ∈ GW := gw_3 (i := 155) rfl rfl
theorem gm_4_16 : Cond.code ({ cls := "SkeletonClock$Pattern", name := "fixedBehind", desc := "(II)I" } : MethodName) prog_7_method_10_code (5 : Nat) (Option.some FieldType.int) ∈ GW := gw_4 (i := 16) rfl rfl
theorem gm_4_13 : Cond.methodLink "SkeletonClock$TextReader" (150 : Nat) ({ cls := "SkeletonClock$Pattern", name := "fixedBehind", desc := "(II)I" } : MethodName) ∈ GW := gw_4 (i := 13) rfl rfl
theorem gm_4_14 : Cond.instanceMethod ({ cls := "SkeletonClock$Pattern", name := "fixedBehind", desc := "(II)I" } : MethodName) ∈ GW := gw_4 (i := 14) rfl rfl
theorem gm_4_15 : Cond.selects "SkeletonClock$Pattern" ({ cls := "SkeletonClock$Pattern", name := "fixedBehind", desc := "(II)I" } : MethodName) ({ cls := "SkeletonClock$Pattern", name := "fixedBehind", desc := "(II)I" } : MethodName) ∈ GW := gw_4 (i := 15) rfl rfl
theorem gm_4_20 : Cond.code ({ cls := "SkeletonClock$TextReader", name := "mostDigits", desc := "(I)I" } : MethodName) prog_12_method_12_code (1 : Nat) (Option.some FieldType.int) ∈ GW := gw_4 (i := 20) rfl rfl
theorem gm_4_18 : Cond.methodLink "SkeletonClock$TextReader" (153 : Nat) ({ cls := "SkeletonClock$TextReader", name := "mostDigits", desc := "(I)I" } : MethodName) ∈ GW := gw_4 (i := 18) rfl rfl
theorem gm_4_19 : Cond.static ({ cls := "SkeletonClock$TextReader", name := "mostDigits", desc := "(I)I" } : MethodName) ∈ GW := gw_4 (i := 19) rfl rfl
theorem gm_4_21 : Cond.methodLink "SkeletonClock$TextReader" (77 : Nat) ({ cls := "java/lang/Math", name := "max", desc := "(II)I" } : MethodName) ∈ GW := gw_4 (i := 21) rfl rfl
theorem d_TextReader_small_0 : decode b_TextReader_small 0 = .ok (.iload_n 0, 1) := by decide +kernel
theorem d_TextReader_small_1 : decode b_TextReader_small 1 = .ok (.bipush 65, 2) := by decide +kernel
theorem d_TextReader_small_3 : decode b_TextReader_small 3 = .ok (.if_icmp .lt 19, 3) := by decide +kernel
theorem d_TextReader_small_6 : decode b_TextReader_small 6 = .ok (.iload_n 0, 1) := by decide +kernel
theorem d_TextReader_small_7 : decode b_TextReader_small 7 = .ok (.bipush 90, 2) := by decide +kernel
theorem d_TextReader_small_9 : decode b_TextReader_small 9 = .ok (.if_icmp .gt 13, 3) := by decide +kernel
theorem d_TextReader_small_12 : decode b_TextReader_small 12 = .ok (.iload_n 0, 1) := by decide +kernel
theorem d_TextReader_small_13 : decode b_TextReader_small 13 = .ok (.bipush 65, 2) := by decide +kernel
theorem d_TextReader_small_15 : decode b_TextReader_small 15 = .ok (.isub, 1) := by decide +kernel
theorem d_TextReader_small_16 : decode b_TextReader_small 16 = .ok (.bipush 97, 2) := by decide +kernel
theorem d_TextReader_small_18 : decode b_TextReader_small 18 = .ok (.iadd, 1) := by decide +kernel
theorem d_TextReader_small_19 : decode b_TextReader_small 19 = .ok (.goto 4, 3) := by decide +kernel
theorem d_TextReader_small_22 : decode b_TextReader_small 22 = .ok (.iload_n 0, 1) := by decide +kernel
theorem d_TextReader_small_23 : decode b_TextReader_small 23 = .ok (.ireturn, 1) := by decide +kernel
theorem d_TextReader_isAlike_0 : decode b_TextReader_isAlike 0 = .ok (.iload_n 1, 1) := by decide +kernel
theorem d_TextReader_isAlike_1 : decode b_TextReader_isAlike 1 = .ok (.iload_n 2, 1) := by decide +kernel
theorem d_TextReader_isAlike_2 : decode b_TextReader_isAlike 2 = .ok (.if_icmp .eq 21, 3) := by decide +kernel
theorem d_TextReader_isAlike_5 : decode b_TextReader_isAlike 5 = .ok (.aload_n 0, 1) := by decide +kernel
theorem d_TextReader_isAlike_6 : decode b_TextReader_isAlike 6 = .ok (.getfield 25, 3) := by decide +kernel
theorem d_TextReader_isAlike_9 : decode b_TextReader_isAlike 9 = .ok (.ifCond .eq 18, 3) := by decide +kernel
theorem d_TextReader_isAlike_12 : decode b_TextReader_isAlike 12 = .ok (.iload_n 1, 1) := by decide +kernel
theorem d_TextReader_isAlike_13 : decode b_TextReader_isAlike 13 = .ok (.invokestatic 116, 3) := by decide +kernel
theorem d_TextReader_isAlike_16 : decode b_TextReader_isAlike 16 = .ok (.iload_n 2, 1) := by decide +kernel
theorem d_TextReader_isAlike_17 : decode b_TextReader_isAlike 17 = .ok (.invokestatic 116, 3) := by decide +kernel
theorem d_TextReader_isAlike_20 : decode b_TextReader_isAlike 20 = .ok (.if_icmp .ne 7, 3) := by decide +kernel
theorem d_TextReader_isAlike_23 : decode b_TextReader_isAlike 23 = .ok (.iconst 1, 1) := by decide +kernel
theorem d_TextReader_isAlike_24 : decode b_TextReader_isAlike 24 = .ok (.goto 4, 3) := by decide +kernel
theorem d_TextReader_isAlike_27 : decode b_TextReader_isAlike 27 = .ok (.iconst 0, 1) := by decide +kernel
theorem d_TextReader_isAlike_28 : decode b_TextReader_isAlike 28 = .ok (.ireturn, 1) := by decide +kernel
theorem d_TextReader_endWith_0 : decode b_TextReader_endWith 0 = .ok (.aload_n 0, 1) := by decide +kernel
theorem d_TextReader_endWith_1 : decode b_TextReader_endWith 1 = .ok (.getfield 12, 3) := by decide +kernel
theorem d_TextReader_endWith_4 : decode b_TextReader_endWith 4 = .ok (.iload_n 1, 1) := by decide +kernel
theorem d_TextReader_endWith_5 : decode b_TextReader_endWith 5 = .ok (.iload_n 2, 1) := by decide +kernel
theorem d_TextReader_endWith_6 : decode b_TextReader_endWith 6 = .ok (.invokevirtual 113, 3) := by decide +kernel
theorem d_TextReader_endWith_9 : decode b_TextReader_endWith 9 = .ok (.ifCond .eq 7, 3) := by decide +kernel
theorem d_TextReader_endWith_12 : decode b_TextReader_endWith 12 = .ok (.iload_n 3, 1) := by decide +kernel
theorem d_TextReader_endWith_13 : decode b_TextReader_endWith 13 = .ok (.goto 4, 3) := by decide +kernel
theorem d_TextReader_endWith_16 : decode b_TextReader_endWith 16 = .ok (.iconst (-1), 1) := by decide +kernel
theorem d_TextReader_endWith_17 : decode b_TextReader_endWith 17 = .ok (.ireturn, 1) := by decide +kernel
theorem d_SkeletonClock_isYearField_0 : decode b_SkeletonClock_isYearField 0 = .ok (.iload_n 0, 1) := by decide +kernel
theorem d_SkeletonClock_isYearField_1 : decode b_SkeletonClock_isYearField 1 = .ok (.ifCond .eq 8, 3) := by decide +kernel
theorem d_SkeletonClock_isYearField_4 : decode b_SkeletonClock_isYearField 4 = .ok (.iload_n 0, 1) := by decide +kernel
theorem d_SkeletonClock_isYearField_5 : decode b_SkeletonClock_isYearField 5 = .ok (.iconst 1, 1) := by decide +kernel
theorem d_SkeletonClock_isYearField_6 : decode b_SkeletonClock_isYearField 6 = .ok (.if_icmp .ne 7, 3) := by decide +kernel
theorem d_SkeletonClock_isYearField_9 : decode b_SkeletonClock_isYearField 9 = .ok (.iconst 1, 1) := by decide +kernel
theorem d_SkeletonClock_isYearField_10 : decode b_SkeletonClock_isYearField 10 = .ok (.goto 4, 3) := by decide +kernel
theorem d_SkeletonClock_isYearField_13 : decode b_SkeletonClock_isYearField 13 = .ok (.iconst 0, 1) := by decide +kernel
theorem d_SkeletonClock_isYearField_14 : decode b_SkeletonClock_isYearField 14 = .ok (.ireturn, 1) := by decide +kernel
theorem d_TextReader_endOfFixed_0 : decode b_TextReader_endOfFixed 0 = .ok (.aload_n 1, 1) := by decide +kernel
theorem d_TextReader_endOfFixed_1 : decode b_TextReader_endOfFixed 1 = .ok (.aload_n 0, 1) := by decide +kernel
theorem d_TextReader_endOfFixed_2 : decode b_TextReader_endOfFixed 2 = .ok (.getfield 29, 3) := by decide +kernel
theorem d_TextReader_endOfFixed_5 : decode b_TextReader_endOfFixed 5 = .ok (.iload_n 3, 1) := by decide +kernel
theorem d_TextReader_endOfFixed_6 : decode b_TextReader_endOfFixed 6 = .ok (.invokevirtual 139, 3) := by decide +kernel
theorem d_TextReader_endOfFixed_9 : decode b_TextReader_endOfFixed 9 = .ok (.iload_n 3, 1) := by decide +kernel
theorem d_TextReader_endOfFixed_10 : decode b_TextReader_endOfFixed 10 = .ok (.if_icmp .ge 5, 3) := by decide +kernel
theorem d_TextReader_endOfFixed_13 : decode b_TextReader_endOfFixed 13 = .ok (.iconst (-1), 1) := by decide +kernel
theorem d_TextReader_endOfFixed_14 : decode b_TextReader_endOfFixed 14 = .ok (.ireturn, 1) := by decide +kernel
theorem d_TextReader_endOfFixed_15 : decode b_TextReader_endOfFixed 15 = .ok (.aload_n 1, 1) := by decide +kernel
theorem d_TextReader_endOfFixed_16 : decode b_TextReader_endOfFixed 16 = .ok (.aload_n 0, 1) := by decide +kernel
theorem d_TextReader_endOfFixed_17 : decode b_TextReader_endOfFixed 17 = .ok (.getfield 29, 3) := by decide +kernel
theorem d_TextReader_endOfFixed_20 : decode b_TextReader_endOfFixed 20 = .ok (.iload_n 3, 1) := by decide +kernel
theorem d_TextReader_endOfFixed_21 : decode b_TextReader_endOfFixed 21 = .ok (.invokevirtual 142, 3) := by decide +kernel
theorem d_TextReader_endOfFixed_24 : decode b_TextReader_endOfFixed 24 = .ok (.istore 4, 2) := by decide +kernel
theorem d_TextReader_endOfFixed_26 : decode b_TextReader_endOfFixed 26 = .ok (.iload_n 2, 1) := by decide +kernel
theorem d_TextReader_endOfFixed_27 : decode b_TextReader_endOfFixed 27 = .ok (.invokestatic 144, 3) := by decide +kernel
theorem d_TextReader_endOfFixed_30 : decode b_TextReader_endOfFixed 30 = .ok (.ifCond .eq 9, 3) := by decide +kernel
theorem d_TextReader_endOfFixed_33 : decode b_TextReader_endOfFixed 33 = .ok (.iinc 4 2000, 6) := by decide +kernel
theorem d_TextReader_endOfFixed_39 : decode b_TextReader_endOfFixed 39 = .ok (.iload_n 2, 1) := by decide +kernel
theorem d_TextReader_endOfFixed_40 : decode b_TextReader_endOfFixed 40 = .ok (.bipush 12, 2) := by decide +kernel
theorem d_TextReader_endOfFixed_42 : decode b_TextReader_endOfFixed 42 = .ok (.if_icmp .ne 26, 3) := by decide +kernel
theorem d_TextReader_endOfFixed_45 : decode b_TextReader_endOfFixed 45 = .ok (.iload_n 3, 1) := by decide +kernel
theorem d_TextReader_endOfFixed_46 : decode b_TextReader_endOfFixed 46 = .ok (.istore 5, 2) := by decide +kernel
theorem d_TextReader_endOfFixed_48 : decode b_TextReader_endOfFixed 48 = .ok (.iload 5, 2) := by decide +kernel
theorem d_TextReader_endOfFixed_50 : decode b_TextReader_endOfFixed 50 = .ok (.bipush 9, 2) := by decide +kernel
theorem d_TextReader_endOfFixed_52 : decode b_TextReader_endOfFixed 52 = .ok (.if_icmp .ge 16, 3) := by decide +kernel
theorem d_TextReader_endOfFixed_55 : decode b_TextReader_endOfFixed 55 = .ok (.iload 4, 2) := by decide +kernel
theorem d_TextReader_endOfFixed_57 : decode b_TextReader_endOfFixed 57 = .ok (.bipush 10, 2) := by decide +kernel
theorem d_TextReader_endOfFixed_59 : decode b_TextReader_endOfFixed 59 = .ok (.imul, 1) := by decide +kernel
theorem d_TextReader_endOfFixed_60 : decode b_TextReader_endOfFixed 60 = .ok (.istore 4, 2) := by decide +kernel
theorem d_TextReader_endOfFixed_62 : decode b_TextReader_endOfFixed 62 = .ok (.iinc 5 1, 3) := by decide +kernel
theorem d_TextReader_endOfFixed_65 : decode b_TextReader_endOfFixed 65 = .ok (.goto (-17), 3) := by decide +kernel
theorem d_TextReader_endOfFixed_68 : decode b_TextReader_endOfFixed 68 = .ok (.aload_n 0, 1) := by decide +kernel
theorem d_TextReader_endOfFixed_69 : decode b_TextReader_endOfFixed 69 = .ok (.iload_n 2, 1) := by decide +kernel
theorem d_TextReader_endOfFixed_70 : decode b_TextReader_endOfFixed 70 = .ok (.iload 4, 2) := by decide +kernel
theorem d_TextReader_endOfFixed_72 : decode b_TextReader_endOfFixed 72 = .ok (.aload_n 0, 1) := by decide +kernel
theorem d_TextReader_endOfFixed_73 : decode b_TextReader_endOfFixed 73 = .ok (.getfield 29, 3) := by decide +kernel
theorem d_TextReader_endOfFixed_76 : decode b_TextReader_endOfFixed 76 = .ok (.iload_n 3, 1) := by decide +kernel
theorem d_TextReader_endOfFixed_77 : decode b_TextReader_endOfFixed 77 = .ok (.iadd, 1) := by decide +kernel
theorem d_TextReader_endOfFixed_78 : decode b_TextReader_endOfFixed 78 = .ok (.invokevirtual 131, 3) := by decide +kernel
theorem d_TextReader_endOfFixed_81 : decode b_TextReader_endOfFixed 81 = .ok (.ireturn, 1) := by decide +kernel
theorem d_TextReader_signOf_0 : decode b_TextReader_signOf 0 = .ok (.aload_n 1, 1) := by decide +kernel
theorem d_TextReader_signOf_1 : decode b_TextReader_signOf 1 = .ok (.aload_n 0, 1) := by decide +kernel
theorem d_TextReader_signOf_2 : decode b_TextReader_signOf 2 = .ok (.getfield 29, 3) := by decide +kernel
theorem d_TextReader_signOf_5 : decode b_TextReader_signOf 5 = .ok (.invokevirtual 86, 3) := by decide +kernel
theorem d_TextReader_signOf_8 : decode b_TextReader_signOf 8 = .ok (.istore 4, 2) := by decide +kernel
theorem d_TextReader_signOf_10 : decode b_TextReader_signOf 10 = .ok (.iload_n 2, 1) := by decide +kernel
theorem d_TextReader_signOf_11 : decode b_TextReader_signOf 11 = .ok (.invokestatic 144, 3) := by decide +kernel
theorem d_TextReader_signOf_14 : decode b_TextReader_signOf 14 = .ok (.ifCond .eq 27, 3) := by decide +kernel
theorem d_TextReader_signOf_17 : decode b_TextReader_signOf 17 = .ok (.iload 4, 2) := by decide +kernel
theorem d_TextReader_signOf_19 : decode b_TextReader_signOf 19 = .ok (.bipush 45, 2) := by decide +kernel
theorem d_TextReader_signOf_21 : decode b_TextReader_signOf 21 = .ok (.if_icmp .eq 15, 3) := by decide +kernel
theorem d_TextReader_signOf_24 : decode b_TextReader_signOf 24 = .ok (.iload 4, 2) := by decide +kernel
theorem d_TextReader_signOf_26 : decode b_TextReader_signOf 26 = .ok (.bipush 43, 2) := by decide +kernel
theorem d_TextReader_signOf_28 : decode b_TextReader_signOf 28 = .ok (.if_icmp .ne 13, 3) := by decide +kernel
theorem d_TextReader_signOf_31 : decode b_TextReader_signOf 31 = .ok (.iload_n 3, 1) := by decide +kernel
theorem d_TextReader_signOf_32 : decode b_TextReader_signOf 32 = .ok (.iconst 4, 1) := by decide +kernel
theorem d_TextReader_signOf_33 : decode b_TextReader_signOf 33 = .ok (.if_icmp .ne 8, 3) := by decide +kernel
theorem d_TextReader_signOf_36 : decode b_TextReader_signOf 36 = .ok (.iload 4, 2) := by decide +kernel
theorem d_TextReader_signOf_38 : decode b_TextReader_signOf 38 = .ok (.goto 4, 3) := by decide +kernel
theorem d_TextReader_signOf_41 : decode b_TextReader_signOf 41 = .ok (.iconst (-1), 1) := by decide +kernel
theorem d_TextReader_signOf_42 : decode b_TextReader_signOf 42 = .ok (.ireturn, 1) := by decide +kernel
theorem d_TextReader_mostDigits_0 : decode b_TextReader_mostDigits 0 = .ok (.iload_n 0, 1) := by decide +kernel
theorem d_TextReader_mostDigits_1 : decode b_TextReader_mostDigits 1 = .ok (.invokestatic 144, 3) := by decide +kernel
theorem d_TextReader_mostDigits_4 : decode b_TextReader_mostDigits 4 = .ok (.ifCond .eq 6, 3) := by decide +kernel
theorem d_TextReader_mostDigits_7 : decode b_TextReader_mostDigits 7 = .ok (.bipush 9, 2) := by decide +kernel
theorem d_TextReader_mostDigits_9 : decode b_TextReader_mostDigits 9 = .ok (.ireturn, 1) := by decide +kernel
theorem d_TextReader_mostDigits_10 : decode b_TextReader_mostDigits 10 = .ok (.iload_n 0, 1) := by decide +kernel
theorem d_TextReader_mostDigits_11 : decode b_TextReader_mostDigits 11 = .ok (.iconst 4, 1) := by decide +kernel
theorem d_TextReader_mostDigits_12 : decode b_TextReader_mostDigits 12 = .ok (.if_icmp .ne 7, 3) := by decide +kernel
theorem d_TextReader_mostDigits_15 : decode b_TextReader_mostDigits 15 = .ok (.iconst 3, 1) := by decide +kernel
theorem d_TextReader_mostDigits_16 : decode b_TextReader_mostDigits 16 = .ok (.goto 4, 3) := by decide +kernel
theorem d_TextReader_mostDigits_19 : decode b_TextReader_mostDigits 19 = .ok (.iconst 2, 1) := by decide +kernel
theorem d_TextReader_mostDigits_20 : decode b_TextReader_mostDigits 20 = .ok (.ireturn, 1) := by decide +kernel
theorem d_TextReader_endOfFree_0 : decode b_TextReader_endOfFree 0 = .ok (.aload_n 2, 1) := by decide +kernel
theorem d_TextReader_endOfFree_1 : decode b_TextReader_endOfFree 1 = .ok (.iload_n 3, 1) := by decide +kernel
theorem d_TextReader_endOfFree_2 : decode b_TextReader_endOfFree 2 = .ok (.invokevirtual 48, 3) := by decide +kernel
theorem d_TextReader_endOfFree_5 : decode b_TextReader_endOfFree 5 = .ok (.istore 4, 2) := by decide +kernel
theorem d_TextReader_endOfFree_7 : decode b_TextReader_endOfFree 7 = .ok (.aload_n 2, 1) := by decide +kernel
theorem d_TextReader_endOfFree_8 : decode b_TextReader_endOfFree 8 = .ok (.iload_n 3, 1) := by decide +kernel
theorem d_TextReader_endOfFree_9 : decode b_TextReader_endOfFree 9 = .ok (.invokevirtual 52, 3) := by decide +kernel
theorem d_TextReader_endOfFree_12 : decode b_TextReader_endOfFree 12 = .ok (.istore 5, 2) := by decide +kernel
theorem d_TextReader_endOfFree_14 : decode b_TextReader_endOfFree 14 = .ok (.aload_n 0, 1) := by decide +kernel
theorem d_TextReader_endOfFree_15 : decode b_TextReader_endOfFree 15 = .ok (.aload_n 1, 1) := by decide +kernel
theorem d_TextReader_endOfFree_16 : decode b_TextReader_endOfFree 16 = .ok (.iload 4, 2) := by decide +kernel
theorem d_TextReader_endOfFree_18 : decode b_TextReader_endOfFree 18 = .ok (.iload 5, 2) := by decide +kernel
theorem d_TextReader_endOfFree_20 : decode b_TextReader_endOfFree 20 = .ok (.invokevirtual 147, 3) := by decide +kernel
theorem d_TextReader_endOfFree_23 : decode b_TextReader_endOfFree 23 = .ok (.istore 6, 2) := by decide +kernel
theorem d_TextReader_endOfFree_25 : decode b_TextReader_endOfFree 25 = .ok (.iload 6, 2) := by decide +kernel
theorem d_TextReader_endOfFree_27 : decode b_TextReader_endOfFree 27 = .ok (.iconst (-1), 1) := by decide +kernel
theorem d_TextReader_endOfFree_28 : decode b_TextReader_endOfFree 28 = .ok (.if_icmp .ne 10, 3) := by decide +kernel
theorem d_TextReader_endOfFree_31 : decode b_TextReader_endOfFree 31 = .ok (.aload_n 0, 1) := by decide +kernel
theorem d_TextReader_endOfFree_32 : decode b_TextReader_endOfFree 32 = .ok (.getfield 29, 3) := by decide +kernel
theorem d_TextReader_endOfFree_35 : decode b_TextReader_endOfFree 35 = .ok (.goto 9, 3) := by decide +kernel
theorem d_TextReader_endOfFree_38 : decode b_TextReader_endOfFree 38 = .ok (.aload_n 0, 1) := by decide +kernel
theorem d_TextReader_endOfFree_39 : decode b_TextReader_endOfFree 39 = .ok (.getfield 29, 3) := by decide +kernel
theorem d_TextReader_endOfFree_42 : decode b_TextReader_endOfFree 42 = .ok (.iconst 1, 1) := by decide +kernel
theorem d_TextReader_endOfFree_43 : decode b_TextReader_endOfFree 43 = .ok (.iadd, 1) := by decide +kernel
theorem d_TextReader_endOfFree_44 : decode b_TextReader_endOfFree 44 = .ok (.istore 7, 2) := by decide +kernel
theorem d_TextReader_endOfFree_46 : decode b_TextReader_endOfFree 46 = .ok (.iload 5, 2) := by decide +kernel
theorem d_TextReader_endOfFree_48 : decode b_TextReader_endOfFree 48 = .ok (.iconst 4, 1) := by decide +kernel
theorem d_TextReader_endOfFree_49 : decode b_TextReader_endOfFree 49 = .ok (.if_icmp .ne 7, 3) := by decide +kernel
theorem d_TextReader_endOfFree_52 : decode b_TextReader_endOfFree 52 = .ok (.iconst 4, 1) := by decide +kernel
theorem d_TextReader_endOfFree_53 : decode b_TextReader_endOfFree 53 = .ok (.goto 4, 3) := by decide +kernel
theorem d_TextReader_endOfFree_56 : decode b_TextReader_endOfFree 56 = .ok (.iconst 1, 1) := by decide +kernel
theorem d_TextReader_endOfFree_57 : decode b_TextReader_endOfFree 57 = .ok (.istore 8, 2) := by decide +kernel
theorem d_TextReader_endOfFree_59 : decode b_TextReader_endOfFree 59 = .ok (.aload_n 2, 1) := by decide +kernel
theorem d_TextReader_endOfFree_60 : decode b_TextReader_endOfFree 60 = .ok (.iload_n 3, 1) := by decide +kernel
theorem d_TextReader_endOfFree_61 : decode b_TextReader_endOfFree 61 = .ok (.aload_n 0, 1) := by decide +kernel
theorem d_TextReader_endOfFree_62 : decode b_TextReader_endOfFree 62 = .ok (.getfield 21, 3) := by decide +kernel
theorem d_TextReader_endOfFree_65 : decode b_TextReader_endOfFree 65 = .ok (.aload_n 2, 1) := by decide +kernel
theorem d_TextReader_endOfFree_66 : decode b_TextReader_endOfFree 66 = .ok (.getfield 40, 3) := by decide +kernel
theorem d_TextReader_endOfFree_69 : decode b_TextReader_endOfFree 69 = .ok (.invokevirtual 74, 3) := by decide +kernel
theorem d_TextReader_endOfFree_72 : decode b_TextReader_endOfFree 72 = .ok (.invokevirtual 150, 3) := by decide +kernel
theorem d_TextReader_endOfFree_75 : decode b_TextReader_endOfFree 75 = .ok (.istore 9, 2) := by decide +kernel
theorem d_TextReader_endOfFree_77 : decode b_TextReader_endOfFree 77 = .ok (.aload_n 1, 1) := by decide +kernel
theorem d_TextReader_endOfFree_78 : decode b_TextReader_endOfFree 78 = .ok (.iload 7, 2) := by decide +kernel
theorem d_TextReader_endOfFree_80 : decode b_TextReader_endOfFree 80 = .ok (.iload 4, 2) := by decide +kernel
theorem d_TextReader_endOfFree_82 : decode b_TextReader_endOfFree 82 = .ok (.invokestatic 153, 3) := by decide +kernel
theorem d_TextReader_endOfFree_85 : decode b_TextReader_endOfFree 85 = .ok (.iload 9, 2) := by decide +kernel
theorem d_TextReader_endOfFree_87 : decode b_TextReader_endOfFree 87 = .ok (.iadd, 1) := by decide +kernel
theorem d_TextReader_endOfFree_88 : decode b_TextReader_endOfFree 88 = .ok (.invokevirtual 139, 3) := by decide +kernel
theorem d_TextReader_endOfFree_91 : decode b_TextReader_endOfFree 91 = .ok (.istore 10, 2) := by decide +kernel
theorem d_TextReader_endOfFree_93 : decode b_TextReader_endOfFree 93 = .ok (.iload 10, 2) := by decide +kernel
theorem d_TextReader_endOfFree_95 : decode b_TextReader_endOfFree 95 = .ok (.iload 8, 2) := by decide +kernel
theorem d_TextReader_endOfFree_97 : decode b_TextReader_endOfFree 97 = .ok (.if_icmp .ge 5, 3) := by decide +kernel
theorem d_TextReader_endOfFree_100 : decode b_TextReader_endOfFree 100 = .ok (.iconst (-1), 1) := by decide +kernel
theorem d_TextReader_endOfFree_101 : decode b_TextReader_endOfFree 101 = .ok (.ireturn, 1) := by decide +kernel
theorem d_TextReader_endOfFree_102 : decode b_TextReader_endOfFree 102 = .ok (.iload 8, 2) := by decide +kernel
theorem d_TextReader_endOfFree_104 : decode b_TextReader_endOfFree 104 = .ok (.iload 10, 2) := by decide +kernel
theorem d_TextReader_endOfFree_106 : decode b_TextReader_endOfFree 106 = .ok (.iload 9, 2) := by decide +kernel
theorem d_TextReader_endOfFree_108 : decode b_TextReader_endOfFree 108 = .ok (.isub, 1) := by decide +kernel
theorem d_TextReader_endOfFree_109 : decode b_TextReader_endOfFree 109 = .ok (.invokestatic 77, 3) := by decide +kernel
theorem d_TextReader_endOfFree_112 : decode b_TextReader_endOfFree 112 = .ok (.istore 11, 2) := by decide +kernel
theorem d_TextReader_endOfFree_114 : decode b_TextReader_endOfFree 114 = .ok (.aload_n 1, 1) := by decide +kernel
theorem d_TextReader_endOfFree_115 : decode b_TextReader_endOfFree 115 = .ok (.iload 7, 2) := by decide +kernel
theorem d_TextReader_endOfFree_117 : decode b_TextReader_endOfFree 117 = .ok (.iload 11, 2) := by decide +kernel
theorem d_TextReader_endOfFree_119 : decode b_TextReader_endOfFree 119 = .ok (.invokevirtual 142, 3) := by decide +kernel
theorem d_TextReader_endOfFree_122 : decode b_TextReader_endOfFree 122 = .ok (.istore 12, 2) := by decide +kernel
theorem d_TextReader_endOfFree_124 : decode b_TextReader_endOfFree 124 = .ok (.iload 6, 2) := by decide +kernel
theorem d_TextReader_endOfFree_126 : decode b_TextReader_endOfFree 126 = .ok (.bipush 45, 2) := by decide +kernel
theorem d_TextReader_endOfFree_128 : decode b_TextReader_endOfFree 128 = .ok (.if_icmp .ne 8, 3) := by decide +kernel
theorem d_TextReader_endOfFree_131 : decode b_TextReader_endOfFree 131 = .ok (.iload 12, 2) := by decide +kernel
theorem d_TextReader_endOfFree_133 : decode b_TextReader_endOfFree 133 = .ok (.ifCond .eq 34, 3) := by decide +kernel
theorem d_TextReader_endOfFree_136 : decode b_TextReader_endOfFree 136 = .ok (.iload 5, 2) := by decide +kernel
theorem d_TextReader_endOfFree_138 : decode b_TextReader_endOfFree 138 = .ok (.iconst 4, 1) := by decide +kernel
theorem d_TextReader_endOfFree_139 : decode b_TextReader_endOfFree 139 = .ok (.if_icmp .ne 32, 3) := by decide +kernel
theorem d_TextReader_endOfFree_142 : decode b_TextReader_endOfFree 142 = .ok (.iload 6, 2) := by decide +kernel
theorem d_TextReader_endOfFree_144 : decode b_TextReader_endOfFree 144 = .ok (.bipush 43, 2) := by decide +kernel
theorem d_TextReader_endOfFree_146 : decode b_TextReader_endOfFree 146 = .ok (.if_icmp .ne 9, 3) := by decide +kernel
theorem d_TextReader_endOfFree_149 : decode b_TextReader_endOfFree 149 = .ok (.iload 11, 2) := by decide +kernel
theorem d_TextReader_endOfFree_151 : decode b_TextReader_endOfFree 151 = .ok (.iconst 4, 1) := by decide +kernel
theorem d_TextReader_endOfFree_152 : decode b_TextReader_endOfFree 152 = .ok (.if_icmp .eq 15, 3) := by decide +kernel
theorem d_TextReader_endOfFree_155 : decode b_TextReader_endOfFree 155 = .ok (.iload 6, 2) := by decide +kernel
theorem d_TextReader_endOfFree_157 : decode b_TextReader_endOfFree 157 = .ok (.iconst (-1), 1) := by decide +kernel
theorem d_TextReader_endOfFree_158 : decode b_TextReader_endOfFree 158 = .ok (.if_icmp .ne 13, 3) := by decide +kernel
theorem d_TextReader_endOfFree_161 : decode b_TextReader_endOfFree 161 = .ok (.iload 11, 2) := by decide +kernel
theorem d_TextReader_endOfFree_163 : decode b_TextReader_endOfFree 163 = .ok (.iconst 4, 1) := by decide +kernel
theorem d_TextReader_endOfFree_164 : decode b_TextReader_endOfFree 164 = .ok (.if_icmp .le 7, 3) := by decide +kernel
theorem d_TextReader_endOfFree_167 : decode b_TextReader_endOfFree 167 = .ok (.iconst 1, 1) := by decide +kernel
theorem d_TextReader_endOfFree_168 : decode b_TextReader_endOfFree 168 = .ok (.goto 4, 3) := by decide +kernel
theorem d_TextReader_endOfFree_171 : decode b_TextReader_endOfFree 171 = .ok (.iconst 0, 1) := by decide +kernel
theorem d_TextReader_endOfFree_172 : decode b_TextReader_endOfFree 172 = .ok (.istore 13, 2) := by decide +kernel
theorem d_TextReader_endOfFree_174 : decode b_TextReader_endOfFree 174 = .ok (.iload 13, 2) := by decide +kernel
theorem d_TextReader_endOfFree_176 : decode b_TextReader_endOfFree 176 = .ok (.ifCond .eq 7, 3) := by decide +kernel
theorem d_TextReader_endOfFree_179 : decode b_TextReader_endOfFree 179 = .ok (.iconst (-1), 1) := by decide +kernel
theorem d_TextReader_endOfFree_180 : decode b_TextReader_endOfFree 180 = .ok (.goto 29, 3) := by decide +kernel
theorem d_TextReader_endOfFree_183 : decode b_TextReader_endOfFree 183 = .ok (.aload_n 0, 1) := by decide +kernel
theorem d_TextReader_endOfFree_184 : decode b_TextReader_endOfFree 184 = .ok (.iload 4, 2) := by decide +kernel
theorem d_TextReader_endOfFree_186 : decode b_TextReader_endOfFree 186 = .ok (.iload 6, 2) := by decide +kernel
theorem d_TextReader_endOfFree_188 : decode b_TextReader_endOfFree 188 = .ok (.bipush 45, 2) := by decide +kernel
theorem d_TextReader_endOfFree_190 : decode b_TextReader_endOfFree 190 = .ok (.if_icmp .ne 9, 3) := by decide +kernel
theorem d_TextReader_endOfFree_193 : decode b_TextReader_endOfFree 193 = .ok (.iload 12, 2) := by decide +kernel
theorem d_TextReader_endOfFree_195 : decode b_TextReader_endOfFree 195 = .ok (.ineg, 1) := by decide +kernel
theorem d_TextReader_endOfFree_196 : decode b_TextReader_endOfFree 196 = .ok (.goto 5, 3) := by decide +kernel
theorem d_TextReader_endOfFree_199 : decode b_TextReader_endOfFree 199 = .ok (.iload 12, 2) := by decide +kernel
theorem d_TextReader_endOfFree_201 : decode b_TextReader_endOfFree 201 = .ok (.iload 7, 2) := by decide +kernel
theorem d_TextReader_endOfFree_203 : decode b_TextReader_endOfFree 203 = .ok (.iload 11, 2) := by decide +kernel
theorem d_TextReader_endOfFree_205 : decode b_TextReader_endOfFree 205 = .ok (.iadd, 1) := by decide +kernel
theorem d_TextReader_endOfFree_206 : decode b_TextReader_endOfFree 206 = .ok (.invokevirtual 131, 3) := by decide +kernel
theorem d_TextReader_endOfFree_209 : decode b_TextReader_endOfFree 209 = .ok (.ireturn, 1) := by decide +kernel
def f_TextReader_small (x0 : Int32) : Option (Int32) :=
  (if x0 < (65 : Int32) then (some x0) else (if (90 : Int32) < x0 then (some x0) else (some ((x0 - (65 : Int32)) + (97 : Int32)))))
abbrev rm_TextReader_small : Room := { frames := 0, cells := 0, slots := 0, locals := 0 }
set_option maxHeartbeats 4000000 in
set_option maxRecDepth 100000 in
theorem c_TextReader_small (l : Launch) (D : va_G) (kk : Nat → ClassId) (st : Nat → Nat) (sz : Nat) (x0 : Int32) (o : Int32) (he : f_TextReader_small x0 = some o) : Met l y_TextReader_small (Cond.code y_TextReader_small b_TextReader_small 1 (some .int) :: GW) rm_TextReader_small (KPc D kk st [.int x0] [] sz) (KQi D kk o [] (va_A [] sz)) 0 0 (va_A [] sz) := by
  refine k_start (Qc := fun A => KQi D kk o [] A) (by decide) (Nat.le_of_ble_eq_true rfl) ?_
  intro p e s m below meth c A ls S hnm hr hlk hA X hP hD hS hl
  have hl : lv_has ls 1 [(0, .int x0)] := hl
  have hx := S.1
  have hb := S.2.1
  unfold f_TextReader_small at he
  refine lv_iload_n hx hb d_TextReader_small_0 rfl (lv_at hl 0 rfl) ?_
  refine lv_bipush (v := (65 : Int32)) hx hb d_TextReader_small_1 (by decide) ?_
  refine lv_icmp_lt (tgt := 22) hx hb d_TextReader_small_3 rfl (fun hc => ?_) (fun hc => ?_)
  · have he := ih_t hc he
    refine lv_iload_n hx hb d_TextReader_small_22 rfl (lv_at hl 0 rfl) ?_
    cases he
    exact k_ire hx hb hr hlk X hP hD hS d_TextReader_small_23
  · have he := ih_f hc he
    refine lv_iload_n hx hb d_TextReader_small_6 rfl (lv_at hl 0 rfl) ?_
    refine lv_bipush (v := (90 : Int32)) hx hb d_TextReader_small_7 (by decide) ?_
    refine lv_icmp_gt (tgt := 22) hx hb d_TextReader_small_9 rfl (fun hc => ?_) (fun hc => ?_)
    · have he := ih_t hc he
      refine lv_iload_n hx hb d_TextReader_small_22 rfl (lv_at hl 0 rfl) ?_
      cases he
      exact k_ire hx hb hr hlk X hP hD hS d_TextReader_small_23
    · have he := ih_f hc he
      refine lv_iload_n hx hb d_TextReader_small_12 rfl (lv_at hl 0 rfl) ?_
      refine lv_bipush (v := (65 : Int32)) hx hb d_TextReader_small_13 (by decide) ?_
      refine lv_isub hx hb d_TextReader_small_15 ?_
      refine lv_bipush (v := (97 : Int32)) hx hb d_TextReader_small_16 (by decide) ?_
      refine lv_iadd hx hb d_TextReader_small_18 ?_
      refine lv_goto (tgt := 23) hx hb d_TextReader_small_19 rfl ?_
      cases he
      exact k_ire hx hb hr hlk X hP hD hS d_TextReader_small_23
def f_TextReader_isAlike (t_loose : Int32) (x1 : Int32) (x2 : Int32) : Option (Int32) :=
  (if x1 = x2 then (some (1 : Int32)) else (if t_loose = 0 then (some (0 : Int32)) else ((f_TextReader_small x1).bind fun u1 => ((f_TextReader_small x2).bind fun u3 => (if u1 = u3 then (some (1 : Int32)) else (some (0 : Int32)))))))
abbrev rm_TextReader_isAlike : Room := { frames := 1, cells := 0, slots := 0, locals := 20 }
set_option maxHeartbeats 4000000 in
set_option maxRecDepth 100000 in
theorem c_TextReader_isAlike (l : Launch) (D : va_G) (kk : Nat → ClassId) (st : Nat → Nat) (a_t a_t_known a_t_nest : Nat) (sz : Nat) (t_loose : Int32) (t_place : Int32) (x1 : Int32) (x2 : Int32) (o : Int32) (he : f_TextReader_isAlike t_loose x1 x2 = some o) : Met l y_TextReader_isAlike (Cond.code y_TextReader_isAlike b_TextReader_isAlike 3 (some .boolean) :: GW) rm_TextReader_isAlike (KPc D kk st [.ref a_t, .int x1, .int x2] [(a_t, .inr (8, [.ref a_t_known, .ref a_t_nest, .int t_loose, .int t_place]))] sz) (KQi D kk o [(a_t, .inr (8, [.ref a_t_known, .ref a_t_nest, .int t_loose, .int t_place]))] (va_A [(a_t, .inr (8, [.ref a_t_known, .ref a_t_nest, .int t_loose, .int t_place]))] sz)) 0 0 (va_A [(a_t, .inr (8, [.ref a_t_known, .ref a_t_nest, .int t_loose, .int t_place]))] sz) := by
  refine k_start (Qc := fun A => KQi D kk o [(a_t, .inr (8, [.ref a_t_known, .ref a_t_nest, .int t_loose, .int t_place]))] A) (by decide) (Nat.le_of_ble_eq_true rfl) ?_
  intro p e s m below meth c A ls S hnm hr hlk hA X hP hD hS hl
  have hl : lv_has ls 3 [(0, .ref a_t), (1, .int x1), (2, .int x2)] := hl
  have hx := S.1
  have hb := S.2.1
  unfold f_TextReader_isAlike at he
  refine lv_iload_n hx hb d_TextReader_isAlike_0 rfl (lv_at hl 1 rfl) ?_
  refine lv_iload_n hx hb d_TextReader_isAlike_1 rfl (lv_at hl 2 rfl) ?_
  refine lv_icmp_eq (tgt := 23) hx hb d_TextReader_isAlike_2 rfl (fun hc => ?_) (fun hc => ?_)
  · have he := ih_t hc he
    refine lv_iconst (v := (1 : Int32)) hx hb d_TextReader_isAlike_23 (by decide) ?_
    refine lv_goto (tgt := 28) hx hb d_TextReader_isAlike_24 rfl ?_
    cases he
    exact k_zre hx hb hr hlk X hP hD hS (Or.inr rfl) d_TextReader_isAlike_28
  · have he := ih_f hc he
    refine lv_aload_n hx hb d_TextReader_isAlike_5 rfl (lv_at hl 0 rfl) ?_
    refine k_get S X us_TextReader hP 0 rfl rfl 2 (by decide) gm_1_155 rfl d_TextReader_isAlike_6 ?_
    refine lv_if_eq (tgt := 27) hx hb d_TextReader_isAlike_9 rfl (fun hc => ?_) (fun hc => ?_)
    · have he := ih_t hc he
      refine lv_iconst (v := (0 : Int32)) hx hb d_TextReader_isAlike_27 (by decide) ?_
      cases he
      exact k_zre hx hb hr hlk X hP hD hS (Or.inl rfl) d_TextReader_isAlike_28
    · have he := ih_f hc he
      refine lv_iload_n hx hb d_TextReader_isAlike_12 rfl (lv_at hl 1 rfl) ?_
      obtain ⟨u1, e2, he⟩ := ih_b he
      refine k_io (r_S (As := [.int x1]) S X hA hP hD hS (c_TextReader_small l D kk st _ x1 u1 e2) gm_3_200 gm_3_198 gm_3_199 gm_1_7 ⟨rfl, rfl, by decide, by decide⟩ kd_TextReader_small [] rfl rfl rfl rfl hl.1 rfl (Nat.le_of_ble_eq_true rfl) d_TextReader_isAlike_13 ⟨Nat.zero_le _, Nat.zero_le _⟩) hA hP hD hS [] rfl (fun H locs hP hS => ?_)
      refine lv_iload_n hx hb d_TextReader_isAlike_16 rfl (lv_at hl 2 rfl) ?_
      obtain ⟨u3, e4, he⟩ := ih_b he
      refine k_io (r_S (As := [.int x2]) S X hA hP hD hS (c_TextReader_small l D kk st _ x2 u3 e4) gm_3_200 gm_3_198 gm_3_199 gm_1_7 ⟨rfl, rfl, by decide, by decide⟩ kd_TextReader_small [] rfl rfl rfl rfl hl.1 rfl (Nat.le_of_ble_eq_true rfl) d_TextReader_isAlike_17 ⟨Nat.zero_le _, Nat.zero_le _⟩) hA hP hD hS [] rfl (fun H locs hP hS => ?_)
      refine lv_icmp_ne (tgt := 27) hx hb d_TextReader_isAlike_20 rfl (fun hc => ?_) (fun hc => ?_)
      · have he := ih_f hc he
        refine lv_iconst (v := (0 : Int32)) hx hb d_TextReader_isAlike_27 (by decide) ?_
        cases he
        exact k_zre hx hb hr hlk X hP hD hS (Or.inl rfl) d_TextReader_isAlike_28
      · have he := ih_t hc he
        refine lv_iconst (v := (1 : Int32)) hx hb d_TextReader_isAlike_23 (by decide) ?_
        refine lv_goto (tgt := 28) hx hb d_TextReader_isAlike_24 rfl ?_
        cases he
        exact k_zre hx hb hr hlk X hP hD hS (Or.inr rfl) d_TextReader_isAlike_28
def f_TextReader_endWith (t_known_size : Int32) (t_known_values : Nat → Int32) (t_known_flags : Nat → Int32) (t_known_order : Nat → Int32) (x1 : Int32) (x2 : Int32) (x3 : Int32) : Option (Int32 × Int32 × (Nat → Int32) × (Nat → Int32) × (Nat → Int32)) :=
  ((f_Known_learn t_known_size t_known_values t_known_flags t_known_order x1 x2).bind fun u1 => (if u1.1 = 0 then (some ((-1 : Int32), u1.2.1, u1.2.2.1, u1.2.2.2.1, u1.2.2.2.2)) else (some (x3, u1.2.1, u1.2.2.1, u1.2.2.2.1, u1.2.2.2.2))))
abbrev rm_TextReader_endWith : Room := { frames := 1, cells := 0, slots := 0, locals := 22 }
set_option maxHeartbeats 4000000 in
set_option maxRecDepth 100000 in
theorem c_TextReader_endWith (l : Launch) (D : va_G) (kk : Nat → ClassId) (st : Nat → Nat) (a_t a_t_known a_t_known_values a_t_known_flags a_t_known_order a_t_nest : Nat) (sz : Nat) (t_loose : Int32) (t_place : Int32) (t_known_size : Int32) (t_known_values : Nat → Int32) (t_known_flags : Nat → Int32) (t_known_order : Nat → Int32) (x1 : Int32) (x2 : Int32) (x3 : Int32) (o : Int32 × Int32 × (Nat → Int32) × (Nat → Int32) × (Nat → Int32)) (he : f_TextReader_endWith t_known_size t_known_values t_known_flags t_known_order x1 x2 x3 = some o) : Met l y_TextReader_endWith (Cond.code y_TextReader_endWith b_TextReader_endWith 4 (some .int) :: GW) rm_TextReader_endWith (KPc D kk st [.ref a_t, .int x1, .int x2, .int x3] [(a_t, .inr (8, [.ref a_t_known, .ref a_t_nest, .int t_loose, .int t_place])), (a_t_known, .inr (7, [.ref a_t_known_values, .ref a_t_known_flags, .ref a_t_known_order, .int t_known_size])), (a_t_known_values, .inl (kk 0, 14, .inl t_known_values)), (a_t_known_flags, .inl (kk 2, 14, .inl t_known_flags)), (a_t_known_order, .inl (kk 0, 14, .inl t_known_order))] sz) (KQi D kk o.1 [(a_t, .inr (8, [.ref a_t_known, .ref a_t_nest, .int t_loose, .int t_place])), (a_t_known, .inr (7, [.ref a_t_known_values, .ref a_t_known_flags, .ref a_t_known_order, .int o.2.1])), (a_t_known_values, .inl (kk 0, 14, .inl o.2.2.1)), (a_t_known_flags, .inl (kk 2, 14, .inl o.2.2.2.1)), (a_t_known_order, .inl (kk 0, 14, .inl o.2.2.2.2))] (va_A [(a_t, .inr (8, [.ref a_t_known, .ref a_t_nest, .int t_loose, .int t_place])), (a_t_known, .inr (7, [.ref a_t_known_values, .ref a_t_known_flags, .ref a_t_known_order, .int t_known_size])), (a_t_known_values, .inl (kk 0, 14, .inl t_known_values)), (a_t_known_flags, .inl (kk 2, 14, .inl t_known_flags)), (a_t_known_order, .inl (kk 0, 14, .inl t_known_order))] sz)) 0 0 (va_A [(a_t, .inr (8, [.ref a_t_known, .ref a_t_nest, .int t_loose, .int t_place])), (a_t_known, .inr (7, [.ref a_t_known_values, .ref a_t_known_flags, .ref a_t_known_order, .int t_known_size])), (a_t_known_values, .inl (kk 0, 14, .inl t_known_values)), (a_t_known_flags, .inl (kk 2, 14, .inl t_known_flags)), (a_t_known_order, .inl (kk 0, 14, .inl t_known_order))] sz) := by
  refine k_start (Qc := fun A => KQi D kk o.1 [(a_t, .inr (8, [.ref a_t_known, .ref a_t_nest, .int t_loose, .int t_place])), (a_t_known, .inr (7, [.ref a_t_known_values, .ref a_t_known_flags, .ref a_t_known_order, .int o.2.1])), (a_t_known_values, .inl (kk 0, 14, .inl o.2.2.1)), (a_t_known_flags, .inl (kk 2, 14, .inl o.2.2.2.1)), (a_t_known_order, .inl (kk 0, 14, .inl o.2.2.2.2))] A) (by decide) (Nat.le_of_ble_eq_true rfl) ?_
  intro p e s m below meth c A ls S hnm hr hlk hA X hP hD hS hl
  have hl : lv_has ls 4 [(0, .ref a_t), (1, .int x1), (2, .int x2), (3, .int x3)] := hl
  have hx := S.1
  have hb := S.2.1
  unfold f_TextReader_endWith at he
  refine lv_aload_n hx hb d_TextReader_endWith_0 rfl (lv_at hl 0 rfl) ?_
  refine k_get S X us_TextReader hP 0 rfl rfl 0 (by decide) gm_1_152 rfl d_TextReader_endWith_1 ?_
  refine lv_iload_n hx hb d_TextReader_endWith_4 rfl (lv_at hl 1 rfl) ?_
  refine lv_iload_n hx hb d_TextReader_endWith_5 rfl (lv_at hl 2 rfl) ?_
  obtain ⟨u1, e2, he⟩ := ih_b he
  refine k_i (wr := [(a_t, .inr (8, [.ref a_t_known, .ref a_t_nest, .int t_loose, .int t_place]))]) (w1 := [(a_t_known, .inr (7, [.ref a_t_known_values, .ref a_t_known_flags, .ref a_t_known_order, .int u1.2.1])), (a_t_known_values, .inl (kk 0, 14, .inl u1.2.2.1)), (a_t_known_flags, .inl (kk 2, 14, .inl u1.2.2.2.1)), (a_t_known_order, .inl (kk 0, 14, .inl u1.2.2.2.2))]) (w2 := [(a_t, .inr (8, [.ref a_t_known, .ref a_t_nest, .int t_loose, .int t_place])), (a_t_known, .inr (7, [.ref a_t_known_values, .ref a_t_known_flags, .ref a_t_known_order, .int u1.2.1])), (a_t_known_values, .inl (kk 0, 14, .inl u1.2.2.1)), (a_t_known_flags, .inl (kk 2, 14, .inl u1.2.2.2.1)), (a_t_known_order, .inl (kk 0, 14, .inl u1.2.2.2.2))]) (r_V (As := [.int x1, .int x2]) S X hA hP hD hS (c_Known_learn l D kk st a_t_known a_t_known_values a_t_known_flags a_t_known_order _ t_known_size t_known_values t_known_flags t_known_order x1 x2 u1 e2) gm_3_222 gm_3_219 gm_3_220 gm_3_221 gm_1_8 ⟨rfl, rfl, by decide, by decide⟩ kd_Known_learn [1, 2, 3, 4] rfl rfl rfl 1 7 rfl rfl rfl rfl hl.1 rfl (Nat.le_of_ble_eq_true rfl) d_TextReader_endWith_6 ⟨Nat.zero_le _, Nat.zero_le _⟩) hA hP hD hS [1, 2, 3, 4] [0] [0, 1, 2, 3, 4] rfl rfl rfl (by decide) rfl rfl rfl (fun H locs hP hD hS => ?_)
  refine lv_if_eq (tgt := 16) hx hb d_TextReader_endWith_9 rfl (fun hc => ?_) (fun hc => ?_)
  · have he := ih_t hc he
    refine lv_iconst (v := (-1 : Int32)) hx hb d_TextReader_endWith_16 (by decide) ?_
    cases he
    exact k_ire hx hb hr hlk X hP hD hS d_TextReader_endWith_17
  · have he := ih_f hc he
    refine lv_iload_n hx hb d_TextReader_endWith_12 rfl (lv_at hl 3 rfl) ?_
    refine lv_goto (tgt := 17) hx hb d_TextReader_endWith_13 rfl ?_
    cases he
    exact k_ire hx hb hr hlk X hP hD hS d_TextReader_endWith_17
def f_SkeletonClock_isYearField (x0 : Int32) : Option (Int32) :=
  (if x0 = 0 then (some (1 : Int32)) else (if x0 = (1 : Int32) then (some (1 : Int32)) else (some (0 : Int32))))
abbrev rm_SkeletonClock_isYearField : Room := { frames := 0, cells := 0, slots := 0, locals := 0 }
set_option maxHeartbeats 4000000 in
set_option maxRecDepth 100000 in
theorem c_SkeletonClock_isYearField (l : Launch) (D : va_G) (kk : Nat → ClassId) (st : Nat → Nat) (sz : Nat) (x0 : Int32) (o : Int32) (he : f_SkeletonClock_isYearField x0 = some o) : Met l y_SkeletonClock_isYearField (Cond.code y_SkeletonClock_isYearField b_SkeletonClock_isYearField 1 (some .boolean) :: GW) rm_SkeletonClock_isYearField (KPc D kk st [.int x0] [] sz) (KQi D kk o [] (va_A [] sz)) 0 0 (va_A [] sz) := by
  refine k_start (Qc := fun A => KQi D kk o [] A) (by decide) (Nat.le_of_ble_eq_true rfl) ?_
  intro p e s m below meth c A ls S hnm hr hlk hA X hP hD hS hl
  have hl : lv_has ls 1 [(0, .int x0)] := hl
  have hx := S.1
  have hb := S.2.1
  unfold f_SkeletonClock_isYearField at he
  refine lv_iload_n hx hb d_SkeletonClock_isYearField_0 rfl (lv_at hl 0 rfl) ?_
  refine lv_if_eq (tgt := 9) hx hb d_SkeletonClock_isYearField_1 rfl (fun hc => ?_) (fun hc => ?_)
  · have he := ih_t hc he
    refine lv_iconst (v := (1 : Int32)) hx hb d_SkeletonClock_isYearField_9 (by decide) ?_
    refine lv_goto (tgt := 14) hx hb d_SkeletonClock_isYearField_10 rfl ?_
    cases he
    exact k_zre hx hb hr hlk X hP hD hS (Or.inr rfl) d_SkeletonClock_isYearField_14
  · have he := ih_f hc he
    refine lv_iload_n hx hb d_SkeletonClock_isYearField_4 rfl (lv_at hl 0 rfl) ?_
    refine lv_iconst (v := (1 : Int32)) hx hb d_SkeletonClock_isYearField_5 (by decide) ?_
    refine lv_icmp_ne (tgt := 13) hx hb d_SkeletonClock_isYearField_6 rfl (fun hc => ?_) (fun hc => ?_)
    · have he := ih_f hc he
      refine lv_iconst (v := (0 : Int32)) hx hb d_SkeletonClock_isYearField_13 (by decide) ?_
      cases he
      exact k_zre hx hb hr hlk X hP hD hS (Or.inl rfl) d_SkeletonClock_isYearField_14
    · have he := ih_t hc he
      refine lv_iconst (v := (1 : Int32)) hx hb d_SkeletonClock_isYearField_9 (by decide) ?_
      refine lv_goto (tgt := 14) hx hb d_SkeletonClock_isYearField_10 rfl ?_
      cases he
      exact k_zre hx hb hr hlk X hP hD hS (Or.inr rfl) d_SkeletonClock_isYearField_14
def st_TextReader_endOfFixed_48 (n_q1_cells : Nat) (x2 : Int32) (x3 : Int32) (rec : Int32 → Int32 → Option (Int32 × Int32)) (x4 : Int32) (x5 : Int32) : Option (Int32 × Int32) :=
  (if (9 : Int32) ≤ x5 then (some (x4, x5)) else (rec (x4 * (10 : Int32)) (x5 + (1 : Int32))))
def lp_TextReader_endOfFixed_48 (n_q1_cells : Nat) (x2 : Int32) (x3 : Int32) : Nat → Int32 → Int32 → Option (Int32 × Int32)
  | 0, _, _ => none
  | n + 1, a0, a1 => st_TextReader_endOfFixed_48 n_q1_cells x2 x3 (lp_TextReader_endOfFixed_48 n_q1_cells x2 x3 n) a0 a1
def jn_TextReader_endOfFixed_39 (n_q1_cells : Nat) (t_place : Int32) (t_known_size : Int32) (t_known_values : Nat → Int32) (t_known_flags : Nat → Int32) (t_known_order : Nat → Int32) (q1_size : Int32) (q1_cells : Nat → Int32) (x2 : Int32) (x3 : Int32) (x4 : Int32) : Option (Int32 × Int32 × (Nat → Int32) × (Nat → Int32) × (Nat → Int32)) :=
  (if x2 = (12 : Int32) then ((lp_TextReader_endOfFixed_48 n_q1_cells x2 x3 FU x4 x3).bind fun u9 => ((f_TextReader_endWith t_known_size t_known_values t_known_flags t_known_order x2 u9.1 (t_place + x3)).bind fun u11 => (some (u11.1, u11.2.1, u11.2.2.1, u11.2.2.2.1, u11.2.2.2.2)))) else ((f_TextReader_endWith t_known_size t_known_values t_known_flags t_known_order x2 x4 (t_place + x3)).bind fun u7 => (some (u7.1, u7.2.1, u7.2.2.1, u7.2.2.2.1, u7.2.2.2.2))))
def f_TextReader_endOfFixed (n_q1_cells : Nat) (t_place : Int32) (t_known_size : Int32) (t_known_values : Nat → Int32) (t_known_flags : Nat → Int32) (t_known_order : Nat → Int32) (q1_size : Int32) (q1_cells : Nat → Int32) (x2 : Int32) (x3 : Int32) : Option (Int32 × Int32 × (Nat → Int32) × (Nat → Int32) × (Nat → Int32)) :=
  ((f_Row_digits n_q1_cells q1_size q1_cells t_place x3).bind fun u1 => (if x3 ≤ u1 then ((f_Row_number n_q1_cells q1_size q1_cells t_place x3).bind fun u3 => ((f_SkeletonClock_isYearField x2).bind fun u5 => (if u5 = 0 then (jn_TextReader_endOfFixed_39 n_q1_cells t_place t_known_size t_known_values t_known_flags t_known_order q1_size q1_cells x2 x3 u3) else (jn_TextReader_endOfFixed_39 n_q1_cells t_place t_known_size t_known_values t_known_flags t_known_order q1_size q1_cells x2 x3 (u3 + (2000 : Int32)))))) else (some ((-1 : Int32), t_known_size, t_known_values, t_known_flags, t_known_order))))
abbrev rm_TextReader_endOfFixed : Room := { frames := 2, cells := 0, slots := 0, locals := 45 }
set_option maxHeartbeats 4000000 in
set_option maxRecDepth 100000 in
theorem w_TextReader_endOfFixed_48 {p : Program} {l : Launch} {e : Env} {s : State} {m : MethodId} {args : Array Value} {below : List Frame} {meth : Method} {c : Code} {Q : State → Prop} {A : Nat → Prop} {D : va_G} {kk : Nat → ClassId} {st : Nat → Nat} (a_t a_t_known a_t_known_values a_t_known_flags a_t_known_order a_q1 a_q1_cells a_t_nest : Nat) (n_q1_cells : Nat) (t_loose : Int32) (t_place : Int32) (t_known_size : Int32) (t_known_values : Nat → Int32) (t_known_flags : Nat → Int32) (t_known_order : Nat → Int32) (q1_size : Int32) (q1_cells : Nat → Int32) (x2 : Int32) (x3 : Int32) (S : CallFix p m c b_TextReader_endOfFixed 6 s args GW y_TextReader_endOfFixed.cls) (hr : meth.sig.returnType = (some .int)) (hlk : meth.locks = false) (hA : ∀ q, s.heap.size ≤ q → A q) (X : KX D kk st A s) : ∀ (n : Nat) (x4 : Int32) (x5 : Int32) (v : Int32 × Int32) (H : Heap) (locs : List Loc) (ls : Array Slot), lp_TextReader_endOfFixed_48 n_q1_cells x2 x3 n x4 x5 = some v → lv_has ls 6 [(0, .ref a_t), (2, .int x2), (3, .int x3), (4, .int x4), (5, .int x5)] → va_P D classes [(a_t, .inr (8, [.ref a_t_known, .ref a_t_nest, .int t_loose, .int t_place])), (a_t_known, .inr (7, [.ref a_t_known_values, .ref a_t_known_flags, .ref a_t_known_order, .int t_known_size])), (a_t_known_values, .inl (kk 0, 14, .inl t_known_values)), (a_t_known_flags, .inl (kk 2, 14, .inl t_known_flags)), (a_t_known_order, .inl (kk 0, 14, .inl t_known_order)), (a_q1, .inr (1, [.ref a_q1_cells, .int q1_size])), (a_q1_cells, .inl (kk 1, n_q1_cells, .inl q1_cells))] H → va_D A [(a_t, .inr (8, [.ref a_t_known, .ref a_t_nest, .int t_loose, .int t_place])), (a_t_known, .inr (7, [.ref a_t_known_values, .ref a_t_known_flags, .ref a_t_known_order, .int t_known_size])), (a_t_known_values, .inl (kk 0, 14, .inl t_known_values)), (a_t_known_flags, .inl (kk 2, 14, .inl t_known_flags)), (a_t_known_order, .inl (kk 0, 14, .inl t_known_order)), (a_q1, .inr (1, [.ref a_q1_cells, .int q1_size])), (a_q1_cells, .inl (kk 1, n_q1_cells, .inl q1_cells))] → va_S A s.heap H locs → (∀ (H : Heap) (locs : List Loc) (ls : Array Slot), lv_has ls 6 [(0, .ref a_t), (2, .int x2), (3, .int x3), (4, .int v.1), (5, .int v.2)] → va_P D classes [(a_t, .inr (8, [.ref a_t_known, .ref a_t_nest, .int t_loose, .int t_place])), (a_t_known, .inr (7, [.ref a_t_known_values, .ref a_t_known_flags, .ref a_t_known_order, .int t_known_size])), (a_t_known_values, .inl (kk 0, 14, .inl t_known_values)), (a_t_known_flags, .inl (kk 2, 14, .inl t_known_flags)), (a_t_known_order, .inl (kk 0, 14, .inl t_known_order)), (a_q1, .inr (1, [.ref a_q1_cells, .int q1_size])), (a_q1_cells, .inl (kk 1, n_q1_cells, .inl q1_cells))] H → va_D A [(a_t, .inr (8, [.ref a_t_known, .ref a_t_nest, .int t_loose, .int t_place])), (a_t_known, .inr (7, [.ref a_t_known_values, .ref a_t_known_flags, .ref a_t_known_order, .int t_known_size])), (a_t_known_values, .inl (kk 0, 14, .inl t_known_values)), (a_t_known_flags, .inl (kk 2, 14, .inl t_known_flags)), (a_t_known_order, .inl (kk 0, 14, .inl t_known_order)), (a_q1, .inr (1, [.ref a_q1_cells, .int q1_size])), (a_q1_cells, .inl (kk 1, n_q1_cells, .inl q1_cells))] → va_S A s.heap H locs → W p l e rm_TextReader_endOfFixed s m args below meth c H locs 0 0 Q (F0 m 68 ls [])) → W p l e rm_TextReader_endOfFixed s m args below meth c H locs 0 0 Q (F0 m 48 ls []) := by
  intro n
  induction n with
  | zero =>
    intro x4 x5 v H locs ls he hl hP hD hS K
    exact ih_n he
  | succ n ih =>
    intro x4 x5 v H locs ls he hl hP hD hS K
    have hx := S.1
    have hb := S.2.1
    have he : st_TextReader_endOfFixed_48 n_q1_cells x2 x3 (lp_TextReader_endOfFixed_48 n_q1_cells x2 x3 n) x4 x5 = some v := he
    unfold st_TextReader_endOfFixed_48 at he
    refine lv_iload hx hb d_TextReader_endOfFixed_48 (lv_at hl 4 rfl) ?_
    refine lv_bipush (v := (9 : Int32)) hx hb d_TextReader_endOfFixed_50 (by decide) ?_
    refine lv_icmp_ge (tgt := 68) hx hb d_TextReader_endOfFixed_52 rfl (fun hc => ?_) (fun hc => ?_)
    · have he := ih_t hc he
      have hl : lv_has ls 6 [(0, .ref a_t), (2, .int x2), (3, .int x3), (4, .int x4), (5, .int x5)] := lv_sub hl [0, 1, 2, 3, 4] rfl
      cases he
      exact K _ _ _ hl hP hD hS
    · have he := ih_f hc he
      refine lv_iload hx hb d_TextReader_endOfFixed_55 (lv_at hl 3 rfl) ?_
      refine lv_bipush (v := (10 : Int32)) hx hb d_TextReader_endOfFixed_57 (by decide) ?_
      refine lv_imul hx hb d_TextReader_endOfFixed_59 ?_
      refine lv_istore hx hb d_TextReader_endOfFixed_60 hl (by decide) rfl (fun ls hl => ?_)
      have hl : lv_has ls 6 [(4, .int (x4 * (10 : Int32))), (0, .ref a_t), (2, .int x2), (3, .int x3), (5, .int x5)] := hl
      refine lv_iinc (k := 4) hx hb d_TextReader_endOfFixed_62 hl rfl (ii_ (v := (1 : Int32)) (by decide)) (by decide) rfl (fun ls hl => ?_)
      have hl : lv_has ls 6 [(5, .int (x5 + (1 : Int32))), (4, .int (x4 * (10 : Int32))), (0, .ref a_t), (2, .int x2), (3, .int x3)] := hl
      refine lv_goto (tgt := 48) hx hb d_TextReader_endOfFixed_65 rfl ?_
      have hl : lv_has ls 6 [(0, .ref a_t), (2, .int x2), (3, .int x3), (4, .int (x4 * (10 : Int32))), (5, .int (x5 + (1 : Int32)))] := lv_sub hl [2, 3, 4, 1, 0] rfl
      exact ih _ _ _ _ _ _ he hl hP hD hS K
set_option maxHeartbeats 4000000 in
set_option maxRecDepth 100000 in
theorem w_TextReader_endOfFixed_39 {p : Program} {l : Launch} {e : Env} {s : State} {m : MethodId} {args : Array Value} {below : List Frame} {meth : Method} {c : Code} {A : Nat → Prop} {D : va_G} {kk : Nat → ClassId} {st : Nat → Nat} (a_t a_t_known a_t_known_values a_t_known_flags a_t_known_order a_q1 a_q1_cells a_t_nest : Nat) (n_q1_cells : Nat) (t_loose : Int32) (t_place : Int32) (t_known_size : Int32) (t_known_values : Nat → Int32) (t_known_flags : Nat → Int32) (t_known_order : Nat → Int32) (q1_size : Int32) (q1_cells : Nat → Int32) (x2 : Int32) (x3 : Int32) (x4 : Int32) (o : Int32 × Int32 × (Nat → Int32) × (Nat → Int32) × (Nat → Int32)) (S : CallFix p m c b_TextReader_endOfFixed 6 s args GW y_TextReader_endOfFixed.cls) (hr : meth.sig.returnType = (some .int)) (hlk : meth.locks = false) (hA : ∀ q, s.heap.size ≤ q → A q) (X : KX D kk st A s) (H : Heap) (locs : List Loc) (ls : Array Slot) (he : jn_TextReader_endOfFixed_39 n_q1_cells t_place t_known_size t_known_values t_known_flags t_known_order q1_size q1_cells x2 x3 x4 = some o) (hl : lv_has ls 6 [(0, .ref a_t), (2, .int x2), (3, .int x3), (4, .int x4)]) (hP : va_P D classes [(a_t, .inr (8, [.ref a_t_known, .ref a_t_nest, .int t_loose, .int t_place])), (a_t_known, .inr (7, [.ref a_t_known_values, .ref a_t_known_flags, .ref a_t_known_order, .int t_known_size])), (a_t_known_values, .inl (kk 0, 14, .inl t_known_values)), (a_t_known_flags, .inl (kk 2, 14, .inl t_known_flags)), (a_t_known_order, .inl (kk 0, 14, .inl t_known_order)), (a_q1, .inr (1, [.ref a_q1_cells, .int q1_size])), (a_q1_cells, .inl (kk 1, n_q1_cells, .inl q1_cells))] H) (hD : va_D A [(a_t, .inr (8, [.ref a_t_known, .ref a_t_nest, .int t_loose, .int t_place])), (a_t_known, .inr (7, [.ref a_t_known_values, .ref a_t_known_flags, .ref a_t_known_order, .int t_known_size])), (a_t_known_values, .inl (kk 0, 14, .inl t_known_values)), (a_t_known_flags, .inl (kk 2, 14, .inl t_known_flags)), (a_t_known_order, .inl (kk 0, 14, .inl t_known_order)), (a_q1, .inr (1, [.ref a_q1_cells, .int q1_size])), (a_q1_cells, .inl (kk 1, n_q1_cells, .inl q1_cells))]) (hS : va_S A s.heap H locs) : W p l e rm_TextReader_endOfFixed s m args below meth c H locs 0 0 (MQ below (KQi D kk o.1 [(a_t, .inr (8, [.ref a_t_known, .ref a_t_nest, .int t_loose, .int t_place])), (a_t_known, .inr (7, [.ref a_t_known_values, .ref a_t_known_flags, .ref a_t_known_order, .int o.2.1])), (a_t_known_values, .inl (kk 0, 14, .inl o.2.2.1)), (a_t_known_flags, .inl (kk 2, 14, .inl o.2.2.2.1)), (a_t_known_order, .inl (kk 0, 14, .inl o.2.2.2.2)), (a_q1, .inr (1, [.ref a_q1_cells, .int q1_size])), (a_q1_cells, .inl (kk 1, n_q1_cells, .inl q1_cells))] A) args s 0 0 A) (F0 m 39 ls []) := by
  have hx := S.1
  have hb := S.2.1
  unfold jn_TextReader_endOfFixed_39 at he
  refine lv_iload_n hx hb d_TextReader_endOfFixed_39 rfl (lv_at hl 1 rfl) ?_
  refine lv_bipush (v := (12 : Int32)) hx hb d_TextReader_endOfFixed_40 (by decide) ?_
  refine lv_icmp_ne (tgt := 68) hx hb d_TextReader_endOfFixed_42 rfl (fun hc => ?_) (fun hc => ?_)
  · have he := ih_f hc he
    refine lv_aload_n hx hb d_TextReader_endOfFixed_68 rfl (lv_at hl 0 rfl) ?_
    refine lv_iload_n hx hb d_TextReader_endOfFixed_69 rfl (lv_at hl 1 rfl) ?_
    refine lv_iload hx hb d_TextReader_endOfFixed_70 (lv_at hl 3 rfl) ?_
    refine lv_aload_n hx hb d_TextReader_endOfFixed_72 rfl (lv_at hl 0 rfl) ?_
    refine k_get S X us_TextReader hP 0 rfl rfl 3 (by decide) gm_1_156 rfl d_TextReader_endOfFixed_73 ?_
    refine lv_iload_n hx hb d_TextReader_endOfFixed_76 rfl (lv_at hl 2 rfl) ?_
    refine lv_iadd hx hb d_TextReader_endOfFixed_77 ?_
    obtain ⟨u7, e8, he⟩ := ih_b he
    refine k_i (wr := [(a_q1, .inr (1, [.ref a_q1_cells, .int q1_size])), (a_q1_cells, .inl (kk 1, n_q1_cells, .inl q1_cells))]) (w1 := [(a_t, .inr (8, [.ref a_t_known, .ref a_t_nest, .int t_loose, .int t_place])), (a_t_known, .inr (7, [.ref a_t_known_values, .ref a_t_known_flags, .ref a_t_known_order, .int u7.2.1])), (a_t_known_values, .inl (kk 0, 14, .inl u7.2.2.1)), (a_t_known_flags, .inl (kk 2, 14, .inl u7.2.2.2.1)), (a_t_known_order, .inl (kk 0, 14, .inl u7.2.2.2.2))]) (w2 := [(a_t, .inr (8, [.ref a_t_known, .ref a_t_nest, .int t_loose, .int t_place])), (a_t_known, .inr (7, [.ref a_t_known_values, .ref a_t_known_flags, .ref a_t_known_order, .int u7.2.1])), (a_t_known_values, .inl (kk 0, 14, .inl u7.2.2.1)), (a_t_known_flags, .inl (kk 2, 14, .inl u7.2.2.2.1)), (a_t_known_order, .inl (kk 0, 14, .inl u7.2.2.2.2)), (a_q1, .inr (1, [.ref a_q1_cells, .int q1_size])), (a_q1_cells, .inl (kk 1, n_q1_cells, .inl q1_cells))]) (r_V (As := [.int x2, .int x4, .int (t_place + x3)]) S X hA hP hD hS (c_TextReader_endWith l D kk st a_t a_t_known a_t_known_values a_t_known_flags a_t_known_order a_t_nest _ t_loose t_place t_known_size t_known_values t_known_flags t_known_order x2 x4 (t_place + x3) u7 e8) gm_3_218 gm_3_215 gm_3_217 gm_p2_3 gm_1_7 ⟨rfl, rfl, by decide, by decide⟩ kd_TextReader_endWith [0, 1, 2, 3, 4] rfl rfl rfl 0 8 rfl rfl rfl rfl hl.1 rfl (Nat.le_of_ble_eq_true rfl) d_TextReader_endOfFixed_78 ⟨Nat.zero_le _, Nat.zero_le _⟩) hA hP hD hS [0, 1, 2, 3, 4] [5, 6] [2, 3, 4, 5, 6, 0, 1] rfl rfl rfl (by decide) rfl rfl rfl (fun H locs hP hD hS => ?_)
    cases he
    exact k_ire hx hb hr hlk X hP hD hS d_TextReader_endOfFixed_81
  · have he := ih_t hc he
    refine lv_iload_n hx hb d_TextReader_endOfFixed_45 rfl (lv_at hl 2 rfl) ?_
    refine lv_istore hx hb d_TextReader_endOfFixed_46 hl (by decide) rfl (fun ls hl => ?_)
    have hl : lv_has ls 6 [(5, .int x3), (0, .ref a_t), (2, .int x2), (3, .int x3), (4, .int x4)] := hl
    obtain ⟨u9, e10, he⟩ := ih_b he
    have hl : lv_has ls 6 [(0, .ref a_t), (2, .int x2), (3, .int x3), (4, .int x4), (5, .int x3)] := lv_sub hl [1, 2, 3, 4, 0] rfl
    refine w_TextReader_endOfFixed_48 a_t a_t_known a_t_known_values a_t_known_flags a_t_known_order a_q1 a_q1_cells a_t_nest n_q1_cells t_loose t_place t_known_size t_known_values t_known_flags t_known_order q1_size q1_cells x2 x3 S hr hlk hA X FU x4 x3 u9 _ _ ls e10 hl hP hD hS (fun H locs ls hl hP hD hS => ?_)
    refine lv_aload_n hx hb d_TextReader_endOfFixed_68 rfl (lv_at hl 0 rfl) ?_
    refine lv_iload_n hx hb d_TextReader_endOfFixed_69 rfl (lv_at hl 1 rfl) ?_
    refine lv_iload hx hb d_TextReader_endOfFixed_70 (lv_at hl 3 rfl) ?_
    refine lv_aload_n hx hb d_TextReader_endOfFixed_72 rfl (lv_at hl 0 rfl) ?_
    refine k_get S X us_TextReader hP 0 rfl rfl 3 (by decide) gm_1_156 rfl d_TextReader_endOfFixed_73 ?_
    refine lv_iload_n hx hb d_TextReader_endOfFixed_76 rfl (lv_at hl 2 rfl) ?_
    refine lv_iadd hx hb d_TextReader_endOfFixed_77 ?_
    obtain ⟨u11, e12, he⟩ := ih_b he
    refine k_i (wr := [(a_q1, .inr (1, [.ref a_q1_cells, .int q1_size])), (a_q1_cells, .inl (kk 1, n_q1_cells, .inl q1_cells))]) (w1 := [(a_t, .inr (8, [.ref a_t_known, .ref a_t_nest, .int t_loose, .int t_place])), (a_t_known, .inr (7, [.ref a_t_known_values, .ref a_t_known_flags, .ref a_t_known_order, .int u11.2.1])), (a_t_known_values, .inl (kk 0, 14, .inl u11.2.2.1)), (a_t_known_flags, .inl (kk 2, 14, .inl u11.2.2.2.1)), (a_t_known_order, .inl (kk 0, 14, .inl u11.2.2.2.2))]) (w2 := [(a_t, .inr (8, [.ref a_t_known, .ref a_t_nest, .int t_loose, .int t_place])), (a_t_known, .inr (7, [.ref a_t_known_values, .ref a_t_known_flags, .ref a_t_known_order, .int u11.2.1])), (a_t_known_values, .inl (kk 0, 14, .inl u11.2.2.1)), (a_t_known_flags, .inl (kk 2, 14, .inl u11.2.2.2.1)), (a_t_known_order, .inl (kk 0, 14, .inl u11.2.2.2.2)), (a_q1, .inr (1, [.ref a_q1_cells, .int q1_size])), (a_q1_cells, .inl (kk 1, n_q1_cells, .inl q1_cells))]) (r_V (As := [.int x2, .int u9.1, .int (t_place + x3)]) S X hA hP hD hS (c_TextReader_endWith l D kk st a_t a_t_known a_t_known_values a_t_known_flags a_t_known_order a_t_nest _ t_loose t_place t_known_size t_known_values t_known_flags t_known_order x2 u9.1 (t_place + x3) u11 e12) gm_3_218 gm_3_215 gm_3_217 gm_p2_3 gm_1_7 ⟨rfl, rfl, by decide, by decide⟩ kd_TextReader_endWith [0, 1, 2, 3, 4] rfl rfl rfl 0 8 rfl rfl rfl rfl hl.1 rfl (Nat.le_of_ble_eq_true rfl) d_TextReader_endOfFixed_78 ⟨Nat.zero_le _, Nat.zero_le _⟩) hA hP hD hS [0, 1, 2, 3, 4] [5, 6] [2, 3, 4, 5, 6, 0, 1] rfl rfl rfl (by decide) rfl rfl rfl (fun H locs hP hD hS => ?_)
    cases he
    exact k_ire hx hb hr hlk X hP hD hS d_TextReader_endOfFixed_81
set_option maxHeartbeats 4000000 in
set_option maxRecDepth 100000 in
theorem c_TextReader_endOfFixed (l : Launch) (D : va_G) (kk : Nat → ClassId) (st : Nat → Nat) (a_t a_t_known a_t_known_values a_t_known_flags a_t_known_order a_q1 a_q1_cells a_t_nest : Nat) (sz : Nat) (n_q1_cells : Nat) (t_loose : Int32) (t_place : Int32) (t_known_size : Int32) (t_known_values : Nat → Int32) (t_known_flags : Nat → Int32) (t_known_order : Nat → Int32) (q1_size : Int32) (q1_cells : Nat → Int32) (x2 : Int32) (x3 : Int32) (o : Int32 × Int32 × (Nat → Int32) × (Nat → Int32) × (Nat → Int32)) (he : f_TextReader_endOfFixed n_q1_cells t_place t_known_size t_known_values t_known_flags t_known_order q1_size q1_cells x2 x3 = some o) : Met l y_TextReader_endOfFixed (Cond.code y_TextReader_endOfFixed b_TextReader_endOfFixed 6 (some .int) :: GW) rm_TextReader_endOfFixed (KPc D kk st [.ref a_t, .ref a_q1, .int x2, .int x3] [(a_t, .inr (8, [.ref a_t_known, .ref a_t_nest, .int t_loose, .int t_place])), (a_t_known, .inr (7, [.ref a_t_known_values, .ref a_t_known_flags, .ref a_t_known_order, .int t_known_size])), (a_t_known_values, .inl (kk 0, 14, .inl t_known_values)), (a_t_known_flags, .inl (kk 2, 14, .inl t_known_flags)), (a_t_known_order, .inl (kk 0, 14, .inl t_known_order)), (a_q1, .inr (1, [.ref a_q1_cells, .int q1_size])), (a_q1_cells, .inl (kk 1, n_q1_cells, .inl q1_cells))] sz) (KQi D kk o.1 [(a_t, .inr (8, [.ref a_t_known, .ref a_t_nest, .int t_loose, .int t_place])), (a_t_known, .inr (7, [.ref a_t_known_values, .ref a_t_known_flags, .ref a_t_known_order, .int o.2.1])), (a_t_known_values, .inl (kk 0, 14, .inl o.2.2.1)), (a_t_known_flags, .inl (kk 2, 14, .inl o.2.2.2.1)), (a_t_known_order, .inl (kk 0, 14, .inl o.2.2.2.2)), (a_q1, .inr (1, [.ref a_q1_cells, .int q1_size])), (a_q1_cells, .inl (kk 1, n_q1_cells, .inl q1_cells))] (va_A [(a_t, .inr (8, [.ref a_t_known, .ref a_t_nest, .int t_loose, .int t_place])), (a_t_known, .inr (7, [.ref a_t_known_values, .ref a_t_known_flags, .ref a_t_known_order, .int t_known_size])), (a_t_known_values, .inl (kk 0, 14, .inl t_known_values)), (a_t_known_flags, .inl (kk 2, 14, .inl t_known_flags)), (a_t_known_order, .inl (kk 0, 14, .inl t_known_order)), (a_q1, .inr (1, [.ref a_q1_cells, .int q1_size])), (a_q1_cells, .inl (kk 1, n_q1_cells, .inl q1_cells))] sz)) 0 0 (va_A [(a_t, .inr (8, [.ref a_t_known, .ref a_t_nest, .int t_loose, .int t_place])), (a_t_known, .inr (7, [.ref a_t_known_values, .ref a_t_known_flags, .ref a_t_known_order, .int t_known_size])), (a_t_known_values, .inl (kk 0, 14, .inl t_known_values)), (a_t_known_flags, .inl (kk 2, 14, .inl t_known_flags)), (a_t_known_order, .inl (kk 0, 14, .inl t_known_order)), (a_q1, .inr (1, [.ref a_q1_cells, .int q1_size])), (a_q1_cells, .inl (kk 1, n_q1_cells, .inl q1_cells))] sz) := by
  refine k_start (Qc := fun A => KQi D kk o.1 [(a_t, .inr (8, [.ref a_t_known, .ref a_t_nest, .int t_loose, .int t_place])), (a_t_known, .inr (7, [.ref a_t_known_values, .ref a_t_known_flags, .ref a_t_known_order, .int o.2.1])), (a_t_known_values, .inl (kk 0, 14, .inl o.2.2.1)), (a_t_known_flags, .inl (kk 2, 14, .inl o.2.2.2.1)), (a_t_known_order, .inl (kk 0, 14, .inl o.2.2.2.2)), (a_q1, .inr (1, [.ref a_q1_cells, .int q1_size])), (a_q1_cells, .inl (kk 1, n_q1_cells, .inl q1_cells))] A) (by decide) (Nat.le_of_ble_eq_true rfl) ?_
  intro p e s m below meth c A ls S hnm hr hlk hA X hP hD hS hl
  have hl : lv_has ls 6 [(0, .ref a_t), (1, .ref a_q1), (2, .int x2), (3, .int x3)] := hl
  have hx := S.1
  have hb := S.2.1
  unfold f_TextReader_endOfFixed at he
  refine lv_aload_n hx hb d_TextReader_endOfFixed_0 rfl (lv_at hl 1 rfl) ?_
  refine lv_aload_n hx hb d_TextReader_endOfFixed_1 rfl (lv_at hl 0 rfl) ?_
  refine k_get S X us_TextReader hP 0 rfl rfl 3 (by decide) gm_1_156 rfl d_TextReader_endOfFixed_2 ?_
  refine lv_iload_n hx hb d_TextReader_endOfFixed_5 rfl (lv_at hl 3 rfl) ?_
  obtain ⟨u1, e2, he⟩ := ih_b he
  refine k_io (r_V (As := [.int t_place, .int x3]) S X hA hP hD hS (c_Row_digits l D kk st a_q1 a_q1_cells _ n_q1_cells q1_size q1_cells t_place x3 u1 e2) gm_3_230 gm_3_227 gm_3_228 gm_3_229 gm_1_2 ⟨rfl, rfl, by decide, by decide⟩ kd_Row_digits [5, 6] rfl rfl rfl 5 1 rfl rfl rfl rfl hl.1 rfl (Nat.le_of_ble_eq_true rfl) d_TextReader_endOfFixed_6 ⟨Nat.zero_le _, Nat.zero_le _⟩) hA hP hD hS [5, 6] rfl (fun H locs hP hS => ?_)
  refine lv_iload_n hx hb d_TextReader_endOfFixed_9 rfl (lv_at hl 3 rfl) ?_
  refine lv_icmp_ge (tgt := 15) hx hb d_TextReader_endOfFixed_10 rfl (fun hc => ?_) (fun hc => ?_)
  · have he := ih_t hc he
    refine lv_aload_n hx hb d_TextReader_endOfFixed_15 rfl (lv_at hl 1 rfl) ?_
    refine lv_aload_n hx hb d_TextReader_endOfFixed_16 rfl (lv_at hl 0 rfl) ?_
    refine k_get S X us_TextReader hP 0 rfl rfl 3 (by decide) gm_1_156 rfl d_TextReader_endOfFixed_17 ?_
    refine lv_iload_n hx hb d_TextReader_endOfFixed_20 rfl (lv_at hl 3 rfl) ?_
    obtain ⟨u3, e4, he⟩ := ih_b he
    refine k_io (r_V (As := [.int t_place, .int x3]) S X hA hP hD hS (c_Row_number l D kk st a_q1 a_q1_cells _ n_q1_cells q1_size q1_cells t_place x3 u3 e4) gm_3_234 gm_3_231 gm_3_232 gm_3_233 gm_1_2 ⟨rfl, rfl, by decide, by decide⟩ kd_Row_number [5, 6] rfl rfl rfl 5 1 rfl rfl rfl rfl hl.1 rfl (Nat.le_of_ble_eq_true rfl) d_TextReader_endOfFixed_21 ⟨Nat.zero_le _, Nat.zero_le _⟩) hA hP hD hS [5, 6] rfl (fun H locs hP hS => ?_)
    refine lv_istore hx hb d_TextReader_endOfFixed_24 hl (by decide) rfl (fun ls hl => ?_)
    have hl : lv_has ls 6 [(4, .int u3), (0, .ref a_t), (1, .ref a_q1), (2, .int x2), (3, .int x3)] := hl
    refine lv_iload_n hx hb d_TextReader_endOfFixed_26 rfl (lv_at hl 3 rfl) ?_
    obtain ⟨u5, e6, he⟩ := ih_b he
    refine k_io (r_SN (As := [.int x2]) S X hA hP hD hS (c_SkeletonClock_isYearField l D kk st _ x2 u5 e6) gm_3_124 gm_4_3 gm_3_123 gm_1_1 ⟨rfl, rfl, by decide, by decide⟩ kd_SkeletonClock_isYearField [] rfl rfl rfl rfl hl.1 rfl (Nat.le_of_ble_eq_true rfl) d_TextReader_endOfFixed_27 ⟨Nat.zero_le _, Nat.zero_le _⟩) hA hP hD hS [] rfl (fun H locs hP hS => ?_)
    refine lv_if_eq (tgt := 39) hx hb d_TextReader_endOfFixed_30 rfl (fun hc => ?_) (fun hc => ?_)
    · have he := ih_t hc he
      have hl : lv_has ls 6 [(0, .ref a_t), (2, .int x2), (3, .int x3), (4, .int u3)] := lv_sub hl [1, 3, 4, 0] rfl
      exact w_TextReader_endOfFixed_39 a_t a_t_known a_t_known_values a_t_known_flags a_t_known_order a_q1 a_q1_cells a_t_nest n_q1_cells t_loose t_place t_known_size t_known_values t_known_flags t_known_order q1_size q1_cells x2 x3 u3 o S hr hlk hA X _ _ ls he hl hP hD hS
    · have he := ih_f hc he
      refine lv_iincW (k := 0) hx hb d_TextReader_endOfFixed_33 hl rfl (ii_ (v := (2000 : Int32)) (by decide)) (by decide) rfl (fun ls hl => ?_)
      have hl : lv_has ls 6 [(4, .int (u3 + (2000 : Int32))), (0, .ref a_t), (1, .ref a_q1), (2, .int x2), (3, .int x3)] := hl
      have hl : lv_has ls 6 [(0, .ref a_t), (2, .int x2), (3, .int x3), (4, .int (u3 + (2000 : Int32)))] := lv_sub hl [1, 3, 4, 0] rfl
      exact w_TextReader_endOfFixed_39 a_t a_t_known a_t_known_values a_t_known_flags a_t_known_order a_q1 a_q1_cells a_t_nest n_q1_cells t_loose t_place t_known_size t_known_values t_known_flags t_known_order q1_size q1_cells x2 x3 (u3 + (2000 : Int32)) o S hr hlk hA X _ _ ls he hl hP hD hS
  · have he := ih_f hc he
    refine lv_iconst (v := (-1 : Int32)) hx hb d_TextReader_endOfFixed_13 (by decide) ?_
    cases he
    exact k_ire hx hb hr hlk X hP hD hS d_TextReader_endOfFixed_14
def f_TextReader_signOf (n_q1_cells : Nat) (t_place : Int32) (q1_size : Int32) (q1_cells : Nat → Int32) (x2 : Int32) (x3 : Int32) : Option (Int32) :=
  ((f_Row_codeAt n_q1_cells q1_size q1_cells t_place).bind fun u1 => ((f_SkeletonClock_isYearField x2).bind fun u3 => (if u3 = 0 then (some (-1 : Int32)) else (if u1 = (45 : Int32) then (some u1) else (if u1 = (43 : Int32) then (if x3 = (4 : Int32) then (some u1) else (some (-1 : Int32))) else (some (-1 : Int32)))))))
abbrev rm_TextReader_signOf : Room := { frames := 1, cells := 0, slots := 0, locals := 21 }
set_option maxHeartbeats 4000000 in
set_option maxRecDepth 100000 in
theorem c_TextReader_signOf (l : Launch) (D : va_G) (kk : Nat → ClassId) (st : Nat → Nat) (a_t a_q1 a_q1_cells a_t_known a_t_nest : Nat) (sz : Nat) (n_q1_cells : Nat) (t_loose : Int32) (t_place : Int32) (q1_size : Int32) (q1_cells : Nat → Int32) (x2 : Int32) (x3 : Int32) (o : Int32) (he : f_TextReader_signOf n_q1_cells t_place q1_size q1_cells x2 x3 = some o) : Met l y_TextReader_signOf (Cond.code y_TextReader_signOf b_TextReader_signOf 5 (some .int) :: GW) rm_TextReader_signOf (KPc D kk st [.ref a_t, .ref a_q1, .int x2, .int x3] [(a_t, .inr (8, [.ref a_t_known, .ref a_t_nest, .int t_loose, .int t_place])), (a_q1, .inr (1, [.ref a_q1_cells, .int q1_size])), (a_q1_cells, .inl (kk 1, n_q1_cells, .inl q1_cells))] sz) (KQi D kk o [(a_t, .inr (8, [.ref a_t_known, .ref a_t_nest, .int t_loose, .int t_place])), (a_q1, .inr (1, [.ref a_q1_cells, .int q1_size])), (a_q1_cells, .inl (kk 1, n_q1_cells, .inl q1_cells))] (va_A [(a_t, .inr (8, [.ref a_t_known, .ref a_t_nest, .int t_loose, .int t_place])), (a_q1, .inr (1, [.ref a_q1_cells, .int q1_size])), (a_q1_cells, .inl (kk 1, n_q1_cells, .inl q1_cells))] sz)) 0 0 (va_A [(a_t, .inr (8, [.ref a_t_known, .ref a_t_nest, .int t_loose, .int t_place])), (a_q1, .inr (1, [.ref a_q1_cells, .int q1_size])), (a_q1_cells, .inl (kk 1, n_q1_cells, .inl q1_cells))] sz) := by
  refine k_start (Qc := fun A => KQi D kk o [(a_t, .inr (8, [.ref a_t_known, .ref a_t_nest, .int t_loose, .int t_place])), (a_q1, .inr (1, [.ref a_q1_cells, .int q1_size])), (a_q1_cells, .inl (kk 1, n_q1_cells, .inl q1_cells))] A) (by decide) (Nat.le_of_ble_eq_true rfl) ?_
  intro p e s m below meth c A ls S hnm hr hlk hA X hP hD hS hl
  have hl : lv_has ls 5 [(0, .ref a_t), (1, .ref a_q1), (2, .int x2), (3, .int x3)] := hl
  have hx := S.1
  have hb := S.2.1
  unfold f_TextReader_signOf at he
  refine lv_aload_n hx hb d_TextReader_signOf_0 rfl (lv_at hl 1 rfl) ?_
  refine lv_aload_n hx hb d_TextReader_signOf_1 rfl (lv_at hl 0 rfl) ?_
  refine k_get S X us_TextReader hP 0 rfl rfl 3 (by decide) gm_1_156 rfl d_TextReader_signOf_2 ?_
  obtain ⟨u1, e2, he⟩ := ih_b he
  refine k_io (r_V (As := [.int t_place]) S X hA hP hD hS (c_Row_codeAt l D kk st a_q1 a_q1_cells _ n_q1_cells q1_size q1_cells t_place u1 e2) gm_2_76 gm_3_193 gm_2_74 gm_2_75 gm_1_2 ⟨rfl, rfl, by decide, by decide⟩ kd_Row_codeAt [1, 2] rfl rfl rfl 1 1 rfl rfl rfl rfl hl.1 rfl (Nat.le_of_ble_eq_true rfl) d_TextReader_signOf_5 ⟨Nat.zero_le _, Nat.zero_le _⟩) hA hP hD hS [1, 2] rfl (fun H locs hP hS => ?_)
  refine lv_istore hx hb d_TextReader_signOf_8 hl (by decide) rfl (fun ls hl => ?_)
  have hl : lv_has ls 5 [(4, .int u1), (0, .ref a_t), (1, .ref a_q1), (2, .int x2), (3, .int x3)] := hl
  refine lv_iload_n hx hb d_TextReader_signOf_10 rfl (lv_at hl 3 rfl) ?_
  obtain ⟨u3, e4, he⟩ := ih_b he
  refine k_io (r_SN (As := [.int x2]) S X hA hP hD hS (c_SkeletonClock_isYearField l D kk st _ x2 u3 e4) gm_3_124 gm_4_3 gm_3_123 gm_1_1 ⟨rfl, rfl, by decide, by decide⟩ kd_SkeletonClock_isYearField [] rfl rfl rfl rfl hl.1 rfl (Nat.le_of_ble_eq_true rfl) d_TextReader_signOf_11 ⟨Nat.zero_le _, Nat.zero_le _⟩) hA hP hD hS [] rfl (fun H locs hP hS => ?_)
  refine lv_if_eq (tgt := 41) hx hb d_TextReader_signOf_14 rfl (fun hc => ?_) (fun hc => ?_)
  · have he := ih_t hc he
    refine lv_iconst (v := (-1 : Int32)) hx hb d_TextReader_signOf_41 (by decide) ?_
    cases he
    exact k_ire hx hb hr hlk X hP hD hS d_TextReader_signOf_42
  · have he := ih_f hc he
    refine lv_iload hx hb d_TextReader_signOf_17 (lv_at hl 0 rfl) ?_
    refine lv_bipush (v := (45 : Int32)) hx hb d_TextReader_signOf_19 (by decide) ?_
    refine lv_icmp_eq (tgt := 36) hx hb d_TextReader_signOf_21 rfl (fun hc => ?_) (fun hc => ?_)
    · have he := ih_t hc he
      refine lv_iload hx hb d_TextReader_signOf_36 (lv_at hl 0 rfl) ?_
      refine lv_goto (tgt := 42) hx hb d_TextReader_signOf_38 rfl ?_
      cases he
      exact k_ire hx hb hr hlk X hP hD hS d_TextReader_signOf_42
    · have he := ih_f hc he
      refine lv_iload hx hb d_TextReader_signOf_24 (lv_at hl 0 rfl) ?_
      refine lv_bipush (v := (43 : Int32)) hx hb d_TextReader_signOf_26 (by decide) ?_
      refine lv_icmp_ne (tgt := 41) hx hb d_TextReader_signOf_28 rfl (fun hc => ?_) (fun hc => ?_)
      · have he := ih_f hc he
        refine lv_iconst (v := (-1 : Int32)) hx hb d_TextReader_signOf_41 (by decide) ?_
        cases he
        exact k_ire hx hb hr hlk X hP hD hS d_TextReader_signOf_42
      · have he := ih_t hc he
        refine lv_iload_n hx hb d_TextReader_signOf_31 rfl (lv_at hl 4 rfl) ?_
        refine lv_iconst (v := (4 : Int32)) hx hb d_TextReader_signOf_32 (by decide) ?_
        refine lv_icmp_ne (tgt := 41) hx hb d_TextReader_signOf_33 rfl (fun hc => ?_) (fun hc => ?_)
        · have he := ih_f hc he
          refine lv_iconst (v := (-1 : Int32)) hx hb d_TextReader_signOf_41 (by decide) ?_
          cases he
          exact k_ire hx hb hr hlk X hP hD hS d_TextReader_signOf_42
        · have he := ih_t hc he
          refine lv_iload hx hb d_TextReader_signOf_36 (lv_at hl 0 rfl) ?_
          refine lv_goto (tgt := 42) hx hb d_TextReader_signOf_38 rfl ?_
          cases he
          exact k_ire hx hb hr hlk X hP hD hS d_TextReader_signOf_42
def f_TextReader_mostDigits (x0 : Int32) : Option (Int32) :=
  ((f_SkeletonClock_isYearField x0).bind fun u1 => (if u1 = 0 then (if x0 = (4 : Int32) then (some (3 : Int32)) else (some (2 : Int32))) else (some (9 : Int32))))
abbrev rm_TextReader_mostDigits : Room := { frames := 1, cells := 0, slots := 0, locals := 20 }
set_option maxHeartbeats 4000000 in
set_option maxRecDepth 100000 in
theorem c_TextReader_mostDigits (l : Launch) (D : va_G) (kk : Nat → ClassId) (st : Nat → Nat) (sz : Nat) (x0 : Int32) (o : Int32) (he : f_TextReader_mostDigits x0 = some o) : Met l y_TextReader_mostDigits (Cond.code y_TextReader_mostDigits b_TextReader_mostDigits 1 (some .int) :: GW) rm_TextReader_mostDigits (KPc D kk st [.int x0] [] sz) (KQi D kk o [] (va_A [] sz)) 0 0 (va_A [] sz) := by
  refine k_start (Qc := fun A => KQi D kk o [] A) (by decide) (Nat.le_of_ble_eq_true rfl) ?_
  intro p e s m below meth c A ls S hnm hr hlk hA X hP hD hS hl
  have hl : lv_has ls 1 [(0, .int x0)] := hl
  have hx := S.1
  have hb := S.2.1
  unfold f_TextReader_mostDigits at he
  refine lv_iload_n hx hb d_TextReader_mostDigits_0 rfl (lv_at hl 0 rfl) ?_
  obtain ⟨u1, e2, he⟩ := ih_b he
  refine k_io (r_SN (As := [.int x0]) S X hA hP hD hS (c_SkeletonClock_isYearField l D kk st _ x0 u1 e2) gm_3_124 gm_4_3 gm_3_123 gm_1_1 ⟨rfl, rfl, by decide, by decide⟩ kd_SkeletonClock_isYearField [] rfl rfl rfl rfl hl.1 rfl (Nat.le_of_ble_eq_true rfl) d_TextReader_mostDigits_1 ⟨Nat.zero_le _, Nat.zero_le _⟩) hA hP hD hS [] rfl (fun H locs hP hS => ?_)
  refine lv_if_eq (tgt := 10) hx hb d_TextReader_mostDigits_4 rfl (fun hc => ?_) (fun hc => ?_)
  · have he := ih_t hc he
    refine lv_iload_n hx hb d_TextReader_mostDigits_10 rfl (lv_at hl 0 rfl) ?_
    refine lv_iconst (v := (4 : Int32)) hx hb d_TextReader_mostDigits_11 (by decide) ?_
    refine lv_icmp_ne (tgt := 19) hx hb d_TextReader_mostDigits_12 rfl (fun hc => ?_) (fun hc => ?_)
    · have he := ih_f hc he
      refine lv_iconst (v := (2 : Int32)) hx hb d_TextReader_mostDigits_19 (by decide) ?_
      cases he
      exact k_ire hx hb hr hlk X hP hD hS d_TextReader_mostDigits_20
    · have he := ih_t hc he
      refine lv_iconst (v := (3 : Int32)) hx hb d_TextReader_mostDigits_15 (by decide) ?_
      refine lv_goto (tgt := 20) hx hb d_TextReader_mostDigits_16 rfl ?_
      cases he
      exact k_ire hx hb hr hlk X hP hD hS d_TextReader_mostDigits_20
  · have he := ih_f hc he
    refine lv_bipush (v := (9 : Int32)) hx hb d_TextReader_mostDigits_7 (by decide) ?_
    cases he
    exact k_ire hx hb hr hlk X hP hD hS d_TextReader_mostDigits_9
def jn_TextReader_endOfFree_172 (n_q1_cells : Nat) (t_place : Int32) (t_known_size : Int32) (t_known_values : Nat → Int32) (t_known_flags : Nat → Int32) (t_known_order : Nat → Int32) (t_nest_depth : Int32) (t_nest_ends : Nat → Int32) (q1_size : Int32) (q1_cells : Nat → Int32) (q2_size : Int32) (q2_kinds : Nat → Int32) (q2_numbers : Nat → Int32) (x4 : Int32) (x6 : Int32) (x7 : Int32) (x11 : Int32) (x12 : Int32) (s0 : Int32) : Option (Int32 × Int32 × (Nat → Int32) × (Nat → Int32) × (Nat → Int32)) :=
  (if s0 = 0 then (if x6 = (45 : Int32) then ((f_TextReader_endWith t_known_size t_known_values t_known_flags t_known_order x4 (-x12) (x7 + x11)).bind fun u19 => (some (u19.1, u19.2.1, u19.2.2.1, u19.2.2.2.1, u19.2.2.2.2))) else ((f_TextReader_endWith t_known_size t_known_values t_known_flags t_known_order x4 x12 (x7 + x11)).bind fun u17 => (some (u17.1, u17.2.1, u17.2.2.1, u17.2.2.2.1, u17.2.2.2.2)))) else (some ((-1 : Int32), t_known_size, t_known_values, t_known_flags, t_known_order)))
def jn_TextReader_endOfFree_171 (n_q1_cells : Nat) (t_place : Int32) (t_known_size : Int32) (t_known_values : Nat → Int32) (t_known_flags : Nat → Int32) (t_known_order : Nat → Int32) (t_nest_depth : Int32) (t_nest_ends : Nat → Int32) (q1_size : Int32) (q1_cells : Nat → Int32) (q2_size : Int32) (q2_kinds : Nat → Int32) (q2_numbers : Nat → Int32) (x4 : Int32) (x6 : Int32) (x7 : Int32) (x11 : Int32) (x12 : Int32) : Option (Int32 × Int32 × (Nat → Int32) × (Nat → Int32) × (Nat → Int32)) :=
  (jn_TextReader_endOfFree_172 n_q1_cells t_place t_known_size t_known_values t_known_flags t_known_order t_nest_depth t_nest_ends q1_size q1_cells q2_size q2_kinds q2_numbers x4 x6 x7 x11 x12 (0 : Int32))
def jn_TextReader_endOfFree_167 (n_q1_cells : Nat) (t_place : Int32) (t_known_size : Int32) (t_known_values : Nat → Int32) (t_known_flags : Nat → Int32) (t_known_order : Nat → Int32) (t_nest_depth : Int32) (t_nest_ends : Nat → Int32) (q1_size : Int32) (q1_cells : Nat → Int32) (q2_size : Int32) (q2_kinds : Nat → Int32) (q2_numbers : Nat → Int32) (x4 : Int32) (x6 : Int32) (x7 : Int32) (x11 : Int32) (x12 : Int32) : Option (Int32 × Int32 × (Nat → Int32) × (Nat → Int32) × (Nat → Int32)) :=
  (jn_TextReader_endOfFree_172 n_q1_cells t_place t_known_size t_known_values t_known_flags t_known_order t_nest_depth t_nest_ends q1_size q1_cells q2_size q2_kinds q2_numbers x4 x6 x7 x11 x12 (1 : Int32))
def jn_TextReader_endOfFree_155 (n_q1_cells : Nat) (t_place : Int32) (t_known_size : Int32) (t_known_values : Nat → Int32) (t_known_flags : Nat → Int32) (t_known_order : Nat → Int32) (t_nest_depth : Int32) (t_nest_ends : Nat → Int32) (q1_size : Int32) (q1_cells : Nat → Int32) (q2_size : Int32) (q2_kinds : Nat → Int32) (q2_numbers : Nat → Int32) (x4 : Int32) (x6 : Int32) (x7 : Int32) (x11 : Int32) (x12 : Int32) : Option (Int32 × Int32 × (Nat → Int32) × (Nat → Int32) × (Nat → Int32)) :=
  (if x6 = (-1 : Int32) then (if x11 ≤ (4 : Int32) then (jn_TextReader_endOfFree_171 n_q1_cells t_place t_known_size t_known_values t_known_flags t_known_order t_nest_depth t_nest_ends q1_size q1_cells q2_size q2_kinds q2_numbers x4 x6 x7 x11 x12) else (jn_TextReader_endOfFree_167 n_q1_cells t_place t_known_size t_known_values t_known_flags t_known_order t_nest_depth t_nest_ends q1_size q1_cells q2_size q2_kinds q2_numbers x4 x6 x7 x11 x12)) else (jn_TextReader_endOfFree_171 n_q1_cells t_place t_known_size t_known_values t_known_flags t_known_order t_nest_depth t_nest_ends q1_size q1_cells q2_size q2_kinds q2_numbers x4 x6 x7 x11 x12))
def jn_TextReader_endOfFree_136 (n_q1_cells : Nat) (t_place : Int32) (t_known_size : Int32) (t_known_values : Nat → Int32) (t_known_flags : Nat → Int32) (t_known_order : Nat → Int32) (t_nest_depth : Int32) (t_nest_ends : Nat → Int32) (q1_size : Int32) (q1_cells : Nat → Int32) (q2_size : Int32) (q2_kinds : Nat → Int32) (q2_numbers : Nat → Int32) (x4 : Int32) (x5 : Int32) (x6 : Int32) (x7 : Int32) (x11 : Int32) (x12 : Int32) : Option (Int32 × Int32 × (Nat → Int32) × (Nat → Int32) × (Nat → Int32)) :=
  (if x5 = (4 : Int32) then (if x6 = (43 : Int32) then (if x11 = (4 : Int32) then (jn_TextReader_endOfFree_167 n_q1_cells t_place t_known_size t_known_values t_known_flags t_known_order t_nest_depth t_nest_ends q1_size q1_cells q2_size q2_kinds q2_numbers x4 x6 x7 x11 x12) else (jn_TextReader_endOfFree_155 n_q1_cells t_place t_known_size t_known_values t_known_flags t_known_order t_nest_depth t_nest_ends q1_size q1_cells q2_size q2_kinds q2_numbers x4 x6 x7 x11 x12)) else (jn_TextReader_endOfFree_155 n_q1_cells t_place t_known_size t_known_values t_known_flags t_known_order t_nest_depth t_nest_ends q1_size q1_cells q2_size q2_kinds q2_numbers x4 x6 x7 x11 x12)) else (jn_TextReader_endOfFree_171 n_q1_cells t_place t_known_size t_known_values t_known_flags t_known_order t_nest_depth t_nest_ends q1_size q1_cells q2_size q2_kinds q2_numbers x4 x6 x7 x11 x12))
def jn_TextReader_endOfFree_57 (n_q1_cells : Nat) (t_place : Int32) (t_known_size : Int32) (t_known_values : Nat → Int32) (t_known_flags : Nat → Int32) (t_known_order : Nat → Int32) (t_nest_depth : Int32) (t_nest_ends : Nat → Int32) (q1_size : Int32) (q1_cells : Nat → Int32) (q2_size : Int32) (q2_kinds : Nat → Int32) (q2_numbers : Nat → Int32) (x3 : Int32) (x4 : Int32) (x5 : Int32) (x6 : Int32) (x7 : Int32) (s0 : Int32) : Option (Int32 × Int32 × (Nat → Int32) × (Nat → Int32) × (Nat → Int32)) :=
  ((f_Nest_limit t_nest_depth t_nest_ends q2_size).bind fun u7 => ((f_Pattern_fixedBehind q2_size q2_kinds q2_numbers x3 u7).bind fun u9 => ((f_TextReader_mostDigits x4).bind fun u11 => ((f_Row_digits n_q1_cells q1_size q1_cells x7 (u11 + u9)).bind fun u13 => (if s0 ≤ u13 then ((f_Row_number n_q1_cells q1_size q1_cells x7 (if s0 < (u13 - u9) then (u13 - u9) else s0)).bind fun u15 => (if x6 = (45 : Int32) then (if u15 = 0 then (jn_TextReader_endOfFree_167 n_q1_cells t_place t_known_size t_known_values t_known_flags t_known_order t_nest_depth t_nest_ends q1_size q1_cells q2_size q2_kinds q2_numbers x4 x6 x7 (if s0 < (u13 - u9) then (u13 - u9) else s0) u15) else (jn_TextReader_endOfFree_136 n_q1_cells t_place t_known_size t_known_values t_known_flags t_known_order t_nest_depth t_nest_ends q1_size q1_cells q2_size q2_kinds q2_numbers x4 x5 x6 x7 (if s0 < (u13 - u9) then (u13 - u9) else s0) u15)) else (jn_TextReader_endOfFree_136 n_q1_cells t_place t_known_size t_known_values t_known_flags t_known_order t_nest_depth t_nest_ends q1_size q1_cells q2_size q2_kinds q2_numbers x4 x5 x6 x7 (if s0 < (u13 - u9) then (u13 - u9) else s0) u15))) else (some ((-1 : Int32), t_known_size, t_known_values, t_known_flags, t_known_order)))))))
def jn_TextReader_endOfFree_44 (n_q1_cells : Nat) (t_place : Int32) (t_known_size : Int32) (t_known_values : Nat → Int32) (t_known_flags : Nat → Int32) (t_known_order : Nat → Int32) (t_nest_depth : Int32) (t_nest_ends : Nat → Int32) (q1_size : Int32) (q1_cells : Nat → Int32) (q2_size : Int32) (q2_kinds : Nat → Int32) (q2_numbers : Nat → Int32) (x3 : Int32) (x4 : Int32) (x5 : Int32) (x6 : Int32) (s0 : Int32) : Option (Int32 × Int32 × (Nat → Int32) × (Nat → Int32) × (Nat → Int32)) :=
  (if x5 = (4 : Int32) then (jn_TextReader_endOfFree_57 n_q1_cells t_place t_known_size t_known_values t_known_flags t_known_order t_nest_depth t_nest_ends q1_size q1_cells q2_size q2_kinds q2_numbers x3 x4 x5 x6 s0 (4 : Int32)) else (jn_TextReader_endOfFree_57 n_q1_cells t_place t_known_size t_known_values t_known_flags t_known_order t_nest_depth t_nest_ends q1_size q1_cells q2_size q2_kinds q2_numbers x3 x4 x5 x6 s0 (1 : Int32)))
def f_TextReader_endOfFree (n_q1_cells : Nat) (t_place : Int32) (t_known_size : Int32) (t_known_values : Nat → Int32) (t_known_flags : Nat → Int32) (t_known_order : Nat → Int32) (t_nest_depth : Int32) (t_nest_ends : Nat → Int32) (q1_size : Int32) (q1_cells : Nat → Int32) (q2_size : Int32) (q2_kinds : Nat → Int32) (q2_numbers : Nat → Int32) (x3 : Int32) : Option (Int32 × Int32 × (Nat → Int32) × (Nat → Int32) × (Nat → Int32)) :=
  ((f_Pattern_kind q2_size q2_kinds x3).bind fun u1 => ((f_Pattern_number q2_size q2_numbers x3).bind fun u3 => ((f_TextReader_signOf n_q1_cells t_place q1_size q1_cells u1 u3).bind fun u5 => (if u5 = (-1 : Int32) then (jn_TextReader_endOfFree_44 n_q1_cells t_place t_known_size t_known_values t_known_flags t_known_order t_nest_depth t_nest_ends q1_size q1_cells q2_size q2_kinds q2_numbers x3 u1 u3 u5 t_place) else (jn_TextReader_endOfFree_44 n_q1_cells t_place t_known_size t_known_values t_known_flags t_known_order t_nest_depth t_nest_ends q1_size q1_cells q2_size q2_kinds q2_numbers x3 u1 u3 u5 (t_place + (1 : Int32)))))))
abbrev rm_TextReader_endOfFree : Room := { frames := 3, cells := 0, slots := 0, locals := 67 }
set_option maxHeartbeats 4000000 in
set_option maxRecDepth 100000 in
theorem w_TextReader_endOfFree_172 {p : Program} {l : Launch} {e : Env} {s : State} {m : MethodId} {args : Array Value} {below : List Frame} {meth : Method} {c : Code} {A : Nat → Prop} {D : va_G} {kk : Nat → ClassId} {st : Nat → Nat} (a_t a_t_known a_t_known_values a_t_known_flags a_t_known_order a_t_nest a_t_nest_ends a_q1 a_q1_cells a_q2 a_q2_kinds a_q2_numbers a_t_nest_places a_t_nest_marks : Nat) (n_q1_cells : Nat) (t_loose : Int32) (t_place : Int32) (t_known_size : Int32) (t_known_values : Nat → Int32) (t_known_flags : Nat → Int32) (t_known_order : Nat → Int32) (t_nest_depth : Int32) (t_nest_ends : Nat → Int32) (q1_size : Int32) (q1_cells : Nat → Int32) (q2_size : Int32) (q2_kinds : Nat → Int32) (q2_numbers : Nat → Int32) (x4 : Int32) (x6 : Int32) (x7 : Int32) (x11 : Int32) (x12 : Int32) (s0 : Int32) (o : Int32 × Int32 × (Nat → Int32) × (Nat → Int32) × (Nat → Int32)) (S : CallFix p m c b_TextReader_endOfFree 14 s args GW y_TextReader_endOfFree.cls) (hr : meth.sig.returnType = (some .int)) (hlk : meth.locks = false) (hA : ∀ q, s.heap.size ≤ q → A q) (X : KX D kk st A s) (H : Heap) (locs : List Loc) (ls : Array Slot) (he : jn_TextReader_endOfFree_172 n_q1_cells t_place t_known_size t_known_values t_known_flags t_known_order t_nest_depth t_nest_ends q1_size q1_cells q2_size q2_kinds q2_numbers x4 x6 x7 x11 x12 s0 = some o) (hl : lv_has ls 14 [(0, .ref a_t), (4, .int x4), (6, .int x6), (7, .int x7), (11, .int x11), (12, .int x12)]) (hP : va_P D classes [(a_t, .inr (8, [.ref a_t_known, .ref a_t_nest, .int t_loose, .int t_place])), (a_t_known, .inr (7, [.ref a_t_known_values, .ref a_t_known_flags, .ref a_t_known_order, .int t_known_size])), (a_t_known_values, .inl (kk 0, 14, .inl t_known_values)), (a_t_known_flags, .inl (kk 2, 14, .inl t_known_flags)), (a_t_known_order, .inl (kk 0, 14, .inl t_known_order)), (a_t_nest, .inr (4, [.ref a_t_nest_ends, .ref a_t_nest_places, .ref a_t_nest_marks, .int t_nest_depth])), (a_t_nest_ends, .inl (kk 0, 20, .inl t_nest_ends)), (a_q1, .inr (1, [.ref a_q1_cells, .int q1_size])), (a_q1_cells, .inl (kk 1, n_q1_cells, .inl q1_cells)), (a_q2, .inr (2, [.ref a_q2_kinds, .ref a_q2_numbers, .int q2_size])), (a_q2_kinds, .inl (kk 0, 20, .inl q2_kinds)), (a_q2_numbers, .inl (kk 0, 20, .inl q2_numbers))] H) (hD : va_D A [(a_t, .inr (8, [.ref a_t_known, .ref a_t_nest, .int t_loose, .int t_place])), (a_t_known, .inr (7, [.ref a_t_known_values, .ref a_t_known_flags, .ref a_t_known_order, .int t_known_size])), (a_t_known_values, .inl (kk 0, 14, .inl t_known_values)), (a_t_known_flags, .inl (kk 2, 14, .inl t_known_flags)), (a_t_known_order, .inl (kk 0, 14, .inl t_known_order)), (a_t_nest, .inr (4, [.ref a_t_nest_ends, .ref a_t_nest_places, .ref a_t_nest_marks, .int t_nest_depth])), (a_t_nest_ends, .inl (kk 0, 20, .inl t_nest_ends)), (a_q1, .inr (1, [.ref a_q1_cells, .int q1_size])), (a_q1_cells, .inl (kk 1, n_q1_cells, .inl q1_cells)), (a_q2, .inr (2, [.ref a_q2_kinds, .ref a_q2_numbers, .int q2_size])), (a_q2_kinds, .inl (kk 0, 20, .inl q2_kinds)), (a_q2_numbers, .inl (kk 0, 20, .inl q2_numbers))]) (hS : va_S A s.heap H locs) : W p l e rm_TextReader_endOfFree s m args below meth c H locs 0 0 (MQ below (KQi D kk o.1 [(a_t, .inr (8, [.ref a_t_known, .ref a_t_nest, .int t_loose, .int t_place])), (a_t_known, .inr (7, [.ref a_t_known_values, .ref a_t_known_flags, .ref a_t_known_order, .int o.2.1])), (a_t_known_values, .inl (kk 0, 14, .inl o.2.2.1)), (a_t_known_flags, .inl (kk 2, 14, .inl o.2.2.2.1)), (a_t_known_order, .inl (kk 0, 14, .inl o.2.2.2.2)), (a_t_nest, .inr (4, [.ref a_t_nest_ends, .ref a_t_nest_places, .ref a_t_nest_marks, .int t_nest_depth])), (a_t_nest_ends, .inl (kk 0, 20, .inl t_nest_ends)), (a_q1, .inr (1, [.ref a_q1_cells, .int q1_size])), (a_q1_cells, .inl (kk 1, n_q1_cells, .inl q1_cells)), (a_q2, .inr (2, [.ref a_q2_kinds, .ref a_q2_numbers, .int q2_size])), (a_q2_kinds, .inl (kk 0, 20, .inl q2_kinds)), (a_q2_numbers, .inl (kk 0, 20, .inl q2_numbers))] A) args s 0 0 A) (F0 m 172 ls [.int s0]) := by
  have hx := S.1
  have hb := S.2.1
  unfold jn_TextReader_endOfFree_172 at he
  refine lv_istore hx hb d_TextReader_endOfFree_172 hl (by decide) rfl (fun ls hl => ?_)
  have hl : lv_has ls 14 [(13, .int s0), (0, .ref a_t), (4, .int x4), (6, .int x6), (7, .int x7), (11, .int x11), (12, .int x12)] := hl
  refine lv_iload hx hb d_TextReader_endOfFree_174 (lv_at hl 0 rfl) ?_
  refine lv_if_eq (tgt := 183) hx hb d_TextReader_endOfFree_176 rfl (fun hc => ?_) (fun hc => ?_)
  · have he := ih_t hc he
    refine lv_aload_n hx hb d_TextReader_endOfFree_183 rfl (lv_at hl 1 rfl) ?_
    refine lv_iload hx hb d_TextReader_endOfFree_184 (lv_at hl 2 rfl) ?_
    refine lv_iload hx hb d_TextReader_endOfFree_186 (lv_at hl 3 rfl) ?_
    refine lv_bipush (v := (45 : Int32)) hx hb d_TextReader_endOfFree_188 (by decide) ?_
    refine lv_icmp_ne (tgt := 199) hx hb d_TextReader_endOfFree_190 rfl (fun hc => ?_) (fun hc => ?_)
    · have he := ih_f hc he
      refine lv_iload hx hb d_TextReader_endOfFree_199 (lv_at hl 6 rfl) ?_
      refine lv_iload hx hb d_TextReader_endOfFree_201 (lv_at hl 4 rfl) ?_
      refine lv_iload hx hb d_TextReader_endOfFree_203 (lv_at hl 5 rfl) ?_
      refine lv_iadd hx hb d_TextReader_endOfFree_205 ?_
      obtain ⟨u17, e18, he⟩ := ih_b he
      refine k_i (wr := [(a_t_nest, .inr (4, [.ref a_t_nest_ends, .ref a_t_nest_places, .ref a_t_nest_marks, .int t_nest_depth])), (a_t_nest_ends, .inl (kk 0, 20, .inl t_nest_ends)), (a_q1, .inr (1, [.ref a_q1_cells, .int q1_size])), (a_q1_cells, .inl (kk 1, n_q1_cells, .inl q1_cells)), (a_q2, .inr (2, [.ref a_q2_kinds, .ref a_q2_numbers, .int q2_size])), (a_q2_kinds, .inl (kk 0, 20, .inl q2_kinds)), (a_q2_numbers, .inl (kk 0, 20, .inl q2_numbers))]) (w1 := [(a_t, .inr (8, [.ref a_t_known, .ref a_t_nest, .int t_loose, .int t_place])), (a_t_known, .inr (7, [.ref a_t_known_values, .ref a_t_known_flags, .ref a_t_known_order, .int u17.2.1])), (a_t_known_values, .inl (kk 0, 14, .inl u17.2.2.1)), (a_t_known_flags, .inl (kk 2, 14, .inl u17.2.2.2.1)), (a_t_known_order, .inl (kk 0, 14, .inl u17.2.2.2.2))]) (w2 := [(a_t, .inr (8, [.ref a_t_known, .ref a_t_nest, .int t_loose, .int t_place])), (a_t_known, .inr (7, [.ref a_t_known_values, .ref a_t_known_flags, .ref a_t_known_order, .int u17.2.1])), (a_t_known_values, .inl (kk 0, 14, .inl u17.2.2.1)), (a_t_known_flags, .inl (kk 2, 14, .inl u17.2.2.2.1)), (a_t_known_order, .inl (kk 0, 14, .inl u17.2.2.2.2)), (a_t_nest, .inr (4, [.ref a_t_nest_ends, .ref a_t_nest_places, .ref a_t_nest_marks, .int t_nest_depth])), (a_t_nest_ends, .inl (kk 0, 20, .inl t_nest_ends)), (a_q1, .inr (1, [.ref a_q1_cells, .int q1_size])), (a_q1_cells, .inl (kk 1, n_q1_cells, .inl q1_cells)), (a_q2, .inr (2, [.ref a_q2_kinds, .ref a_q2_numbers, .int q2_size])), (a_q2_kinds, .inl (kk 0, 20, .inl q2_kinds)), (a_q2_numbers, .inl (kk 0, 20, .inl q2_numbers))]) (r_V (As := [.int x4, .int x12, .int (x7 + x11)]) S X hA hP hD hS (c_TextReader_endWith l D kk st a_t a_t_known a_t_known_values a_t_known_flags a_t_known_order a_t_nest _ t_loose t_place t_known_size t_known_values t_known_flags t_known_order x4 x12 (x7 + x11) u17 e18) gm_3_218 gm_3_215 gm_3_217 gm_p2_3 gm_1_7 ⟨rfl, rfl, by decide, by decide⟩ kd_TextReader_endWith [0, 1, 2, 3, 4] rfl rfl rfl 0 8 rfl rfl rfl rfl hl.1 rfl (Nat.le_of_ble_eq_true rfl) d_TextReader_endOfFree_206 ⟨Nat.zero_le _, Nat.zero_le _⟩) hA hP hD hS [0, 1, 2, 3, 4] [5, 6, 7, 8, 9, 10, 11] [7, 8, 9, 10, 11, 0, 1, 2, 3, 4, 5, 6] rfl rfl rfl (by decide) rfl rfl rfl (fun H locs hP hD hS => ?_)
      cases he
      exact k_ire hx hb hr hlk X hP hD hS d_TextReader_endOfFree_209
    · have he := ih_t hc he
      refine lv_iload hx hb d_TextReader_endOfFree_193 (lv_at hl 6 rfl) ?_
      refine lv_ineg hx hb d_TextReader_endOfFree_195 ?_
      refine lv_goto (tgt := 201) hx hb d_TextReader_endOfFree_196 rfl ?_
      refine lv_iload hx hb d_TextReader_endOfFree_201 (lv_at hl 4 rfl) ?_
      refine lv_iload hx hb d_TextReader_endOfFree_203 (lv_at hl 5 rfl) ?_
      refine lv_iadd hx hb d_TextReader_endOfFree_205 ?_
      obtain ⟨u19, e20, he⟩ := ih_b he
      refine k_i (wr := [(a_t_nest, .inr (4, [.ref a_t_nest_ends, .ref a_t_nest_places, .ref a_t_nest_marks, .int t_nest_depth])), (a_t_nest_ends, .inl (kk 0, 20, .inl t_nest_ends)), (a_q1, .inr (1, [.ref a_q1_cells, .int q1_size])), (a_q1_cells, .inl (kk 1, n_q1_cells, .inl q1_cells)), (a_q2, .inr (2, [.ref a_q2_kinds, .ref a_q2_numbers, .int q2_size])), (a_q2_kinds, .inl (kk 0, 20, .inl q2_kinds)), (a_q2_numbers, .inl (kk 0, 20, .inl q2_numbers))]) (w1 := [(a_t, .inr (8, [.ref a_t_known, .ref a_t_nest, .int t_loose, .int t_place])), (a_t_known, .inr (7, [.ref a_t_known_values, .ref a_t_known_flags, .ref a_t_known_order, .int u19.2.1])), (a_t_known_values, .inl (kk 0, 14, .inl u19.2.2.1)), (a_t_known_flags, .inl (kk 2, 14, .inl u19.2.2.2.1)), (a_t_known_order, .inl (kk 0, 14, .inl u19.2.2.2.2))]) (w2 := [(a_t, .inr (8, [.ref a_t_known, .ref a_t_nest, .int t_loose, .int t_place])), (a_t_known, .inr (7, [.ref a_t_known_values, .ref a_t_known_flags, .ref a_t_known_order, .int u19.2.1])), (a_t_known_values, .inl (kk 0, 14, .inl u19.2.2.1)), (a_t_known_flags, .inl (kk 2, 14, .inl u19.2.2.2.1)), (a_t_known_order, .inl (kk 0, 14, .inl u19.2.2.2.2)), (a_t_nest, .inr (4, [.ref a_t_nest_ends, .ref a_t_nest_places, .ref a_t_nest_marks, .int t_nest_depth])), (a_t_nest_ends, .inl (kk 0, 20, .inl t_nest_ends)), (a_q1, .inr (1, [.ref a_q1_cells, .int q1_size])), (a_q1_cells, .inl (kk 1, n_q1_cells, .inl q1_cells)), (a_q2, .inr (2, [.ref a_q2_kinds, .ref a_q2_numbers, .int q2_size])), (a_q2_kinds, .inl (kk 0, 20, .inl q2_kinds)), (a_q2_numbers, .inl (kk 0, 20, .inl q2_numbers))]) (r_V (As := [.int x4, .int (-x12), .int (x7 + x11)]) S X hA hP hD hS (c_TextReader_endWith l D kk st a_t a_t_known a_t_known_values a_t_known_flags a_t_known_order a_t_nest _ t_loose t_place t_known_size t_known_values t_known_flags t_known_order x4 (-x12) (x7 + x11) u19 e20) gm_3_218 gm_3_215 gm_3_217 gm_p2_3 gm_1_7 ⟨rfl, rfl, by decide, by decide⟩ kd_TextReader_endWith [0, 1, 2, 3, 4] rfl rfl rfl 0 8 rfl rfl rfl rfl hl.1 rfl (Nat.le_of_ble_eq_true rfl) d_TextReader_endOfFree_206 ⟨Nat.zero_le _, Nat.zero_le _⟩) hA hP hD hS [0, 1, 2, 3, 4] [5, 6, 7, 8, 9, 10, 11] [7, 8, 9, 10, 11, 0, 1, 2, 3, 4, 5, 6] rfl rfl rfl (by decide) rfl rfl rfl (fun H locs hP hD hS => ?_)
      cases he
      exact k_ire hx hb hr hlk X hP hD hS d_TextReader_endOfFree_209
  · have he := ih_f hc he
    refine lv_iconst (v := (-1 : Int32)) hx hb d_TextReader_endOfFree_179 (by decide) ?_
    refine lv_goto (tgt := 209) hx hb d_TextReader_endOfFree_180 rfl ?_
    cases he
    exact k_ire hx hb hr hlk X hP hD hS d_TextReader_endOfFree_209
set_option maxHeartbeats 4000000 in
set_option maxRecDepth 100000 in
theorem w_TextReader_endOfFree_171 {p : Program} {l : Launch} {e : Env} {s : State} {m : MethodId} {args : Array Value} {below : List Frame} {meth : Method} {c : Code} {A : Nat → Prop} {D : va_G} {kk : Nat → ClassId} {st : Nat → Nat} (a_t a_t_known a_t_known_values a_t_known_flags a_t_known_order a_t_nest a_t_nest_ends a_q1 a_q1_cells a_q2 a_q2_kinds a_q2_numbers a_t_nest_places a_t_nest_marks : Nat) (n_q1_cells : Nat) (t_loose : Int32) (t_place : Int32) (t_known_size : Int32) (t_known_values : Nat → Int32) (t_known_flags : Nat → Int32) (t_known_order : Nat → Int32) (t_nest_depth : Int32) (t_nest_ends : Nat → Int32) (q1_size : Int32) (q1_cells : Nat → Int32) (q2_size : Int32) (q2_kinds : Nat → Int32) (q2_numbers : Nat → Int32) (x4 : Int32) (x6 : Int32) (x7 : Int32) (x11 : Int32) (x12 : Int32) (o : Int32 × Int32 × (Nat → Int32) × (Nat → Int32) × (Nat → Int32)) (S : CallFix p m c b_TextReader_endOfFree 14 s args GW y_TextReader_endOfFree.cls) (hr : meth.sig.returnType = (some .int)) (hlk : meth.locks = false) (hA : ∀ q, s.heap.size ≤ q → A q) (X : KX D kk st A s) (H : Heap) (locs : List Loc) (ls : Array Slot) (he : jn_TextReader_endOfFree_171 n_q1_cells t_place t_known_size t_known_values t_known_flags t_known_order t_nest_depth t_nest_ends q1_size q1_cells q2_size q2_kinds q2_numbers x4 x6 x7 x11 x12 = some o) (hl : lv_has ls 14 [(0, .ref a_t), (4, .int x4), (6, .int x6), (7, .int x7), (11, .int x11), (12, .int x12)]) (hP : va_P D classes [(a_t, .inr (8, [.ref a_t_known, .ref a_t_nest, .int t_loose, .int t_place])), (a_t_known, .inr (7, [.ref a_t_known_values, .ref a_t_known_flags, .ref a_t_known_order, .int t_known_size])), (a_t_known_values, .inl (kk 0, 14, .inl t_known_values)), (a_t_known_flags, .inl (kk 2, 14, .inl t_known_flags)), (a_t_known_order, .inl (kk 0, 14, .inl t_known_order)), (a_t_nest, .inr (4, [.ref a_t_nest_ends, .ref a_t_nest_places, .ref a_t_nest_marks, .int t_nest_depth])), (a_t_nest_ends, .inl (kk 0, 20, .inl t_nest_ends)), (a_q1, .inr (1, [.ref a_q1_cells, .int q1_size])), (a_q1_cells, .inl (kk 1, n_q1_cells, .inl q1_cells)), (a_q2, .inr (2, [.ref a_q2_kinds, .ref a_q2_numbers, .int q2_size])), (a_q2_kinds, .inl (kk 0, 20, .inl q2_kinds)), (a_q2_numbers, .inl (kk 0, 20, .inl q2_numbers))] H) (hD : va_D A [(a_t, .inr (8, [.ref a_t_known, .ref a_t_nest, .int t_loose, .int t_place])), (a_t_known, .inr (7, [.ref a_t_known_values, .ref a_t_known_flags, .ref a_t_known_order, .int t_known_size])), (a_t_known_values, .inl (kk 0, 14, .inl t_known_values)), (a_t_known_flags, .inl (kk 2, 14, .inl t_known_flags)), (a_t_known_order, .inl (kk 0, 14, .inl t_known_order)), (a_t_nest, .inr (4, [.ref a_t_nest_ends, .ref a_t_nest_places, .ref a_t_nest_marks, .int t_nest_depth])), (a_t_nest_ends, .inl (kk 0, 20, .inl t_nest_ends)), (a_q1, .inr (1, [.ref a_q1_cells, .int q1_size])), (a_q1_cells, .inl (kk 1, n_q1_cells, .inl q1_cells)), (a_q2, .inr (2, [.ref a_q2_kinds, .ref a_q2_numbers, .int q2_size])), (a_q2_kinds, .inl (kk 0, 20, .inl q2_kinds)), (a_q2_numbers, .inl (kk 0, 20, .inl q2_numbers))]) (hS : va_S A s.heap H locs) : W p l e rm_TextReader_endOfFree s m args below meth c H locs 0 0 (MQ below (KQi D kk o.1 [(a_t, .inr (8, [.ref a_t_known, .ref a_t_nest, .int t_loose, .int t_place])), (a_t_known, .inr (7, [.ref a_t_known_values, .ref a_t_known_flags, .ref a_t_known_order, .int o.2.1])), (a_t_known_values, .inl (kk 0, 14, .inl o.2.2.1)), (a_t_known_flags, .inl (kk 2, 14, .inl o.2.2.2.1)), (a_t_known_order, .inl (kk 0, 14, .inl o.2.2.2.2)), (a_t_nest, .inr (4, [.ref a_t_nest_ends, .ref a_t_nest_places, .ref a_t_nest_marks, .int t_nest_depth])), (a_t_nest_ends, .inl (kk 0, 20, .inl t_nest_ends)), (a_q1, .inr (1, [.ref a_q1_cells, .int q1_size])), (a_q1_cells, .inl (kk 1, n_q1_cells, .inl q1_cells)), (a_q2, .inr (2, [.ref a_q2_kinds, .ref a_q2_numbers, .int q2_size])), (a_q2_kinds, .inl (kk 0, 20, .inl q2_kinds)), (a_q2_numbers, .inl (kk 0, 20, .inl q2_numbers))] A) args s 0 0 A) (F0 m 171 ls []) := by
  have hx := S.1
  have hb := S.2.1
  unfold jn_TextReader_endOfFree_171 at he
  refine lv_iconst (v := (0 : Int32)) hx hb d_TextReader_endOfFree_171 (by decide) ?_
  have hl : lv_has ls 14 [(0, .ref a_t), (4, .int x4), (6, .int x6), (7, .int x7), (11, .int x11), (12, .int x12)] := lv_sub hl [0, 1, 2, 3, 4, 5] rfl
  exact w_TextReader_endOfFree_172 a_t a_t_known a_t_known_values a_t_known_flags a_t_known_order a_t_nest a_t_nest_ends a_q1 a_q1_cells a_q2 a_q2_kinds a_q2_numbers a_t_nest_places a_t_nest_marks n_q1_cells t_loose t_place t_known_size t_known_values t_known_flags t_known_order t_nest_depth t_nest_ends q1_size q1_cells q2_size q2_kinds q2_numbers x4 x6 x7 x11 x12 (0 : Int32) o S hr hlk hA X _ _ ls he hl hP hD hS
set_option maxHeartbeats 4000000 in
set_option maxRecDepth 100000 in
theorem w_TextReader_endOfFree_167 {p : Program} {l : Launch} {e : Env} {s : State} {m : MethodId} {args : Array Value} {below : List Frame} {meth : Method} {c : Code} {A : Nat → Prop} {D : va_G} {kk : Nat → ClassId} {st : Nat → Nat} (a_t a_t_known a_t_known_values a_t_known_flags a_t_known_order a_t_nest a_t_nest_ends a_q1 a_q1_cells a_q2 a_q2_kinds a_q2_numbers a_t_nest_places a_t_nest_marks : Nat) (n_q1_cells : Nat) (t_loose : Int32) (t_place : Int32) (t_known_size : Int32) (t_known_values : Nat → Int32) (t_known_flags : Nat → Int32) (t_known_order : Nat → Int32) (t_nest_depth : Int32) (t_nest_ends : Nat → Int32) (q1_size : Int32) (q1_cells : Nat → Int32) (q2_size : Int32) (q2_kinds : Nat → Int32) (q2_numbers : Nat → Int32) (x4 : Int32) (x6 : Int32) (x7 : Int32) (x11 : Int32) (x12 : Int32) (o : Int32 × Int32 × (Nat → Int32) × (Nat → Int32) × (Nat → Int32)) (S : CallFix p m c b_TextReader_endOfFree 14 s args GW y_TextReader_endOfFree.cls) (hr : meth.sig.returnType = (some .int)) (hlk : meth.locks = false) (hA : ∀ q, s.heap.size ≤ q → A q) (X : KX D kk st A s) (H : Heap) (locs : List Loc) (ls : Array Slot) (he : jn_TextReader_endOfFree_167 n_q1_cells t_place t_known_size t_known_values t_known_flags t_known_order t_nest_depth t_nest_ends q1_size q1_cells q2_size q2_kinds q2_numbers x4 x6 x7 x11 x12 = some o) (hl : lv_has ls 14 [(0, .ref a_t), (4, .int x4), (6, .int x6), (7, .int x7), (11, .int x11), (12, .int x12)]) (hP : va_P D classes [(a_t, .inr (8, [.ref a_t_known, .ref a_t_nest, .int t_loose, .int t_place])), (a_t_known, .inr (7, [.ref a_t_known_values, .ref a_t_known_flags, .ref a_t_known_order, .int t_known_size])), (a_t_known_values, .inl (kk 0, 14, .inl t_known_values)), (a_t_known_flags, .inl (kk 2, 14, .inl t_known_flags)), (a_t_known_order, .inl (kk 0, 14, .inl t_known_order)), (a_t_nest, .inr (4, [.ref a_t_nest_ends, .ref a_t_nest_places, .ref a_t_nest_marks, .int t_nest_depth])), (a_t_nest_ends, .inl (kk 0, 20, .inl t_nest_ends)), (a_q1, .inr (1, [.ref a_q1_cells, .int q1_size])), (a_q1_cells, .inl (kk 1, n_q1_cells, .inl q1_cells)), (a_q2, .inr (2, [.ref a_q2_kinds, .ref a_q2_numbers, .int q2_size])), (a_q2_kinds, .inl (kk 0, 20, .inl q2_kinds)), (a_q2_numbers, .inl (kk 0, 20, .inl q2_numbers))] H) (hD : va_D A [(a_t, .inr (8, [.ref a_t_known, .ref a_t_nest, .int t_loose, .int t_place])), (a_t_known, .inr (7, [.ref a_t_known_values, .ref a_t_known_flags, .ref a_t_known_order, .int t_known_size])), (a_t_known_values, .inl (kk 0, 14, .inl t_known_values)), (a_t_known_flags, .inl (kk 2, 14, .inl t_known_flags)), (a_t_known_order, .inl (kk 0, 14, .inl t_known_order)), (a_t_nest, .inr (4, [.ref a_t_nest_ends, .ref a_t_nest_places, .ref a_t_nest_marks, .int t_nest_depth])), (a_t_nest_ends, .inl (kk 0, 20, .inl t_nest_ends)), (a_q1, .inr (1, [.ref a_q1_cells, .int q1_size])), (a_q1_cells, .inl (kk 1, n_q1_cells, .inl q1_cells)), (a_q2, .inr (2, [.ref a_q2_kinds, .ref a_q2_numbers, .int q2_size])), (a_q2_kinds, .inl (kk 0, 20, .inl q2_kinds)), (a_q2_numbers, .inl (kk 0, 20, .inl q2_numbers))]) (hS : va_S A s.heap H locs) : W p l e rm_TextReader_endOfFree s m args below meth c H locs 0 0 (MQ below (KQi D kk o.1 [(a_t, .inr (8, [.ref a_t_known, .ref a_t_nest, .int t_loose, .int t_place])), (a_t_known, .inr (7, [.ref a_t_known_values, .ref a_t_known_flags, .ref a_t_known_order, .int o.2.1])), (a_t_known_values, .inl (kk 0, 14, .inl o.2.2.1)), (a_t_known_flags, .inl (kk 2, 14, .inl o.2.2.2.1)), (a_t_known_order, .inl (kk 0, 14, .inl o.2.2.2.2)), (a_t_nest, .inr (4, [.ref a_t_nest_ends, .ref a_t_nest_places, .ref a_t_nest_marks, .int t_nest_depth])), (a_t_nest_ends, .inl (kk 0, 20, .inl t_nest_ends)), (a_q1, .inr (1, [.ref a_q1_cells, .int q1_size])), (a_q1_cells, .inl (kk 1, n_q1_cells, .inl q1_cells)), (a_q2, .inr (2, [.ref a_q2_kinds, .ref a_q2_numbers, .int q2_size])), (a_q2_kinds, .inl (kk 0, 20, .inl q2_kinds)), (a_q2_numbers, .inl (kk 0, 20, .inl q2_numbers))] A) args s 0 0 A) (F0 m 167 ls []) := by
  have hx := S.1
  have hb := S.2.1
  unfold jn_TextReader_endOfFree_167 at he
  refine lv_iconst (v := (1 : Int32)) hx hb d_TextReader_endOfFree_167 (by decide) ?_
  refine lv_goto (tgt := 172) hx hb d_TextReader_endOfFree_168 rfl ?_
  have hl : lv_has ls 14 [(0, .ref a_t), (4, .int x4), (6, .int x6), (7, .int x7), (11, .int x11), (12, .int x12)] := lv_sub hl [0, 1, 2, 3, 4, 5] rfl
  exact w_TextReader_endOfFree_172 a_t a_t_known a_t_known_values a_t_known_flags a_t_known_order a_t_nest a_t_nest_ends a_q1 a_q1_cells a_q2 a_q2_kinds a_q2_numbers a_t_nest_places a_t_nest_marks n_q1_cells t_loose t_place t_known_size t_known_values t_known_flags t_known_order t_nest_depth t_nest_ends q1_size q1_cells q2_size q2_kinds q2_numbers x4 x6 x7 x11 x12 (1 : Int32) o S hr hlk hA X _ _ ls he hl hP hD hS
set_option maxHeartbeats 4000000 in
set_option maxRecDepth 100000 in
theorem w_TextReader_endOfFree_155 {p : Program} {l : Launch} {e : Env} {s : State} {m : MethodId} {args : Array Value} {below : List Frame} {meth : Method} {c : Code} {A : Nat → Prop} {D : va_G} {kk : Nat → ClassId} {st : Nat → Nat} (a_t a_t_known a_t_known_values a_t_known_flags a_t_known_order a_t_nest a_t_nest_ends a_q1 a_q1_cells a_q2 a_q2_kinds a_q2_numbers a_t_nest_places a_t_nest_marks : Nat) (n_q1_cells : Nat) (t_loose : Int32) (t_place : Int32) (t_known_size : Int32) (t_known_values : Nat → Int32) (t_known_flags : Nat → Int32) (t_known_order : Nat → Int32) (t_nest_depth : Int32) (t_nest_ends : Nat → Int32) (q1_size : Int32) (q1_cells : Nat → Int32) (q2_size : Int32) (q2_kinds : Nat → Int32) (q2_numbers : Nat → Int32) (x4 : Int32) (x6 : Int32) (x7 : Int32) (x11 : Int32) (x12 : Int32) (o : Int32 × Int32 × (Nat → Int32) × (Nat → Int32) × (Nat → Int32)) (S : CallFix p m c b_TextReader_endOfFree 14 s args GW y_TextReader_endOfFree.cls) (hr : meth.sig.returnType = (some .int)) (hlk : meth.locks = false) (hA : ∀ q, s.heap.size ≤ q → A q) (X : KX D kk st A s) (H : Heap) (locs : List Loc) (ls : Array Slot) (he : jn_TextReader_endOfFree_155 n_q1_cells t_place t_known_size t_known_values t_known_flags t_known_order t_nest_depth t_nest_ends q1_size q1_cells q2_size q2_kinds q2_numbers x4 x6 x7 x11 x12 = some o) (hl : lv_has ls 14 [(0, .ref a_t), (4, .int x4), (6, .int x6), (7, .int x7), (11, .int x11), (12, .int x12)]) (hP : va_P D classes [(a_t, .inr (8, [.ref a_t_known, .ref a_t_nest, .int t_loose, .int t_place])), (a_t_known, .inr (7, [.ref a_t_known_values, .ref a_t_known_flags, .ref a_t_known_order, .int t_known_size])), (a_t_known_values, .inl (kk 0, 14, .inl t_known_values)), (a_t_known_flags, .inl (kk 2, 14, .inl t_known_flags)), (a_t_known_order, .inl (kk 0, 14, .inl t_known_order)), (a_t_nest, .inr (4, [.ref a_t_nest_ends, .ref a_t_nest_places, .ref a_t_nest_marks, .int t_nest_depth])), (a_t_nest_ends, .inl (kk 0, 20, .inl t_nest_ends)), (a_q1, .inr (1, [.ref a_q1_cells, .int q1_size])), (a_q1_cells, .inl (kk 1, n_q1_cells, .inl q1_cells)), (a_q2, .inr (2, [.ref a_q2_kinds, .ref a_q2_numbers, .int q2_size])), (a_q2_kinds, .inl (kk 0, 20, .inl q2_kinds)), (a_q2_numbers, .inl (kk 0, 20, .inl q2_numbers))] H) (hD : va_D A [(a_t, .inr (8, [.ref a_t_known, .ref a_t_nest, .int t_loose, .int t_place])), (a_t_known, .inr (7, [.ref a_t_known_values, .ref a_t_known_flags, .ref a_t_known_order, .int t_known_size])), (a_t_known_values, .inl (kk 0, 14, .inl t_known_values)), (a_t_known_flags, .inl (kk 2, 14, .inl t_known_flags)), (a_t_known_order, .inl (kk 0, 14, .inl t_known_order)), (a_t_nest, .inr (4, [.ref a_t_nest_ends, .ref a_t_nest_places, .ref a_t_nest_marks, .int t_nest_depth])), (a_t_nest_ends, .inl (kk 0, 20, .inl t_nest_ends)), (a_q1, .inr (1, [.ref a_q1_cells, .int q1_size])), (a_q1_cells, .inl (kk 1, n_q1_cells, .inl q1_cells)), (a_q2, .inr (2, [.ref a_q2_kinds, .ref a_q2_numbers, .int q2_size])), (a_q2_kinds, .inl (kk 0, 20, .inl q2_kinds)), (a_q2_numbers, .inl (kk 0, 20, .inl q2_numbers))]) (hS : va_S A s.heap H locs) : W p l e rm_TextReader_endOfFree s m args below meth c H locs 0 0 (MQ below (KQi D kk o.1 [(a_t, .inr (8, [.ref a_t_known, .ref a_t_nest, .int t_loose, .int t_place])), (a_t_known, .inr (7, [.ref a_t_known_values, .ref a_t_known_flags, .ref a_t_known_order, .int o.2.1])), (a_t_known_values, .inl (kk 0, 14, .inl o.2.2.1)), (a_t_known_flags, .inl (kk 2, 14, .inl o.2.2.2.1)), (a_t_known_order, .inl (kk 0, 14, .inl o.2.2.2.2)), (a_t_nest, .inr (4, [.ref a_t_nest_ends, .ref a_t_nest_places, .ref a_t_nest_marks, .int t_nest_depth])), (a_t_nest_ends, .inl (kk 0, 20, .inl t_nest_ends)), (a_q1, .inr (1, [.ref a_q1_cells, .int q1_size])), (a_q1_cells, .inl (kk 1, n_q1_cells, .inl q1_cells)), (a_q2, .inr (2, [.ref a_q2_kinds, .ref a_q2_numbers, .int q2_size])), (a_q2_kinds, .inl (kk 0, 20, .inl q2_kinds)), (a_q2_numbers, .inl (kk 0, 20, .inl q2_numbers))] A) args s 0 0 A) (F0 m 155 ls []) := by
  have hx := S.1
  have hb := S.2.1
  unfold jn_TextReader_endOfFree_155 at he
  refine lv_iload hx hb d_TextReader_endOfFree_155 (lv_at hl 2 rfl) ?_
  refine lv_iconst (v := (-1 : Int32)) hx hb d_TextReader_endOfFree_157 (by decide) ?_
  refine lv_icmp_ne (tgt := 171) hx hb d_TextReader_endOfFree_158 rfl (fun hc => ?_) (fun hc => ?_)
  · have he := ih_f hc he
    have hl : lv_has ls 14 [(0, .ref a_t), (4, .int x4), (6, .int x6), (7, .int x7), (11, .int x11), (12, .int x12)] := lv_sub hl [0, 1, 2, 3, 4, 5] rfl
    exact w_TextReader_endOfFree_171 a_t a_t_known a_t_known_values a_t_known_flags a_t_known_order a_t_nest a_t_nest_ends a_q1 a_q1_cells a_q2 a_q2_kinds a_q2_numbers a_t_nest_places a_t_nest_marks n_q1_cells t_loose t_place t_known_size t_known_values t_known_flags t_known_order t_nest_depth t_nest_ends q1_size q1_cells q2_size q2_kinds q2_numbers x4 x6 x7 x11 x12 o S hr hlk hA X _ _ ls he hl hP hD hS
  · have he := ih_t hc he
    refine lv_iload hx hb d_TextReader_endOfFree_161 (lv_at hl 4 rfl) ?_
    refine lv_iconst (v := (4 : Int32)) hx hb d_TextReader_endOfFree_163 (by decide) ?_
    refine lv_icmp_le (tgt := 171) hx hb d_TextReader_endOfFree_164 rfl (fun hc => ?_) (fun hc => ?_)
    · have he := ih_t hc he
      have hl : lv_has ls 14 [(0, .ref a_t), (4, .int x4), (6, .int x6), (7, .int x7), (11, .int x11), (12, .int x12)] := lv_sub hl [0, 1, 2, 3, 4, 5] rfl
      exact w_TextReader_endOfFree_171 a_t a_t_known a_t_known_values a_t_known_flags a_t_known_order a_t_nest a_t_nest_ends a_q1 a_q1_cells a_q2 a_q2_kinds a_q2_numbers a_t_nest_places a_t_nest_marks n_q1_cells t_loose t_place t_known_size t_known_values t_known_flags t_known_order t_nest_depth t_nest_ends q1_size q1_cells q2_size q2_kinds q2_numbers x4 x6 x7 x11 x12 o S hr hlk hA X _ _ ls he hl hP hD hS
    · have he := ih_f hc he
      have hl : lv_has ls 14 [(0, .ref a_t), (4, .int x4), (6, .int x6), (7, .int x7), (11, .int x11), (12, .int x12)] := lv_sub hl [0, 1, 2, 3, 4, 5] rfl
      exact w_TextReader_endOfFree_167 a_t a_t_known a_t_known_values a_t_known_flags a_t_known_order a_t_nest a_t_nest_ends a_q1 a_q1_cells a_q2 a_q2_kinds a_q2_numbers a_t_nest_places a_t_nest_marks n_q1_cells t_loose t_place t_known_size t_known_values t_known_flags t_known_order t_nest_depth t_nest_ends q1_size q1_cells q2_size q2_kinds q2_numbers x4 x6 x7 x11 x12 o S hr hlk hA X _ _ ls he hl hP hD hS
set_option maxHeartbeats 4000000 in
set_option maxRecDepth 100000 in
theorem w_TextReader_endOfFree_136 {p : Program} {l : Launch} {e : Env} {s : State} {m : MethodId} {args : Array Value} {below : List Frame} {meth : Method} {c : Code} {A : Nat → Prop} {D : va_G} {kk : Nat → ClassId} {st : Nat → Nat} (a_t a_t_known a_t_known_values a_t_known_flags a_t_known_order a_t_nest a_t_nest_ends a_q1 a_q1_cells a_q2 a_q2_kinds a_q2_numbers a_t_nest_places a_t_nest_marks : Nat) (n_q1_cells : Nat) (t_loose : Int32) (t_place : Int32) (t_known_size : Int32) (t_known_values : Nat → Int32) (t_known_flags : Nat → Int32) (t_known_order : Nat → Int32) (t_nest_depth : Int32) (t_nest_ends : Nat → Int32) (q1_size : Int32) (q1_cells : Nat → Int32) (q2_size : Int32) (q2_kinds : Nat → Int32) (q2_numbers : Nat → Int32) (x4 : Int32) (x5 : Int32) (x6 : Int32) (x7 : Int32) (x11 : Int32) (x12 : Int32) (o : Int32 × Int32 × (Nat → Int32) × (Nat → Int32) × (Nat → Int32)) (S : CallFix p m c b_TextReader_endOfFree 14 s args GW y_TextReader_endOfFree.cls) (hr : meth.sig.returnType = (some .int)) (hlk : meth.locks = false) (hA : ∀ q, s.heap.size ≤ q → A q) (X : KX D kk st A s) (H : Heap) (locs : List Loc) (ls : Array Slot) (he : jn_TextReader_endOfFree_136 n_q1_cells t_place t_known_size t_known_values t_known_flags t_known_order t_nest_depth t_nest_ends q1_size q1_cells q2_size q2_kinds q2_numbers x4 x5 x6 x7 x11 x12 = some o) (hl : lv_has ls 14 [(0, .ref a_t), (4, .int x4), (5, .int x5), (6, .int x6), (7, .int x7), (11, .int x11), (12, .int x12)]) (hP : va_P D classes [(a_t, .inr (8, [.ref a_t_known, .ref a_t_nest, .int t_loose, .int t_place])), (a_t_known, .inr (7, [.ref a_t_known_values, .ref a_t_known_flags, .ref a_t_known_order, .int t_known_size])), (a_t_known_values, .inl (kk 0, 14, .inl t_known_values)), (a_t_known_flags, .inl (kk 2, 14, .inl t_known_flags)), (a_t_known_order, .inl (kk 0, 14, .inl t_known_order)), (a_t_nest, .inr (4, [.ref a_t_nest_ends, .ref a_t_nest_places, .ref a_t_nest_marks, .int t_nest_depth])), (a_t_nest_ends, .inl (kk 0, 20, .inl t_nest_ends)), (a_q1, .inr (1, [.ref a_q1_cells, .int q1_size])), (a_q1_cells, .inl (kk 1, n_q1_cells, .inl q1_cells)), (a_q2, .inr (2, [.ref a_q2_kinds, .ref a_q2_numbers, .int q2_size])), (a_q2_kinds, .inl (kk 0, 20, .inl q2_kinds)), (a_q2_numbers, .inl (kk 0, 20, .inl q2_numbers))] H) (hD : va_D A [(a_t, .inr (8, [.ref a_t_known, .ref a_t_nest, .int t_loose, .int t_place])), (a_t_known, .inr (7, [.ref a_t_known_values, .ref a_t_known_flags, .ref a_t_known_order, .int t_known_size])), (a_t_known_values, .inl (kk 0, 14, .inl t_known_values)), (a_t_known_flags, .inl (kk 2, 14, .inl t_known_flags)), (a_t_known_order, .inl (kk 0, 14, .inl t_known_order)), (a_t_nest, .inr (4, [.ref a_t_nest_ends, .ref a_t_nest_places, .ref a_t_nest_marks, .int t_nest_depth])), (a_t_nest_ends, .inl (kk 0, 20, .inl t_nest_ends)), (a_q1, .inr (1, [.ref a_q1_cells, .int q1_size])), (a_q1_cells, .inl (kk 1, n_q1_cells, .inl q1_cells)), (a_q2, .inr (2, [.ref a_q2_kinds, .ref a_q2_numbers, .int q2_size])), (a_q2_kinds, .inl (kk 0, 20, .inl q2_kinds)), (a_q2_numbers, .inl (kk 0, 20, .inl q2_numbers))]) (hS : va_S A s.heap H locs) : W p l e rm_TextReader_endOfFree s m args below meth c H locs 0 0 (MQ below (KQi D kk o.1 [(a_t, .inr (8, [.ref a_t_known, .ref a_t_nest, .int t_loose, .int t_place])), (a_t_known, .inr (7, [.ref a_t_known_values, .ref a_t_known_flags, .ref a_t_known_order, .int o.2.1])), (a_t_known_values, .inl (kk 0, 14, .inl o.2.2.1)), (a_t_known_flags, .inl (kk 2, 14, .inl o.2.2.2.1)), (a_t_known_order, .inl (kk 0, 14, .inl o.2.2.2.2)), (a_t_nest, .inr (4, [.ref a_t_nest_ends, .ref a_t_nest_places, .ref a_t_nest_marks, .int t_nest_depth])), (a_t_nest_ends, .inl (kk 0, 20, .inl t_nest_ends)), (a_q1, .inr (1, [.ref a_q1_cells, .int q1_size])), (a_q1_cells, .inl (kk 1, n_q1_cells, .inl q1_cells)), (a_q2, .inr (2, [.ref a_q2_kinds, .ref a_q2_numbers, .int q2_size])), (a_q2_kinds, .inl (kk 0, 20, .inl q2_kinds)), (a_q2_numbers, .inl (kk 0, 20, .inl q2_numbers))] A) args s 0 0 A) (F0 m 136 ls []) := by
  have hx := S.1
  have hb := S.2.1
  unfold jn_TextReader_endOfFree_136 at he
  refine lv_iload hx hb d_TextReader_endOfFree_136 (lv_at hl 2 rfl) ?_
  refine lv_iconst (v := (4 : Int32)) hx hb d_TextReader_endOfFree_138 (by decide) ?_
  refine lv_icmp_ne (tgt := 171) hx hb d_TextReader_endOfFree_139 rfl (fun hc => ?_) (fun hc => ?_)
  · have he := ih_f hc he
    have hl : lv_has ls 14 [(0, .ref a_t), (4, .int x4), (6, .int x6), (7, .int x7), (11, .int x11), (12, .int x12)] := lv_sub hl [0, 1, 3, 4, 5, 6] rfl
    exact w_TextReader_endOfFree_171 a_t a_t_known a_t_known_values a_t_known_flags a_t_known_order a_t_nest a_t_nest_ends a_q1 a_q1_cells a_q2 a_q2_kinds a_q2_numbers a_t_nest_places a_t_nest_marks n_q1_cells t_loose t_place t_known_size t_known_values t_known_flags t_known_order t_nest_depth t_nest_ends q1_size q1_cells q2_size q2_kinds q2_numbers x4 x6 x7 x11 x12 o S hr hlk hA X _ _ ls he hl hP hD hS
  · have he := ih_t hc he
    refine lv_iload hx hb d_TextReader_endOfFree_142 (lv_at hl 3 rfl) ?_
    refine lv_bipush (v := (43 : Int32)) hx hb d_TextReader_endOfFree_144 (by decide) ?_
    refine lv_icmp_ne (tgt := 155) hx hb d_TextReader_endOfFree_146 rfl (fun hc => ?_) (fun hc => ?_)
    · have he := ih_f hc he
      have hl : lv_has ls 14 [(0, .ref a_t), (4, .int x4), (6, .int x6), (7, .int x7), (11, .int x11), (12, .int x12)] := lv_sub hl [0, 1, 3, 4, 5, 6] rfl
      exact w_TextReader_endOfFree_155 a_t a_t_known a_t_known_values a_t_known_flags a_t_known_order a_t_nest a_t_nest_ends a_q1 a_q1_cells a_q2 a_q2_kinds a_q2_numbers a_t_nest_places a_t_nest_marks n_q1_cells t_loose t_place t_known_size t_known_values t_known_flags t_known_order t_nest_depth t_nest_ends q1_size q1_cells q2_size q2_kinds q2_numbers x4 x6 x7 x11 x12 o S hr hlk hA X _ _ ls he hl hP hD hS
    · have he := ih_t hc he
      refine lv_iload hx hb d_TextReader_endOfFree_149 (lv_at hl 5 rfl) ?_
      refine lv_iconst (v := (4 : Int32)) hx hb d_TextReader_endOfFree_151 (by decide) ?_
      refine lv_icmp_eq (tgt := 167) hx hb d_TextReader_endOfFree_152 rfl (fun hc => ?_) (fun hc => ?_)
      · have he := ih_t hc he
        have hl : lv_has ls 14 [(0, .ref a_t), (4, .int x4), (6, .int x6), (7, .int x7), (11, .int x11), (12, .int x12)] := lv_sub hl [0, 1, 3, 4, 5, 6] rfl
        exact w_TextReader_endOfFree_167 a_t a_t_known a_t_known_values a_t_known_flags a_t_known_order a_t_nest a_t_nest_ends a_q1 a_q1_cells a_q2 a_q2_kinds a_q2_numbers a_t_nest_places a_t_nest_marks n_q1_cells t_loose t_place t_known_size t_known_values t_known_flags t_known_order t_nest_depth t_nest_ends q1_size q1_cells q2_size q2_kinds q2_numbers x4 x6 x7 x11 x12 o S hr hlk hA X _ _ ls he hl hP hD hS
      · have he := ih_f hc he
        have hl : lv_has ls 14 [(0, .ref a_t), (4, .int x4), (6, .int x6), (7, .int x7), (11, .int x11), (12, .int x12)] := lv_sub hl [0, 1, 3, 4, 5, 6] rfl
        exact w_TextReader_endOfFree_155 a_t a_t_known a_t_known_values a_t_known_flags a_t_known_order a_t_nest a_t_nest_ends a_q1 a_q1_cells a_q2 a_q2_kinds a_q2_numbers a_t_nest_places a_t_nest_marks n_q1_cells t_loose t_place t_known_size t_known_values t_known_flags t_known_order t_nest_depth t_nest_ends q1_size q1_cells q2_size q2_kinds q2_numbers x4 x6 x7 x11 x12 o S hr hlk hA X _ _ ls he hl hP hD hS
set_option maxHeartbeats 4000000 in
set_option maxRecDepth 100000 in
theorem w_TextReader_endOfFree_57 {p : Program} {l : Launch} {e : Env} {s : State} {m : MethodId} {args : Array Value} {below : List Frame} {meth : Method} {c : Code} {A : Nat → Prop} {D : va_G} {kk : Nat → ClassId} {st : Nat → Nat} (a_t a_t_known a_t_known_values a_t_known_flags a_t_known_order a_t_nest a_t_nest_ends a_q1 a_q1_cells a_q2 a_q2_kinds a_q2_numbers a_t_nest_places a_t_nest_marks : Nat) (n_q1_cells : Nat) (t_loose : Int32) (t_place : Int32) (t_known_size : Int32) (t_known_values : Nat → Int32) (t_known_flags : Nat → Int32) (t_known_order : Nat → Int32) (t_nest_depth : Int32) (t_nest_ends : Nat → Int32) (q1_size : Int32) (q1_cells : Nat → Int32) (q2_size : Int32) (q2_kinds : Nat → Int32) (q2_numbers : Nat → Int32) (x3 : Int32) (x4 : Int32) (x5 : Int32) (x6 : Int32) (x7 : Int32) (s0 : Int32) (o : Int32 × Int32 × (Nat → Int32) × (Nat → Int32) × (Nat → Int32)) (S : CallFix p m c b_TextReader_endOfFree 14 s args GW y_TextReader_endOfFree.cls) (hr : meth.sig.returnType = (some .int)) (hlk : meth.locks = false) (hA : ∀ q, s.heap.size ≤ q → A q) (X : KX D kk st A s) (H : Heap) (locs : List Loc) (ls : Array Slot) (he : jn_TextReader_endOfFree_57 n_q1_cells t_place t_known_size t_known_values t_known_flags t_known_order t_nest_depth t_nest_ends q1_size q1_cells q2_size q2_kinds q2_numbers x3 x4 x5 x6 x7 s0 = some o) (hl : lv_has ls 14 [(0, .ref a_t), (1, .ref a_q1), (2, .ref a_q2), (3, .int x3), (4, .int x4), (5, .int x5), (6, .int x6), (7, .int x7)]) (hP : va_P D classes [(a_t, .inr (8, [.ref a_t_known, .ref a_t_nest, .int t_loose, .int t_place])), (a_t_known, .inr (7, [.ref a_t_known_values, .ref a_t_known_flags, .ref a_t_known_order, .int t_known_size])), (a_t_known_values, .inl (kk 0, 14, .inl t_known_values)), (a_t_known_flags, .inl (kk 2, 14, .inl t_known_flags)), (a_t_known_order, .inl (kk 0, 14, .inl t_known_order)), (a_t_nest, .inr (4, [.ref a_t_nest_ends, .ref a_t_nest_places, .ref a_t_nest_marks, .int t_nest_depth])), (a_t_nest_ends, .inl (kk 0, 20, .inl t_nest_ends)), (a_q1, .inr (1, [.ref a_q1_cells, .int q1_size])), (a_q1_cells, .inl (kk 1, n_q1_cells, .inl q1_cells)), (a_q2, .inr (2, [.ref a_q2_kinds, .ref a_q2_numbers, .int q2_size])), (a_q2_kinds, .inl (kk 0, 20, .inl q2_kinds)), (a_q2_numbers, .inl (kk 0, 20, .inl q2_numbers))] H) (hD : va_D A [(a_t, .inr (8, [.ref a_t_known, .ref a_t_nest, .int t_loose, .int t_place])), (a_t_known, .inr (7, [.ref a_t_known_values, .ref a_t_known_flags, .ref a_t_known_order, .int t_known_size])), (a_t_known_values, .inl (kk 0, 14, .inl t_known_values)), (a_t_known_flags, .inl (kk 2, 14, .inl t_known_flags)), (a_t_known_order, .inl (kk 0, 14, .inl t_known_order)), (a_t_nest, .inr (4, [.ref a_t_nest_ends, .ref a_t_nest_places, .ref a_t_nest_marks, .int t_nest_depth])), (a_t_nest_ends, .inl (kk 0, 20, .inl t_nest_ends)), (a_q1, .inr (1, [.ref a_q1_cells, .int q1_size])), (a_q1_cells, .inl (kk 1, n_q1_cells, .inl q1_cells)), (a_q2, .inr (2, [.ref a_q2_kinds, .ref a_q2_numbers, .int q2_size])), (a_q2_kinds, .inl (kk 0, 20, .inl q2_kinds)), (a_q2_numbers, .inl (kk 0, 20, .inl q2_numbers))]) (hS : va_S A s.heap H locs) : W p l e rm_TextReader_endOfFree s m args below meth c H locs 0 0 (MQ below (KQi D kk o.1 [(a_t, .inr (8, [.ref a_t_known, .ref a_t_nest, .int t_loose, .int t_place])), (a_t_known, .inr (7, [.ref a_t_known_values, .ref a_t_known_flags, .ref a_t_known_order, .int o.2.1])), (a_t_known_values, .inl (kk 0, 14, .inl o.2.2.1)), (a_t_known_flags, .inl (kk 2, 14, .inl o.2.2.2.1)), (a_t_known_order, .inl (kk 0, 14, .inl o.2.2.2.2)), (a_t_nest, .inr (4, [.ref a_t_nest_ends, .ref a_t_nest_places, .ref a_t_nest_marks, .int t_nest_depth])), (a_t_nest_ends, .inl (kk 0, 20, .inl t_nest_ends)), (a_q1, .inr (1, [.ref a_q1_cells, .int q1_size])), (a_q1_cells, .inl (kk 1, n_q1_cells, .inl q1_cells)), (a_q2, .inr (2, [.ref a_q2_kinds, .ref a_q2_numbers, .int q2_size])), (a_q2_kinds, .inl (kk 0, 20, .inl q2_kinds)), (a_q2_numbers, .inl (kk 0, 20, .inl q2_numbers))] A) args s 0 0 A) (F0 m 57 ls [.int s0]) := by
  have hx := S.1
  have hb := S.2.1
  unfold jn_TextReader_endOfFree_57 at he
  refine lv_istore hx hb d_TextReader_endOfFree_57 hl (by decide) rfl (fun ls hl => ?_)
  have hl : lv_has ls 14 [(8, .int s0), (0, .ref a_t), (1, .ref a_q1), (2, .ref a_q2), (3, .int x3), (4, .int x4), (5, .int x5), (6, .int x6), (7, .int x7)] := hl
  refine lv_aload_n hx hb d_TextReader_endOfFree_59 rfl (lv_at hl 3 rfl) ?_
  refine lv_iload_n hx hb d_TextReader_endOfFree_60 rfl (lv_at hl 4 rfl) ?_
  refine lv_aload_n hx hb d_TextReader_endOfFree_61 rfl (lv_at hl 1 rfl) ?_
  refine k_get S X us_TextReader hP 0 rfl rfl 1 (by decide) gm_1_154 rfl d_TextReader_endOfFree_62 ?_
  refine lv_aload_n hx hb d_TextReader_endOfFree_65 rfl (lv_at hl 3 rfl) ?_
  refine k_get S X us_Pattern hP 9 rfl rfl 2 (by decide) gm_1_65 rfl d_TextReader_endOfFree_66 ?_
  obtain ⟨u7, e8, he⟩ := ih_b he
  refine k_io (r_V (As := [.int q2_size]) S X hA hP hD hS (c_Nest_limit l D kk st a_t_nest a_t_nest_ends a_t_nest_places a_t_nest_marks _ t_nest_depth t_nest_ends q2_size u7 e8) gm_3_156 gm_4_12 gm_3_154 gm_3_155 gm_1_6 ⟨rfl, rfl, by decide, by decide⟩ kd_Nest_limit [5, 6] rfl rfl rfl 5 4 rfl rfl rfl rfl hl.1 rfl (Nat.le_of_ble_eq_true rfl) d_TextReader_endOfFree_69 ⟨Nat.zero_le _, Nat.zero_le _⟩) hA hP hD hS [5, 6] rfl (fun H locs hP hS => ?_)
  obtain ⟨u9, e10, he⟩ := ih_b he
  refine k_io (r_V (As := [.int x3, .int u7]) S X hA hP hD hS (c_Pattern_fixedBehind l D kk st a_q2 a_q2_kinds a_q2_numbers _ q2_size q2_kinds q2_numbers x3 u7 u9 e10) gm_4_16 gm_4_13 gm_4_14 gm_4_15 gm_1_4 ⟨rfl, rfl, by decide, by decide⟩ kd_Pattern_fixedBehind [9, 10, 11] rfl rfl rfl 9 2 rfl rfl rfl rfl hl.1 rfl (Nat.le_of_ble_eq_true rfl) d_TextReader_endOfFree_72 ⟨Nat.zero_le _, Nat.zero_le _⟩) hA hP hD hS [9, 10, 11] rfl (fun H locs hP hS => ?_)
  refine lv_istore hx hb d_TextReader_endOfFree_75 hl (by decide) rfl (fun ls hl => ?_)
  have hl : lv_has ls 14 [(9, .int u9), (8, .int s0), (0, .ref a_t), (1, .ref a_q1), (2, .ref a_q2), (3, .int x3), (4, .int x4), (5, .int x5), (6, .int x6), (7, .int x7)] := hl
  refine lv_aload_n hx hb d_TextReader_endOfFree_77 rfl (lv_at hl 3 rfl) ?_
  refine lv_iload hx hb d_TextReader_endOfFree_78 (lv_at hl 9 rfl) ?_
  refine lv_iload hx hb d_TextReader_endOfFree_80 (lv_at hl 6 rfl) ?_
  obtain ⟨u11, e12, he⟩ := ih_b he
  refine k_io (r_S (As := [.int x4]) S X hA hP hD hS (c_TextReader_mostDigits l D kk st _ x4 u11 e12) gm_4_20 gm_4_18 gm_4_19 gm_1_7 ⟨rfl, rfl, by decide, by decide⟩ kd_TextReader_mostDigits [] rfl rfl rfl rfl hl.1 rfl (Nat.le_of_ble_eq_true rfl) d_TextReader_endOfFree_82 ⟨Nat.zero_le _, Nat.zero_le _⟩) hA hP hD hS [] rfl (fun H locs hP hS => ?_)
  refine lv_iload hx hb d_TextReader_endOfFree_85 (lv_at hl 0 rfl) ?_
  refine lv_iadd hx hb d_TextReader_endOfFree_87 ?_
  obtain ⟨u13, e14, he⟩ := ih_b he
  refine k_io (r_V (As := [.int x7, .int (u11 + u9)]) S X hA hP hD hS (c_Row_digits l D kk st a_q1 a_q1_cells _ n_q1_cells q1_size q1_cells x7 (u11 + u9) u13 e14) gm_3_230 gm_3_227 gm_3_228 gm_3_229 gm_1_2 ⟨rfl, rfl, by decide, by decide⟩ kd_Row_digits [7, 8] rfl rfl rfl 7 1 rfl rfl rfl rfl hl.1 rfl (Nat.le_of_ble_eq_true rfl) d_TextReader_endOfFree_88 ⟨Nat.zero_le _, Nat.zero_le _⟩) hA hP hD hS [7, 8] rfl (fun H locs hP hS => ?_)
  refine lv_istore hx hb d_TextReader_endOfFree_91 hl (by decide) rfl (fun ls hl => ?_)
  have hl : lv_has ls 14 [(10, .int u13), (9, .int u9), (8, .int s0), (0, .ref a_t), (1, .ref a_q1), (2, .ref a_q2), (3, .int x3), (4, .int x4), (5, .int x5), (6, .int x6), (7, .int x7)] := hl
  refine lv_iload hx hb d_TextReader_endOfFree_93 (lv_at hl 0 rfl) ?_
  refine lv_iload hx hb d_TextReader_endOfFree_95 (lv_at hl 2 rfl) ?_
  refine lv_icmp_ge (tgt := 102) hx hb d_TextReader_endOfFree_97 rfl (fun hc => ?_) (fun hc => ?_)
  · have he := ih_t hc he
    refine lv_iload hx hb d_TextReader_endOfFree_102 (lv_at hl 2 rfl) ?_
    refine lv_iload hx hb d_TextReader_endOfFree_104 (lv_at hl 0 rfl) ?_
    refine lv_iload hx hb d_TextReader_endOfFree_106 (lv_at hl 1 rfl) ?_
    refine lv_isub hx hb d_TextReader_endOfFree_108 ?_
    refine va_mmax hx hb (by rw [S.2.2.1]; exact hl.1.symm) S.2.2.2.1 (S.2.2.2.2 _ gm_4_21) (S.2.2.2.2 _ gm_2_126) (S.2.2.2.2 _ gm_1_11) (S.2.2.2.2 _ gm_2_127) (by decide) (Nat.le_of_ble_eq_true rfl) (Nat.zero_le _) (Nat.zero_le _) d_TextReader_endOfFree_109 ?_
    refine lv_istore hx hb d_TextReader_endOfFree_112 hl (by decide) rfl (fun ls hl => ?_)
    have hl : lv_has ls 14 [(11, .int (if s0 < (u13 - u9) then (u13 - u9) else s0)), (10, .int u13), (9, .int u9), (8, .int s0), (0, .ref a_t), (1, .ref a_q1), (2, .ref a_q2), (3, .int x3), (4, .int x4), (5, .int x5), (6, .int x6), (7, .int x7)] := hl
    refine lv_aload_n hx hb d_TextReader_endOfFree_114 rfl (lv_at hl 5 rfl) ?_
    refine lv_iload hx hb d_TextReader_endOfFree_115 (lv_at hl 11 rfl) ?_
    refine lv_iload hx hb d_TextReader_endOfFree_117 (lv_at hl 0 rfl) ?_
    obtain ⟨u15, e16, he⟩ := ih_b he
    refine k_io (r_V (As := [.int x7, .int (if s0 < (u13 - u9) then (u13 - u9) else s0)]) S X hA hP hD hS (c_Row_number l D kk st a_q1 a_q1_cells _ n_q1_cells q1_size q1_cells x7 (if s0 < (u13 - u9) then (u13 - u9) else s0) u15 e16) gm_3_234 gm_3_231 gm_3_232 gm_3_233 gm_1_2 ⟨rfl, rfl, by decide, by decide⟩ kd_Row_number [7, 8] rfl rfl rfl 7 1 rfl rfl rfl rfl hl.1 rfl (Nat.le_of_ble_eq_true rfl) d_TextReader_endOfFree_119 ⟨Nat.zero_le _, Nat.zero_le _⟩) hA hP hD hS [7, 8] rfl (fun H locs hP hS => ?_)
    refine lv_istore hx hb d_TextReader_endOfFree_122 hl (by decide) rfl (fun ls hl => ?_)
    have hl : lv_has ls 14 [(12, .int u15), (11, .int (if s0 < (u13 - u9) then (u13 - u9) else s0)), (10, .int u13), (9, .int u9), (8, .int s0), (0, .ref a_t), (1, .ref a_q1), (2, .ref a_q2), (3, .int x3), (4, .int x4), (5, .int x5), (6, .int x6), (7, .int x7)] := hl
    refine lv_iload hx hb d_TextReader_endOfFree_124 (lv_at hl 11 rfl) ?_
    refine lv_bipush (v := (45 : Int32)) hx hb d_TextReader_endOfFree_126 (by decide) ?_
    refine lv_icmp_ne (tgt := 136) hx hb d_TextReader_endOfFree_128 rfl (fun hc => ?_) (fun hc => ?_)
    · have he := ih_f hc he
      have hl : lv_has ls 14 [(0, .ref a_t), (4, .int x4), (5, .int x5), (6, .int x6), (7, .int x7), (11, .int (if s0 < (u13 - u9) then (u13 - u9) else s0)), (12, .int u15)] := lv_sub hl [5, 9, 10, 11, 12, 1, 0] rfl
      exact w_TextReader_endOfFree_136 a_t a_t_known a_t_known_values a_t_known_flags a_t_known_order a_t_nest a_t_nest_ends a_q1 a_q1_cells a_q2 a_q2_kinds a_q2_numbers a_t_nest_places a_t_nest_marks n_q1_cells t_loose t_place t_known_size t_known_values t_known_flags t_known_order t_nest_depth t_nest_ends q1_size q1_cells q2_size q2_kinds q2_numbers x4 x5 x6 x7 (if s0 < (u13 - u9) then (u13 - u9) else s0) u15 o S hr hlk hA X _ _ ls he hl hP hD hS
    · have he := ih_t hc he
      refine lv_iload hx hb d_TextReader_endOfFree_131 (lv_at hl 0 rfl) ?_
      refine lv_if_eq (tgt := 167) hx hb d_TextReader_endOfFree_133 rfl (fun hc => ?_) (fun hc => ?_)
      · have he := ih_t hc he
        have hl : lv_has ls 14 [(0, .ref a_t), (4, .int x4), (6, .int x6), (7, .int x7), (11, .int (if s0 < (u13 - u9) then (u13 - u9) else s0)), (12, .int u15)] := lv_sub hl [5, 9, 11, 12, 1, 0] rfl
        exact w_TextReader_endOfFree_167 a_t a_t_known a_t_known_values a_t_known_flags a_t_known_order a_t_nest a_t_nest_ends a_q1 a_q1_cells a_q2 a_q2_kinds a_q2_numbers a_t_nest_places a_t_nest_marks n_q1_cells t_loose t_place t_known_size t_known_values t_known_flags t_known_order t_nest_depth t_nest_ends q1_size q1_cells q2_size q2_kinds q2_numbers x4 x6 x7 (if s0 < (u13 - u9) then (u13 - u9) else s0) u15 o S hr hlk hA X _ _ ls he hl hP hD hS
      · have he := ih_f hc he
        have hl : lv_has ls 14 [(0, .ref a_t), (4, .int x4), (5, .int x5), (6, .int x6), (7, .int x7), (11, .int (if s0 < (u13 - u9) then (u13 - u9) else s0)), (12, .int u15)] := lv_sub hl [5, 9, 10, 11, 12, 1, 0] rfl
        exact w_TextReader_endOfFree_136 a_t a_t_known a_t_known_values a_t_known_flags a_t_known_order a_t_nest a_t_nest_ends a_q1 a_q1_cells a_q2 a_q2_kinds a_q2_numbers a_t_nest_places a_t_nest_marks n_q1_cells t_loose t_place t_known_size t_known_values t_known_flags t_known_order t_nest_depth t_nest_ends q1_size q1_cells q2_size q2_kinds q2_numbers x4 x5 x6 x7 (if s0 < (u13 - u9) then (u13 - u9) else s0) u15 o S hr hlk hA X _ _ ls he hl hP hD hS
  · have he := ih_f hc he
    refine lv_iconst (v := (-1 : Int32)) hx hb d_TextReader_endOfFree_100 (by decide) ?_
    cases he
    exact k_ire hx hb hr hlk X hP hD hS d_TextReader_endOfFree_101
set_option maxHeartbeats 4000000 in
set_option maxRecDepth 100000 in
theorem w_TextReader_endOfFree_44 {p : Program} {l : Launch} {e : Env} {s : State} {m : MethodId} {args : Array Value} {below : List Frame} {meth : Method} {c : Code} {A : Nat → Prop} {D : va_G} {kk : Nat → ClassId} {st : Nat → Nat} (a_t a_t_known a_t_known_values a_t_known_flags a_t_known_order a_t_nest a_t_nest_ends a_q1 a_q1_cells a_q2 a_q2_kinds a_q2_numbers a_t_nest_places a_t_nest_marks : Nat) (n_q1_cells : Nat) (t_loose : Int32) (t_place : Int32) (t_known_size : Int32) (t_known_values : Nat → Int32) (t_known_flags : Nat → Int32) (t_known_order : Nat → Int32) (t_nest_depth : Int32) (t_nest_ends : Nat → Int32) (q1_size : Int32) (q1_cells : Nat → Int32) (q2_size : Int32) (q2_kinds : Nat → Int32) (q2_numbers : Nat → Int32) (x3 : Int32) (x4 : Int32) (x5 : Int32) (x6 : Int32) (s0 : Int32) (o : Int32 × Int32 × (Nat → Int32) × (Nat → Int32) × (Nat → Int32)) (S : CallFix p m c b_TextReader_endOfFree 14 s args GW y_TextReader_endOfFree.cls) (hr : meth.sig.returnType = (some .int)) (hlk : meth.locks = false) (hA : ∀ q, s.heap.size ≤ q → A q) (X : KX D kk st A s) (H : Heap) (locs : List Loc) (ls : Array Slot) (he : jn_TextReader_endOfFree_44 n_q1_cells t_place t_known_size t_known_values t_known_flags t_known_order t_nest_depth t_nest_ends q1_size q1_cells q2_size q2_kinds q2_numbers x3 x4 x5 x6 s0 = some o) (hl : lv_has ls 14 [(0, .ref a_t), (1, .ref a_q1), (2, .ref a_q2), (3, .int x3), (4, .int x4), (5, .int x5), (6, .int x6)]) (hP : va_P D classes [(a_t, .inr (8, [.ref a_t_known, .ref a_t_nest, .int t_loose, .int t_place])), (a_t_known, .inr (7, [.ref a_t_known_values, .ref a_t_known_flags, .ref a_t_known_order, .int t_known_size])), (a_t_known_values, .inl (kk 0, 14, .inl t_known_values)), (a_t_known_flags, .inl (kk 2, 14, .inl t_known_flags)), (a_t_known_order, .inl (kk 0, 14, .inl t_known_order)), (a_t_nest, .inr (4, [.ref a_t_nest_ends, .ref a_t_nest_places, .ref a_t_nest_marks, .int t_nest_depth])), (a_t_nest_ends, .inl (kk 0, 20, .inl t_nest_ends)), (a_q1, .inr (1, [.ref a_q1_cells, .int q1_size])), (a_q1_cells, .inl (kk 1, n_q1_cells, .inl q1_cells)), (a_q2, .inr (2, [.ref a_q2_kinds, .ref a_q2_numbers, .int q2_size])), (a_q2_kinds, .inl (kk 0, 20, .inl q2_kinds)), (a_q2_numbers, .inl (kk 0, 20, .inl q2_numbers))] H) (hD : va_D A [(a_t, .inr (8, [.ref a_t_known, .ref a_t_nest, .int t_loose, .int t_place])), (a_t_known, .inr (7, [.ref a_t_known_values, .ref a_t_known_flags, .ref a_t_known_order, .int t_known_size])), (a_t_known_values, .inl (kk 0, 14, .inl t_known_values)), (a_t_known_flags, .inl (kk 2, 14, .inl t_known_flags)), (a_t_known_order, .inl (kk 0, 14, .inl t_known_order)), (a_t_nest, .inr (4, [.ref a_t_nest_ends, .ref a_t_nest_places, .ref a_t_nest_marks, .int t_nest_depth])), (a_t_nest_ends, .inl (kk 0, 20, .inl t_nest_ends)), (a_q1, .inr (1, [.ref a_q1_cells, .int q1_size])), (a_q1_cells, .inl (kk 1, n_q1_cells, .inl q1_cells)), (a_q2, .inr (2, [.ref a_q2_kinds, .ref a_q2_numbers, .int q2_size])), (a_q2_kinds, .inl (kk 0, 20, .inl q2_kinds)), (a_q2_numbers, .inl (kk 0, 20, .inl q2_numbers))]) (hS : va_S A s.heap H locs) : W p l e rm_TextReader_endOfFree s m args below meth c H locs 0 0 (MQ below (KQi D kk o.1 [(a_t, .inr (8, [.ref a_t_known, .ref a_t_nest, .int t_loose, .int t_place])), (a_t_known, .inr (7, [.ref a_t_known_values, .ref a_t_known_flags, .ref a_t_known_order, .int o.2.1])), (a_t_known_values, .inl (kk 0, 14, .inl o.2.2.1)), (a_t_known_flags, .inl (kk 2, 14, .inl o.2.2.2.1)), (a_t_known_order, .inl (kk 0, 14, .inl o.2.2.2.2)), (a_t_nest, .inr (4, [.ref a_t_nest_ends, .ref a_t_nest_places, .ref a_t_nest_marks, .int t_nest_depth])), (a_t_nest_ends, .inl (kk 0, 20, .inl t_nest_ends)), (a_q1, .inr (1, [.ref a_q1_cells, .int q1_size])), (a_q1_cells, .inl (kk 1, n_q1_cells, .inl q1_cells)), (a_q2, .inr (2, [.ref a_q2_kinds, .ref a_q2_numbers, .int q2_size])), (a_q2_kinds, .inl (kk 0, 20, .inl q2_kinds)), (a_q2_numbers, .inl (kk 0, 20, .inl q2_numbers))] A) args s 0 0 A) (F0 m 44 ls [.int s0]) := by
  have hx := S.1
  have hb := S.2.1
  unfold jn_TextReader_endOfFree_44 at he
  refine lv_istore hx hb d_TextReader_endOfFree_44 hl (by decide) rfl (fun ls hl => ?_)
  have hl : lv_has ls 14 [(7, .int s0), (0, .ref a_t), (1, .ref a_q1), (2, .ref a_q2), (3, .int x3), (4, .int x4), (5, .int x5), (6, .int x6)] := hl
  refine lv_iload hx hb d_TextReader_endOfFree_46 (lv_at hl 6 rfl) ?_
  refine lv_iconst (v := (4 : Int32)) hx hb d_TextReader_endOfFree_48 (by decide) ?_
  refine lv_icmp_ne (tgt := 56) hx hb d_TextReader_endOfFree_49 rfl (fun hc => ?_) (fun hc => ?_)
  · have he := ih_f hc he
    refine lv_iconst (v := (1 : Int32)) hx hb d_TextReader_endOfFree_56 (by decide) ?_
    have hl : lv_has ls 14 [(0, .ref a_t), (1, .ref a_q1), (2, .ref a_q2), (3, .int x3), (4, .int x4), (5, .int x5), (6, .int x6), (7, .int s0)] := lv_sub hl [1, 2, 3, 4, 5, 6, 7, 0] rfl
    exact w_TextReader_endOfFree_57 a_t a_t_known a_t_known_values a_t_known_flags a_t_known_order a_t_nest a_t_nest_ends a_q1 a_q1_cells a_q2 a_q2_kinds a_q2_numbers a_t_nest_places a_t_nest_marks n_q1_cells t_loose t_place t_known_size t_known_values t_known_flags t_known_order t_nest_depth t_nest_ends q1_size q1_cells q2_size q2_kinds q2_numbers x3 x4 x5 x6 s0 (1 : Int32) o S hr hlk hA X _ _ ls he hl hP hD hS
  · have he := ih_t hc he
    refine lv_iconst (v := (4 : Int32)) hx hb d_TextReader_endOfFree_52 (by decide) ?_
    refine lv_goto (tgt := 57) hx hb d_TextReader_endOfFree_53 rfl ?_
    have hl : lv_has ls 14 [(0, .ref a_t), (1, .ref a_q1), (2, .ref a_q2), (3, .int x3), (4, .int x4), (5, .int x5), (6, .int x6), (7, .int s0)] := lv_sub hl [1, 2, 3, 4, 5, 6, 7, 0] rfl
    exact w_TextReader_endOfFree_57 a_t a_t_known a_t_known_values a_t_known_flags a_t_known_order a_t_nest a_t_nest_ends a_q1 a_q1_cells a_q2 a_q2_kinds a_q2_numbers a_t_nest_places a_t_nest_marks n_q1_cells t_loose t_place t_known_size t_known_values t_known_flags t_known_order t_nest_depth t_nest_ends q1_size q1_cells q2_size q2_kinds q2_numbers x3 x4 x5 x6 s0 (4 : Int32) o S hr hlk hA X _ _ ls he hl hP hD hS
set_option maxHeartbeats 4000000 in
set_option maxRecDepth 100000 in
theorem c_TextReader_endOfFree (l : Launch) (D : va_G) (kk : Nat → ClassId) (st : Nat → Nat) (a_t a_t_known a_t_known_values a_t_known_flags a_t_known_order a_t_nest a_t_nest_ends a_q1 a_q1_cells a_q2 a_q2_kinds a_q2_numbers a_t_nest_places a_t_nest_marks : Nat) (sz : Nat) (n_q1_cells : Nat) (t_loose : Int32) (t_place : Int32) (t_known_size : Int32) (t_known_values : Nat → Int32) (t_known_flags : Nat → Int32) (t_known_order : Nat → Int32) (t_nest_depth : Int32) (t_nest_ends : Nat → Int32) (q1_size : Int32) (q1_cells : Nat → Int32) (q2_size : Int32) (q2_kinds : Nat → Int32) (q2_numbers : Nat → Int32) (x3 : Int32) (o : Int32 × Int32 × (Nat → Int32) × (Nat → Int32) × (Nat → Int32)) (he : f_TextReader_endOfFree n_q1_cells t_place t_known_size t_known_values t_known_flags t_known_order t_nest_depth t_nest_ends q1_size q1_cells q2_size q2_kinds q2_numbers x3 = some o) : Met l y_TextReader_endOfFree (Cond.code y_TextReader_endOfFree b_TextReader_endOfFree 14 (some .int) :: GW) rm_TextReader_endOfFree (KPc D kk st [.ref a_t, .ref a_q1, .ref a_q2, .int x3] [(a_t, .inr (8, [.ref a_t_known, .ref a_t_nest, .int t_loose, .int t_place])), (a_t_known, .inr (7, [.ref a_t_known_values, .ref a_t_known_flags, .ref a_t_known_order, .int t_known_size])), (a_t_known_values, .inl (kk 0, 14, .inl t_known_values)), (a_t_known_flags, .inl (kk 2, 14, .inl t_known_flags)), (a_t_known_order, .inl (kk 0, 14, .inl t_known_order)), (a_t_nest, .inr (4, [.ref a_t_nest_ends, .ref a_t_nest_places, .ref a_t_nest_marks, .int t_nest_depth])), (a_t_nest_ends, .inl (kk 0, 20, .inl t_nest_ends)), (a_q1, .inr (1, [.ref a_q1_cells, .int q1_size])), (a_q1_cells, .inl (kk 1, n_q1_cells, .inl q1_cells)), (a_q2, .inr (2, [.ref a_q2_kinds, .ref a_q2_numbers, .int q2_size])), (a_q2_kinds, .inl (kk 0, 20, .inl q2_kinds)), (a_q2_numbers, .inl (kk 0, 20, .inl q2_numbers))] sz) (KQi D kk o.1 [(a_t, .inr (8, [.ref a_t_known, .ref a_t_nest, .int t_loose, .int t_place])), (a_t_known, .inr (7, [.ref a_t_known_values, .ref a_t_known_flags, .ref a_t_known_order, .int o.2.1])), (a_t_known_values, .inl (kk 0, 14, .inl o.2.2.1)), (a_t_known_flags, .inl (kk 2, 14, .inl o.2.2.2.1)), (a_t_known_order, .inl (kk 0, 14, .inl o.2.2.2.2)), (a_t_nest, .inr (4, [.ref a_t_nest_ends, .ref a_t_nest_places, .ref a_t_nest_marks, .int t_nest_depth])), (a_t_nest_ends, .inl (kk 0, 20, .inl t_nest_ends)), (a_q1, .inr (1, [.ref a_q1_cells, .int q1_size])), (a_q1_cells, .inl (kk 1, n_q1_cells, .inl q1_cells)), (a_q2, .inr (2, [.ref a_q2_kinds, .ref a_q2_numbers, .int q2_size])), (a_q2_kinds, .inl (kk 0, 20, .inl q2_kinds)), (a_q2_numbers, .inl (kk 0, 20, .inl q2_numbers))] (va_A [(a_t, .inr (8, [.ref a_t_known, .ref a_t_nest, .int t_loose, .int t_place])), (a_t_known, .inr (7, [.ref a_t_known_values, .ref a_t_known_flags, .ref a_t_known_order, .int t_known_size])), (a_t_known_values, .inl (kk 0, 14, .inl t_known_values)), (a_t_known_flags, .inl (kk 2, 14, .inl t_known_flags)), (a_t_known_order, .inl (kk 0, 14, .inl t_known_order)), (a_t_nest, .inr (4, [.ref a_t_nest_ends, .ref a_t_nest_places, .ref a_t_nest_marks, .int t_nest_depth])), (a_t_nest_ends, .inl (kk 0, 20, .inl t_nest_ends)), (a_q1, .inr (1, [.ref a_q1_cells, .int q1_size])), (a_q1_cells, .inl (kk 1, n_q1_cells, .inl q1_cells)), (a_q2, .inr (2, [.ref a_q2_kinds, .ref a_q2_numbers, .int q2_size])), (a_q2_kinds, .inl (kk 0, 20, .inl q2_kinds)), (a_q2_numbers, .inl (kk 0, 20, .inl q2_numbers))] sz)) 0 0 (va_A [(a_t, .inr (8, [.ref a_t_known, .ref a_t_nest, .int t_loose, .int t_place])), (a_t_known, .inr (7, [.ref a_t_known_values, .ref a_t_known_flags, .ref a_t_known_order, .int t_known_size])), (a_t_known_values, .inl (kk 0, 14, .inl t_known_values)), (a_t_known_flags, .inl (kk 2, 14, .inl t_known_flags)), (a_t_known_order, .inl (kk 0, 14, .inl t_known_order)), (a_t_nest, .inr (4, [.ref a_t_nest_ends, .ref a_t_nest_places, .ref a_t_nest_marks, .int t_nest_depth])), (a_t_nest_ends, .inl (kk 0, 20, .inl t_nest_ends)), (a_q1, .inr (1, [.ref a_q1_cells, .int q1_size])), (a_q1_cells, .inl (kk 1, n_q1_cells, .inl q1_cells)), (a_q2, .inr (2, [.ref a_q2_kinds, .ref a_q2_numbers, .int q2_size])), (a_q2_kinds, .inl (kk 0, 20, .inl q2_kinds)), (a_q2_numbers, .inl (kk 0, 20, .inl q2_numbers))] sz) := by
  refine k_start (Qc := fun A => KQi D kk o.1 [(a_t, .inr (8, [.ref a_t_known, .ref a_t_nest, .int t_loose, .int t_place])), (a_t_known, .inr (7, [.ref a_t_known_values, .ref a_t_known_flags, .ref a_t_known_order, .int o.2.1])), (a_t_known_values, .inl (kk 0, 14, .inl o.2.2.1)), (a_t_known_flags, .inl (kk 2, 14, .inl o.2.2.2.1)), (a_t_known_order, .inl (kk 0, 14, .inl o.2.2.2.2)), (a_t_nest, .inr (4, [.ref a_t_nest_ends, .ref a_t_nest_places, .ref a_t_nest_marks, .int t_nest_depth])), (a_t_nest_ends, .inl (kk 0, 20, .inl t_nest_ends)), (a_q1, .inr (1, [.ref a_q1_cells, .int q1_size])), (a_q1_cells, .inl (kk 1, n_q1_cells, .inl q1_cells)), (a_q2, .inr (2, [.ref a_q2_kinds, .ref a_q2_numbers, .int q2_size])), (a_q2_kinds, .inl (kk 0, 20, .inl q2_kinds)), (a_q2_numbers, .inl (kk 0, 20, .inl q2_numbers))] A) (by decide) (Nat.le_of_ble_eq_true rfl) ?_
  intro p e s m below meth c A ls S hnm hr hlk hA X hP hD hS hl
  have hl : lv_has ls 14 [(0, .ref a_t), (1, .ref a_q1), (2, .ref a_q2), (3, .int x3)] := hl
  have hx := S.1
  have hb := S.2.1
  unfold f_TextReader_endOfFree at he
  refine lv_aload_n hx hb d_TextReader_endOfFree_0 rfl (lv_at hl 2 rfl) ?_
  refine lv_iload_n hx hb d_TextReader_endOfFree_1 rfl (lv_at hl 3 rfl) ?_
  obtain ⟨u1, e2, he⟩ := ih_b he
  refine k_io (r_V (As := [.int x3]) S X hA hP hD hS (c_Pattern_kind l D kk st a_q2 a_q2_kinds a_q2_numbers _ q2_size q2_kinds x3 u1 e2) gm_2_219 gm_3_186 gm_2_217 gm_2_218 gm_1_4 ⟨rfl, rfl, by decide, by decide⟩ kd_Pattern_kind [9, 10] rfl rfl rfl 9 2 rfl rfl rfl rfl hl.1 rfl (Nat.le_of_ble_eq_true rfl) d_TextReader_endOfFree_2 ⟨Nat.zero_le _, Nat.zero_le _⟩) hA hP hD hS [9, 10] rfl (fun H locs hP hS => ?_)
  refine lv_istore hx hb d_TextReader_endOfFree_5 hl (by decide) rfl (fun ls hl => ?_)
  have hl : lv_has ls 14 [(4, .int u1), (0, .ref a_t), (1, .ref a_q1), (2, .ref a_q2), (3, .int x3)] := hl
  refine lv_aload_n hx hb d_TextReader_endOfFree_7 rfl (lv_at hl 3 rfl) ?_
  refine lv_iload_n hx hb d_TextReader_endOfFree_8 rfl (lv_at hl 4 rfl) ?_
  obtain ⟨u3, e4, he⟩ := ih_b he
  refine k_io (r_V (As := [.int x3]) S X hA hP hD hS (c_Pattern_number l D kk st a_q2 a_q2_numbers a_q2_kinds _ q2_size q2_numbers x3 u3 e4) gm_2_223 gm_3_187 gm_2_221 gm_2_222 gm_1_4 ⟨rfl, rfl, by decide, by decide⟩ kd_Pattern_number [9, 11] rfl rfl rfl 9 2 rfl rfl rfl rfl hl.1 rfl (Nat.le_of_ble_eq_true rfl) d_TextReader_endOfFree_9 ⟨Nat.zero_le _, Nat.zero_le _⟩) hA hP hD hS [9, 11] rfl (fun H locs hP hS => ?_)
  refine lv_istore hx hb d_TextReader_endOfFree_12 hl (by decide) rfl (fun ls hl => ?_)
  have hl : lv_has ls 14 [(5, .int u3), (4, .int u1), (0, .ref a_t), (1, .ref a_q1), (2, .ref a_q2), (3, .int x3)] := hl
  refine lv_aload_n hx hb d_TextReader_endOfFree_14 rfl (lv_at hl 2 rfl) ?_
  refine lv_aload_n hx hb d_TextReader_endOfFree_15 rfl (lv_at hl 3 rfl) ?_
  refine lv_iload hx hb d_TextReader_endOfFree_16 (lv_at hl 1 rfl) ?_
  refine lv_iload hx hb d_TextReader_endOfFree_18 (lv_at hl 0 rfl) ?_
  obtain ⟨u5, e6, he⟩ := ih_b he
  refine k_io (r_V (As := [.ref a_q1, .int u1, .int u3]) S X hA hP hD hS (c_TextReader_signOf l D kk st a_t a_q1 a_q1_cells a_t_known a_t_nest _ n_q1_cells t_loose t_place q1_size q1_cells u1 u3 u5 e6) gm_4_11 gm_4_8 gm_4_10 gm_p2_7 gm_1_7 ⟨rfl, rfl, by decide, by decide⟩ kd_TextReader_signOf [0, 7, 8] rfl rfl rfl 0 8 rfl rfl rfl rfl hl.1 rfl (Nat.le_of_ble_eq_true rfl) d_TextReader_endOfFree_20 ⟨Nat.zero_le _, Nat.zero_le _⟩) hA hP hD hS [0, 7, 8] rfl (fun H locs hP hS => ?_)
  refine lv_istore hx hb d_TextReader_endOfFree_23 hl (by decide) rfl (fun ls hl => ?_)
  have hl : lv_has ls 14 [(6, .int u5), (5, .int u3), (4, .int u1), (0, .ref a_t), (1, .ref a_q1), (2, .ref a_q2), (3, .int x3)] := hl
  refine lv_iload hx hb d_TextReader_endOfFree_25 (lv_at hl 0 rfl) ?_
  refine lv_iconst (v := (-1 : Int32)) hx hb d_TextReader_endOfFree_27 (by decide) ?_
  refine lv_icmp_ne (tgt := 38) hx hb d_TextReader_endOfFree_28 rfl (fun hc => ?_) (fun hc => ?_)
  · have he := ih_f hc he
    refine lv_aload_n hx hb d_TextReader_endOfFree_38 rfl (lv_at hl 3 rfl) ?_
    refine k_get S X us_TextReader hP 0 rfl rfl 3 (by decide) gm_1_156 rfl d_TextReader_endOfFree_39 ?_
    refine lv_iconst (v := (1 : Int32)) hx hb d_TextReader_endOfFree_42 (by decide) ?_
    refine lv_iadd hx hb d_TextReader_endOfFree_43 ?_
    have hl : lv_has ls 14 [(0, .ref a_t), (1, .ref a_q1), (2, .ref a_q2), (3, .int x3), (4, .int u1), (5, .int u3), (6, .int u5)] := lv_sub hl [3, 4, 5, 6, 2, 1, 0] rfl
    exact w_TextReader_endOfFree_44 a_t a_t_known a_t_known_values a_t_known_flags a_t_known_order a_t_nest a_t_nest_ends a_q1 a_q1_cells a_q2 a_q2_kinds a_q2_numbers a_t_nest_places a_t_nest_marks n_q1_cells t_loose t_place t_known_size t_known_values t_known_flags t_known_order t_nest_depth t_nest_ends q1_size q1_cells q2_size q2_kinds q2_numbers x3 u1 u3 u5 (t_place + (1 : Int32)) o S hr hlk hA X _ _ ls he hl hP hD hS
  · have he := ih_t hc he
    refine lv_aload_n hx hb d_TextReader_endOfFree_31 rfl (lv_at hl 3 rfl) ?_
    refine k_get S X us_TextReader hP 0 rfl rfl 3 (by decide) gm_1_156 rfl d_TextReader_endOfFree_32 ?_
    refine lv_goto (tgt := 44) hx hb d_TextReader_endOfFree_35 rfl ?_
    have hl : lv_has ls 14 [(0, .ref a_t), (1, .ref a_q1), (2, .ref a_q2), (3, .int x3), (4, .int u1), (5, .int u3), (6, .int u5)] := lv_sub hl [3, 4, 5, 6, 2, 1, 0] rfl
    exact w_TextReader_endOfFree_44 a_t a_t_known a_t_known_values a_t_known_flags a_t_known_order a_t_nest a_t_nest_ends a_q1 a_q1_cells a_q2 a_q2_kinds a_q2_numbers a_t_nest_places a_t_nest_marks n_q1_cells t_loose t_place t_known_size t_known_values t_known_flags t_known_order t_nest_depth t_nest_ends q1_size q1_cells q2_size q2_kinds q2_numbers x3 u1 u3 u5 t_place o S hr hlk hA X _ _ ls he hl hP hD hS
