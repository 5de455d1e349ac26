abbrev b_Math_floorDiv_JJ : ByteArray := prog_16_method_49_code
def y_Math_floorDiv_JJ : MethodName := ⟨"java/lang/Math", "floorDiv", "(JJ)J"⟩
theorem kd_Math_floorDiv_JJ : kd_ok y_Math_floorDiv_JJ 2 := by decide +kernel
abbrev b_Math_floorMod_JJ : ByteArray := prog_16_method_52_code
def y_Math_floorMod_JJ : MethodName := ⟨"java/lang/Math", "floorMod", "(JJ)J"⟩
theorem kd_Math_floorMod_JJ : kd_ok y_Math_floorMod_JJ 2 := by decide +kernel
abbrev b_Math_floorMod_II : ByteArray := prog_16_method_50_code
def y_Math_floorMod_II : MethodName := ⟨"java/lang/Math", "floorMod", "(II)I"⟩
theorem kd_Math_floorMod_II : kd_ok y_Math_floorMod_II 2 := by decide +kernel
abbrev b_Math_floorDiv_II : ByteArray := prog_16_method_47_code
def y_Math_floorDiv_II : MethodName := ⟨"java/lang/Math", "floorDiv", "(II)I"⟩
theorem kd_Math_floorDiv_II : kd_ok y_Math_floorDiv_II 2 := by decide +kernel
abbrev b_Days_isLeap : ByteArray := prog_2_method_2_code
def y_Days_isLeap : MethodName := ⟨"SkeletonClock$Days", "isLeap", "(J)Z"⟩
theorem kd_Days_isLeap : kd_ok y_Days_isLeap 1 := by decide +kernel
abbrev b_Days_yearLength : ByteArray := prog_2_method_3_code
def y_Days_yearLength : MethodName := ⟨"SkeletonClock$Days", "yearLength", "(J)I"⟩
theorem kd_Days_yearLength : kd_ok y_Days_yearLength 1 := by decide +kernel
abbrev b_Days_firstOfYear : ByteArray := prog_2_method_4_code
def y_Days_firstOfYear : MethodName := ⟨"SkeletonClock$Days", "firstOfYear", "(J)J"⟩
theorem kd_Days_firstOfYear : kd_ok y_Days_firstOfYear 1 := by decide +kernel
abbrev b_Days_yearOf : ByteArray := prog_2_method_5_code
def y_Days_yearOf : MethodName := ⟨"SkeletonClock$Days", "yearOf", "(J)J"⟩
theorem kd_Days_yearOf : kd_ok y_Days_yearOf 1 := by decide +kernel
abbrev b_Days_beforeMonth : ByteArray := prog_2_method_6_code
def y_Days_beforeMonth : MethodName := ⟨"SkeletonClock$Days", "beforeMonth", "(JI)I"⟩
theorem kd_Days_beforeMonth : kd_ok y_Days_beforeMonth 2 := by decide +kernel
abbrev b_Days_monthLength : ByteArray := prog_2_method_7_code
def y_Days_monthLength : MethodName := ⟨"SkeletonClock$Days", "monthLength", "(JI)I"⟩
theorem kd_Days_monthLength : kd_ok y_Days_monthLength 2 := by decide +kernel
abbrev b_Days_firstOfMonth : ByteArray := prog_2_method_8_code
def y_Days_firstOfMonth : MethodName := ⟨"SkeletonClock$Days", "firstOfMonth", "(JI)J"⟩
theorem kd_Days_firstOfMonth : kd_ok y_Days_firstOfMonth 2 := by decide +kernel
abbrev b_Days_weekday : ByteArray := prog_2_method_9_code
def y_Days_weekday : MethodName := ⟨"SkeletonClock$Days", "weekday", "(J)I"⟩
theorem kd_Days_weekday : kd_ok y_Days_weekday 1 := by decide +kernel
abbrev b_Days_firstMonday : ByteArray := prog_2_method_10_code
def y_Days_firstMonday : MethodName := ⟨"SkeletonClock$Days", "firstMonday", "(J)J"⟩
theorem kd_Days_firstMonday : kd_ok y_Days_firstMonday 1 := by decide +kernel
abbrev b_Moment_settleDate : ByteArray := prog_4_method_3_code
def y_Moment_settleDate : MethodName := ⟨"SkeletonClock$Moment", "settleDate", "(J)V"⟩
theorem kd_Moment_settleDate : kd_ok y_Moment_settleDate 1 := by decide +kernel
abbrev b_Moment_settleTime : ByteArray := prog_4_method_4_code
def y_Moment_settleTime : MethodName := ⟨"SkeletonClock$Moment", "settleTime", "(I)V"⟩
theorem kd_Moment_settleTime : kd_ok y_Moment_settleTime 1 := by decide +kernel
abbrev b_Moment_settle : ByteArray := prog_4_method_2_code
def y_Moment_settle : MethodName := ⟨"SkeletonClock$Moment", "settle", "(JIII)V"⟩
theorem kd_Moment_settle : kd_ok y_Moment_settle 4 := by decide +kernel
abbrev b_Moment_value : ByteArray := prog_4_method_6_code
def y_Moment_value : MethodName := ⟨"SkeletonClock$Moment", "value", "(I)I"⟩
theorem kd_Moment_value : kd_ok y_Moment_value 1 := by decide +kernel
abbrev b_Moment_become : ByteArray := prog_4_method_5_code
def y_Moment_become : MethodName := ⟨"SkeletonClock$Moment", "become", "(LSkeletonClock$Moment;)V"⟩
theorem kd_Moment_become : kd_ok y_Moment_become 1 := by decide +kernel
abbrev b_SkeletonClock_partOf : ByteArray := prog_1_method_21_code
def y_SkeletonClock_partOf : MethodName := ⟨"SkeletonClock", "partOf", "(I)I"⟩
theorem kd_SkeletonClock_partOf : kd_ok y_SkeletonClock_partOf 1 := by decide +kernel
abbrev b_Moment_has : ByteArray := prog_4_method_7_code
def y_Moment_has : MethodName := ⟨"SkeletonClock$Moment", "has", "(I)Z"⟩
theorem kd_Moment_has : kd_ok y_Moment_has 1 := by decide +kernel
theorem gm_1_232 : Cond.constantLong "SkeletonClock$Days" (7 : Nat) (4 : Int64) ∈ GW := gw_1 (i := 232) rfl rfl
theorem gm_1_233 : Cond.constantLong "SkeletonClock$Days" (9 : Nat) (100 : Int64) ∈ GW := gw_1 (i := 233) rfl rfl
theorem gm_1_226 : Cond.constantLong "SkeletonClock$Days" (11 : Nat) (400 : Int64) ∈ GW := gw_1 (i := 226) rfl rfl
theorem gm_2_4 : Cond.code ({ cls := "SkeletonClock$Days", name := "isLeap", desc := "(J)Z" } : MethodName) prog_2_method_2_code (2 : Nat) (Option.some FieldType.boolean) ∈ GW := gw_2 (i := 4) rfl rfl
theorem gm_2_2 : Cond.methodLink "SkeletonClock$Days" (13 : Nat) ({ cls := "SkeletonClock$Days", name := "isLeap", desc := "(J)Z" } : MethodName) ∈ GW := gw_2 (i := 2) rfl rfl
theorem gm_1_12 : Cond.initialized "SkeletonClock$Days" ∈ GW := gw_1 (i := 12) rfl rfl
theorem gm_2_3 : Cond.static ({ cls := "SkeletonClock$Days", name := "isLeap", desc := "(J)Z" } : MethodName) ∈ GW := gw_2 (i := 3) rfl rfl
theorem gm_1_217 : Cond.code ({ cls := "java/lang/Math", name := "floorDiv", desc := "(JJ)J" } : MethodName) prog_16_method_49_code (6 : Nat) (Option.some FieldType.long) ∈ GW := gw_1 (i := 217) rfl rfl
theorem gm_1_228 : Cond.methodLink "SkeletonClock$Days" (19 : Nat) ({ cls := "java/lang/Math", name := "floorDiv", desc := "(JJ)J" } : MethodName) ∈ GW := gw_1 (i := 228) rfl rfl
theorem gm_1_216 : Cond.static ({ cls := "java/lang/Math", name := "floorDiv", desc := "(JJ)J" } : MethodName) ∈ GW := gw_1 (i := 216) rfl rfl
theorem gm_1_234 : Cond.constantLong "SkeletonClock$Days" (25 : Nat) (365 : Int64) ∈ GW := gw_1 (i := 234) rfl rfl
theorem gm_1_225 : Cond.constantLong "SkeletonClock$Days" (27 : Nat) (1970 : Int64) ∈ GW := gw_1 (i := 225) rfl rfl
theorem gm_1_235 : Cond.constantLong "SkeletonClock$Days" (29 : Nat) (477 : Int64) ∈ GW := gw_1 (i := 235) rfl rfl
theorem gm_1_227 : Cond.constantLong "SkeletonClock$Days" (31 : Nat) (146097 : Int64) ∈ GW := gw_1 (i := 227) rfl rfl
theorem gm_1_231 : Cond.code ({ cls := "SkeletonClock$Days", name := "firstOfYear", desc := "(J)J" } : MethodName) prog_2_method_4_code (6 : Nat) (Option.some FieldType.long) ∈ GW := gw_1 (i := 231) rfl rfl
theorem gm_1_229 : Cond.methodLink "SkeletonClock$Days" (33 : Nat) ({ cls := "SkeletonClock$Days", name := "firstOfYear", desc := "(J)J" } : MethodName) ∈ GW := gw_1 (i := 229) rfl rfl
theorem gm_1_230 : Cond.static ({ cls := "SkeletonClock$Days", name := "firstOfYear", desc := "(J)J" } : MethodName) ∈ GW := gw_1 (i := 230) rfl rfl
theorem gm_2_0 : Cond.fieldLink "SkeletonClock$Days" (37 : Nat) "SkeletonClock$Days" "BEFORE_MONTH" "[I" ∈ GW := gw_2 (i := 0) rfl rfl
theorem gm_1_239 : Cond.code ({ cls := "SkeletonClock$Days", name := "beforeMonth", desc := "(JI)I" } : MethodName) prog_2_method_6_code (3 : Nat) (Option.some FieldType.int) ∈ GW := gw_1 (i := 239) rfl rfl
theorem gm_4_60 : Cond.methodLink "SkeletonClock$Days" (41 : Nat) ({ cls := "SkeletonClock$Days", name := "beforeMonth", desc := "(JI)I" } : MethodName) ∈ GW := gw_4 (i := 60) rfl rfl
theorem gm_1_238 : Cond.static ({ cls := "SkeletonClock$Days", name := "beforeMonth", desc := "(JI)I" } : MethodName) ∈ GW := gw_1 (i := 238) rfl rfl
theorem gm_4_67 : Cond.code ({ cls := "java/lang/Math", name := "floorDiv", desc := "(II)I" } : MethodName) prog_16_method_47_code (3 : Nat) (Option.some FieldType.int) ∈ GW := gw_4 (i := 67) rfl rfl
theorem gm_4_65 : Cond.methodLink "SkeletonClock$Days" (45 : Nat) ({ cls := "java/lang/Math", name := "floorDiv", desc := "(II)I" } : MethodName) ∈ GW := gw_4 (i := 65) rfl rfl
theorem gm_4_66 : Cond.static ({ cls := "java/lang/Math", name := "floorDiv", desc := "(II)I" } : MethodName) ∈ GW := gw_4 (i := 66) rfl rfl
theorem gm_3_131 : Cond.code ({ cls := "java/lang/Math", name := "floorMod", desc := "(II)I" } : MethodName) prog_16_method_50_code (3 : Nat) (Option.some FieldType.int) ∈ GW := gw_3 (i := 131) rfl rfl
theorem gm_4_68 : Cond.methodLink "SkeletonClock$Days" (48 : Nat) ({ cls := "java/lang/Math", name := "floorMod", desc := "(II)I" } : MethodName) ∈ GW := gw_4 (i := 68) rfl rfl
theorem gm_3_130 : Cond.static ({ cls := "java/lang/Math", name := "floorMod", desc := "(II)I" } : MethodName) ∈ GW := gw_3 (i := 130) rfl rfl
theorem gm_2_8 : Cond.constantLong "SkeletonClock$Days" (51 : Nat) (3 : Int64) ∈ GW := gw_2 (i := 8) rfl rfl
theorem gm_2_9 : Cond.constantLong "SkeletonClock$Days" (53 : Nat) (7 : Int64) ∈ GW := gw_2 (i := 9) rfl rfl
theorem gm_2_12 : Cond.code ({ cls := "java/lang/Math", name := "floorMod", desc := "(JJ)J" } : MethodName) prog_16_method_52_code (6 : Nat) (Option.some FieldType.long) ∈ GW := gw_2 (i := 12) rfl rfl
theorem gm_2_10 : Cond.methodLink "SkeletonClock$Days" (55 : Nat) ({ cls := "java/lang/Math", name := "floorMod", desc := "(JJ)J" } : MethodName) ∈ GW := gw_2 (i := 10) rfl rfl
theorem gm_2_11 : Cond.static ({ cls := "java/lang/Math", name := "floorMod", desc := "(JJ)J" } : MethodName) ∈ GW := gw_2 (i := 11) rfl rfl
theorem gm_2_7 : Cond.code ({ cls := "SkeletonClock$Days", name := "weekday", desc := "(J)I" } : MethodName) prog_2_method_9_code (2 : Nat) (Option.some FieldType.int) ∈ GW := gw_2 (i := 7) rfl rfl
theorem gm_4_84 : Cond.methodLink "SkeletonClock$Days" (57 : Nat) ({ cls := "SkeletonClock$Days", name := "weekday", desc := "(J)I" } : MethodName) ∈ GW := gw_4 (i := 84) rfl rfl
theorem gm_2_6 : Cond.static ({ cls := "SkeletonClock$Days", name := "weekday", desc := "(J)I" } : MethodName) ∈ GW := gw_2 (i := 6) rfl rfl
theorem gm_1_224 : Cond.code ({ cls := "SkeletonClock$Days", name := "yearOf", desc := "(J)J" } : MethodName) prog_2_method_5_code (4 : Nat) (Option.some FieldType.long) ∈ GW := gw_1 (i := 224) rfl rfl
theorem gm_1_222 : Cond.methodLink "SkeletonClock$Moment" (44 : Nat) ({ cls := "SkeletonClock$Days", name := "yearOf", desc := "(J)J" } : MethodName) ∈ GW := gw_1 (i := 222) rfl rfl
theorem gm_1_223 : Cond.static ({ cls := "SkeletonClock$Days", name := "yearOf", desc := "(J)J" } : MethodName) ∈ GW := gw_1 (i := 223) rfl rfl
theorem gm_1_236 : Cond.methodLink "SkeletonClock$Moment" (50 : Nat) ({ cls := "SkeletonClock$Days", name := "firstOfYear", desc := "(J)J" } : MethodName) ∈ GW := gw_1 (i := 236) rfl rfl
theorem gm_1_237 : Cond.methodLink "SkeletonClock$Moment" (53 : Nat) ({ cls := "SkeletonClock$Days", name := "beforeMonth", desc := "(JI)I" } : MethodName) ∈ GW := gw_1 (i := 237) rfl rfl
theorem gm_2_5 : Cond.methodLink "SkeletonClock$Moment" (57 : Nat) ({ cls := "SkeletonClock$Days", name := "weekday", desc := "(J)I" } : MethodName) ∈ GW := gw_2 (i := 5) rfl rfl
theorem gm_2_13 : Cond.constantLong "SkeletonClock$Moment" (61 : Nat) (4 : Int64) ∈ GW := gw_2 (i := 13) rfl rfl
theorem gm_1_178 : Cond.fieldLink "SkeletonClock$Moment" (9 : Nat) "SkeletonClock$Moment" "values" "[I" ∈ GW := gw_1 (i := 178) rfl rfl
theorem gm_1_179 : Cond.fieldLink "SkeletonClock$Moment" (15 : Nat) "SkeletonClock$Moment" "seconds" "J" ∈ GW := gw_1 (i := 179) rfl rfl
theorem gm_1_181 : Cond.fieldLink "SkeletonClock$Moment" (19 : Nat) "SkeletonClock$Moment" "parts" "I" ∈ GW := gw_1 (i := 181) rfl rfl
theorem gm_1_213 : Cond.constantLong "SkeletonClock$Moment" (23 : Nat) (60 : Int64) ∈ GW := gw_1 (i := 213) rfl rfl
theorem gm_1_214 : Cond.constantLong "SkeletonClock$Moment" (25 : Nat) (86400 : Int64) ∈ GW := gw_1 (i := 214) rfl rfl
theorem gm_1_215 : Cond.methodLink "SkeletonClock$Moment" (27 : Nat) ({ cls := "java/lang/Math", name := "floorDiv", desc := "(JJ)J" } : MethodName) ∈ GW := gw_1 (i := 215) rfl rfl
theorem gm_1_221 : Cond.code ({ cls := "SkeletonClock$Moment", name := "settleDate", desc := "(J)V" } : MethodName) prog_4_method_3_code (11 : Nat) (Option.none : Option FieldType) ∈ GW := gw_1 (i := 221) rfl rfl
theorem gm_1_218 : Cond.methodLink "SkeletonClock$Moment" (33 : Nat) ({ cls := "SkeletonClock$Moment", name := "settleDate", desc := "(J)V" } : MethodName) ∈ GW := gw_1 (i := 218) rfl rfl
theorem gm_1_10 : Cond.initialized "SkeletonClock$Moment" ∈ GW := gw_1 (i := 10) rfl rfl
theorem gm_1_220 : Cond.instanceMethod ({ cls := "SkeletonClock$Moment", name := "settleDate", desc := "(J)V" } : MethodName) ∈ GW := gw_1 (i := 220) rfl rfl
theorem gm_p1_0 : Cond.selects "SkeletonClock$Moment" ⟨"SkeletonClock$Moment", "settleDate", "(J)V"⟩ ⟨"SkeletonClock$Moment", "settleDate", "(J)V"⟩ ∈ GW := gs_1 (i := 0) rfl
theorem gm_2_14 : Cond.methodLink "SkeletonClock$Moment" (37 : Nat) ({ cls := "java/lang/Math", name := "floorMod", desc := "(JJ)J" } : MethodName) ∈ GW := gw_2 (i := 14) rfl rfl
theorem gm_2_18 : Cond.code ({ cls := "SkeletonClock$Moment", name := "settleTime", desc := "(I)V" } : MethodName) prog_4_method_4_code (3 : Nat) (Option.none : Option FieldType) ∈ GW := gw_2 (i := 18) rfl rfl
theorem gm_2_15 : Cond.methodLink "SkeletonClock$Moment" (40 : Nat) ({ cls := "SkeletonClock$Moment", name := "settleTime", desc := "(I)V" } : MethodName) ∈ GW := gw_2 (i := 15) rfl rfl
theorem gm_2_17 : Cond.instanceMethod ({ cls := "SkeletonClock$Moment", name := "settleTime", desc := "(I)V" } : MethodName) ∈ GW := gw_2 (i := 17) rfl rfl
theorem gm_p1_1 : Cond.selects "SkeletonClock$Moment" ⟨"SkeletonClock$Moment", "settleTime", "(I)V"⟩ ⟨"SkeletonClock$Moment", "settleTime", "(I)V"⟩ ∈ GW := gs_1 (i := 1) rfl
theorem gm_3_37 : Cond.code ({ cls := "SkeletonClock$Moment", name := "value", desc := "(I)I" } : MethodName) prog_4_method_6_code (2 : Nat) (Option.some FieldType.int) ∈ GW := gw_3 (i := 37) rfl rfl
theorem gm_4_102 : Cond.methodLink "SkeletonClock$Moment" (63 : Nat) ({ cls := "SkeletonClock$Moment", name := "value", desc := "(I)I" } : MethodName) ∈ GW := gw_4 (i := 102) rfl rfl
theorem gm_3_35 : Cond.instanceMethod ({ cls := "SkeletonClock$Moment", name := "value", desc := "(I)I" } : MethodName) ∈ GW := gw_3 (i := 35) rfl rfl
theorem gm_3_36 : Cond.selects "SkeletonClock$Moment" ({ cls := "SkeletonClock$Moment", name := "value", desc := "(I)I" } : MethodName) ({ cls := "SkeletonClock$Moment", name := "value", desc := "(I)I" } : MethodName) ∈ GW := gw_3 (i := 36) rfl rfl
theorem gm_1_212 : Cond.code ({ cls := "SkeletonClock$Moment", name := "settle", desc := "(JIII)V" } : MethodName) prog_4_method_2_code (8 : Nat) (Option.none : Option FieldType) ∈ GW := gw_1 (i := 212) rfl rfl
theorem gm_4_103 : Cond.methodLink "SkeletonClock$Moment" (67 : Nat) ({ cls := "SkeletonClock$Moment", name := "settle", desc := "(JIII)V" } : MethodName) ∈ GW := gw_4 (i := 103) rfl rfl
theorem gm_1_210 : Cond.instanceMethod ({ cls := "SkeletonClock$Moment", name := "settle", desc := "(JIII)V" } : MethodName) ∈ GW := gw_1 (i := 210) rfl rfl
theorem gm_1_211 : Cond.selects "SkeletonClock$Moment" ({ cls := "SkeletonClock$Moment", name := "settle", desc := "(JIII)V" } : MethodName) ({ cls := "SkeletonClock$Moment", name := "settle", desc := "(JIII)V" } : MethodName) ∈ GW := gw_1 (i := 211) rfl rfl
theorem gm_3_71 : Cond.code ({ cls := "SkeletonClock", name := "partOf", desc := "(I)I" } : MethodName) prog_1_method_21_code (1 : Nat) (Option.some FieldType.int) ∈ GW := gw_3 (i := 71) rfl rfl
theorem gm_3_69 : Cond.methodLinkNest "SkeletonClock$Moment" (71 : Nat) ({ cls := "SkeletonClock", name := "partOf", desc := "(I)I" } : MethodName) "SkeletonClock" ∈ NW := gn_3 (i := 69) rfl rfl
theorem gm_1_1 : Cond.initialized "SkeletonClock" ∈ GW := gw_1 (i := 1) rfl rfl
theorem gm_3_70 : Cond.static ({ cls := "SkeletonClock", name := "partOf", desc := "(I)I" } : MethodName) ∈ GW := gw_3 (i := 70) rfl rfl
theorem d_Math_floorDiv_JJ_0 : decode b_Math_floorDiv_JJ 0 = .ok (.lload_n 0, 1) := by decide +kernel
theorem d_Math_floorDiv_JJ_1 : decode b_Math_floorDiv_JJ 1 = .ok (.lload_n 2, 1) := by decide +kernel
theorem d_Math_floorDiv_JJ_2 : decode b_Math_floorDiv_JJ 2 = .ok (.ldiv, 1) := by decide +kernel
theorem d_Math_floorDiv_JJ_3 : decode b_Math_floorDiv_JJ 3 = .ok (.lstore 4, 2) := by decide +kernel
theorem d_Math_floorDiv_JJ_5 : decode b_Math_floorDiv_JJ 5 = .ok (.lload_n 0, 1) := by decide +kernel
theorem d_Math_floorDiv_JJ_6 : decode b_Math_floorDiv_JJ 6 = .ok (.lload_n 2, 1) := by decide +kernel
theorem d_Math_floorDiv_JJ_7 : decode b_Math_floorDiv_JJ 7 = .ok (.lxor, 1) := by decide +kernel
theorem d_Math_floorDiv_JJ_8 : decode b_Math_floorDiv_JJ 8 = .ok (.lconst 0, 1) := by decide +kernel
theorem d_Math_floorDiv_JJ_9 : decode b_Math_floorDiv_JJ 9 = .ok (.lcmp, 1) := by decide +kernel
theorem d_Math_floorDiv_JJ_10 : decode b_Math_floorDiv_JJ 10 = .ok (.ifCond .ge 17, 3) := by decide +kernel
theorem d_Math_floorDiv_JJ_13 : decode b_Math_floorDiv_JJ 13 = .ok (.lload 4, 2) := by decide +kernel
theorem d_Math_floorDiv_JJ_15 : decode b_Math_floorDiv_JJ 15 = .ok (.lload_n 2, 1) := by decide +kernel
theorem d_Math_floorDiv_JJ_16 : decode b_Math_floorDiv_JJ 16 = .ok (.lmul, 1) := by decide +kernel
theorem d_Math_floorDiv_JJ_17 : decode b_Math_floorDiv_JJ 17 = .ok (.lload_n 0, 1) := by decide +kernel
theorem d_Math_floorDiv_JJ_18 : decode b_Math_floorDiv_JJ 18 = .ok (.lcmp, 1) := by decide +kernel
theorem d_Math_floorDiv_JJ_19 : decode b_Math_floorDiv_JJ 19 = .ok (.ifCond .eq 8, 3) := by decide +kernel
theorem d_Math_floorDiv_JJ_22 : decode b_Math_floorDiv_JJ 22 = .ok (.lload 4, 2) := by decide +kernel
theorem d_Math_floorDiv_JJ_24 : decode b_Math_floorDiv_JJ 24 = .ok (.lconst 1, 1) := by decide +kernel
theorem d_Math_floorDiv_JJ_25 : decode b_Math_floorDiv_JJ 25 = .ok (.lsub, 1) := by decide +kernel
theorem d_Math_floorDiv_JJ_26 : decode b_Math_floorDiv_JJ 26 = .ok (.lreturn, 1) := by decide +kernel
theorem d_Math_floorDiv_JJ_27 : decode b_Math_floorDiv_JJ 27 = .ok (.lload 4, 2) := by decide +kernel
theorem d_Math_floorDiv_JJ_29 : decode b_Math_floorDiv_JJ 29 = .ok (.lreturn, 1) := by decide +kernel
theorem d_Math_floorMod_JJ_0 : decode b_Math_floorMod_JJ 0 = .ok (.lload_n 0, 1) := by decide +kernel
theorem d_Math_floorMod_JJ_1 : decode b_Math_floorMod_JJ 1 = .ok (.lload_n 2, 1) := by decide +kernel
theorem d_Math_floorMod_JJ_2 : decode b_Math_floorMod_JJ 2 = .ok (.lrem, 1) := by decide +kernel
theorem d_Math_floorMod_JJ_3 : decode b_Math_floorMod_JJ 3 = .ok (.lstore 4, 2) := by decide +kernel
theorem d_Math_floorMod_JJ_5 : decode b_Math_floorMod_JJ 5 = .ok (.lload_n 0, 1) := by decide +kernel
theorem d_Math_floorMod_JJ_6 : decode b_Math_floorMod_JJ 6 = .ok (.lload_n 2, 1) := by decide +kernel
theorem d_Math_floorMod_JJ_7 : decode b_Math_floorMod_JJ 7 = .ok (.lxor, 1) := by decide +kernel
theorem d_Math_floorMod_JJ_8 : decode b_Math_floorMod_JJ 8 = .ok (.lconst 0, 1) := by decide +kernel
theorem d_Math_floorMod_JJ_9 : decode b_Math_floorMod_JJ 9 = .ok (.lcmp, 1) := by decide +kernel
theorem d_Math_floorMod_JJ_10 : decode b_Math_floorMod_JJ 10 = .ok (.ifCond .ge 15, 3) := by decide +kernel
theorem d_Math_floorMod_JJ_13 : decode b_Math_floorMod_JJ 13 = .ok (.lload 4, 2) := by decide +kernel
theorem d_Math_floorMod_JJ_15 : decode b_Math_floorMod_JJ 15 = .ok (.lconst 0, 1) := by decide +kernel
theorem d_Math_floorMod_JJ_16 : decode b_Math_floorMod_JJ 16 = .ok (.lcmp, 1) := by decide +kernel
theorem d_Math_floorMod_JJ_17 : decode b_Math_floorMod_JJ 17 = .ok (.ifCond .eq 8, 3) := by decide +kernel
theorem d_Math_floorMod_JJ_20 : decode b_Math_floorMod_JJ 20 = .ok (.lload 4, 2) := by decide +kernel
theorem d_Math_floorMod_JJ_22 : decode b_Math_floorMod_JJ 22 = .ok (.lload_n 2, 1) := by decide +kernel
theorem d_Math_floorMod_JJ_23 : decode b_Math_floorMod_JJ 23 = .ok (.ladd, 1) := by decide +kernel
theorem d_Math_floorMod_JJ_24 : decode b_Math_floorMod_JJ 24 = .ok (.lreturn, 1) := by decide +kernel
theorem d_Math_floorMod_JJ_25 : decode b_Math_floorMod_JJ 25 = .ok (.lload 4, 2) := by decide +kernel
theorem d_Math_floorMod_JJ_27 : decode b_Math_floorMod_JJ 27 = .ok (.lreturn, 1) := by decide +kernel
theorem d_Math_floorMod_II_0 : decode b_Math_floorMod_II 0 = .ok (.iload_n 0, 1) := by decide +kernel
theorem d_Math_floorMod_II_1 : decode b_Math_floorMod_II 1 = .ok (.iload_n 1, 1) := by decide +kernel
theorem d_Math_floorMod_II_2 : decode b_Math_floorMod_II 2 = .ok (.irem, 1) := by decide +kernel
theorem d_Math_floorMod_II_3 : decode b_Math_floorMod_II 3 = .ok (.istore_n 2, 1) := by decide +kernel
theorem d_Math_floorMod_II_4 : decode b_Math_floorMod_II 4 = .ok (.iload_n 0, 1) := by decide +kernel
theorem d_Math_floorMod_II_5 : decode b_Math_floorMod_II 5 = .ok (.iload_n 1, 1) := by decide +kernel
theorem d_Math_floorMod_II_6 : decode b_Math_floorMod_II 6 = .ok (.ixor, 1) := by decide +kernel
theorem d_Math_floorMod_II_7 : decode b_Math_floorMod_II 7 = .ok (.ifCond .ge 11, 3) := by decide +kernel
theorem d_Math_floorMod_II_10 : decode b_Math_floorMod_II 10 = .ok (.iload_n 2, 1) := by decide +kernel
theorem d_Math_floorMod_II_11 : decode b_Math_floorMod_II 11 = .ok (.ifCond .eq 7, 3) := by decide +kernel
theorem d_Math_floorMod_II_14 : decode b_Math_floorMod_II 14 = .ok (.iload_n 2, 1) := by decide +kernel
theorem d_Math_floorMod_II_15 : decode b_Math_floorMod_II 15 = .ok (.iload_n 1, 1) := by decide +kernel
theorem d_Math_floorMod_II_16 : decode b_Math_floorMod_II 16 = .ok (.iadd, 1) := by decide +kernel
theorem d_Math_floorMod_II_17 : decode b_Math_floorMod_II 17 = .ok (.ireturn, 1) := by decide +kernel
theorem d_Math_floorMod_II_18 : decode b_Math_floorMod_II 18 = .ok (.iload_n 2, 1) := by decide +kernel
theorem d_Math_floorMod_II_19 : decode b_Math_floorMod_II 19 = .ok (.ireturn, 1) := by decide +kernel
theorem d_Math_floorDiv_II_0 : decode b_Math_floorDiv_II 0 = .ok (.iload_n 0, 1) := by decide +kernel
theorem d_Math_floorDiv_II_1 : decode b_Math_floorDiv_II 1 = .ok (.iload_n 1, 1) := by decide +kernel
theorem d_Math_floorDiv_II_2 : decode b_Math_floorDiv_II 2 = .ok (.idiv, 1) := by decide +kernel
theorem d_Math_floorDiv_II_3 : decode b_Math_floorDiv_II 3 = .ok (.istore_n 2, 1) := by decide +kernel
theorem d_Math_floorDiv_II_4 : decode b_Math_floorDiv_II 4 = .ok (.iload_n 0, 1) := by decide +kernel
theorem d_Math_floorDiv_II_5 : decode b_Math_floorDiv_II 5 = .ok (.iload_n 1, 1) := by decide +kernel
theorem d_Math_floorDiv_II_6 : decode b_Math_floorDiv_II 6 = .ok (.ixor, 1) := by decide +kernel
theorem d_Math_floorDiv_II_7 : decode b_Math_floorDiv_II 7 = .ok (.ifCond .ge 14, 3) := by decide +kernel
theorem d_Math_floorDiv_II_10 : decode b_Math_floorDiv_II 10 = .ok (.iload_n 2, 1) := by decide +kernel
theorem d_Math_floorDiv_II_11 : decode b_Math_floorDiv_II 11 = .ok (.iload_n 1, 1) := by decide +kernel
theorem d_Math_floorDiv_II_12 : decode b_Math_floorDiv_II 12 = .ok (.imul, 1) := by decide +kernel
theorem d_Math_floorDiv_II_13 : decode b_Math_floorDiv_II 13 = .ok (.iload_n 0, 1) := by decide +kernel
theorem d_Math_floorDiv_II_14 : decode b_Math_floorDiv_II 14 = .ok (.if_icmp .eq 7, 3) := by decide +kernel
theorem d_Math_floorDiv_II_17 : decode b_Math_floorDiv_II 17 = .ok (.iload_n 2, 1) := by decide +kernel
theorem d_Math_floorDiv_II_18 : decode b_Math_floorDiv_II 18 = .ok (.iconst 1, 1) := by decide +kernel
theorem d_Math_floorDiv_II_19 : decode b_Math_floorDiv_II 19 = .ok (.isub, 1) := by decide +kernel
theorem d_Math_floorDiv_II_20 : decode b_Math_floorDiv_II 20 = .ok (.ireturn, 1) := by decide +kernel
theorem d_Math_floorDiv_II_21 : decode b_Math_floorDiv_II 21 = .ok (.iload_n 2, 1) := by decide +kernel
theorem d_Math_floorDiv_II_22 : decode b_Math_floorDiv_II 22 = .ok (.ireturn, 1) := by decide +kernel
theorem d_Days_isLeap_0 : decode b_Days_isLeap 0 = .ok (.lload_n 0, 1) := by decide +kernel
theorem d_Days_isLeap_1 : decode b_Days_isLeap 1 = .ok (.ldc2_w 7, 3) := by decide +kernel
theorem d_Days_isLeap_4 : decode b_Days_isLeap 4 = .ok (.lrem, 1) := by decide +kernel
theorem d_Days_isLeap_5 : decode b_Days_isLeap 5 = .ok (.lconst 0, 1) := by decide +kernel
theorem d_Days_isLeap_6 : decode b_Days_isLeap 6 = .ok (.lcmp, 1) := by decide +kernel
theorem d_Days_isLeap_7 : decode b_Days_isLeap 7 = .ok (.ifCond .ne 27, 3) := by decide +kernel
theorem d_Days_isLeap_10 : decode b_Days_isLeap 10 = .ok (.lload_n 0, 1) := by decide +kernel
theorem d_Days_isLeap_11 : decode b_Days_isLeap 11 = .ok (.ldc2_w 9, 3) := by decide +kernel
theorem d_Days_isLeap_14 : decode b_Days_isLeap 14 = .ok (.lrem, 1) := by decide +kernel
theorem d_Days_isLeap_15 : decode b_Days_isLeap 15 = .ok (.lconst 0, 1) := by decide +kernel
theorem d_Days_isLeap_16 : decode b_Days_isLeap 16 = .ok (.lcmp, 1) := by decide +kernel
theorem d_Days_isLeap_17 : decode b_Days_isLeap 17 = .ok (.ifCond .ne 13, 3) := by decide +kernel
theorem d_Days_isLeap_20 : decode b_Days_isLeap 20 = .ok (.lload_n 0, 1) := by decide +kernel
theorem d_Days_isLeap_21 : decode b_Days_isLeap 21 = .ok (.ldc2_w 11, 3) := by decide +kernel
theorem d_Days_isLeap_24 : decode b_Days_isLeap 24 = .ok (.lrem, 1) := by decide +kernel
theorem d_Days_isLeap_25 : decode b_Days_isLeap 25 = .ok (.lconst 0, 1) := by decide +kernel
theorem d_Days_isLeap_26 : decode b_Days_isLeap 26 = .ok (.lcmp, 1) := by decide +kernel
theorem d_Days_isLeap_27 : decode b_Days_isLeap 27 = .ok (.ifCond .ne 7, 3) := by decide +kernel
theorem d_Days_isLeap_30 : decode b_Days_isLeap 30 = .ok (.iconst 1, 1) := by decide +kernel
theorem d_Days_isLeap_31 : decode b_Days_isLeap 31 = .ok (.goto 4, 3) := by decide +kernel
theorem d_Days_isLeap_34 : decode b_Days_isLeap 34 = .ok (.iconst 0, 1) := by decide +kernel
theorem d_Days_isLeap_35 : decode b_Days_isLeap 35 = .ok (.ireturn, 1) := by decide +kernel
theorem d_Days_yearLength_0 : decode b_Days_yearLength 0 = .ok (.lload_n 0, 1) := by decide +kernel
theorem d_Days_yearLength_1 : decode b_Days_yearLength 1 = .ok (.invokestatic 13, 3) := by decide +kernel
theorem d_Days_yearLength_4 : decode b_Days_yearLength 4 = .ok (.ifCond .eq 9, 3) := by decide +kernel
theorem d_Days_yearLength_7 : decode b_Days_yearLength 7 = .ok (.sipush 366, 3) := by decide +kernel
theorem d_Days_yearLength_10 : decode b_Days_yearLength 10 = .ok (.goto 6, 3) := by decide +kernel
theorem d_Days_yearLength_13 : decode b_Days_yearLength 13 = .ok (.sipush 365, 3) := by decide +kernel
theorem d_Days_yearLength_16 : decode b_Days_yearLength 16 = .ok (.ireturn, 1) := by decide +kernel
theorem d_Days_firstOfYear_0 : decode b_Days_firstOfYear 0 = .ok (.lload_n 0, 1) := by decide +kernel
theorem d_Days_firstOfYear_1 : decode b_Days_firstOfYear 1 = .ok (.lconst 1, 1) := by decide +kernel
theorem d_Days_firstOfYear_2 : decode b_Days_firstOfYear 2 = .ok (.lsub, 1) := by decide +kernel
theorem d_Days_firstOfYear_3 : decode b_Days_firstOfYear 3 = .ok (.lstore_n 2, 1) := by decide +kernel
theorem d_Days_firstOfYear_4 : decode b_Days_firstOfYear 4 = .ok (.lload_n 2, 1) := by decide +kernel
theorem d_Days_firstOfYear_5 : decode b_Days_firstOfYear 5 = .ok (.ldc2_w 7, 3) := by decide +kernel
theorem d_Days_firstOfYear_8 : decode b_Days_firstOfYear 8 = .ok (.invokestatic 19, 3) := by decide +kernel
theorem d_Days_firstOfYear_11 : decode b_Days_firstOfYear 11 = .ok (.lload_n 2, 1) := by decide +kernel
theorem d_Days_firstOfYear_12 : decode b_Days_firstOfYear 12 = .ok (.ldc2_w 9, 3) := by decide +kernel
theorem d_Days_firstOfYear_15 : decode b_Days_firstOfYear 15 = .ok (.invokestatic 19, 3) := by decide +kernel
theorem d_Days_firstOfYear_18 : decode b_Days_firstOfYear 18 = .ok (.lsub, 1) := by decide +kernel
theorem d_Days_firstOfYear_19 : decode b_Days_firstOfYear 19 = .ok (.lload_n 2, 1) := by decide +kernel
theorem d_Days_firstOfYear_20 : decode b_Days_firstOfYear 20 = .ok (.ldc2_w 11, 3) := by decide +kernel
theorem d_Days_firstOfYear_23 : decode b_Days_firstOfYear 23 = .ok (.invokestatic 19, 3) := by decide +kernel
theorem d_Days_firstOfYear_26 : decode b_Days_firstOfYear 26 = .ok (.ladd, 1) := by decide +kernel
theorem d_Days_firstOfYear_27 : decode b_Days_firstOfYear 27 = .ok (.lstore 4, 2) := by decide +kernel
theorem d_Days_firstOfYear_29 : decode b_Days_firstOfYear 29 = .ok (.ldc2_w 25, 3) := by decide +kernel
theorem d_Days_firstOfYear_32 : decode b_Days_firstOfYear 32 = .ok (.lload_n 0, 1) := by decide +kernel
theorem d_Days_firstOfYear_33 : decode b_Days_firstOfYear 33 = .ok (.ldc2_w 27, 3) := by decide +kernel
theorem d_Days_firstOfYear_36 : decode b_Days_firstOfYear 36 = .ok (.lsub, 1) := by decide +kernel
theorem d_Days_firstOfYear_37 : decode b_Days_firstOfYear 37 = .ok (.lmul, 1) := by decide +kernel
theorem d_Days_firstOfYear_38 : decode b_Days_firstOfYear 38 = .ok (.lload 4, 2) := by decide +kernel
theorem d_Days_firstOfYear_40 : decode b_Days_firstOfYear 40 = .ok (.ladd, 1) := by decide +kernel
theorem d_Days_firstOfYear_41 : decode b_Days_firstOfYear 41 = .ok (.ldc2_w 29, 3) := by decide +kernel
theorem d_Days_firstOfYear_44 : decode b_Days_firstOfYear 44 = .ok (.lsub, 1) := by decide +kernel
theorem d_Days_firstOfYear_45 : decode b_Days_firstOfYear 45 = .ok (.lreturn, 1) := by decide +kernel
theorem d_Days_yearOf_0 : decode b_Days_yearOf 0 = .ok (.ldc2_w 27, 3) := by decide +kernel
theorem d_Days_yearOf_3 : decode b_Days_yearOf 3 = .ok (.lload_n 0, 1) := by decide +kernel
theorem d_Days_yearOf_4 : decode b_Days_yearOf 4 = .ok (.ldc2_w 11, 3) := by decide +kernel
theorem d_Days_yearOf_7 : decode b_Days_yearOf 7 = .ok (.lmul, 1) := by decide +kernel
theorem d_Days_yearOf_8 : decode b_Days_yearOf 8 = .ok (.ldc2_w 31, 3) := by decide +kernel
theorem d_Days_yearOf_11 : decode b_Days_yearOf 11 = .ok (.invokestatic 19, 3) := by decide +kernel
theorem d_Days_yearOf_14 : decode b_Days_yearOf 14 = .ok (.ladd, 1) := by decide +kernel
theorem d_Days_yearOf_15 : decode b_Days_yearOf 15 = .ok (.lstore_n 2, 1) := by decide +kernel
theorem d_Days_yearOf_16 : decode b_Days_yearOf 16 = .ok (.lload_n 0, 1) := by decide +kernel
theorem d_Days_yearOf_17 : decode b_Days_yearOf 17 = .ok (.lload_n 2, 1) := by decide +kernel
theorem d_Days_yearOf_18 : decode b_Days_yearOf 18 = .ok (.invokestatic 33, 3) := by decide +kernel
theorem d_Days_yearOf_21 : decode b_Days_yearOf 21 = .ok (.lcmp, 1) := by decide +kernel
theorem d_Days_yearOf_22 : decode b_Days_yearOf 22 = .ok (.ifCond .ge 7, 3) := by decide +kernel
theorem d_Days_yearOf_25 : decode b_Days_yearOf 25 = .ok (.lload_n 2, 1) := by decide +kernel
theorem d_Days_yearOf_26 : decode b_Days_yearOf 26 = .ok (.lconst 1, 1) := by decide +kernel
theorem d_Days_yearOf_27 : decode b_Days_yearOf 27 = .ok (.lsub, 1) := by decide +kernel
theorem d_Days_yearOf_28 : decode b_Days_yearOf 28 = .ok (.lreturn, 1) := by decide +kernel
theorem d_Days_yearOf_29 : decode b_Days_yearOf 29 = .ok (.lload_n 0, 1) := by decide +kernel
theorem d_Days_yearOf_30 : decode b_Days_yearOf 30 = .ok (.lload_n 2, 1) := by decide +kernel
theorem d_Days_yearOf_31 : decode b_Days_yearOf 31 = .ok (.lconst 1, 1) := by decide +kernel
theorem d_Days_yearOf_32 : decode b_Days_yearOf 32 = .ok (.ladd, 1) := by decide +kernel
theorem d_Days_yearOf_33 : decode b_Days_yearOf 33 = .ok (.invokestatic 33, 3) := by decide +kernel
theorem d_Days_yearOf_36 : decode b_Days_yearOf 36 = .ok (.lcmp, 1) := by decide +kernel
theorem d_Days_yearOf_37 : decode b_Days_yearOf 37 = .ok (.ifCond .lt 9, 3) := by decide +kernel
theorem d_Days_yearOf_40 : decode b_Days_yearOf 40 = .ok (.lload_n 2, 1) := by decide +kernel
theorem d_Days_yearOf_41 : decode b_Days_yearOf 41 = .ok (.lconst 1, 1) := by decide +kernel
theorem d_Days_yearOf_42 : decode b_Days_yearOf 42 = .ok (.ladd, 1) := by decide +kernel
theorem d_Days_yearOf_43 : decode b_Days_yearOf 43 = .ok (.goto 4, 3) := by decide +kernel
theorem d_Days_yearOf_46 : decode b_Days_yearOf 46 = .ok (.lload_n 2, 1) := by decide +kernel
theorem d_Days_yearOf_47 : decode b_Days_yearOf 47 = .ok (.lreturn, 1) := by decide +kernel
theorem d_Days_beforeMonth_0 : decode b_Days_beforeMonth 0 = .ok (.iload_n 2, 1) := by decide +kernel
theorem d_Days_beforeMonth_1 : decode b_Days_beforeMonth 1 = .ok (.iconst 1, 1) := by decide +kernel
theorem d_Days_beforeMonth_2 : decode b_Days_beforeMonth 2 = .ok (.if_icmp .lt 11, 3) := by decide +kernel
theorem d_Days_beforeMonth_5 : decode b_Days_beforeMonth 5 = .ok (.iload_n 2, 1) := by decide +kernel
theorem d_Days_beforeMonth_6 : decode b_Days_beforeMonth 6 = .ok (.getstatic 37, 3) := by decide +kernel
theorem d_Days_beforeMonth_9 : decode b_Days_beforeMonth 9 = .ok (.arraylength, 1) := by decide +kernel
theorem d_Days_beforeMonth_10 : decode b_Days_beforeMonth 10 = .ok (.if_icmp .le 5, 3) := by decide +kernel
theorem d_Days_beforeMonth_13 : decode b_Days_beforeMonth 13 = .ok (.iconst 0, 1) := by decide +kernel
theorem d_Days_beforeMonth_14 : decode b_Days_beforeMonth 14 = .ok (.ireturn, 1) := by decide +kernel
theorem d_Days_beforeMonth_15 : decode b_Days_beforeMonth 15 = .ok (.getstatic 37, 3) := by decide +kernel
theorem d_Days_beforeMonth_18 : decode b_Days_beforeMonth 18 = .ok (.iload_n 2, 1) := by decide +kernel
theorem d_Days_beforeMonth_19 : decode b_Days_beforeMonth 19 = .ok (.iconst 1, 1) := by decide +kernel
theorem d_Days_beforeMonth_20 : decode b_Days_beforeMonth 20 = .ok (.isub, 1) := by decide +kernel
theorem d_Days_beforeMonth_21 : decode b_Days_beforeMonth 21 = .ok (.iaload, 1) := by decide +kernel
theorem d_Days_beforeMonth_22 : decode b_Days_beforeMonth 22 = .ok (.iload_n 2, 1) := by decide +kernel
theorem d_Days_beforeMonth_23 : decode b_Days_beforeMonth 23 = .ok (.iconst 2, 1) := by decide +kernel
theorem d_Days_beforeMonth_24 : decode b_Days_beforeMonth 24 = .ok (.if_icmp .le 14, 3) := by decide +kernel
theorem d_Days_beforeMonth_27 : decode b_Days_beforeMonth 27 = .ok (.lload_n 0, 1) := by decide +kernel
theorem d_Days_beforeMonth_28 : decode b_Days_beforeMonth 28 = .ok (.invokestatic 13, 3) := by decide +kernel
theorem d_Days_beforeMonth_31 : decode b_Days_beforeMonth 31 = .ok (.ifCond .eq 7, 3) := by decide +kernel
theorem d_Days_beforeMonth_34 : decode b_Days_beforeMonth 34 = .ok (.iconst 1, 1) := by decide +kernel
theorem d_Days_beforeMonth_35 : decode b_Days_beforeMonth 35 = .ok (.goto 4, 3) := by decide +kernel
theorem d_Days_beforeMonth_38 : decode b_Days_beforeMonth 38 = .ok (.iconst 0, 1) := by decide +kernel
theorem d_Days_beforeMonth_39 : decode b_Days_beforeMonth 39 = .ok (.iadd, 1) := by decide +kernel
theorem d_Days_beforeMonth_40 : decode b_Days_beforeMonth 40 = .ok (.ireturn, 1) := by decide +kernel
theorem d_Days_monthLength_0 : decode b_Days_monthLength 0 = .ok (.lload_n 0, 1) := by decide +kernel
theorem d_Days_monthLength_1 : decode b_Days_monthLength 1 = .ok (.iload_n 2, 1) := by decide +kernel
theorem d_Days_monthLength_2 : decode b_Days_monthLength 2 = .ok (.iconst 1, 1) := by decide +kernel
theorem d_Days_monthLength_3 : decode b_Days_monthLength 3 = .ok (.iadd, 1) := by decide +kernel
theorem d_Days_monthLength_4 : decode b_Days_monthLength 4 = .ok (.invokestatic 41, 3) := by decide +kernel
theorem d_Days_monthLength_7 : decode b_Days_monthLength 7 = .ok (.lload_n 0, 1) := by decide +kernel
theorem d_Days_monthLength_8 : decode b_Days_monthLength 8 = .ok (.iload_n 2, 1) := by decide +kernel
theorem d_Days_monthLength_9 : decode b_Days_monthLength 9 = .ok (.invokestatic 41, 3) := by decide +kernel
theorem d_Days_monthLength_12 : decode b_Days_monthLength 12 = .ok (.isub, 1) := by decide +kernel
theorem d_Days_monthLength_13 : decode b_Days_monthLength 13 = .ok (.ireturn, 1) := by decide +kernel
theorem d_Days_firstOfMonth_0 : decode b_Days_firstOfMonth 0 = .ok (.lload_n 0, 1) := by decide +kernel
theorem d_Days_firstOfMonth_1 : decode b_Days_firstOfMonth 1 = .ok (.iload_n 2, 1) := by decide +kernel
theorem d_Days_firstOfMonth_2 : decode b_Days_firstOfMonth 2 = .ok (.iconst 1, 1) := by decide +kernel
theorem d_Days_firstOfMonth_3 : decode b_Days_firstOfMonth 3 = .ok (.isub, 1) := by decide +kernel
theorem d_Days_firstOfMonth_4 : decode b_Days_firstOfMonth 4 = .ok (.bipush 12, 2) := by decide +kernel
theorem d_Days_firstOfMonth_6 : decode b_Days_firstOfMonth 6 = .ok (.invokestatic 45, 3) := by decide +kernel
theorem d_Days_firstOfMonth_9 : decode b_Days_firstOfMonth 9 = .ok (.i2l, 1) := by decide +kernel
theorem d_Days_firstOfMonth_10 : decode b_Days_firstOfMonth 10 = .ok (.ladd, 1) := by decide +kernel
theorem d_Days_firstOfMonth_11 : decode b_Days_firstOfMonth 11 = .ok (.lstore_n 3, 1) := by decide +kernel
theorem d_Days_firstOfMonth_12 : decode b_Days_firstOfMonth 12 = .ok (.lload_n 3, 1) := by decide +kernel
theorem d_Days_firstOfMonth_13 : decode b_Days_firstOfMonth 13 = .ok (.invokestatic 33, 3) := by decide +kernel
theorem d_Days_firstOfMonth_16 : decode b_Days_firstOfMonth 16 = .ok (.lload_n 3, 1) := by decide +kernel
theorem d_Days_firstOfMonth_17 : decode b_Days_firstOfMonth 17 = .ok (.iload_n 2, 1) := by decide +kernel
theorem d_Days_firstOfMonth_18 : decode b_Days_firstOfMonth 18 = .ok (.iconst 1, 1) := by decide +kernel
theorem d_Days_firstOfMonth_19 : decode b_Days_firstOfMonth 19 = .ok (.isub, 1) := by decide +kernel
theorem d_Days_firstOfMonth_20 : decode b_Days_firstOfMonth 20 = .ok (.bipush 12, 2) := by decide +kernel
theorem d_Days_firstOfMonth_22 : decode b_Days_firstOfMonth 22 = .ok (.invokestatic 48, 3) := by decide +kernel
theorem d_Days_firstOfMonth_25 : decode b_Days_firstOfMonth 25 = .ok (.iconst 1, 1) := by decide +kernel
theorem d_Days_firstOfMonth_26 : decode b_Days_firstOfMonth 26 = .ok (.iadd, 1) := by decide +kernel
theorem d_Days_firstOfMonth_27 : decode b_Days_firstOfMonth 27 = .ok (.invokestatic 41, 3) := by decide +kernel
theorem d_Days_firstOfMonth_30 : decode b_Days_firstOfMonth 30 = .ok (.i2l, 1) := by decide +kernel
theorem d_Days_firstOfMonth_31 : decode b_Days_firstOfMonth 31 = .ok (.ladd, 1) := by decide +kernel
theorem d_Days_firstOfMonth_32 : decode b_Days_firstOfMonth 32 = .ok (.lreturn, 1) := by decide +kernel
theorem d_Days_weekday_0 : decode b_Days_weekday 0 = .ok (.lload_n 0, 1) := by decide +kernel
theorem d_Days_weekday_1 : decode b_Days_weekday 1 = .ok (.ldc2_w 51, 3) := by decide +kernel
theorem d_Days_weekday_4 : decode b_Days_weekday 4 = .ok (.ladd, 1) := by decide +kernel
theorem d_Days_weekday_5 : decode b_Days_weekday 5 = .ok (.ldc2_w 53, 3) := by decide +kernel
theorem d_Days_weekday_8 : decode b_Days_weekday 8 = .ok (.invokestatic 55, 3) := by decide +kernel
theorem d_Days_weekday_11 : decode b_Days_weekday 11 = .ok (.l2i, 1) := by decide +kernel
theorem d_Days_weekday_12 : decode b_Days_weekday 12 = .ok (.iconst 1, 1) := by decide +kernel
theorem d_Days_weekday_13 : decode b_Days_weekday 13 = .ok (.iadd, 1) := by decide +kernel
theorem d_Days_weekday_14 : decode b_Days_weekday 14 = .ok (.ireturn, 1) := by decide +kernel
theorem d_Days_firstMonday_0 : decode b_Days_firstMonday 0 = .ok (.lload_n 0, 1) := by decide +kernel
theorem d_Days_firstMonday_1 : decode b_Days_firstMonday 1 = .ok (.invokestatic 33, 3) := by decide +kernel
theorem d_Days_firstMonday_4 : decode b_Days_firstMonday 4 = .ok (.ldc2_w 51, 3) := by decide +kernel
theorem d_Days_firstMonday_7 : decode b_Days_firstMonday 7 = .ok (.ladd, 1) := by decide +kernel
theorem d_Days_firstMonday_8 : decode b_Days_firstMonday 8 = .ok (.lstore_n 2, 1) := by decide +kernel
theorem d_Days_firstMonday_9 : decode b_Days_firstMonday 9 = .ok (.lload_n 2, 1) := by decide +kernel
theorem d_Days_firstMonday_10 : decode b_Days_firstMonday 10 = .ok (.lload_n 2, 1) := by decide +kernel
theorem d_Days_firstMonday_11 : decode b_Days_firstMonday 11 = .ok (.invokestatic 57, 3) := by decide +kernel
theorem d_Days_firstMonday_14 : decode b_Days_firstMonday 14 = .ok (.i2l, 1) := by decide +kernel
theorem d_Days_firstMonday_15 : decode b_Days_firstMonday 15 = .ok (.lsub, 1) := by decide +kernel
theorem d_Days_firstMonday_16 : decode b_Days_firstMonday 16 = .ok (.lconst 1, 1) := by decide +kernel
theorem d_Days_firstMonday_17 : decode b_Days_firstMonday 17 = .ok (.ladd, 1) := by decide +kernel
theorem d_Days_firstMonday_18 : decode b_Days_firstMonday 18 = .ok (.lreturn, 1) := by decide +kernel
theorem d_Moment_settleDate_0 : decode b_Moment_settleDate 0 = .ok (.lload_n 1, 1) := by decide +kernel
theorem d_Moment_settleDate_1 : decode b_Moment_settleDate 1 = .ok (.invokestatic 44, 3) := by decide +kernel
theorem d_Moment_settleDate_4 : decode b_Moment_settleDate 4 = .ok (.lstore_n 3, 1) := by decide +kernel
theorem d_Moment_settleDate_5 : decode b_Moment_settleDate 5 = .ok (.lload_n 1, 1) := by decide +kernel
theorem d_Moment_settleDate_6 : decode b_Moment_settleDate 6 = .ok (.lload_n 3, 1) := by decide +kernel
theorem d_Moment_settleDate_7 : decode b_Moment_settleDate 7 = .ok (.invokestatic 50, 3) := by decide +kernel
theorem d_Moment_settleDate_10 : decode b_Moment_settleDate 10 = .ok (.lsub, 1) := by decide +kernel
theorem d_Moment_settleDate_11 : decode b_Moment_settleDate 11 = .ok (.l2i, 1) := by decide +kernel
theorem d_Moment_settleDate_12 : decode b_Moment_settleDate 12 = .ok (.iconst 1, 1) := by decide +kernel
theorem d_Moment_settleDate_13 : decode b_Moment_settleDate 13 = .ok (.iadd, 1) := by decide +kernel
theorem d_Moment_settleDate_14 : decode b_Moment_settleDate 14 = .ok (.istore 5, 2) := by decide +kernel
theorem d_Moment_settleDate_16 : decode b_Moment_settleDate 16 = .ok (.iconst 1, 1) := by decide +kernel
theorem d_Moment_settleDate_17 : decode b_Moment_settleDate 17 = .ok (.istore 6, 2) := by decide +kernel
theorem d_Moment_settleDate_19 : decode b_Moment_settleDate 19 = .ok (.iload 6, 2) := by decide +kernel
theorem d_Moment_settleDate_21 : decode b_Moment_settleDate 21 = .ok (.bipush 12, 2) := by decide +kernel
theorem d_Moment_settleDate_23 : decode b_Moment_settleDate 23 = .ok (.if_icmp .ge 22, 3) := by decide +kernel
theorem d_Moment_settleDate_26 : decode b_Moment_settleDate 26 = .ok (.lload_n 3, 1) := by decide +kernel
theorem d_Moment_settleDate_27 : decode b_Moment_settleDate 27 = .ok (.iload 6, 2) := by decide +kernel
theorem d_Moment_settleDate_29 : decode b_Moment_settleDate 29 = .ok (.iconst 1, 1) := by decide +kernel
theorem d_Moment_settleDate_30 : decode b_Moment_settleDate 30 = .ok (.iadd, 1) := by decide +kernel
theorem d_Moment_settleDate_31 : decode b_Moment_settleDate 31 = .ok (.invokestatic 53, 3) := by decide +kernel
theorem d_Moment_settleDate_34 : decode b_Moment_settleDate 34 = .ok (.iload 5, 2) := by decide +kernel
theorem d_Moment_settleDate_36 : decode b_Moment_settleDate 36 = .ok (.if_icmp .ge 9, 3) := by decide +kernel
theorem d_Moment_settleDate_39 : decode b_Moment_settleDate 39 = .ok (.iinc 6 1, 3) := by decide +kernel
theorem d_Moment_settleDate_42 : decode b_Moment_settleDate 42 = .ok (.goto (-23), 3) := by decide +kernel
theorem d_Moment_settleDate_45 : decode b_Moment_settleDate 45 = .ok (.lload_n 1, 1) := by decide +kernel
theorem d_Moment_settleDate_46 : decode b_Moment_settleDate 46 = .ok (.lload_n 1, 1) := by decide +kernel
theorem d_Moment_settleDate_47 : decode b_Moment_settleDate 47 = .ok (.invokestatic 57, 3) := by decide +kernel
theorem d_Moment_settleDate_50 : decode b_Moment_settleDate 50 = .ok (.i2l, 1) := by decide +kernel
theorem d_Moment_settleDate_51 : decode b_Moment_settleDate 51 = .ok (.lsub, 1) := by decide +kernel
theorem d_Moment_settleDate_52 : decode b_Moment_settleDate 52 = .ok (.ldc2_w 61, 3) := by decide +kernel
theorem d_Moment_settleDate_55 : decode b_Moment_settleDate 55 = .ok (.ladd, 1) := by decide +kernel
theorem d_Moment_settleDate_56 : decode b_Moment_settleDate 56 = .ok (.lstore 7, 2) := by decide +kernel
theorem d_Moment_settleDate_58 : decode b_Moment_settleDate 58 = .ok (.lload 7, 2) := by decide +kernel
theorem d_Moment_settleDate_60 : decode b_Moment_settleDate 60 = .ok (.invokestatic 44, 3) := by decide +kernel
theorem d_Moment_settleDate_63 : decode b_Moment_settleDate 63 = .ok (.lstore 9, 2) := by decide +kernel
theorem d_Moment_settleDate_65 : decode b_Moment_settleDate 65 = .ok (.aload_n 0, 1) := by decide +kernel
theorem d_Moment_settleDate_66 : decode b_Moment_settleDate 66 = .ok (.getfield 9, 3) := by decide +kernel
theorem d_Moment_settleDate_69 : decode b_Moment_settleDate 69 = .ok (.iconst 0, 1) := by decide +kernel
theorem d_Moment_settleDate_70 : decode b_Moment_settleDate 70 = .ok (.lload_n 3, 1) := by decide +kernel
theorem d_Moment_settleDate_71 : decode b_Moment_settleDate 71 = .ok (.l2i, 1) := by decide +kernel
theorem d_Moment_settleDate_72 : decode b_Moment_settleDate 72 = .ok (.iastore, 1) := by decide +kernel
theorem d_Moment_settleDate_73 : decode b_Moment_settleDate 73 = .ok (.aload_n 0, 1) := by decide +kernel
theorem d_Moment_settleDate_74 : decode b_Moment_settleDate 74 = .ok (.getfield 9, 3) := by decide +kernel
theorem d_Moment_settleDate_77 : decode b_Moment_settleDate 77 = .ok (.iconst 2, 1) := by decide +kernel
theorem d_Moment_settleDate_78 : decode b_Moment_settleDate 78 = .ok (.iload 6, 2) := by decide +kernel
theorem d_Moment_settleDate_80 : decode b_Moment_settleDate 80 = .ok (.iastore, 1) := by decide +kernel
theorem d_Moment_settleDate_81 : decode b_Moment_settleDate 81 = .ok (.aload_n 0, 1) := by decide +kernel
theorem d_Moment_settleDate_82 : decode b_Moment_settleDate 82 = .ok (.getfield 9, 3) := by decide +kernel
theorem d_Moment_settleDate_85 : decode b_Moment_settleDate 85 = .ok (.iconst 3, 1) := by decide +kernel
theorem d_Moment_settleDate_86 : decode b_Moment_settleDate 86 = .ok (.iload 5, 2) := by decide +kernel
theorem d_Moment_settleDate_88 : decode b_Moment_settleDate 88 = .ok (.lload_n 3, 1) := by decide +kernel
theorem d_Moment_settleDate_89 : decode b_Moment_settleDate 89 = .ok (.iload 6, 2) := by decide +kernel
theorem d_Moment_settleDate_91 : decode b_Moment_settleDate 91 = .ok (.invokestatic 53, 3) := by decide +kernel
theorem d_Moment_settleDate_94 : decode b_Moment_settleDate 94 = .ok (.isub, 1) := by decide +kernel
theorem d_Moment_settleDate_95 : decode b_Moment_settleDate 95 = .ok (.iastore, 1) := by decide +kernel
theorem d_Moment_settleDate_96 : decode b_Moment_settleDate 96 = .ok (.aload_n 0, 1) := by decide +kernel
theorem d_Moment_settleDate_97 : decode b_Moment_settleDate 97 = .ok (.getfield 9, 3) := by decide +kernel
theorem d_Moment_settleDate_100 : decode b_Moment_settleDate 100 = .ok (.iconst 4, 1) := by decide +kernel
theorem d_Moment_settleDate_101 : decode b_Moment_settleDate 101 = .ok (.iload 5, 2) := by decide +kernel
theorem d_Moment_settleDate_103 : decode b_Moment_settleDate 103 = .ok (.iastore, 1) := by decide +kernel
theorem d_Moment_settleDate_104 : decode b_Moment_settleDate 104 = .ok (.aload_n 0, 1) := by decide +kernel
theorem d_Moment_settleDate_105 : decode b_Moment_settleDate 105 = .ok (.getfield 9, 3) := by decide +kernel
theorem d_Moment_settleDate_108 : decode b_Moment_settleDate 108 = .ok (.iconst 5, 1) := by decide +kernel
theorem d_Moment_settleDate_109 : decode b_Moment_settleDate 109 = .ok (.lload_n 1, 1) := by decide +kernel
theorem d_Moment_settleDate_110 : decode b_Moment_settleDate 110 = .ok (.invokestatic 57, 3) := by decide +kernel
theorem d_Moment_settleDate_113 : decode b_Moment_settleDate 113 = .ok (.iastore, 1) := by decide +kernel
theorem d_Moment_settleDate_114 : decode b_Moment_settleDate 114 = .ok (.aload_n 0, 1) := by decide +kernel
theorem d_Moment_settleDate_115 : decode b_Moment_settleDate 115 = .ok (.getfield 9, 3) := by decide +kernel
theorem d_Moment_settleDate_118 : decode b_Moment_settleDate 118 = .ok (.bipush 6, 2) := by decide +kernel
theorem d_Moment_settleDate_120 : decode b_Moment_settleDate 120 = .ok (.lload 7, 2) := by decide +kernel
theorem d_Moment_settleDate_122 : decode b_Moment_settleDate 122 = .ok (.lload 9, 2) := by decide +kernel
theorem d_Moment_settleDate_124 : decode b_Moment_settleDate 124 = .ok (.invokestatic 50, 3) := by decide +kernel
theorem d_Moment_settleDate_127 : decode b_Moment_settleDate 127 = .ok (.lsub, 1) := by decide +kernel
theorem d_Moment_settleDate_128 : decode b_Moment_settleDate 128 = .ok (.l2i, 1) := by decide +kernel
theorem d_Moment_settleDate_129 : decode b_Moment_settleDate 129 = .ok (.bipush 7, 2) := by decide +kernel
theorem d_Moment_settleDate_131 : decode b_Moment_settleDate 131 = .ok (.idiv, 1) := by decide +kernel
theorem d_Moment_settleDate_132 : decode b_Moment_settleDate 132 = .ok (.iconst 1, 1) := by decide +kernel
theorem d_Moment_settleDate_133 : decode b_Moment_settleDate 133 = .ok (.iadd, 1) := by decide +kernel
theorem d_Moment_settleDate_134 : decode b_Moment_settleDate 134 = .ok (.iastore, 1) := by decide +kernel
theorem d_Moment_settleDate_135 : decode b_Moment_settleDate 135 = .ok (.aload_n 0, 1) := by decide +kernel
theorem d_Moment_settleDate_136 : decode b_Moment_settleDate 136 = .ok (.getfield 9, 3) := by decide +kernel
theorem d_Moment_settleDate_139 : decode b_Moment_settleDate 139 = .ok (.iconst 1, 1) := by decide +kernel
theorem d_Moment_settleDate_140 : decode b_Moment_settleDate 140 = .ok (.lload 9, 2) := by decide +kernel
theorem d_Moment_settleDate_142 : decode b_Moment_settleDate 142 = .ok (.l2i, 1) := by decide +kernel
theorem d_Moment_settleDate_143 : decode b_Moment_settleDate 143 = .ok (.iastore, 1) := by decide +kernel
theorem d_Moment_settleDate_144 : decode b_Moment_settleDate 144 = .ok (.return_, 1) := by decide +kernel
theorem d_Moment_settleTime_0 : decode b_Moment_settleTime 0 = .ok (.iload_n 1, 1) := by decide +kernel
theorem d_Moment_settleTime_1 : decode b_Moment_settleTime 1 = .ok (.sipush 3600, 3) := by decide +kernel
theorem d_Moment_settleTime_4 : decode b_Moment_settleTime 4 = .ok (.idiv, 1) := by decide +kernel
theorem d_Moment_settleTime_5 : decode b_Moment_settleTime 5 = .ok (.istore_n 2, 1) := by decide +kernel
theorem d_Moment_settleTime_6 : decode b_Moment_settleTime 6 = .ok (.aload_n 0, 1) := by decide +kernel
theorem d_Moment_settleTime_7 : decode b_Moment_settleTime 7 = .ok (.getfield 9, 3) := by decide +kernel
theorem d_Moment_settleTime_10 : decode b_Moment_settleTime 10 = .ok (.bipush 7, 2) := by decide +kernel
theorem d_Moment_settleTime_12 : decode b_Moment_settleTime 12 = .ok (.iload_n 2, 1) := by decide +kernel
theorem d_Moment_settleTime_13 : decode b_Moment_settleTime 13 = .ok (.iastore, 1) := by decide +kernel
theorem d_Moment_settleTime_14 : decode b_Moment_settleTime 14 = .ok (.aload_n 0, 1) := by decide +kernel
theorem d_Moment_settleTime_15 : decode b_Moment_settleTime 15 = .ok (.getfield 9, 3) := by decide +kernel
theorem d_Moment_settleTime_18 : decode b_Moment_settleTime 18 = .ok (.bipush 8, 2) := by decide +kernel
theorem d_Moment_settleTime_20 : decode b_Moment_settleTime 20 = .ok (.iload_n 2, 1) := by decide +kernel
theorem d_Moment_settleTime_21 : decode b_Moment_settleTime 21 = .ok (.bipush 12, 2) := by decide +kernel
theorem d_Moment_settleTime_23 : decode b_Moment_settleTime 23 = .ok (.irem, 1) := by decide +kernel
theorem d_Moment_settleTime_24 : decode b_Moment_settleTime 24 = .ok (.ifCond .ne 8, 3) := by decide +kernel
theorem d_Moment_settleTime_27 : decode b_Moment_settleTime 27 = .ok (.bipush 12, 2) := by decide +kernel
theorem d_Moment_settleTime_29 : decode b_Moment_settleTime 29 = .ok (.goto 7, 3) := by decide +kernel
theorem d_Moment_settleTime_32 : decode b_Moment_settleTime 32 = .ok (.iload_n 2, 1) := by decide +kernel
theorem d_Moment_settleTime_33 : decode b_Moment_settleTime 33 = .ok (.bipush 12, 2) := by decide +kernel
theorem d_Moment_settleTime_35 : decode b_Moment_settleTime 35 = .ok (.irem, 1) := by decide +kernel
theorem d_Moment_settleTime_36 : decode b_Moment_settleTime 36 = .ok (.iastore, 1) := by decide +kernel
theorem d_Moment_settleTime_37 : decode b_Moment_settleTime 37 = .ok (.aload_n 0, 1) := by decide +kernel
theorem d_Moment_settleTime_38 : decode b_Moment_settleTime 38 = .ok (.getfield 9, 3) := by decide +kernel
theorem d_Moment_settleTime_41 : decode b_Moment_settleTime 41 = .ok (.bipush 9, 2) := by decide +kernel
theorem d_Moment_settleTime_43 : decode b_Moment_settleTime 43 = .ok (.iload_n 2, 1) := by decide +kernel
theorem d_Moment_settleTime_44 : decode b_Moment_settleTime 44 = .ok (.bipush 12, 2) := by decide +kernel
theorem d_Moment_settleTime_46 : decode b_Moment_settleTime 46 = .ok (.idiv, 1) := by decide +kernel
theorem d_Moment_settleTime_47 : decode b_Moment_settleTime 47 = .ok (.iastore, 1) := by decide +kernel
theorem d_Moment_settleTime_48 : decode b_Moment_settleTime 48 = .ok (.aload_n 0, 1) := by decide +kernel
theorem d_Moment_settleTime_49 : decode b_Moment_settleTime 49 = .ok (.getfield 9, 3) := by decide +kernel
theorem d_Moment_settleTime_52 : decode b_Moment_settleTime 52 = .ok (.bipush 10, 2) := by decide +kernel
theorem d_Moment_settleTime_54 : decode b_Moment_settleTime 54 = .ok (.iload_n 1, 1) := by decide +kernel
theorem d_Moment_settleTime_55 : decode b_Moment_settleTime 55 = .ok (.bipush 60, 2) := by decide +kernel
theorem d_Moment_settleTime_57 : decode b_Moment_settleTime 57 = .ok (.idiv, 1) := by decide +kernel
theorem d_Moment_settleTime_58 : decode b_Moment_settleTime 58 = .ok (.bipush 60, 2) := by decide +kernel
theorem d_Moment_settleTime_60 : decode b_Moment_settleTime 60 = .ok (.irem, 1) := by decide +kernel
theorem d_Moment_settleTime_61 : decode b_Moment_settleTime 61 = .ok (.iastore, 1) := by decide +kernel
theorem d_Moment_settleTime_62 : decode b_Moment_settleTime 62 = .ok (.aload_n 0, 1) := by decide +kernel
theorem d_Moment_settleTime_63 : decode b_Moment_settleTime 63 = .ok (.getfield 9, 3) := by decide +kernel
theorem d_Moment_settleTime_66 : decode b_Moment_settleTime 66 = .ok (.bipush 11, 2) := by decide +kernel
theorem d_Moment_settleTime_68 : decode b_Moment_settleTime 68 = .ok (.iload_n 1, 1) := by decide +kernel
theorem d_Moment_settleTime_69 : decode b_Moment_settleTime 69 = .ok (.bipush 60, 2) := by decide +kernel
theorem d_Moment_settleTime_71 : decode b_Moment_settleTime 71 = .ok (.irem, 1) := by decide +kernel
theorem d_Moment_settleTime_72 : decode b_Moment_settleTime 72 = .ok (.iastore, 1) := by decide +kernel
theorem d_Moment_settleTime_73 : decode b_Moment_settleTime 73 = .ok (.return_, 1) := by decide +kernel
theorem d_Moment_settle_0 : decode b_Moment_settle 0 = .ok (.aload_n 0, 1) := by decide +kernel
theorem d_Moment_settle_1 : decode b_Moment_settle 1 = .ok (.lload_n 1, 1) := by decide +kernel
theorem d_Moment_settle_2 : decode b_Moment_settle 2 = .ok (.putfield 15, 3) := by decide +kernel
theorem d_Moment_settle_5 : decode b_Moment_settle 5 = .ok (.aload_n 0, 1) := by decide +kernel
theorem d_Moment_settle_6 : decode b_Moment_settle 6 = .ok (.iload 5, 2) := by decide +kernel
theorem d_Moment_settle_8 : decode b_Moment_settle 8 = .ok (.putfield 19, 3) := by decide +kernel
theorem d_Moment_settle_11 : decode b_Moment_settle 11 = .ok (.lload_n 1, 1) := by decide +kernel
theorem d_Moment_settle_12 : decode b_Moment_settle 12 = .ok (.ldc2_w 23, 3) := by decide +kernel
theorem d_Moment_settle_15 : decode b_Moment_settle 15 = .ok (.iload 4, 2) := by decide +kernel
theorem d_Moment_settle_17 : decode b_Moment_settle 17 = .ok (.i2l, 1) := by decide +kernel
theorem d_Moment_settle_18 : decode b_Moment_settle 18 = .ok (.lmul, 1) := by decide +kernel
theorem d_Moment_settle_19 : decode b_Moment_settle 19 = .ok (.ladd, 1) := by decide +kernel
theorem d_Moment_settle_20 : decode b_Moment_settle 20 = .ok (.lstore 6, 2) := by decide +kernel
theorem d_Moment_settle_22 : decode b_Moment_settle 22 = .ok (.aload_n 0, 1) := by decide +kernel
theorem d_Moment_settle_23 : decode b_Moment_settle 23 = .ok (.lload 6, 2) := by decide +kernel
theorem d_Moment_settle_25 : decode b_Moment_settle 25 = .ok (.ldc2_w 25, 3) := by decide +kernel
theorem d_Moment_settle_28 : decode b_Moment_settle 28 = .ok (.invokestatic 27, 3) := by decide +kernel
theorem d_Moment_settle_31 : decode b_Moment_settle 31 = .ok (.invokevirtual 33, 3) := by decide +kernel
theorem d_Moment_settle_34 : decode b_Moment_settle 34 = .ok (.aload_n 0, 1) := by decide +kernel
theorem d_Moment_settle_35 : decode b_Moment_settle 35 = .ok (.lload 6, 2) := by decide +kernel
theorem d_Moment_settle_37 : decode b_Moment_settle 37 = .ok (.ldc2_w 25, 3) := by decide +kernel
theorem d_Moment_settle_40 : decode b_Moment_settle 40 = .ok (.invokestatic 37, 3) := by decide +kernel
theorem d_Moment_settle_43 : decode b_Moment_settle 43 = .ok (.l2i, 1) := by decide +kernel
theorem d_Moment_settle_44 : decode b_Moment_settle 44 = .ok (.invokevirtual 40, 3) := by decide +kernel
theorem d_Moment_settle_47 : decode b_Moment_settle 47 = .ok (.aload_n 0, 1) := by decide +kernel
theorem d_Moment_settle_48 : decode b_Moment_settle 48 = .ok (.getfield 9, 3) := by decide +kernel
theorem d_Moment_settle_51 : decode b_Moment_settle 51 = .ok (.bipush 12, 2) := by decide +kernel
theorem d_Moment_settle_53 : decode b_Moment_settle 53 = .ok (.iload_n 3, 1) := by decide +kernel
theorem d_Moment_settle_54 : decode b_Moment_settle 54 = .ok (.iastore, 1) := by decide +kernel
theorem d_Moment_settle_55 : decode b_Moment_settle 55 = .ok (.aload_n 0, 1) := by decide +kernel
theorem d_Moment_settle_56 : decode b_Moment_settle 56 = .ok (.getfield 9, 3) := by decide +kernel
theorem d_Moment_settle_59 : decode b_Moment_settle 59 = .ok (.bipush 13, 2) := by decide +kernel
theorem d_Moment_settle_61 : decode b_Moment_settle 61 = .ok (.iload 4, 2) := by decide +kernel
theorem d_Moment_settle_63 : decode b_Moment_settle 63 = .ok (.iastore, 1) := by decide +kernel
theorem d_Moment_settle_64 : decode b_Moment_settle 64 = .ok (.return_, 1) := by decide +kernel
theorem d_Moment_value_0 : decode b_Moment_value 0 = .ok (.iload_n 1, 1) := by decide +kernel
theorem d_Moment_value_1 : decode b_Moment_value 1 = .ok (.ifCond .lt 18, 3) := by decide +kernel
theorem d_Moment_value_4 : decode b_Moment_value 4 = .ok (.iload_n 1, 1) := by decide +kernel
theorem d_Moment_value_5 : decode b_Moment_value 5 = .ok (.bipush 14, 2) := by decide +kernel
theorem d_Moment_value_7 : decode b_Moment_value 7 = .ok (.if_icmp .ge 12, 3) := by decide +kernel
theorem d_Moment_value_10 : decode b_Moment_value 10 = .ok (.aload_n 0, 1) := by decide +kernel
theorem d_Moment_value_11 : decode b_Moment_value 11 = .ok (.getfield 9, 3) := by decide +kernel
theorem d_Moment_value_14 : decode b_Moment_value 14 = .ok (.iload_n 1, 1) := by decide +kernel
theorem d_Moment_value_15 : decode b_Moment_value 15 = .ok (.iaload, 1) := by decide +kernel
theorem d_Moment_value_16 : decode b_Moment_value 16 = .ok (.goto 4, 3) := by decide +kernel
theorem d_Moment_value_19 : decode b_Moment_value 19 = .ok (.iconst (-1), 1) := by decide +kernel
theorem d_Moment_value_20 : decode b_Moment_value 20 = .ok (.ireturn, 1) := by decide +kernel
theorem d_Moment_become_0 : decode b_Moment_become 0 = .ok (.aload_n 0, 1) := by decide +kernel
theorem d_Moment_become_1 : decode b_Moment_become 1 = .ok (.aload_n 1, 1) := by decide +kernel
theorem d_Moment_become_2 : decode b_Moment_become 2 = .ok (.getfield 15, 3) := by decide +kernel
theorem d_Moment_become_5 : decode b_Moment_become 5 = .ok (.aload_n 1, 1) := by decide +kernel
theorem d_Moment_become_6 : decode b_Moment_become 6 = .ok (.bipush 12, 2) := by decide +kernel
theorem d_Moment_become_8 : decode b_Moment_become 8 = .ok (.invokevirtual 63, 3) := by decide +kernel
theorem d_Moment_become_11 : decode b_Moment_become 11 = .ok (.aload_n 1, 1) := by decide +kernel
theorem d_Moment_become_12 : decode b_Moment_become 12 = .ok (.bipush 13, 2) := by decide +kernel
theorem d_Moment_become_14 : decode b_Moment_become 14 = .ok (.invokevirtual 63, 3) := by decide +kernel
theorem d_Moment_become_17 : decode b_Moment_become 17 = .ok (.aload_n 1, 1) := by decide +kernel
theorem d_Moment_become_18 : decode b_Moment_become 18 = .ok (.getfield 19, 3) := by decide +kernel
theorem d_Moment_become_21 : decode b_Moment_become 21 = .ok (.invokevirtual 67, 3) := by decide +kernel
theorem d_Moment_become_24 : decode b_Moment_become 24 = .ok (.return_, 1) := by decide +kernel
theorem d_SkeletonClock_partOf_0 : decode b_SkeletonClock_partOf 0 = .ok (.iload_n 0, 1) := by decide +kernel
theorem d_SkeletonClock_partOf_1 : decode b_SkeletonClock_partOf 1 = .ok (.bipush 6, 2) := by decide +kernel
theorem d_SkeletonClock_partOf_3 : decode b_SkeletonClock_partOf 3 = .ok (.if_icmp .gt 5, 3) := by decide +kernel
theorem d_SkeletonClock_partOf_6 : decode b_SkeletonClock_partOf 6 = .ok (.iconst 1, 1) := by decide +kernel
theorem d_SkeletonClock_partOf_7 : decode b_SkeletonClock_partOf 7 = .ok (.ireturn, 1) := by decide +kernel
theorem d_SkeletonClock_partOf_8 : decode b_SkeletonClock_partOf 8 = .ok (.iload_n 0, 1) := by decide +kernel
theorem d_SkeletonClock_partOf_9 : decode b_SkeletonClock_partOf 9 = .ok (.bipush 12, 2) := by decide +kernel
theorem d_SkeletonClock_partOf_11 : decode b_SkeletonClock_partOf 11 = .ok (.if_icmp .gt 7, 3) := by decide +kernel
theorem d_SkeletonClock_partOf_14 : decode b_SkeletonClock_partOf 14 = .ok (.iconst 2, 1) := by decide +kernel
theorem d_SkeletonClock_partOf_15 : decode b_SkeletonClock_partOf 15 = .ok (.goto 4, 3) := by decide +kernel
theorem d_SkeletonClock_partOf_18 : decode b_SkeletonClock_partOf 18 = .ok (.iconst 4, 1) := by decide +kernel
theorem d_SkeletonClock_partOf_19 : decode b_SkeletonClock_partOf 19 = .ok (.ireturn, 1) := by decide +kernel
theorem d_Moment_has_0 : decode b_Moment_has 0 = .ok (.aload_n 0, 1) := by decide +kernel
theorem d_Moment_has_1 : decode b_Moment_has 1 = .ok (.getfield 19, 3) := by decide +kernel
theorem d_Moment_has_4 : decode b_Moment_has 4 = .ok (.iload_n 1, 1) := by decide +kernel
theorem d_Moment_has_5 : decode b_Moment_has 5 = .ok (.invokestatic 71, 3) := by decide +kernel
theorem d_Moment_has_8 : decode b_Moment_has 8 = .ok (.iand, 1) := by decide +kernel
theorem d_Moment_has_9 : decode b_Moment_has 9 = .ok (.ifCond .eq 7, 3) := by decide +kernel
theorem d_Moment_has_12 : decode b_Moment_has 12 = .ok (.iconst 1, 1) := by decide +kernel
theorem d_Moment_has_13 : decode b_Moment_has 13 = .ok (.goto 4, 3) := by decide +kernel
theorem d_Moment_has_16 : decode b_Moment_has 16 = .ok (.iconst 0, 1) := by decide +kernel
theorem d_Moment_has_17 : decode b_Moment_has 17 = .ok (.ireturn, 1) := by decide +kernel
abbrev rm_Math_floorDiv_JJ : Room := { frames := 0, cells := 0, slots := 0, locals := 0 }
set_option maxHeartbeats 4000000 in
set_option maxRecDepth 100000 in
theorem c_Math_floorDiv_JJ (l : Launch) (D : va_G) (kk : Nat → ClassId) (st : Nat → Nat) (sz : Nat) (x0 : Int64) (x2 : Int64) (o : Int64) (he : f_Math_floorDiv_JJ x0 x2 = some o) : Met l y_Math_floorDiv_JJ (Cond.code y_Math_floorDiv_JJ b_Math_floorDiv_JJ 6 (some .long) :: GW) rm_Math_floorDiv_JJ (KPc D kk st [.long x0, .long x2] [] sz) (KQl D kk o [] (va_A [] sz)) 0 0 (va_A [] sz) := by
  refine k_start (Qc := fun A => KQl D kk o [] A) (by decide +kernel) (Nat.le_of_ble_eq_true rfl) ?_
  intro p e s m below meth c A ls S hnm hr hlk hA X hP hD hS hl
  have hl : lv_has ls 6 [(0, .long x0), (2, .long x2)] := hl
  have hx := S.1
  have hb := S.2.1
  unfold f_Math_floorDiv_JJ at he
  refine lv_lload_n hx hb d_Math_floorDiv_JJ_0 rfl (lv_at hl 0 rfl) ?_
  refine lv_lload_n hx hb d_Math_floorDiv_JJ_1 rfl (lv_at hl 1 rfl) ?_
  obtain ⟨hz1, he⟩ := ih_g he
  refine lv_ldiv hx hb d_Math_floorDiv_JJ_2 hz1 ?_
  refine lv_lstore hx hb d_Math_floorDiv_JJ_3 hl (by decide) rfl (fun ls hl => ?_)
  have hl : lv_has ls 6 [(4, .long (x0 / x2)), (0, .long x0), (2, .long x2)] := hl
  refine lv_lload_n hx hb d_Math_floorDiv_JJ_5 rfl (lv_at hl 1 rfl) ?_
  refine lv_lload_n hx hb d_Math_floorDiv_JJ_6 rfl (lv_at hl 2 rfl) ?_
  refine lv_lxor hx hb d_Math_floorDiv_JJ_7 ?_
  refine lv_lconst (v := (0 : Int64)) hx hb d_Math_floorDiv_JJ_8 (by decide) ?_
  refine lq_ge (tgt := 27) hx hb d_Math_floorDiv_JJ_9 d_Math_floorDiv_JJ_10 rfl (fun hc => ?_) (fun hc => ?_)
  · have he := ih_t hc he
    refine lv_lload hx hb d_Math_floorDiv_JJ_27 (lv_at hl 0 rfl) ?_
    cases he
    exact k_lre hx hb hr hlk X hP hD hS d_Math_floorDiv_JJ_29
  · have he := ih_f hc he
    refine lv_lload hx hb d_Math_floorDiv_JJ_13 (lv_at hl 0 rfl) ?_
    refine lv_lload_n hx hb d_Math_floorDiv_JJ_15 rfl (lv_at hl 2 rfl) ?_
    refine lv_lmul hx hb d_Math_floorDiv_JJ_16 ?_
    refine lv_lload_n hx hb d_Math_floorDiv_JJ_17 rfl (lv_at hl 1 rfl) ?_
    refine lq_eq (tgt := 27) hx hb d_Math_floorDiv_JJ_18 d_Math_floorDiv_JJ_19 rfl (fun hc => ?_) (fun hc => ?_)
    · have he := ih_t hc he
      refine lv_lload hx hb d_Math_floorDiv_JJ_27 (lv_at hl 0 rfl) ?_
      cases he
      exact k_lre hx hb hr hlk X hP hD hS d_Math_floorDiv_JJ_29
    · have he := ih_f hc he
      refine lv_lload hx hb d_Math_floorDiv_JJ_22 (lv_at hl 0 rfl) ?_
      refine lv_lconst (v := (1 : Int64)) hx hb d_Math_floorDiv_JJ_24 (by decide) ?_
      refine lv_lsub hx hb d_Math_floorDiv_JJ_25 ?_
      cases he
      exact k_lre hx hb hr hlk X hP hD hS d_Math_floorDiv_JJ_26
abbrev rm_Math_floorMod_JJ : Room := { frames := 0, cells := 0, slots := 0, locals := 0 }
set_option maxHeartbeats 4000000 in
set_option maxRecDepth 100000 in
theorem c_Math_floorMod_JJ (l : Launch) (D : va_G) (kk : Nat → ClassId) (st : Nat → Nat) (sz : Nat) (x0 : Int64) (x2 : Int64) (o : Int64) (he : f_Math_floorMod_JJ x0 x2 = some o) : Met l y_Math_floorMod_JJ (Cond.code y_Math_floorMod_JJ b_Math_floorMod_JJ 6 (some .long) :: GW) rm_Math_floorMod_JJ (KPc D kk st [.long x0, .long x2] [] sz) (KQl D kk o [] (va_A [] sz)) 0 0 (va_A [] sz) := by
  refine k_start (Qc := fun A => KQl D kk o [] A) (by decide +kernel) (Nat.le_of_ble_eq_true rfl) ?_
  intro p e s m below meth c A ls S hnm hr hlk hA X hP hD hS hl
  have hl : lv_has ls 6 [(0, .long x0), (2, .long x2)] := hl
  have hx := S.1
  have hb := S.2.1
  unfold f_Math_floorMod_JJ at he
  refine lv_lload_n hx hb d_Math_floorMod_JJ_0 rfl (lv_at hl 0 rfl) ?_
  refine lv_lload_n hx hb d_Math_floorMod_JJ_1 rfl (lv_at hl 1 rfl) ?_
  obtain ⟨hz1, he⟩ := ih_g he
  refine lv_lrem hx hb d_Math_floorMod_JJ_2 hz1 ?_
  refine lv_lstore hx hb d_Math_floorMod_JJ_3 hl (by decide) rfl (fun ls hl => ?_)
  have hl : lv_has ls 6 [(4, .long (x0 - x0 / x2 * x2)), (0, .long x0), (2, .long x2)] := hl
  refine lv_lload_n hx hb d_Math_floorMod_JJ_5 rfl (lv_at hl 1 rfl) ?_
  refine lv_lload_n hx hb d_Math_floorMod_JJ_6 rfl (lv_at hl 2 rfl) ?_
  refine lv_lxor hx hb d_Math_floorMod_JJ_7 ?_
  refine lv_lconst (v := (0 : Int64)) hx hb d_Math_floorMod_JJ_8 (by decide) ?_
  refine lq_ge (tgt := 25) hx hb d_Math_floorMod_JJ_9 d_Math_floorMod_JJ_10 rfl (fun hc => ?_) (fun hc => ?_)
  · have he := ih_t hc he
    refine lv_lload hx hb d_Math_floorMod_JJ_25 (lv_at hl 0 rfl) ?_
    cases he
    exact k_lre hx hb hr hlk X hP hD hS d_Math_floorMod_JJ_27
  · have he := ih_f hc he
    refine lv_lload hx hb d_Math_floorMod_JJ_13 (lv_at hl 0 rfl) ?_
    refine lv_lconst (v := (0 : Int64)) hx hb d_Math_floorMod_JJ_15 (by decide) ?_
    refine lq_eq (tgt := 25) hx hb d_Math_floorMod_JJ_16 d_Math_floorMod_JJ_17 rfl (fun hc => ?_) (fun hc => ?_)
    · have he := ih_t hc he
      refine lv_lload hx hb d_Math_floorMod_JJ_25 (lv_at hl 0 rfl) ?_
      cases he
      exact k_lre hx hb hr hlk X hP hD hS d_Math_floorMod_JJ_27
    · have he := ih_f hc he
      refine lv_lload hx hb d_Math_floorMod_JJ_20 (lv_at hl 0 rfl) ?_
      refine lv_lload_n hx hb d_Math_floorMod_JJ_22 rfl (lv_at hl 2 rfl) ?_
      refine lv_ladd hx hb d_Math_floorMod_JJ_23 ?_
      cases he
      exact k_lre hx hb hr hlk X hP hD hS d_Math_floorMod_JJ_24
abbrev rm_Math_floorMod_II : Room := { frames := 0, cells := 0, slots := 0, locals := 0 }
set_option maxHeartbeats 4000000 in
set_option maxRecDepth 100000 in
theorem c_Math_floorMod_II (l : Launch) (D : va_G) (kk : Nat → ClassId) (st : Nat → Nat) (sz : Nat) (x0 : Int32) (x1 : Int32) (o : Int32) (he : f_Math_floorMod_II x0 x1 = some o) : Met l y_Math_floorMod_II (Cond.code y_Math_floorMod_II b_Math_floorMod_II 3 (some .int) :: GW) rm_Math_floorMod_II (KPc D kk st [.int x0, .int x1] [] sz) (KQi D kk o [] (va_A [] sz)) 0 0 (va_A [] sz) := by
  refine k_start (Qc := fun A => KQi D kk o [] A) (by decide +kernel) (Nat.le_of_ble_eq_true rfl) ?_
  intro p e s m below meth c A ls S hnm hr hlk hA X hP hD hS hl
  have hl : lv_has ls 3 [(0, .int x0), (1, .int x1)] := hl
  have hx := S.1
  have hb := S.2.1
  unfold f_Math_floorMod_II at he
  refine lv_iload_n hx hb d_Math_floorMod_II_0 rfl (lv_at hl 0 rfl) ?_
  refine lv_iload_n hx hb d_Math_floorMod_II_1 rfl (lv_at hl 1 rfl) ?_
  obtain ⟨hz1, he⟩ := ih_g he
  refine lv_irem hx hb d_Math_floorMod_II_2 hz1 ?_
  refine lv_istore_n hx hb d_Math_floorMod_II_3 rfl hl (by decide) rfl (fun ls hl => ?_)
  have hl : lv_has ls 3 [(2, .int (x0 - x0 / x1 * x1)), (0, .int x0), (1, .int x1)] := hl
  refine lv_iload_n hx hb d_Math_floorMod_II_4 rfl (lv_at hl 1 rfl) ?_
  refine lv_iload_n hx hb d_Math_floorMod_II_5 rfl (lv_at hl 2 rfl) ?_
  refine lv_ixor hx hb d_Math_floorMod_II_6 ?_
  refine lv_if_ge (tgt := 18) hx hb d_Math_floorMod_II_7 rfl (fun hc => ?_) (fun hc => ?_)
  · have he := ih_t hc he
    refine lv_iload_n hx hb d_Math_floorMod_II_18 rfl (lv_at hl 0 rfl) ?_
    cases he
    exact k_ire hx hb hr hlk X hP hD hS d_Math_floorMod_II_19
  · have he := ih_f hc he
    refine lv_iload_n hx hb d_Math_floorMod_II_10 rfl (lv_at hl 0 rfl) ?_
    refine lv_if_eq (tgt := 18) hx hb d_Math_floorMod_II_11 rfl (fun hc => ?_) (fun hc => ?_)
    · have he := ih_t hc he
      refine lv_iload_n hx hb d_Math_floorMod_II_18 rfl (lv_at hl 0 rfl) ?_
      cases he
      exact k_ire hx hb hr hlk X hP hD hS d_Math_floorMod_II_19
    · have he := ih_f hc he
      refine lv_iload_n hx hb d_Math_floorMod_II_14 rfl (lv_at hl 0 rfl) ?_
      refine lv_iload_n hx hb d_Math_floorMod_II_15 rfl (lv_at hl 2 rfl) ?_
      refine lv_iadd hx hb d_Math_floorMod_II_16 ?_
      cases he
      exact k_ire hx hb hr hlk X hP hD hS d_Math_floorMod_II_17
abbrev rm_Math_floorDiv_II : Room := { frames := 0, cells := 0, slots := 0, locals := 0 }
set_option maxHeartbeats 4000000 in
set_option maxRecDepth 100000 in
theorem c_Math_floorDiv_II (l : Launch) (D : va_G) (kk : Nat → ClassId) (st : Nat → Nat) (sz : Nat) (x0 : Int32) (x1 : Int32) (o : Int32) (he : f_Math_floorDiv_II x0 x1 = some o) : Met l y_Math_floorDiv_II (Cond.code y_Math_floorDiv_II b_Math_floorDiv_II 3 (some .int) :: GW) rm_Math_floorDiv_II (KPc D kk st [.int x0, .int x1] [] sz) (KQi D kk o [] (va_A [] sz)) 0 0 (va_A [] sz) := by
  refine k_start (Qc := fun A => KQi D kk o [] A) (by decide +kernel) (Nat.le_of_ble_eq_true rfl) ?_
  intro p e s m below meth c A ls S hnm hr hlk hA X hP hD hS hl
  have hl : lv_has ls 3 [(0, .int x0), (1, .int x1)] := hl
  have hx := S.1
  have hb := S.2.1
  unfold f_Math_floorDiv_II at he
  refine lv_iload_n hx hb d_Math_floorDiv_II_0 rfl (lv_at hl 0 rfl) ?_
  refine lv_iload_n hx hb d_Math_floorDiv_II_1 rfl (lv_at hl 1 rfl) ?_
  obtain ⟨hz1, he⟩ := ih_g he
  refine lv_idiv hx hb d_Math_floorDiv_II_2 hz1 ?_
  refine lv_istore_n hx hb d_Math_floorDiv_II_3 rfl hl (by decide) rfl (fun ls hl => ?_)
  have hl : lv_has ls 3 [(2, .int (x0 / x1)), (0, .int x0), (1, .int x1)] := hl
  refine lv_iload_n hx hb d_Math_floorDiv_II_4 rfl (lv_at hl 1 rfl) ?_
  refine lv_iload_n hx hb d_Math_floorDiv_II_5 rfl (lv_at hl 2 rfl) ?_
  refine lv_ixor hx hb d_Math_floorDiv_II_6 ?_
  refine lv_if_ge (tgt := 21) hx hb d_Math_floorDiv_II_7 rfl (fun hc => ?_) (fun hc => ?_)
  · have he := ih_t hc he
    refine lv_iload_n hx hb d_Math_floorDiv_II_21 rfl (lv_at hl 0 rfl) ?_
    cases he
    exact k_ire hx hb hr hlk X hP hD hS d_Math_floorDiv_II_22
  · have he := ih_f hc he
    refine lv_iload_n hx hb d_Math_floorDiv_II_10 rfl (lv_at hl 0 rfl) ?_
    refine lv_iload_n hx hb d_Math_floorDiv_II_11 rfl (lv_at hl 2 rfl) ?_
    refine lv_imul hx hb d_Math_floorDiv_II_12 ?_
    refine lv_iload_n hx hb d_Math_floorDiv_II_13 rfl (lv_at hl 1 rfl) ?_
    refine lv_icmp_eq (tgt := 21) hx hb d_Math_floorDiv_II_14 rfl (fun hc => ?_) (fun hc => ?_)
    · have he := ih_t hc he
      refine lv_iload_n hx hb d_Math_floorDiv_II_21 rfl (lv_at hl 0 rfl) ?_
      cases he
      exact k_ire hx hb hr hlk X hP hD hS d_Math_floorDiv_II_22
    · have he := ih_f hc he
      refine lv_iload_n hx hb d_Math_floorDiv_II_17 rfl (lv_at hl 0 rfl) ?_
      refine lv_iconst (v := (1 : Int32)) hx hb d_Math_floorDiv_II_18 (by decide) ?_
      refine lv_isub hx hb d_Math_floorDiv_II_19 ?_
      cases he
      exact k_ire hx hb hr hlk X hP hD hS d_Math_floorDiv_II_20
abbrev rm_Days_isLeap : Room := { frames := 0, cells := 0, slots := 0, locals := 0 }
set_option maxHeartbeats 4000000 in
set_option maxRecDepth 100000 in
theorem c_Days_isLeap (l : Launch) (D : va_G) (kk : Nat → ClassId) (st : Nat → Nat) (sz : Nat) (x0 : Int64) (o : Int32) (he : f_Days_isLeap x0 = some o) : Met l y_Days_isLeap (Cond.code y_Days_isLeap b_Days_isLeap 2 (some .boolean) :: GW) rm_Days_isLeap (KPc D kk st [.long x0] [] sz) (KQi D kk o [] (va_A [] sz)) 0 0 (va_A [] sz) := by
  refine k_start (Qc := fun A => KQi D kk o [] A) (by decide) (Nat.le_of_ble_eq_true rfl) ?_
  intro p e s m below meth c A ls S hnm hr hlk hA X hP hD hS hl
  have hl : lv_has ls 2 [(0, .long x0)] := hl
  have hx := S.1
  have hb := S.2.1
  unfold f_Days_isLeap at he
  refine lv_lload_n hx hb d_Days_isLeap_0 rfl (lv_at hl 0 rfl) ?_
  refine lv_ldc2 (v := (4 : Int64)) hx hb S.2.2.2.1 (S.2.2.2.2 _ gm_1_232) d_Days_isLeap_1 ?_
  refine lv_lrem hx hb d_Days_isLeap_4 (by decide) ?_
  refine lv_lconst (v := (0 : Int64)) hx hb d_Days_isLeap_5 (by decide) ?_
  refine lq_ne (tgt := 34) hx hb d_Days_isLeap_6 d_Days_isLeap_7 rfl (fun hc => ?_) (fun hc => ?_)
  · have he := ih_f hc he
    refine lv_iconst (v := (0 : Int32)) hx hb d_Days_isLeap_34 (by decide) ?_
    cases he
    exact k_zre hx hb hr hlk X hP hD hS (Or.inl rfl) d_Days_isLeap_35
  · have he := ih_t hc he
    refine lv_lload_n hx hb d_Days_isLeap_10 rfl (lv_at hl 0 rfl) ?_
    refine lv_ldc2 (v := (100 : Int64)) hx hb S.2.2.2.1 (S.2.2.2.2 _ gm_1_233) d_Days_isLeap_11 ?_
    refine lv_lrem hx hb d_Days_isLeap_14 (by decide) ?_
    refine lv_lconst (v := (0 : Int64)) hx hb d_Days_isLeap_15 (by decide) ?_
    refine lq_ne (tgt := 30) hx hb d_Days_isLeap_16 d_Days_isLeap_17 rfl (fun hc => ?_) (fun hc => ?_)
    · have he := ih_f hc he
      refine lv_iconst (v := (1 : Int32)) hx hb d_Days_isLeap_30 (by decide) ?_
      refine lv_goto (tgt := 35) hx hb d_Days_isLeap_31 rfl ?_
      cases he
      exact k_zre hx hb hr hlk X hP hD hS (Or.inr rfl) d_Days_isLeap_35
    · have he := ih_t hc he
      refine lv_lload_n hx hb d_Days_isLeap_20 rfl (lv_at hl 0 rfl) ?_
      refine lv_ldc2 (v := (400 : Int64)) hx hb S.2.2.2.1 (S.2.2.2.2 _ gm_1_226) d_Days_isLeap_21 ?_
      refine lv_lrem hx hb d_Days_isLeap_24 (by decide) ?_
      refine lv_lconst (v := (0 : Int64)) hx hb d_Days_isLeap_25 (by decide) ?_
      refine lq_ne (tgt := 34) hx hb d_Days_isLeap_26 d_Days_isLeap_27 rfl (fun hc => ?_) (fun hc => ?_)
      · have he := ih_f hc he
        refine lv_iconst (v := (0 : Int32)) hx hb d_Days_isLeap_34 (by decide) ?_
        cases he
        exact k_zre hx hb hr hlk X hP hD hS (Or.inl rfl) d_Days_isLeap_35
      · have he := ih_t hc he
        refine lv_iconst (v := (1 : Int32)) hx hb d_Days_isLeap_30 (by decide) ?_
        refine lv_goto (tgt := 35) hx hb d_Days_isLeap_31 rfl ?_
        cases he
        exact k_zre hx hb hr hlk X hP hD hS (Or.inr rfl) d_Days_isLeap_35
abbrev rm_Days_yearLength : Room := { frames := 1, cells := 0, slots := 0, locals := 21 }
set_option maxHeartbeats 4000000 in
set_option maxRecDepth 100000 in
theorem c_Days_yearLength (l : Launch) (D : va_G) (kk : Nat → ClassId) (st : Nat → Nat) (sz : Nat) (x0 : Int64) (o : Int32) (he : f_Days_yearLength x0 = some o) : Met l y_Days_yearLength (Cond.code y_Days_yearLength b_Days_yearLength 2 (some .int) :: GW) rm_Days_yearLength (KPc D kk st [.long x0] [] sz) (KQi D kk o [] (va_A [] sz)) 0 0 (va_A [] sz) := by
  refine k_start (Qc := fun A => KQi D kk o [] A) (by decide) (Nat.le_of_ble_eq_true rfl) ?_
  intro p e s m below meth c A ls S hnm hr hlk hA X hP hD hS hl
  have hl : lv_has ls 2 [(0, .long x0)] := hl
  have hx := S.1
  have hb := S.2.1
  unfold f_Days_yearLength at he
  refine lv_lload_n hx hb d_Days_yearLength_0 rfl (lv_at hl 0 rfl) ?_
  obtain ⟨u1, e2, he⟩ := ih_b he
  refine k_io (r_S (As := [.long x0]) S X hA hP hD hS (c_Days_isLeap l D kk st _ x0 u1 e2) gm_2_4 gm_2_2 gm_2_3 gm_1_12 ⟨rfl, rfl, by decide, by decide⟩ kd_Days_isLeap [] rfl rfl rfl rfl hl.1 rfl (Nat.le_of_ble_eq_true rfl) d_Days_yearLength_1 ⟨Nat.zero_le _, Nat.zero_le _⟩) hA hP hD hS [] rfl (fun H locs hP hS => ?_)
  refine lv_if_eq (tgt := 13) hx hb d_Days_yearLength_4 rfl (fun hc => ?_) (fun hc => ?_)
  · have he := ih_t hc he
    refine lv_sipush (v := (365 : Int32)) hx hb d_Days_yearLength_13 (by decide) ?_
    cases he
    exact k_ire hx hb hr hlk X hP hD hS d_Days_yearLength_16
  · have he := ih_f hc he
    refine lv_sipush (v := (366 : Int32)) hx hb d_Days_yearLength_7 (by decide) ?_
    refine lv_goto (tgt := 16) hx hb d_Days_yearLength_10 rfl ?_
    cases he
    exact k_ire hx hb hr hlk X hP hD hS d_Days_yearLength_16
abbrev rm_Days_firstOfYear : Room := { frames := 1, cells := 0, slots := 0, locals := 25 }
set_option maxHeartbeats 4000000 in
set_option maxRecDepth 100000 in
theorem c_Days_firstOfYear (l : Launch) (D : va_G) (kk : Nat → ClassId) (st : Nat → Nat) (sz : Nat) (x0 : Int64) (o : Int64) (he : f_Days_firstOfYear x0 = some o) : Met l y_Days_firstOfYear (Cond.code y_Days_firstOfYear b_Days_firstOfYear 6 (some .long) :: GW) rm_Days_firstOfYear (KPc D kk st [.long x0] [] sz) (KQl D kk o [] (va_A [] sz)) 0 0 (va_A [] sz) := by
  refine k_start (Qc := fun A => KQl D kk o [] A) (by decide) (Nat.le_of_ble_eq_true rfl) ?_
  intro p e s m below meth c A ls S hnm hr hlk hA X hP hD hS hl
  have hl : lv_has ls 6 [(0, .long x0)] := hl
  have hx := S.1
  have hb := S.2.1
  unfold f_Days_firstOfYear at he
  refine lv_lload_n hx hb d_Days_firstOfYear_0 rfl (lv_at hl 0 rfl) ?_
  refine lv_lconst (v := (1 : Int64)) hx hb d_Days_firstOfYear_1 (by decide) ?_
  refine lv_lsub hx hb d_Days_firstOfYear_2 ?_
  refine lv_lstore_n hx hb d_Days_firstOfYear_3 rfl hl (by decide) rfl (fun ls hl => ?_)
  have hl : lv_has ls 6 [(2, .long (x0 - (1 : Int64))), (0, .long x0)] := hl
  refine lv_lload_n hx hb d_Days_firstOfYear_4 rfl (lv_at hl 0 rfl) ?_
  refine lv_ldc2 (v := (4 : Int64)) hx hb S.2.2.2.1 (S.2.2.2.2 _ gm_1_232) d_Days_firstOfYear_5 ?_
  obtain ⟨u1, e2, he⟩ := ih_b he
  refine k_lo (r_S (As := [.long (x0 - (1 : Int64)), .long (4 : Int64)]) S X hA hP hD hS (c_Math_floorDiv_JJ l D kk st _ (x0 - (1 : Int64)) (4 : Int64) u1 e2) gm_1_217 gm_1_228 gm_1_216 gm_1_11 ⟨rfl, rfl, by decide, by decide⟩ kd_Math_floorDiv_JJ [] rfl rfl rfl rfl hl.1 rfl (Nat.le_of_ble_eq_true rfl) d_Days_firstOfYear_8 ⟨Nat.zero_le _, Nat.zero_le _⟩) hA hP hD hS [] rfl (fun H locs hP hS => ?_)
  refine lv_lload_n hx hb d_Days_firstOfYear_11 rfl (lv_at hl 0 rfl) ?_
  refine lv_ldc2 (v := (100 : Int64)) hx hb S.2.2.2.1 (S.2.2.2.2 _ gm_1_233) d_Days_firstOfYear_12 ?_
  obtain ⟨u3, e4, he⟩ := ih_b he
  refine k_lo (r_S (As := [.long (x0 - (1 : Int64)), .long (100 : Int64)]) S X hA hP hD hS (c_Math_floorDiv_JJ l D kk st _ (x0 - (1 : Int64)) (100 : Int64) u3 e4) gm_1_217 gm_1_228 gm_1_216 gm_1_11 ⟨rfl, rfl, by decide, by decide⟩ kd_Math_floorDiv_JJ [] rfl rfl rfl rfl hl.1 rfl (Nat.le_of_ble_eq_true rfl) d_Days_firstOfYear_15 ⟨Nat.zero_le _, Nat.zero_le _⟩) hA hP hD hS [] rfl (fun H locs hP hS => ?_)
  refine lv_lsub hx hb d_Days_firstOfYear_18 ?_
  refine lv_lload_n hx hb d_Days_firstOfYear_19 rfl (lv_at hl 0 rfl) ?_
  refine lv_ldc2 (v := (400 : Int64)) hx hb S.2.2.2.1 (S.2.2.2.2 _ gm_1_226) d_Days_firstOfYear_20 ?_
  obtain ⟨u5, e6, he⟩ := ih_b he
  refine k_lo (r_S (As := [.long (x0 - (1 : Int64)), .long (400 : Int64)]) S X hA hP hD hS (c_Math_floorDiv_JJ l D kk st _ (x0 - (1 : Int64)) (400 : Int64) u5 e6) gm_1_217 gm_1_228 gm_1_216 gm_1_11 ⟨rfl, rfl, by decide, by decide⟩ kd_Math_floorDiv_JJ [] rfl rfl rfl rfl hl.1 rfl (Nat.le_of_ble_eq_true rfl) d_Days_firstOfYear_23 ⟨Nat.zero_le _, Nat.zero_le _⟩) hA hP hD hS [] rfl (fun H locs hP hS => ?_)
  refine lv_ladd hx hb d_Days_firstOfYear_26 ?_
  refine lv_lstore hx hb d_Days_firstOfYear_27 hl (by decide) rfl (fun ls hl => ?_)
  have hl : lv_has ls 6 [(4, .long ((u1 - u3) + u5)), (2, .long (x0 - (1 : Int64))), (0, .long x0)] := hl
  refine lv_ldc2 (v := (365 : Int64)) hx hb S.2.2.2.1 (S.2.2.2.2 _ gm_1_234) d_Days_firstOfYear_29 ?_
  refine lv_lload_n hx hb d_Days_firstOfYear_32 rfl (lv_at hl 2 rfl) ?_
  refine lv_ldc2 (v := (1970 : Int64)) hx hb S.2.2.2.1 (S.2.2.2.2 _ gm_1_225) d_Days_firstOfYear_33 ?_
  refine lv_lsub hx hb d_Days_firstOfYear_36 ?_
  refine lv_lmul hx hb d_Days_firstOfYear_37 ?_
  refine lv_lload hx hb d_Days_firstOfYear_38 (lv_at hl 0 rfl) ?_
  refine lv_ladd hx hb d_Days_firstOfYear_40 ?_
  refine lv_ldc2 (v := (477 : Int64)) hx hb S.2.2.2.1 (S.2.2.2.2 _ gm_1_235) d_Days_firstOfYear_41 ?_
  refine lv_lsub hx hb d_Days_firstOfYear_44 ?_
  cases he
  exact k_lre hx hb hr hlk X hP hD hS d_Days_firstOfYear_45
abbrev rm_Days_yearOf : Room := { frames := 2, cells := 0, slots := 0, locals := 50 }
set_option maxHeartbeats 4000000 in
set_option maxRecDepth 100000 in
theorem c_Days_yearOf (l : Launch) (D : va_G) (kk : Nat → ClassId) (st : Nat → Nat) (sz : Nat) (x0 : Int64) (o : Int64) (he : f_Days_yearOf x0 = some o) : Met l y_Days_yearOf (Cond.code y_Days_yearOf b_Days_yearOf 4 (some .long) :: GW) rm_Days_yearOf (KPc D kk st [.long x0] [] sz) (KQl D kk o [] (va_A [] sz)) 0 0 (va_A [] sz) := by
  refine k_start (Qc := fun A => KQl D kk o [] A) (by decide) (Nat.le_of_ble_eq_true rfl) ?_
  intro p e s m below meth c A ls S hnm hr hlk hA X hP hD hS hl
  have hl : lv_has ls 4 [(0, .long x0)] := hl
  have hx := S.1
  have hb := S.2.1
  unfold f_Days_yearOf at he
  refine lv_ldc2 (v := (1970 : Int64)) hx hb S.2.2.2.1 (S.2.2.2.2 _ gm_1_225) d_Days_yearOf_0 ?_
  refine lv_lload_n hx hb d_Days_yearOf_3 rfl (lv_at hl 0 rfl) ?_
  refine lv_ldc2 (v := (400 : Int64)) hx hb S.2.2.2.1 (S.2.2.2.2 _ gm_1_226) d_Days_yearOf_4 ?_
  refine lv_lmul hx hb d_Days_yearOf_7 ?_
  refine lv_ldc2 (v := (146097 : Int64)) hx hb S.2.2.2.1 (S.2.2.2.2 _ gm_1_227) d_Days_yearOf_8 ?_
  obtain ⟨u1, e2, he⟩ := ih_b he
  refine k_lo (r_S (As := [.long (x0 * (400 : Int64)), .long (146097 : Int64)]) S X hA hP hD hS (c_Math_floorDiv_JJ l D kk st _ (x0 * (400 : Int64)) (146097 : Int64) u1 e2) gm_1_217 gm_1_228 gm_1_216 gm_1_11 ⟨rfl, rfl, by decide, by decide⟩ kd_Math_floorDiv_JJ [] rfl rfl rfl rfl hl.1 rfl (Nat.le_of_ble_eq_true rfl) d_Days_yearOf_11 ⟨Nat.zero_le _, Nat.zero_le _⟩) hA hP hD hS [] rfl (fun H locs hP hS => ?_)
  refine lv_ladd hx hb d_Days_yearOf_14 ?_
  refine lv_lstore_n hx hb d_Days_yearOf_15 rfl hl (by decide) rfl (fun ls hl => ?_)
  have hl : lv_has ls 4 [(2, .long ((1970 : Int64) + u1)), (0, .long x0)] := hl
  refine lv_lload_n hx hb d_Days_yearOf_16 rfl (lv_at hl 1 rfl) ?_
  refine lv_lload_n hx hb d_Days_yearOf_17 rfl (lv_at hl 0 rfl) ?_
  obtain ⟨u3, e4, he⟩ := ih_b he
  refine k_lo (r_S (As := [.long ((1970 : Int64) + u1)]) S X hA hP hD hS (c_Days_firstOfYear l D kk st _ ((1970 : Int64) + u1) u3 e4) gm_1_231 gm_1_229 gm_1_230 gm_1_12 ⟨rfl, rfl, by decide, by decide⟩ kd_Days_firstOfYear [] rfl rfl rfl rfl hl.1 rfl (Nat.le_of_ble_eq_true rfl) d_Days_yearOf_18 ⟨Nat.zero_le _, Nat.zero_le _⟩) hA hP hD hS [] rfl (fun H locs hP hS => ?_)
  refine lq_ge (tgt := 29) hx hb d_Days_yearOf_21 d_Days_yearOf_22 rfl (fun hc => ?_) (fun hc => ?_)
  · have he := ih_t hc he
    refine lv_lload_n hx hb d_Days_yearOf_29 rfl (lv_at hl 1 rfl) ?_
    refine lv_lload_n hx hb d_Days_yearOf_30 rfl (lv_at hl 0 rfl) ?_
    refine lv_lconst (v := (1 : Int64)) hx hb d_Days_yearOf_31 (by decide) ?_
    refine lv_ladd hx hb d_Days_yearOf_32 ?_
    obtain ⟨u5, e6, he⟩ := ih_b he
    refine k_lo (r_S (As := [.long (((1970 : Int64) + u1) + (1 : Int64))]) S X hA hP hD hS (c_Days_firstOfYear l D kk st _ (((1970 : Int64) + u1) + (1 : Int64)) u5 e6) gm_1_231 gm_1_229 gm_1_230 gm_1_12 ⟨rfl, rfl, by decide, by decide⟩ kd_Days_firstOfYear [] rfl rfl rfl rfl hl.1 rfl (Nat.le_of_ble_eq_true rfl) d_Days_yearOf_33 ⟨Nat.zero_le _, Nat.zero_le _⟩) hA hP hD hS [] rfl (fun H locs hP hS => ?_)
    refine lq_lt (tgt := 46) hx hb d_Days_yearOf_36 d_Days_yearOf_37 rfl (fun hc => ?_) (fun hc => ?_)
    · have he := ih_t hc he
      refine lv_lload_n hx hb d_Days_yearOf_46 rfl (lv_at hl 0 rfl) ?_
      cases he
      exact k_lre hx hb hr hlk X hP hD hS d_Days_yearOf_47
    · have he := ih_f hc he
      refine lv_lload_n hx hb d_Days_yearOf_40 rfl (lv_at hl 0 rfl) ?_
      refine lv_lconst (v := (1 : Int64)) hx hb d_Days_yearOf_41 (by decide) ?_
      refine lv_ladd hx hb d_Days_yearOf_42 ?_
      refine lv_goto (tgt := 47) hx hb d_Days_yearOf_43 rfl ?_
      cases he
      exact k_lre hx hb hr hlk X hP hD hS d_Days_yearOf_47
  · have he := ih_f hc he
    refine lv_lload_n hx hb d_Days_yearOf_25 rfl (lv_at hl 0 rfl) ?_
    refine lv_lconst (v := (1 : Int64)) hx hb d_Days_yearOf_26 (by decide) ?_
    refine lv_lsub hx hb d_Days_yearOf_27 ?_
    cases he
    exact k_lre hx hb hr hlk X hP hD hS d_Days_yearOf_28
abbrev rm_Days_beforeMonth : Room := { frames := 1, cells := 0, slots := 0, locals := 21 }
set_option maxHeartbeats 4000000 in
set_option maxRecDepth 100000 in
theorem c_Days_beforeMonth (l : Launch) (D : va_G) (kk : Nat → ClassId) (st : Nat → Nat) (sz : Nat) (x0 : Int64) (x2 : Int32) (o : Int32) (he : f_Days_beforeMonth x0 x2 = some o) : Met l y_Days_beforeMonth (Cond.code y_Days_beforeMonth b_Days_beforeMonth 3 (some .int) :: GW) rm_Days_beforeMonth (KPc D kk st [.long x0, .int x2] [] sz) (KQi D kk o [] (va_A [] sz)) 0 0 (va_A [] sz) := by
  refine k_start (Qc := fun A => KQi D kk o [] A) (by decide) (Nat.le_of_ble_eq_true rfl) ?_
  intro p e s m below meth c A ls S hnm hr hlk hA X hP hD hS hl
  have hl : lv_has ls 3 [(0, .long x0), (2, .int x2)] := hl
  have hx := S.1
  have hb := S.2.1
  unfold f_Days_beforeMonth at he
  refine lv_iload_n hx hb d_Days_beforeMonth_0 rfl (lv_at hl 1 rfl) ?_
  refine lv_iconst (v := (1 : Int32)) hx hb d_Days_beforeMonth_1 (by decide) ?_
  refine lv_icmp_lt (tgt := 13) hx hb d_Days_beforeMonth_2 rfl (fun hc => ?_) (fun hc => ?_)
  · have he := ih_t hc he
    refine lv_iconst (v := (0 : Int32)) hx hb d_Days_beforeMonth_13 (by decide) ?_
    cases he
    exact k_ire hx hb hr hlk X hP hD hS d_Days_beforeMonth_14
  · have he := ih_f hc he
    refine lv_iload_n hx hb d_Days_beforeMonth_5 rfl (lv_at hl 1 rfl) ?_
    refine va_gets hx hb (SW.z0 X.2.2) hS S.2.2.2.1 (S.2.2.2.2 _ gm_2_0) (fun _ h => h) d_Days_beforeMonth_6 ?_
    refine va_tlen (v := (13 : Int32)) hx hb (SW.t0 X.2.2) hS rfl d_Days_beforeMonth_9 ?_
    refine lv_icmp_le (tgt := 15) hx hb d_Days_beforeMonth_10 rfl (fun hc => ?_) (fun hc => ?_)
    · have he := ih_t hc he
      refine va_gets hx hb (SW.z0 X.2.2) hS S.2.2.2.1 (S.2.2.2.2 _ gm_2_0) (fun _ h => h) d_Days_beforeMonth_15 ?_
      refine lv_iload_n hx hb d_Days_beforeMonth_18 rfl (lv_at hl 1 rfl) ?_
      refine lv_iconst (v := (1 : Int32)) hx hb d_Days_beforeMonth_19 (by decide) ?_
      refine lv_isub hx hb d_Days_beforeMonth_20 ?_
      obtain ⟨hi1, he⟩ := ih_g he
      refine va_ti hx hb (SW.t0 X.2.2) hS hi1 rfl d_Days_beforeMonth_21 ?_
      refine lv_iload_n hx hb d_Days_beforeMonth_22 rfl (lv_at hl 1 rfl) ?_
      refine lv_iconst (v := (2 : Int32)) hx hb d_Days_beforeMonth_23 (by decide) ?_
      refine lv_icmp_le (tgt := 38) hx hb d_Days_beforeMonth_24 rfl (fun hc => ?_) (fun hc => ?_)
      · have he := ih_t hc he
        refine lv_iconst (v := (0 : Int32)) hx hb d_Days_beforeMonth_38 (by decide) ?_
        refine lv_iadd hx hb d_Days_beforeMonth_39 ?_
        cases he
        exact k_ire hx hb hr hlk X hP hD hS d_Days_beforeMonth_40
      · have he := ih_f hc he
        refine lv_lload_n hx hb d_Days_beforeMonth_27 rfl (lv_at hl 0 rfl) ?_
        obtain ⟨u2, e3, he⟩ := ih_b he
        refine k_io (r_S (As := [.long x0]) S X hA hP hD hS (c_Days_isLeap l D kk st _ x0 u2 e3) gm_2_4 gm_2_2 gm_2_3 gm_1_12 ⟨rfl, rfl, by decide, by decide⟩ kd_Days_isLeap [] rfl rfl rfl rfl hl.1 rfl (Nat.le_of_ble_eq_true rfl) d_Days_beforeMonth_28 ⟨Nat.zero_le _, Nat.zero_le _⟩) hA hP hD hS [] rfl (fun H locs hP hS => ?_)
        refine lv_if_eq (tgt := 38) hx hb d_Days_beforeMonth_31 rfl (fun hc => ?_) (fun hc => ?_)
        · have he := ih_t hc he
          refine lv_iconst (v := (0 : Int32)) hx hb d_Days_beforeMonth_38 (by decide) ?_
          refine lv_iadd hx hb d_Days_beforeMonth_39 ?_
          cases he
          exact k_ire hx hb hr hlk X hP hD hS d_Days_beforeMonth_40
        · have he := ih_f hc he
          refine lv_iconst (v := (1 : Int32)) hx hb d_Days_beforeMonth_34 (by decide) ?_
          refine lv_goto (tgt := 39) hx hb d_Days_beforeMonth_35 rfl ?_
          refine lv_iadd hx hb d_Days_beforeMonth_39 ?_
          cases he
          exact k_ire hx hb hr hlk X hP hD hS d_Days_beforeMonth_40
    · have he := ih_f hc he
      refine lv_iconst (v := (0 : Int32)) hx hb d_Days_beforeMonth_13 (by decide) ?_
      cases he
      exact k_ire hx hb hr hlk X hP hD hS d_Days_beforeMonth_14
abbrev rm_Days_monthLength : Room := { frames := 2, cells := 0, slots := 0, locals := 43 }
set_option maxHeartbeats 4000000 in
set_option maxRecDepth 100000 in
theorem c_Days_monthLength (l : Launch) (D : va_G) (kk : Nat → ClassId) (st : Nat → Nat) (sz : Nat) (x0 : Int64) (x2 : Int32) (o : Int32) (he : f_Days_monthLength x0 x2 = some o) : Met l y_Days_monthLength (Cond.code y_Days_monthLength b_Days_monthLength 3 (some .int) :: GW) rm_Days_monthLength (KPc D kk st [.long x0, .int x2] [] sz) (KQi D kk o [] (va_A [] sz)) 0 0 (va_A [] sz) := by
  refine k_start (Qc := fun A => KQi D kk o [] A) (by decide) (Nat.le_of_ble_eq_true rfl) ?_
  intro p e s m below meth c A ls S hnm hr hlk hA X hP hD hS hl
  have hl : lv_has ls 3 [(0, .long x0), (2, .int x2)] := hl
  have hx := S.1
  have hb := S.2.1
  unfold f_Days_monthLength at he
  refine lv_lload_n hx hb d_Days_monthLength_0 rfl (lv_at hl 0 rfl) ?_
  refine lv_iload_n hx hb d_Days_monthLength_1 rfl (lv_at hl 1 rfl) ?_
  refine lv_iconst (v := (1 : Int32)) hx hb d_Days_monthLength_2 (by decide) ?_
  refine lv_iadd hx hb d_Days_monthLength_3 ?_
  obtain ⟨u1, e2, he⟩ := ih_b he
  refine k_io (r_S (As := [.long x0, .int (x2 + (1 : Int32))]) S X hA hP hD hS (c_Days_beforeMonth l D kk st _ x0 (x2 + (1 : Int32)) u1 e2) gm_1_239 gm_4_60 gm_1_238 gm_1_12 ⟨rfl, rfl, by decide, by decide⟩ kd_Days_beforeMonth [] rfl rfl rfl rfl hl.1 rfl (Nat.le_of_ble_eq_true rfl) d_Days_monthLength_4 ⟨Nat.zero_le _, Nat.zero_le _⟩) hA hP hD hS [] rfl (fun H locs hP hS => ?_)
  refine lv_lload_n hx hb d_Days_monthLength_7 rfl (lv_at hl 0 rfl) ?_
  refine lv_iload_n hx hb d_Days_monthLength_8 rfl (lv_at hl 1 rfl) ?_
  obtain ⟨u3, e4, he⟩ := ih_b he
  refine k_io (r_S (As := [.long x0, .int x2]) S X hA hP hD hS (c_Days_beforeMonth l D kk st _ x0 x2 u3 e4) gm_1_239 gm_4_60 gm_1_238 gm_1_12 ⟨rfl, rfl, by decide, by decide⟩ kd_Days_beforeMonth [] rfl rfl rfl rfl hl.1 rfl (Nat.le_of_ble_eq_true rfl) d_Days_monthLength_9 ⟨Nat.zero_le _, Nat.zero_le _⟩) hA hP hD hS [] rfl (fun H locs hP hS => ?_)
  refine lv_isub hx hb d_Days_monthLength_12 ?_
  cases he
  exact k_ire hx hb hr hlk X hP hD hS d_Days_monthLength_13
abbrev rm_Days_firstOfMonth : Room := { frames := 2, cells := 0, slots := 0, locals := 50 }
set_option maxHeartbeats 4000000 in
set_option maxRecDepth 100000 in
theorem c_Days_firstOfMonth (l : Launch) (D : va_G) (kk : Nat → ClassId) (st : Nat → Nat) (sz : Nat) (x0 : Int64) (x2 : Int32) (o : Int64) (he : f_Days_firstOfMonth x0 x2 = some o) : Met l y_Days_firstOfMonth (Cond.code y_Days_firstOfMonth b_Days_firstOfMonth 5 (some .long) :: GW) rm_Days_firstOfMonth (KPc D kk st [.long x0, .int x2] [] sz) (KQl D kk o [] (va_A [] sz)) 0 0 (va_A [] sz) := by
  refine k_start (Qc := fun A => KQl D kk o [] A) (by decide) (Nat.le_of_ble_eq_true rfl) ?_
  intro p e s m below meth c A ls S hnm hr hlk hA X hP hD hS hl
  have hl : lv_has ls 5 [(0, .long x0), (2, .int x2)] := hl
  have hx := S.1
  have hb := S.2.1
  unfold f_Days_firstOfMonth at he
  refine lv_lload_n hx hb d_Days_firstOfMonth_0 rfl (lv_at hl 0 rfl) ?_
  refine lv_iload_n hx hb d_Days_firstOfMonth_1 rfl (lv_at hl 1 rfl) ?_
  refine lv_iconst (v := (1 : Int32)) hx hb d_Days_firstOfMonth_2 (by decide) ?_
  refine lv_isub hx hb d_Days_firstOfMonth_3 ?_
  refine lv_bipush (v := (12 : Int32)) hx hb d_Days_firstOfMonth_4 (by decide) ?_
  obtain ⟨u1, e2, he⟩ := ih_b he
  refine k_io (r_S (As := [.int (x2 - (1 : Int32)), .int (12 : Int32)]) S X hA hP hD hS (c_Math_floorDiv_II l D kk st _ (x2 - (1 : Int32)) (12 : Int32) u1 e2) gm_4_67 gm_4_65 gm_4_66 gm_1_11 ⟨rfl, rfl, by decide, by decide⟩ kd_Math_floorDiv_II [] rfl rfl rfl rfl hl.1 rfl (Nat.le_of_ble_eq_true rfl) d_Days_firstOfMonth_6 ⟨Nat.zero_le _, Nat.zero_le _⟩) hA hP hD hS [] rfl (fun H locs hP hS => ?_)
  refine lv_i2l hx hb d_Days_firstOfMonth_9 rfl ?_
  refine lv_ladd hx hb d_Days_firstOfMonth_10 ?_
  refine lv_lstore_n hx hb d_Days_firstOfMonth_11 rfl hl (by decide) rfl (fun ls hl => ?_)
  have hl : lv_has ls 5 [(3, .long (x0 + (Int32.toInt64 u1))), (0, .long x0), (2, .int x2)] := hl
  refine lv_lload_n hx hb d_Days_firstOfMonth_12 rfl (lv_at hl 0 rfl) ?_
  obtain ⟨u3, e4, he⟩ := ih_b he
  refine k_lo (r_S (As := [.long (x0 + (Int32.toInt64 u1))]) S X hA hP hD hS (c_Days_firstOfYear l D kk st _ (x0 + (Int32.toInt64 u1)) u3 e4) gm_1_231 gm_1_229 gm_1_230 gm_1_12 ⟨rfl, rfl, by decide, by decide⟩ kd_Days_firstOfYear [] rfl rfl rfl rfl hl.1 rfl (Nat.le_of_ble_eq_true rfl) d_Days_firstOfMonth_13 ⟨Nat.zero_le _, Nat.zero_le _⟩) hA hP hD hS [] rfl (fun H locs hP hS => ?_)
  refine lv_lload_n hx hb d_Days_firstOfMonth_16 rfl (lv_at hl 0 rfl) ?_
  refine lv_iload_n hx hb d_Days_firstOfMonth_17 rfl (lv_at hl 2 rfl) ?_
  refine lv_iconst (v := (1 : Int32)) hx hb d_Days_firstOfMonth_18 (by decide) ?_
  refine lv_isub hx hb d_Days_firstOfMonth_19 ?_
  refine lv_bipush (v := (12 : Int32)) hx hb d_Days_firstOfMonth_20 (by decide) ?_
  obtain ⟨u5, e6, he⟩ := ih_b he
  refine k_io (r_S (As := [.int (x2 - (1 : Int32)), .int (12 : Int32)]) S X hA hP hD hS (c_Math_floorMod_II l D kk st _ (x2 - (1 : Int32)) (12 : Int32) u5 e6) gm_3_131 gm_4_68 gm_3_130 gm_1_11 ⟨rfl, rfl, by decide, by decide⟩ kd_Math_floorMod_II [] rfl rfl rfl rfl hl.1 rfl (Nat.le_of_ble_eq_true rfl) d_Days_firstOfMonth_22 ⟨Nat.zero_le _, Nat.zero_le _⟩) hA hP hD hS [] rfl (fun H locs hP hS => ?_)
  refine lv_iconst (v := (1 : Int32)) hx hb d_Days_firstOfMonth_25 (by decide) ?_
  refine lv_iadd hx hb d_Days_firstOfMonth_26 ?_
  obtain ⟨u7, e8, he⟩ := ih_b he
  refine k_io (r_S (As := [.long (x0 + (Int32.toInt64 u1)), .int (u5 + (1 : Int32))]) S X hA hP hD hS (c_Days_beforeMonth l D kk st _ (x0 + (Int32.toInt64 u1)) (u5 + (1 : Int32)) u7 e8) gm_1_239 gm_4_60 gm_1_238 gm_1_12 ⟨rfl, rfl, by decide, by decide⟩ kd_Days_beforeMonth [] rfl rfl rfl rfl hl.1 rfl (Nat.le_of_ble_eq_true rfl) d_Days_firstOfMonth_27 ⟨Nat.zero_le _, Nat.zero_le _⟩) hA hP hD hS [] rfl (fun H locs hP hS => ?_)
  refine lv_i2l hx hb d_Days_firstOfMonth_30 rfl ?_
  refine lv_ladd hx hb d_Days_firstOfMonth_31 ?_
  cases he
  exact k_lre hx hb hr hlk X hP hD hS d_Days_firstOfMonth_32
abbrev rm_Days_weekday : Room := { frames := 1, cells := 0, slots := 0, locals := 25 }
set_option maxHeartbeats 4000000 in
set_option maxRecDepth 100000 in
theorem c_Days_weekday (l : Launch) (D : va_G) (kk : Nat → ClassId) (st : Nat → Nat) (sz : Nat) (x0 : Int64) (o : Int32) (he : f_Days_weekday x0 = some o) : Met l y_Days_weekday (Cond.code y_Days_weekday b_Days_weekday 2 (some .int) :: GW) rm_Days_weekday (KPc D kk st [.long x0] [] sz) (KQi D kk o [] (va_A [] sz)) 0 0 (va_A [] sz) := by
  refine k_start (Qc := fun A => KQi D kk o [] A) (by decide) (Nat.le_of_ble_eq_true rfl) ?_
  intro p e s m below meth c A ls S hnm hr hlk hA X hP hD hS hl
  have hl : lv_has ls 2 [(0, .long x0)] := hl
  have hx := S.1
  have hb := S.2.1
  unfold f_Days_weekday at he
  refine lv_lload_n hx hb d_Days_weekday_0 rfl (lv_at hl 0 rfl) ?_
  refine lv_ldc2 (v := (3 : Int64)) hx hb S.2.2.2.1 (S.2.2.2.2 _ gm_2_8) d_Days_weekday_1 ?_
  refine lv_ladd hx hb d_Days_weekday_4 ?_
  refine lv_ldc2 (v := (7 : Int64)) hx hb S.2.2.2.1 (S.2.2.2.2 _ gm_2_9) d_Days_weekday_5 ?_
  obtain ⟨u1, e2, he⟩ := ih_b he
  refine k_lo (r_S (As := [.long (x0 + (3 : Int64)), .long (7 : Int64)]) S X hA hP hD hS (c_Math_floorMod_JJ l D kk st _ (x0 + (3 : Int64)) (7 : Int64) u1 e2) gm_2_12 gm_2_10 gm_2_11 gm_1_11 ⟨rfl, rfl, by decide, by decide⟩ kd_Math_floorMod_JJ [] rfl rfl rfl rfl hl.1 rfl (Nat.le_of_ble_eq_true rfl) d_Days_weekday_8 ⟨Nat.zero_le _, Nat.zero_le _⟩) hA hP hD hS [] rfl (fun H locs hP hS => ?_)
  refine lv_l2i hx hb d_Days_weekday_11 rfl ?_
  refine lv_iconst (v := (1 : Int32)) hx hb d_Days_weekday_12 (by decide) ?_
  refine lv_iadd hx hb d_Days_weekday_13 ?_
  cases he
  exact k_ire hx hb hr hlk X hP hD hS d_Days_weekday_14
abbrev rm_Days_firstMonday : Room := { frames := 2, cells := 0, slots := 0, locals := 50 }
set_option maxHeartbeats 4000000 in
set_option maxRecDepth 100000 in
theorem c_Days_firstMonday (l : Launch) (D : va_G) (kk : Nat → ClassId) (st : Nat → Nat) (sz : Nat) (x0 : Int64) (o : Int64) (he : f_Days_firstMonday x0 = some o) : Met l y_Days_firstMonday (Cond.code y_Days_firstMonday b_Days_firstMonday 4 (some .long) :: GW) rm_Days_firstMonday (KPc D kk st [.long x0] [] sz) (KQl D kk o [] (va_A [] sz)) 0 0 (va_A [] sz) := by
  refine k_start (Qc := fun A => KQl D kk o [] A) (by decide) (Nat.le_of_ble_eq_true rfl) ?_
  intro p e s m below meth c A ls S hnm hr hlk hA X hP hD hS hl
  have hl : lv_has ls 4 [(0, .long x0)] := hl
  have hx := S.1
  have hb := S.2.1
  unfold f_Days_firstMonday at he
  refine lv_lload_n hx hb d_Days_firstMonday_0 rfl (lv_at hl 0 rfl) ?_
  obtain ⟨u1, e2, he⟩ := ih_b he
  refine k_lo (r_S (As := [.long x0]) S X hA hP hD hS (c_Days_firstOfYear l D kk st _ x0 u1 e2) gm_1_231 gm_1_229 gm_1_230 gm_1_12 ⟨rfl, rfl, by decide, by decide⟩ kd_Days_firstOfYear [] rfl rfl rfl rfl hl.1 rfl (Nat.le_of_ble_eq_true rfl) d_Days_firstMonday_1 ⟨Nat.zero_le _, Nat.zero_le _⟩) hA hP hD hS [] rfl (fun H locs hP hS => ?_)
  refine lv_ldc2 (v := (3 : Int64)) hx hb S.2.2.2.1 (S.2.2.2.2 _ gm_2_8) d_Days_firstMonday_4 ?_
  refine lv_ladd hx hb d_Days_firstMonday_7 ?_
  refine lv_lstore_n hx hb d_Days_firstMonday_8 rfl hl (by decide) rfl (fun ls hl => ?_)
  have hl : lv_has ls 4 [(2, .long (u1 + (3 : Int64))), (0, .long x0)] := hl
  refine lv_lload_n hx hb d_Days_firstMonday_9 rfl (lv_at hl 0 rfl) ?_
  refine lv_lload_n hx hb d_Days_firstMonday_10 rfl (lv_at hl 0 rfl) ?_
  obtain ⟨u3, e4, he⟩ := ih_b he
  refine k_io (r_S (As := [.long (u1 + (3 : Int64))]) S X hA hP hD hS (c_Days_weekday l D kk st _ (u1 + (3 : Int64)) u3 e4) gm_2_7 gm_4_84 gm_2_6 gm_1_12 ⟨rfl, rfl, by decide, by decide⟩ kd_Days_weekday [] rfl rfl rfl rfl hl.1 rfl (Nat.le_of_ble_eq_true rfl) d_Days_firstMonday_11 ⟨Nat.zero_le _, Nat.zero_le _⟩) hA hP hD hS [] rfl (fun H locs hP hS => ?_)
  refine lv_i2l hx hb d_Days_firstMonday_14 rfl ?_
  refine lv_lsub hx hb d_Days_firstMonday_15 ?_
  refine lv_lconst (v := (1 : Int64)) hx hb d_Days_firstMonday_16 (by decide) ?_
  refine lv_ladd hx hb d_Days_firstMonday_17 ?_
  cases he
  exact k_lre hx hb hr hlk X hP hD hS d_Days_firstMonday_18
abbrev rm_Moment_settleDate : Room := { frames := 3, cells := 0, slots := 0, locals := 73 }
set_option maxHeartbeats 4000000 in
set_option maxRecDepth 100000 in
theorem w_Moment_settleDate_19 {p : Program} {l : Launch} {e : Env} {s : State} {m : MethodId} {args : Array Value} {below : List Frame} {meth : Method} {c : Code} {Q : State → Prop} {A : Nat → Prop} {D : va_G} {kk : Nat → ClassId} {st : Nat → Nat} (a_t a_t_values : Nat) (t_seconds : Int64) (t_parts : Int32) (t_values : Nat → Int32) (x1 : Int64) (x3 : Int64) (x5 : Int32) (S : CallFix p m c b_Moment_settleDate 11 s args GW y_Moment_settleDate.cls) (hr : meth.sig.returnType = none) (hlk : meth.locks = false) (hA : ∀ q, s.heap.size ≤ q → A q) (X : KX D kk st A s) : ∀ (n : Nat) (x6 : Int32) (v : Int32) (H : Heap) (locs : List Loc) (ls : Array Slot), lp_Moment_settleDate_19 x1 x3 x5 n x6 = some v → lv_has ls 11 [(0, .ref a_t), (1, .long x1), (3, .long x3), (5, .int x5), (6, .int x6)] → va_P D classes [(a_t, .inr (5, [.ref a_t_values, .long t_seconds, .int t_parts])), (a_t_values, .inl (kk 0, 14, .inl t_values))] H → va_D A [(a_t, .inr (5, [.ref a_t_values, .long t_seconds, .int t_parts])), (a_t_values, .inl (kk 0, 14, .inl t_values))] → va_S A s.heap H locs → (∀ (H : Heap) (locs : List Loc) (ls : Array Slot), lv_has ls 11 [(0, .ref a_t), (1, .long x1), (3, .long x3), (5, .int x5), (6, .int v)] → va_P D classes [(a_t, .inr (5, [.ref a_t_values, .long t_seconds, .int t_parts])), (a_t_values, .inl (kk 0, 14, .inl t_values))] H → va_D A [(a_t, .inr (5, [.ref a_t_values, .long t_seconds, .int t_parts])), (a_t_values, .inl (kk 0, 14, .inl t_values))] → va_S A s.heap H locs → W p l e rm_Moment_settleDate s m args below meth c H locs 0 0 Q (F0 m 45 ls [])) → W p l e rm_Moment_settleDate s m args below meth c H locs 0 0 Q (F0 m 19 ls []) := by
  intro n
  induction n with
  | zero =>
    intro x6 v H locs ls he hl hP hD hS K
    exact ih_n he
  | succ n ih =>
    intro x6 v H locs ls he hl hP hD hS K
    have hx := S.1
    have hb := S.2.1
    have he : st_Moment_settleDate_19 x1 x3 x5 (lp_Moment_settleDate_19 x1 x3 x5 n) x6 = some v := he
    unfold st_Moment_settleDate_19 at he
    refine lv_iload hx hb d_Moment_settleDate_19 (lv_at hl 4 rfl) ?_
    refine lv_bipush (v := (12 : Int32)) hx hb d_Moment_settleDate_21 (by decide) ?_
    refine lv_icmp_ge (tgt := 45) hx hb d_Moment_settleDate_23 rfl (fun hc => ?_) (fun hc => ?_)
    · have he := ih_t hc he
      have hl : lv_has ls 11 [(0, .ref a_t), (1, .long x1), (3, .long x3), (5, .int x5), (6, .int x6)] := lv_sub hl [0, 1, 2, 3, 4] rfl
      cases he
      exact K _ _ _ hl hP hD hS
    · have he := ih_f hc he
      refine lv_lload_n hx hb d_Moment_settleDate_26 rfl (lv_at hl 2 rfl) ?_
      refine lv_iload hx hb d_Moment_settleDate_27 (lv_at hl 4 rfl) ?_
      refine lv_iconst (v := (1 : Int32)) hx hb d_Moment_settleDate_29 (by decide) ?_
      refine lv_iadd hx hb d_Moment_settleDate_30 ?_
      obtain ⟨u5, e6, he⟩ := ih_b he
      refine k_io (r_S (As := [.long x3, .int (x6 + (1 : Int32))]) S X hA hP hD hS (c_Days_beforeMonth l D kk st _ x3 (x6 + (1 : Int32)) u5 e6) gm_1_239 gm_1_237 gm_1_238 gm_1_12 ⟨rfl, rfl, by decide, by decide⟩ kd_Days_beforeMonth [] rfl rfl rfl rfl hl.1 rfl (Nat.le_of_ble_eq_true rfl) d_Moment_settleDate_31 ⟨Nat.zero_le _, Nat.zero_le _⟩) hA hP hD hS [] rfl (fun H locs hP hS => ?_)
      refine lv_iload hx hb d_Moment_settleDate_34 (lv_at hl 3 rfl) ?_
      refine lv_icmp_ge (tgt := 45) hx hb d_Moment_settleDate_36 rfl (fun hc => ?_) (fun hc => ?_)
      · have he := ih_t hc he
        have hl : lv_has ls 11 [(0, .ref a_t), (1, .long x1), (3, .long x3), (5, .int x5), (6, .int x6)] := lv_sub hl [0, 1, 2, 3, 4] rfl
        cases he
        exact K _ _ _ hl hP hD hS
      · have he := ih_f hc he
        refine lv_iinc (k := 4) hx hb d_Moment_settleDate_39 hl rfl (ii_ (v := (1 : Int32)) (by decide)) (by decide) rfl (fun ls hl => ?_)
        have hl : lv_has ls 11 [(6, .int (x6 + (1 : Int32))), (0, .ref a_t), (1, .long x1), (3, .long x3), (5, .int x5)] := hl
        refine lv_goto (tgt := 19) hx hb d_Moment_settleDate_42 rfl ?_
        have hl : lv_has ls 11 [(0, .ref a_t), (1, .long x1), (3, .long x3), (5, .int x5), (6, .int (x6 + (1 : Int32)))] := lv_sub hl [1, 2, 3, 4, 0] rfl
        exact ih _ _ _ _ _ he hl hP hD hS K
set_option maxHeartbeats 4000000 in
set_option maxRecDepth 100000 in
theorem w_Moment_settleDate_45 {p : Program} {l : Launch} {e : Env} {s : State} {m : MethodId} {args : Array Value} {below : List Frame} {meth : Method} {c : Code} {A : Nat → Prop} {D : va_G} {kk : Nat → ClassId} {st : Nat → Nat} (a_t a_t_values : Nat) (t_seconds : Int64) (t_parts : Int32) (t_values : Nat → Int32) (x1 : Int64) (x3 : Int64) (x5 : Int32) (x6 : Int32) (o : (Nat → Int32)) (S : CallFix p m c b_Moment_settleDate 11 s args GW y_Moment_settleDate.cls) (hr : meth.sig.returnType = none) (hlk : meth.locks = false) (hA : ∀ q, s.heap.size ≤ q → A q) (X : KX D kk st A s) (H : Heap) (locs : List Loc) (ls : Array Slot) (he : jn_Moment_settleDate_45 t_values x1 x3 x5 x6 = some o) (hl : lv_has ls 11 [(0, .ref a_t), (1, .long x1), (3, .long x3), (5, .int x5), (6, .int x6)]) (hP : va_P D classes [(a_t, .inr (5, [.ref a_t_values, .long t_seconds, .int t_parts])), (a_t_values, .inl (kk 0, 14, .inl t_values))] H) (hD : va_D A [(a_t, .inr (5, [.ref a_t_values, .long t_seconds, .int t_parts])), (a_t_values, .inl (kk 0, 14, .inl t_values))]) (hS : va_S A s.heap H locs) : W p l e rm_Moment_settleDate s m args below meth c H locs 0 0 (MQ below (KQv D kk [(a_t, .inr (5, [.ref a_t_values, .long t_seconds, .int t_parts])), (a_t_values, .inl (kk 0, 14, .inl o))] A) args s 0 0 A) (F0 m 45 ls []) := by
  have hx := S.1
  have hb := S.2.1
  unfold jn_Moment_settleDate_45 at he
  refine lv_lload_n hx hb d_Moment_settleDate_45 rfl (lv_at hl 1 rfl) ?_
  refine lv_lload_n hx hb d_Moment_settleDate_46 rfl (lv_at hl 1 rfl) ?_
  obtain ⟨u9, e10, he⟩ := ih_b he
  refine k_io (r_S (As := [.long x1]) S X hA hP hD hS (c_Days_weekday l D kk st _ x1 u9 e10) gm_2_7 gm_2_5 gm_2_6 gm_1_12 ⟨rfl, rfl, by decide, by decide⟩ kd_Days_weekday [] rfl rfl rfl rfl hl.1 rfl (Nat.le_of_ble_eq_true rfl) d_Moment_settleDate_47 ⟨Nat.zero_le _, Nat.zero_le _⟩) hA hP hD hS [] rfl (fun H locs hP hS => ?_)
  refine lv_i2l hx hb d_Moment_settleDate_50 rfl ?_
  refine lv_lsub hx hb d_Moment_settleDate_51 ?_
  refine lv_ldc2 (v := (4 : Int64)) hx hb S.2.2.2.1 (S.2.2.2.2 _ gm_2_13) d_Moment_settleDate_52 ?_
  refine lv_ladd hx hb d_Moment_settleDate_55 ?_
  refine lv_lstore hx hb d_Moment_settleDate_56 hl (by decide) rfl (fun ls hl => ?_)
  have hl : lv_has ls 11 [(7, .long ((x1 - (Int32.toInt64 u9)) + (4 : Int64))), (0, .ref a_t), (1, .long x1), (3, .long x3), (5, .int x5), (6, .int x6)] := hl
  refine lv_lload hx hb d_Moment_settleDate_58 (lv_at hl 0 rfl) ?_
  obtain ⟨u11, e12, he⟩ := ih_b he
  refine k_lo (r_S (As := [.long ((x1 - (Int32.toInt64 u9)) + (4 : Int64))]) S X hA hP hD hS (c_Days_yearOf l D kk st _ ((x1 - (Int32.toInt64 u9)) + (4 : Int64)) u11 e12) gm_1_224 gm_1_222 gm_1_223 gm_1_12 ⟨rfl, rfl, by decide, by decide⟩ kd_Days_yearOf [] rfl rfl rfl rfl hl.1 rfl (Nat.le_of_ble_eq_true rfl) d_Moment_settleDate_60 ⟨Nat.zero_le _, Nat.zero_le _⟩) hA hP hD hS [] rfl (fun H locs hP hS => ?_)
  refine lv_lstore hx hb d_Moment_settleDate_63 hl (by decide) rfl (fun ls hl => ?_)
  have hl : lv_has ls 11 [(9, .long u11), (7, .long ((x1 - (Int32.toInt64 u9)) + (4 : Int64))), (0, .ref a_t), (1, .long x1), (3, .long x3), (5, .int x5), (6, .int x6)] := hl
  refine lv_aload_n hx hb d_Moment_settleDate_65 rfl (lv_at hl 2 rfl) ?_
  refine k_get S X us_Moment hP 0 rfl rfl 0 (by decide) gm_1_178 rfl d_Moment_settleDate_66 ?_
  refine lv_iconst (v := (0 : Int32)) hx hb d_Moment_settleDate_69 (by decide) ?_
  refine lv_lload_n hx hb d_Moment_settleDate_70 rfl (lv_at hl 4 rfl) ?_
  refine lv_l2i hx hb d_Moment_settleDate_71 rfl ?_
  refine va_iast hx hb X.1 hP hD hS 1 0 rfl rfl (show ¬ ((0 : Int32) < 0 ∨ 14 ≤ ((0 : Int32)).toNatClampNeg) by decide) d_Moment_settleDate_72 (fun H locs hP hD hS => ?_)
  have hP : va_P D classes [(a_t, .inr (5, [.ref a_t_values, .long t_seconds, .int t_parts])), (a_t_values, .inl (kk 0, 14, .inl (upd t_values ((0 : Int32)).toNatClampNeg (Int64.toInt32 x3))))] H := hP
  have hD : va_D A [(a_t, .inr (5, [.ref a_t_values, .long t_seconds, .int t_parts])), (a_t_values, .inl (kk 0, 14, .inl (upd t_values ((0 : Int32)).toNatClampNeg (Int64.toInt32 x3))))] := hD
  refine lv_aload_n hx hb d_Moment_settleDate_73 rfl (lv_at hl 2 rfl) ?_
  refine k_get S X us_Moment hP 0 rfl rfl 0 (by decide) gm_1_178 rfl d_Moment_settleDate_74 ?_
  refine lv_iconst (v := (2 : Int32)) hx hb d_Moment_settleDate_77 (by decide) ?_
  refine lv_iload hx hb d_Moment_settleDate_78 (lv_at hl 6 rfl) ?_
  refine va_iast hx hb X.1 hP hD hS 1 0 rfl rfl (show ¬ ((2 : Int32) < 0 ∨ 14 ≤ ((2 : Int32)).toNatClampNeg) by decide) d_Moment_settleDate_80 (fun H locs hP hD hS => ?_)
  have hP : va_P D classes [(a_t, .inr (5, [.ref a_t_values, .long t_seconds, .int t_parts])), (a_t_values, .inl (kk 0, 14, .inl (upd (upd t_values ((0 : Int32)).toNatClampNeg (Int64.toInt32 x3)) ((2 : Int32)).toNatClampNeg x6)))] H := hP
  have hD : va_D A [(a_t, .inr (5, [.ref a_t_values, .long t_seconds, .int t_parts])), (a_t_values, .inl (kk 0, 14, .inl (upd (upd t_values ((0 : Int32)).toNatClampNeg (Int64.toInt32 x3)) ((2 : Int32)).toNatClampNeg x6)))] := hD
  refine lv_aload_n hx hb d_Moment_settleDate_81 rfl (lv_at hl 2 rfl) ?_
  refine k_get S X us_Moment hP 0 rfl rfl 0 (by decide) gm_1_178 rfl d_Moment_settleDate_82 ?_
  refine lv_iconst (v := (3 : Int32)) hx hb d_Moment_settleDate_85 (by decide) ?_
  refine lv_iload hx hb d_Moment_settleDate_86 (lv_at hl 5 rfl) ?_
  refine lv_lload_n hx hb d_Moment_settleDate_88 rfl (lv_at hl 4 rfl) ?_
  refine lv_iload hx hb d_Moment_settleDate_89 (lv_at hl 6 rfl) ?_
  obtain ⟨u13, e14, he⟩ := ih_b he
  refine k_io (r_S (As := [.long x3, .int x6]) S X hA hP hD hS (c_Days_beforeMonth l D kk st _ x3 x6 u13 e14) gm_1_239 gm_1_237 gm_1_238 gm_1_12 ⟨rfl, rfl, by decide, by decide⟩ kd_Days_beforeMonth [] rfl rfl rfl rfl hl.1 rfl (Nat.le_of_ble_eq_true rfl) d_Moment_settleDate_91 ⟨Nat.zero_le _, Nat.zero_le _⟩) hA hP hD hS [] rfl (fun H locs hP hS => ?_)
  refine lv_isub hx hb d_Moment_settleDate_94 ?_
  refine va_iast hx hb X.1 hP hD hS 1 0 rfl rfl (show ¬ ((3 : Int32) < 0 ∨ 14 ≤ ((3 : Int32)).toNatClampNeg) by decide) d_Moment_settleDate_95 (fun H locs hP hD hS => ?_)
  have hP : va_P D classes [(a_t, .inr (5, [.ref a_t_values, .long t_seconds, .int t_parts])), (a_t_values, .inl (kk 0, 14, .inl (upd (upd (upd t_values ((0 : Int32)).toNatClampNeg (Int64.toInt32 x3)) ((2 : Int32)).toNatClampNeg x6) ((3 : Int32)).toNatClampNeg (x5 - u13))))] H := hP
  have hD : va_D A [(a_t, .inr (5, [.ref a_t_values, .long t_seconds, .int t_parts])), (a_t_values, .inl (kk 0, 14, .inl (upd (upd (upd t_values ((0 : Int32)).toNatClampNeg (Int64.toInt32 x3)) ((2 : Int32)).toNatClampNeg x6) ((3 : Int32)).toNatClampNeg (x5 - u13))))] := hD
  refine lv_aload_n hx hb d_Moment_settleDate_96 rfl (lv_at hl 2 rfl) ?_
  refine k_get S X us_Moment hP 0 rfl rfl 0 (by decide) gm_1_178 rfl d_Moment_settleDate_97 ?_
  refine lv_iconst (v := (4 : Int32)) hx hb d_Moment_settleDate_100 (by decide) ?_
  refine lv_iload hx hb d_Moment_settleDate_101 (lv_at hl 5 rfl) ?_
  refine va_iast hx hb X.1 hP hD hS 1 0 rfl rfl (show ¬ ((4 : Int32) < 0 ∨ 14 ≤ ((4 : Int32)).toNatClampNeg) by decide) d_Moment_settleDate_103 (fun H locs hP hD hS => ?_)
  have hP : va_P D classes [(a_t, .inr (5, [.ref a_t_values, .long t_seconds, .int t_parts])), (a_t_values, .inl (kk 0, 14, .inl (upd (upd (upd (upd t_values ((0 : Int32)).toNatClampNeg (Int64.toInt32 x3)) ((2 : Int32)).toNatClampNeg x6) ((3 : Int32)).toNatClampNeg (x5 - u13)) ((4 : Int32)).toNatClampNeg x5)))] H := hP
  have hD : va_D A [(a_t, .inr (5, [.ref a_t_values, .long t_seconds, .int t_parts])), (a_t_values, .inl (kk 0, 14, .inl (upd (upd (upd (upd t_values ((0 : Int32)).toNatClampNeg (Int64.toInt32 x3)) ((2 : Int32)).toNatClampNeg x6) ((3 : Int32)).toNatClampNeg (x5 - u13)) ((4 : Int32)).toNatClampNeg x5)))] := hD
  refine lv_aload_n hx hb d_Moment_settleDate_104 rfl (lv_at hl 2 rfl) ?_
  refine k_get S X us_Moment hP 0 rfl rfl 0 (by decide) gm_1_178 rfl d_Moment_settleDate_105 ?_
  refine lv_iconst (v := (5 : Int32)) hx hb d_Moment_settleDate_108 (by decide) ?_
  refine lv_lload_n hx hb d_Moment_settleDate_109 rfl (lv_at hl 3 rfl) ?_
  obtain ⟨u15, e16, he⟩ := ih_b he
  refine k_io (r_S (As := [.long x1]) S X hA hP hD hS (c_Days_weekday l D kk st _ x1 u15 e16) gm_2_7 gm_2_5 gm_2_6 gm_1_12 ⟨rfl, rfl, by decide, by decide⟩ kd_Days_weekday [] rfl rfl rfl rfl hl.1 rfl (Nat.le_of_ble_eq_true rfl) d_Moment_settleDate_110 ⟨Nat.zero_le _, Nat.zero_le _⟩) hA hP hD hS [] rfl (fun H locs hP hS => ?_)
  refine va_iast hx hb X.1 hP hD hS 1 0 rfl rfl (show ¬ ((5 : Int32) < 0 ∨ 14 ≤ ((5 : Int32)).toNatClampNeg) by decide) d_Moment_settleDate_113 (fun H locs hP hD hS => ?_)
  have hP : va_P D classes [(a_t, .inr (5, [.ref a_t_values, .long t_seconds, .int t_parts])), (a_t_values, .inl (kk 0, 14, .inl (upd (upd (upd (upd (upd t_values ((0 : Int32)).toNatClampNeg (Int64.toInt32 x3)) ((2 : Int32)).toNatClampNeg x6) ((3 : Int32)).toNatClampNeg (x5 - u13)) ((4 : Int32)).toNatClampNeg x5) ((5 : Int32)).toNatClampNeg u15)))] H := hP
  have hD : va_D A [(a_t, .inr (5, [.ref a_t_values, .long t_seconds, .int t_parts])), (a_t_values, .inl (kk 0, 14, .inl (upd (upd (upd (upd (upd t_values ((0 : Int32)).toNatClampNeg (Int64.toInt32 x3)) ((2 : Int32)).toNatClampNeg x6) ((3 : Int32)).toNatClampNeg (x5 - u13)) ((4 : Int32)).toNatClampNeg x5) ((5 : Int32)).toNatClampNeg u15)))] := hD
  refine lv_aload_n hx hb d_Moment_settleDate_114 rfl (lv_at hl 2 rfl) ?_
  refine k_get S X us_Moment hP 0 rfl rfl 0 (by decide) gm_1_178 rfl d_Moment_settleDate_115 ?_
  refine lv_bipush (v := (6 : Int32)) hx hb d_Moment_settleDate_118 (by decide) ?_
  refine lv_lload hx hb d_Moment_settleDate_120 (lv_at hl 1 rfl) ?_
  refine lv_lload hx hb d_Moment_settleDate_122 (lv_at hl 0 rfl) ?_
  obtain ⟨u17, e18, he⟩ := ih_b he
  refine k_lo (r_S (As := [.long u11]) S X hA hP hD hS (c_Days_firstOfYear l D kk st _ u11 u17 e18) gm_1_231 gm_1_236 gm_1_230 gm_1_12 ⟨rfl, rfl, by decide, by decide⟩ kd_Days_firstOfYear [] rfl rfl rfl rfl hl.1 rfl (Nat.le_of_ble_eq_true rfl) d_Moment_settleDate_124 ⟨Nat.zero_le _, Nat.zero_le _⟩) hA hP hD hS [] rfl (fun H locs hP hS => ?_)
  refine lv_lsub hx hb d_Moment_settleDate_127 ?_
  refine lv_l2i hx hb d_Moment_settleDate_128 rfl ?_
  refine lv_bipush (v := (7 : Int32)) hx hb d_Moment_settleDate_129 (by decide) ?_
  refine lv_idiv hx hb d_Moment_settleDate_131 (by decide) ?_
  refine lv_iconst (v := (1 : Int32)) hx hb d_Moment_settleDate_132 (by decide) ?_
  refine lv_iadd hx hb d_Moment_settleDate_133 ?_
  refine va_iast hx hb X.1 hP hD hS 1 0 rfl rfl (show ¬ ((6 : Int32) < 0 ∨ 14 ≤ ((6 : Int32)).toNatClampNeg) by decide) d_Moment_settleDate_134 (fun H locs hP hD hS => ?_)
  have hP : va_P D classes [(a_t, .inr (5, [.ref a_t_values, .long t_seconds, .int t_parts])), (a_t_values, .inl (kk 0, 14, .inl (upd (upd (upd (upd (upd (upd t_values ((0 : Int32)).toNatClampNeg (Int64.toInt32 x3)) ((2 : Int32)).toNatClampNeg x6) ((3 : Int32)).toNatClampNeg (x5 - u13)) ((4 : Int32)).toNatClampNeg x5) ((5 : Int32)).toNatClampNeg u15) ((6 : Int32)).toNatClampNeg (((Int64.toInt32 (((x1 - (Int32.toInt64 u9)) + (4 : Int64)) - u17)) / (7 : Int32)) + (1 : Int32)))))] H := hP
  have hD : va_D A [(a_t, .inr (5, [.ref a_t_values, .long t_seconds, .int t_parts])), (a_t_values, .inl (kk 0, 14, .inl (upd (upd (upd (upd (upd (upd t_values ((0 : Int32)).toNatClampNeg (Int64.toInt32 x3)) ((2 : Int32)).toNatClampNeg x6) ((3 : Int32)).toNatClampNeg (x5 - u13)) ((4 : Int32)).toNatClampNeg x5) ((5 : Int32)).toNatClampNeg u15) ((6 : Int32)).toNatClampNeg (((Int64.toInt32 (((x1 - (Int32.toInt64 u9)) + (4 : Int64)) - u17)) / (7 : Int32)) + (1 : Int32)))))] := hD
  refine lv_aload_n hx hb d_Moment_settleDate_135 rfl (lv_at hl 2 rfl) ?_
  refine k_get S X us_Moment hP 0 rfl rfl 0 (by decide) gm_1_178 rfl d_Moment_settleDate_136 ?_
  refine lv_iconst (v := (1 : Int32)) hx hb d_Moment_settleDate_139 (by decide) ?_
  refine lv_lload hx hb d_Moment_settleDate_140 (lv_at hl 0 rfl) ?_
  refine lv_l2i hx hb d_Moment_settleDate_142 rfl ?_
  refine va_iast hx hb X.1 hP hD hS 1 0 rfl rfl (show ¬ ((1 : Int32) < 0 ∨ 14 ≤ ((1 : Int32)).toNatClampNeg) by decide) d_Moment_settleDate_143 (fun H locs hP hD hS => ?_)
  have hP : va_P D classes [(a_t, .inr (5, [.ref a_t_values, .long t_seconds, .int t_parts])), (a_t_values, .inl (kk 0, 14, .inl (upd (upd (upd (upd (upd (upd (upd t_values ((0 : Int32)).toNatClampNeg (Int64.toInt32 x3)) ((2 : Int32)).toNatClampNeg x6) ((3 : Int32)).toNatClampNeg (x5 - u13)) ((4 : Int32)).toNatClampNeg x5) ((5 : Int32)).toNatClampNeg u15) ((6 : Int32)).toNatClampNeg (((Int64.toInt32 (((x1 - (Int32.toInt64 u9)) + (4 : Int64)) - u17)) / (7 : Int32)) + (1 : Int32))) ((1 : Int32)).toNatClampNeg (Int64.toInt32 u11))))] H := hP
  have hD : va_D A [(a_t, .inr (5, [.ref a_t_values, .long t_seconds, .int t_parts])), (a_t_values, .inl (kk 0, 14, .inl (upd (upd (upd (upd (upd (upd (upd t_values ((0 : Int32)).toNatClampNeg (Int64.toInt32 x3)) ((2 : Int32)).toNatClampNeg x6) ((3 : Int32)).toNatClampNeg (x5 - u13)) ((4 : Int32)).toNatClampNeg x5) ((5 : Int32)).toNatClampNeg u15) ((6 : Int32)).toNatClampNeg (((Int64.toInt32 (((x1 - (Int32.toInt64 u9)) + (4 : Int64)) - u17)) / (7 : Int32)) + (1 : Int32))) ((1 : Int32)).toNatClampNeg (Int64.toInt32 u11))))] := hD
  cases he
  exact k_vre hx hb hr hlk X hP hD hS d_Moment_settleDate_144
set_option maxHeartbeats 4000000 in
set_option maxRecDepth 100000 in
theorem c_Moment_settleDate (l : Launch) (D : va_G) (kk : Nat → ClassId) (st : Nat → Nat) (a_t a_t_values : Nat) (sz : Nat) (t_seconds : Int64) (t_parts : Int32) (t_values : Nat → Int32) (x1 : Int64) (o : (Nat → Int32)) (he : f_Moment_settleDate t_values x1 = some o) : Met l y_Moment_settleDate (Cond.code y_Moment_settleDate b_Moment_settleDate 11 none :: GW) rm_Moment_settleDate (KPc D kk st [.ref a_t, .long x1] [(a_t, .inr (5, [.ref a_t_values, .long t_seconds, .int t_parts])), (a_t_values, .inl (kk 0, 14, .inl t_values))] sz) (KQv D kk [(a_t, .inr (5, [.ref a_t_values, .long t_seconds, .int t_parts])), (a_t_values, .inl (kk 0, 14, .inl o))] (va_A [(a_t, .inr (5, [.ref a_t_values, .long t_seconds, .int t_parts])), (a_t_values, .inl (kk 0, 14, .inl t_values))] sz)) 0 0 (va_A [(a_t, .inr (5, [.ref a_t_values, .long t_seconds, .int t_parts])), (a_t_values, .inl (kk 0, 14, .inl t_values))] sz) := by
  refine k_start (Qc := fun A => KQv D kk [(a_t, .inr (5, [.ref a_t_values, .long t_seconds, .int t_parts])), (a_t_values, .inl (kk 0, 14, .inl o))] A) (by decide) (Nat.le_of_ble_eq_true rfl) ?_
  intro p e s m below meth c A ls S hnm hr hlk hA X hP hD hS hl
  have hl : lv_has ls 11 [(0, .ref a_t), (1, .long x1)] := hl
  have hx := S.1
  have hb := S.2.1
  unfold f_Moment_settleDate at he
  refine lv_lload_n hx hb d_Moment_settleDate_0 rfl (lv_at hl 1 rfl) ?_
  obtain ⟨u1, e2, he⟩ := ih_b he
  refine k_lo (r_S (As := [.long x1]) S X hA hP hD hS (c_Days_yearOf l D kk st _ x1 u1 e2) gm_1_224 gm_1_222 gm_1_223 gm_1_12 ⟨rfl, rfl, by decide, by decide⟩ kd_Days_yearOf [] rfl rfl rfl rfl hl.1 rfl (Nat.le_of_ble_eq_true rfl) d_Moment_settleDate_1 ⟨Nat.zero_le _, Nat.zero_le _⟩) hA hP hD hS [] rfl (fun H locs hP hS => ?_)
  refine lv_lstore_n hx hb d_Moment_settleDate_4 rfl hl (by decide) rfl (fun ls hl => ?_)
  have hl : lv_has ls 11 [(3, .long u1), (0, .ref a_t), (1, .long x1)] := hl
  refine lv_lload_n hx hb d_Moment_settleDate_5 rfl (lv_at hl 2 rfl) ?_
  refine lv_lload_n hx hb d_Moment_settleDate_6 rfl (lv_at hl 0 rfl) ?_
  obtain ⟨u3, e4, he⟩ := ih_b he
  refine k_lo (r_S (As := [.long u1]) S X hA hP hD hS (c_Days_firstOfYear l D kk st _ u1 u3 e4) gm_1_231 gm_1_236 gm_1_230 gm_1_12 ⟨rfl, rfl, by decide, by decide⟩ kd_Days_firstOfYear [] rfl rfl rfl rfl hl.1 rfl (Nat.le_of_ble_eq_true rfl) d_Moment_settleDate_7 ⟨Nat.zero_le _, Nat.zero_le _⟩) hA hP hD hS [] rfl (fun H locs hP hS => ?_)
  refine lv_lsub hx hb d_Moment_settleDate_10 ?_
  refine lv_l2i hx hb d_Moment_settleDate_11 rfl ?_
  refine lv_iconst (v := (1 : Int32)) hx hb d_Moment_settleDate_12 (by decide) ?_
  refine lv_iadd hx hb d_Moment_settleDate_13 ?_
  refine lv_istore hx hb d_Moment_settleDate_14 hl (by decide) rfl (fun ls hl => ?_)
  have hl : lv_has ls 11 [(5, .int ((Int64.toInt32 (x1 - u3)) + (1 : Int32))), (3, .long u1), (0, .ref a_t), (1, .long x1)] := hl
  refine lv_iconst (v := (1 : Int32)) hx hb d_Moment_settleDate_16 (by decide) ?_
  refine lv_istore hx hb d_Moment_settleDate_17 hl (by decide) rfl (fun ls hl => ?_)
  have hl : lv_has ls 11 [(6, .int (1 : Int32)), (5, .int ((Int64.toInt32 (x1 - u3)) + (1 : Int32))), (3, .long u1), (0, .ref a_t), (1, .long x1)] := hl
  obtain ⟨u7, e8, he⟩ := ih_b he
  have hl : lv_has ls 11 [(0, .ref a_t), (1, .long x1), (3, .long u1), (5, .int ((Int64.toInt32 (x1 - u3)) + (1 : Int32))), (6, .int (1 : Int32))] := lv_sub hl [3, 4, 2, 1, 0] rfl
  refine w_Moment_settleDate_19 a_t a_t_values t_seconds t_parts t_values x1 u1 ((Int64.toInt32 (x1 - u3)) + (1 : Int32)) S hr hlk hA X FU (1 : Int32) u7 _ _ ls e8 hl hP hD hS (fun H locs ls hl hP hD hS => ?_)
  have hl : lv_has ls 11 [(0, .ref a_t), (1, .long x1), (3, .long u1), (5, .int ((Int64.toInt32 (x1 - u3)) + (1 : Int32))), (6, .int u7)] := lv_sub hl [0, 1, 2, 3, 4] rfl
  exact w_Moment_settleDate_45 a_t a_t_values t_seconds t_parts t_values x1 u1 ((Int64.toInt32 (x1 - u3)) + (1 : Int32)) u7 o S hr hlk hA X _ _ ls he hl hP hD hS
abbrev rm_Moment_settleTime : Room := { frames := 0, cells := 0, slots := 0, locals := 0 }
set_option maxHeartbeats 4000000 in
set_option maxRecDepth 100000 in
theorem w_Moment_settleTime_36 {p : Program} {l : Launch} {e : Env} {s : State} {m : MethodId} {args : Array Value} {below : List Frame} {meth : Method} {c : Code} {A : Nat → Prop} {D : va_G} {kk : Nat → ClassId} {st : Nat → Nat} (a_t a_t_values : Nat) (t_seconds : Int64) (t_parts : Int32) (t_values : Nat → Int32) (x1 : Int32) (x2 : Int32) (s1 : Int32) (s2 : Int32) (o : (Nat → Int32)) (S : CallFix p m c b_Moment_settleTime 3 s args GW y_Moment_settleTime.cls) (hr : meth.sig.returnType = none) (hlk : meth.locks = false) (hA : ∀ q, s.heap.size ≤ q → A q) (X : KX D kk st A s) (H : Heap) (locs : List Loc) (ls : Array Slot) (he : jn_Moment_settleTime_36 t_values x1 x2 s1 s2 = some o) (hl : lv_has ls 3 [(0, .ref a_t), (1, .int x1), (2, .int x2)]) (hP : va_P D classes [(a_t, .inr (5, [.ref a_t_values, .long t_seconds, .int t_parts])), (a_t_values, .inl (kk 0, 14, .inl t_values))] H) (hD : va_D A [(a_t, .inr (5, [.ref a_t_values, .long t_seconds, .int t_parts])), (a_t_values, .inl (kk 0, 14, .inl t_values))]) (hS : va_S A s.heap H locs) : W p l e rm_Moment_settleTime s m args below meth c H locs 0 0 (MQ below (KQv D kk [(a_t, .inr (5, [.ref a_t_values, .long t_seconds, .int t_parts])), (a_t_values, .inl (kk 0, 14, .inl o))] A) args s 0 0 A) (F0 m 36 ls [.int s2, .int s1, .ref a_t_values]) := by
  have hx := S.1
  have hb := S.2.1
  unfold jn_Moment_settleTime_36 at he
  obtain ⟨hi1, he⟩ := ih_g he
  refine va_iast hx hb X.1 hP hD hS 1 0 rfl rfl hi1 d_Moment_settleTime_36 (fun H locs hP hD hS => ?_)
  have hP : va_P D classes [(a_t, .inr (5, [.ref a_t_values, .long t_seconds, .int t_parts])), (a_t_values, .inl (kk 0, 14, .inl (upd t_values (s1).toNatClampNeg s2)))] H := hP
  have hD : va_D A [(a_t, .inr (5, [.ref a_t_values, .long t_seconds, .int t_parts])), (a_t_values, .inl (kk 0, 14, .inl (upd t_values (s1).toNatClampNeg s2)))] := hD
  refine lv_aload_n hx hb d_Moment_settleTime_37 rfl (lv_at hl 0 rfl) ?_
  refine k_get S X us_Moment hP 0 rfl rfl 0 (by decide) gm_1_178 rfl d_Moment_settleTime_38 ?_
  refine lv_bipush (v := (9 : Int32)) hx hb d_Moment_settleTime_41 (by decide) ?_
  refine lv_iload_n hx hb d_Moment_settleTime_43 rfl (lv_at hl 2 rfl) ?_
  refine lv_bipush (v := (12 : Int32)) hx hb d_Moment_settleTime_44 (by decide) ?_
  refine lv_idiv hx hb d_Moment_settleTime_46 (by decide) ?_
  refine va_iast hx hb X.1 hP hD hS 1 0 rfl rfl (show ¬ ((9 : Int32) < 0 ∨ 14 ≤ ((9 : Int32)).toNatClampNeg) by decide) d_Moment_settleTime_47 (fun H locs hP hD hS => ?_)
  have hP : va_P D classes [(a_t, .inr (5, [.ref a_t_values, .long t_seconds, .int t_parts])), (a_t_values, .inl (kk 0, 14, .inl (upd (upd t_values (s1).toNatClampNeg s2) ((9 : Int32)).toNatClampNeg (x2 / (12 : Int32)))))] H := hP
  have hD : va_D A [(a_t, .inr (5, [.ref a_t_values, .long t_seconds, .int t_parts])), (a_t_values, .inl (kk 0, 14, .inl (upd (upd t_values (s1).toNatClampNeg s2) ((9 : Int32)).toNatClampNeg (x2 / (12 : Int32)))))] := hD
  refine lv_aload_n hx hb d_Moment_settleTime_48 rfl (lv_at hl 0 rfl) ?_
  refine k_get S X us_Moment hP 0 rfl rfl 0 (by decide) gm_1_178 rfl d_Moment_settleTime_49 ?_
  refine lv_bipush (v := (10 : Int32)) hx hb d_Moment_settleTime_52 (by decide) ?_
  refine lv_iload_n hx hb d_Moment_settleTime_54 rfl (lv_at hl 1 rfl) ?_
  refine lv_bipush (v := (60 : Int32)) hx hb d_Moment_settleTime_55 (by decide) ?_
  refine lv_idiv hx hb d_Moment_settleTime_57 (by decide) ?_
  refine lv_bipush (v := (60 : Int32)) hx hb d_Moment_settleTime_58 (by decide) ?_
  refine lv_irem hx hb d_Moment_settleTime_60 (by decide) ?_
  refine va_iast hx hb X.1 hP hD hS 1 0 rfl rfl (show ¬ ((10 : Int32) < 0 ∨ 14 ≤ ((10 : Int32)).toNatClampNeg) by decide) d_Moment_settleTime_61 (fun H locs hP hD hS => ?_)
  have hP : va_P D classes [(a_t, .inr (5, [.ref a_t_values, .long t_seconds, .int t_parts])), (a_t_values, .inl (kk 0, 14, .inl (upd (upd (upd t_values (s1).toNatClampNeg s2) ((9 : Int32)).toNatClampNeg (x2 / (12 : Int32))) ((10 : Int32)).toNatClampNeg ((x1 / (60 : Int32)) - (x1 / (60 : Int32)) / (60 : Int32) * (60 : Int32)))))] H := hP
  have hD : va_D A [(a_t, .inr (5, [.ref a_t_values, .long t_seconds, .int t_parts])), (a_t_values, .inl (kk 0, 14, .inl (upd (upd (upd t_values (s1).toNatClampNeg s2) ((9 : Int32)).toNatClampNeg (x2 / (12 : Int32))) ((10 : Int32)).toNatClampNeg ((x1 / (60 : Int32)) - (x1 / (60 : Int32)) / (60 : Int32) * (60 : Int32)))))] := hD
  refine lv_aload_n hx hb d_Moment_settleTime_62 rfl (lv_at hl 0 rfl) ?_
  refine k_get S X us_Moment hP 0 rfl rfl 0 (by decide) gm_1_178 rfl d_Moment_settleTime_63 ?_
  refine lv_bipush (v := (11 : Int32)) hx hb d_Moment_settleTime_66 (by decide) ?_
  refine lv_iload_n hx hb d_Moment_settleTime_68 rfl (lv_at hl 1 rfl) ?_
  refine lv_bipush (v := (60 : Int32)) hx hb d_Moment_settleTime_69 (by decide) ?_
  refine lv_irem hx hb d_Moment_settleTime_71 (by decide) ?_
  refine va_iast hx hb X.1 hP hD hS 1 0 rfl rfl (show ¬ ((11 : Int32) < 0 ∨ 14 ≤ ((11 : Int32)).toNatClampNeg) by decide) d_Moment_settleTime_72 (fun H locs hP hD hS => ?_)
  have hP : va_P D classes [(a_t, .inr (5, [.ref a_t_values, .long t_seconds, .int t_parts])), (a_t_values, .inl (kk 0, 14, .inl (upd (upd (upd (upd t_values (s1).toNatClampNeg s2) ((9 : Int32)).toNatClampNeg (x2 / (12 : Int32))) ((10 : Int32)).toNatClampNeg ((x1 / (60 : Int32)) - (x1 / (60 : Int32)) / (60 : Int32) * (60 : Int32))) ((11 : Int32)).toNatClampNeg (x1 - x1 / (60 : Int32) * (60 : Int32)))))] H := hP
  have hD : va_D A [(a_t, .inr (5, [.ref a_t_values, .long t_seconds, .int t_parts])), (a_t_values, .inl (kk 0, 14, .inl (upd (upd (upd (upd t_values (s1).toNatClampNeg s2) ((9 : Int32)).toNatClampNeg (x2 / (12 : Int32))) ((10 : Int32)).toNatClampNeg ((x1 / (60 : Int32)) - (x1 / (60 : Int32)) / (60 : Int32) * (60 : Int32))) ((11 : Int32)).toNatClampNeg (x1 - x1 / (60 : Int32) * (60 : Int32)))))] := hD
  cases he
  exact k_vre hx hb hr hlk X hP hD hS d_Moment_settleTime_73
set_option maxHeartbeats 4000000 in
set_option maxRecDepth 100000 in
theorem c_Moment_settleTime (l : Launch) (D : va_G) (kk : Nat → ClassId) (st : Nat → Nat) (a_t a_t_values : Nat) (sz : Nat) (t_seconds : Int64) (t_parts : Int32) (t_values : Nat → Int32) (x1 : Int32) (o : (Nat → Int32)) (he : f_Moment_settleTime t_values x1 = some o) : Met l y_Moment_settleTime (Cond.code y_Moment_settleTime b_Moment_settleTime 3 none :: GW) rm_Moment_settleTime (KPc D kk st [.ref a_t, .int x1] [(a_t, .inr (5, [.ref a_t_values, .long t_seconds, .int t_parts])), (a_t_values, .inl (kk 0, 14, .inl t_values))] sz) (KQv D kk [(a_t, .inr (5, [.ref a_t_values, .long t_seconds, .int t_parts])), (a_t_values, .inl (kk 0, 14, .inl o))] (va_A [(a_t, .inr (5, [.ref a_t_values, .long t_seconds, .int t_parts])), (a_t_values, .inl (kk 0, 14, .inl t_values))] sz)) 0 0 (va_A [(a_t, .inr (5, [.ref a_t_values, .long t_seconds, .int t_parts])), (a_t_values, .inl (kk 0, 14, .inl t_values))] sz) := by
  refine k_start (Qc := fun A => KQv D kk [(a_t, .inr (5, [.ref a_t_values, .long t_seconds, .int t_parts])), (a_t_values, .inl (kk 0, 14, .inl o))] A) (by decide) (Nat.le_of_ble_eq_true rfl) ?_
  intro p e s m below meth c A ls S hnm hr hlk hA X hP hD hS hl
  have hl : lv_has ls 3 [(0, .ref a_t), (1, .int x1)] := hl
  have hx := S.1
  have hb := S.2.1
  unfold f_Moment_settleTime at he
  refine lv_iload_n hx hb d_Moment_settleTime_0 rfl (lv_at hl 1 rfl) ?_
  refine lv_sipush (v := (3600 : Int32)) hx hb d_Moment_settleTime_1 (by decide) ?_
  refine lv_idiv hx hb d_Moment_settleTime_4 (by decide) ?_
  refine lv_istore_n hx hb d_Moment_settleTime_5 rfl hl (by decide) rfl (fun ls hl => ?_)
  have hl : lv_has ls 3 [(2, .int (x1 / (3600 : Int32))), (0, .ref a_t), (1, .int x1)] := hl
  refine lv_aload_n hx hb d_Moment_settleTime_6 rfl (lv_at hl 1 rfl) ?_
  refine k_get S X us_Moment hP 0 rfl rfl 0 (by decide) gm_1_178 rfl d_Moment_settleTime_7 ?_
  refine lv_bipush (v := (7 : Int32)) hx hb d_Moment_settleTime_10 (by decide) ?_
  refine lv_iload_n hx hb d_Moment_settleTime_12 rfl (lv_at hl 0 rfl) ?_
  refine va_iast hx hb X.1 hP hD hS 1 0 rfl rfl (show ¬ ((7 : Int32) < 0 ∨ 14 ≤ ((7 : Int32)).toNatClampNeg) by decide) d_Moment_settleTime_13 (fun H locs hP hD hS => ?_)
  have hP : va_P D classes [(a_t, .inr (5, [.ref a_t_values, .long t_seconds, .int t_parts])), (a_t_values, .inl (kk 0, 14, .inl (upd t_values ((7 : Int32)).toNatClampNeg (x1 / (3600 : Int32)))))] H := hP
  have hD : va_D A [(a_t, .inr (5, [.ref a_t_values, .long t_seconds, .int t_parts])), (a_t_values, .inl (kk 0, 14, .inl (upd t_values ((7 : Int32)).toNatClampNeg (x1 / (3600 : Int32)))))] := hD
  refine lv_aload_n hx hb d_Moment_settleTime_14 rfl (lv_at hl 1 rfl) ?_
  refine k_get S X us_Moment hP 0 rfl rfl 0 (by decide) gm_1_178 rfl d_Moment_settleTime_15 ?_
  refine lv_bipush (v := (8 : Int32)) hx hb d_Moment_settleTime_18 (by decide) ?_
  refine lv_iload_n hx hb d_Moment_settleTime_20 rfl (lv_at hl 0 rfl) ?_
  refine lv_bipush (v := (12 : Int32)) hx hb d_Moment_settleTime_21 (by decide) ?_
  refine lv_irem hx hb d_Moment_settleTime_23 (by decide) ?_
  refine lv_if_ne (tgt := 32) hx hb d_Moment_settleTime_24 rfl (fun hc => ?_) (fun hc => ?_)
  · have he := ih_f hc he
    refine lv_iload_n hx hb d_Moment_settleTime_32 rfl (lv_at hl 0 rfl) ?_
    refine lv_bipush (v := (12 : Int32)) hx hb d_Moment_settleTime_33 (by decide) ?_
    refine lv_irem hx hb d_Moment_settleTime_35 (by decide) ?_
    have hl : lv_has ls 3 [(0, .ref a_t), (1, .int x1), (2, .int (x1 / (3600 : Int32)))] := lv_sub hl [1, 2, 0] rfl
    exact w_Moment_settleTime_36 a_t a_t_values t_seconds t_parts (upd t_values ((7 : Int32)).toNatClampNeg (x1 / (3600 : Int32))) x1 (x1 / (3600 : Int32)) (8 : Int32) ((x1 / (3600 : Int32)) - (x1 / (3600 : Int32)) / (12 : Int32) * (12 : Int32)) o S hr hlk hA X _ _ ls he hl hP hD hS
  · have he := ih_t hc he
    refine lv_bipush (v := (12 : Int32)) hx hb d_Moment_settleTime_27 (by decide) ?_
    refine lv_goto (tgt := 36) hx hb d_Moment_settleTime_29 rfl ?_
    have hl : lv_has ls 3 [(0, .ref a_t), (1, .int x1), (2, .int (x1 / (3600 : Int32)))] := lv_sub hl [1, 2, 0] rfl
    exact w_Moment_settleTime_36 a_t a_t_values t_seconds t_parts (upd t_values ((7 : Int32)).toNatClampNeg (x1 / (3600 : Int32))) x1 (x1 / (3600 : Int32)) (8 : Int32) (12 : Int32) o S hr hlk hA X _ _ ls he hl hP hD hS
abbrev rm_Moment_settle : Room := { frames := 4, cells := 0, slots := 0, locals := 103 }
set_option maxHeartbeats 4000000 in
set_option maxRecDepth 100000 in
theorem c_Moment_settle (l : Launch) (D : va_G) (kk : Nat → ClassId) (st : Nat → Nat) (a_t a_t_values : Nat) (sz : Nat) (t_seconds : Int64) (t_parts : Int32) (t_values : Nat → Int32) (x1 : Int64) (x3 : Int32) (x4 : Int32) (x5 : Int32) (o : Int64 × Int32 × (Nat → Int32)) (he : f_Moment_settle t_seconds t_parts t_values x1 x3 x4 x5 = some o) : Met l y_Moment_settle (Cond.code y_Moment_settle b_Moment_settle 8 none :: GW) rm_Moment_settle (KPc D kk st [.ref a_t, .long x1, .int x3, .int x4, .int x5] [(a_t, .inr (5, [.ref a_t_values, .long t_seconds, .int t_parts])), (a_t_values, .inl (kk 0, 14, .inl t_values))] sz) (KQv D kk [(a_t, .inr (5, [.ref a_t_values, .long o.1, .int o.2.1])), (a_t_values, .inl (kk 0, 14, .inl o.2.2))] (va_A [(a_t, .inr (5, [.ref a_t_values, .long t_seconds, .int t_parts])), (a_t_values, .inl (kk 0, 14, .inl t_values))] sz)) 0 0 (va_A [(a_t, .inr (5, [.ref a_t_values, .long t_seconds, .int t_parts])), (a_t_values, .inl (kk 0, 14, .inl t_values))] sz) := by
  refine k_start (Qc := fun A => KQv D kk [(a_t, .inr (5, [.ref a_t_values, .long o.1, .int o.2.1])), (a_t_values, .inl (kk 0, 14, .inl o.2.2))] A) (by decide) (Nat.le_of_ble_eq_true rfl) ?_
  intro p e s m below meth c A ls S hnm hr hlk hA X hP hD hS hl
  have hl : lv_has ls 8 [(0, .ref a_t), (1, .long x1), (3, .int x3), (4, .int x4), (5, .int x5)] := hl
  have hx := S.1
  have hb := S.2.1
  unfold f_Moment_settle at he
  refine lv_aload_n hx hb d_Moment_settle_0 rfl (lv_at hl 0 rfl) ?_
  refine lv_lload_n hx hb d_Moment_settle_1 rfl (lv_at hl 1 rfl) ?_
  refine k_put S X us_Moment t_Moment t_Moment_ok n_Moment hP hD hS 0 rfl rfl 1 (by decide) gm_1_179 rfl rfl rfl (Nat.le_of_ble_eq_true rfl) d_Moment_settle_2 (fun H locs hP hD hS => ?_)
  have hP : va_P D classes [(a_t, .inr (5, [.ref a_t_values, .long x1, .int t_parts])), (a_t_values, .inl (kk 0, 14, .inl t_values))] H := hP
  have hD : va_D A [(a_t, .inr (5, [.ref a_t_values, .long x1, .int t_parts])), (a_t_values, .inl (kk 0, 14, .inl t_values))] := hD
  refine lv_aload_n hx hb d_Moment_settle_5 rfl (lv_at hl 0 rfl) ?_
  refine lv_iload hx hb d_Moment_settle_6 (lv_at hl 4 rfl) ?_
  refine k_put S X us_Moment t_Moment t_Moment_ok n_Moment hP hD hS 0 rfl rfl 2 (by decide) gm_1_181 rfl rfl rfl (Nat.le_of_ble_eq_true rfl) d_Moment_settle_8 (fun H locs hP hD hS => ?_)
  have hP : va_P D classes [(a_t, .inr (5, [.ref a_t_values, .long x1, .int x5])), (a_t_values, .inl (kk 0, 14, .inl t_values))] H := hP
  have hD : va_D A [(a_t, .inr (5, [.ref a_t_values, .long x1, .int x5])), (a_t_values, .inl (kk 0, 14, .inl t_values))] := hD
  refine lv_lload_n hx hb d_Moment_settle_11 rfl (lv_at hl 1 rfl) ?_
  refine lv_ldc2 (v := (60 : Int64)) hx hb S.2.2.2.1 (S.2.2.2.2 _ gm_1_213) d_Moment_settle_12 ?_
  refine lv_iload hx hb d_Moment_settle_15 (lv_at hl 3 rfl) ?_
  refine lv_i2l hx hb d_Moment_settle_17 rfl ?_
  refine lv_lmul hx hb d_Moment_settle_18 ?_
  refine lv_ladd hx hb d_Moment_settle_19 ?_
  refine lv_lstore hx hb d_Moment_settle_20 hl (by decide) rfl (fun ls hl => ?_)
  have hl : lv_has ls 8 [(6, .long (x1 + ((60 : Int64) * (Int32.toInt64 x4)))), (0, .ref a_t), (1, .long x1), (3, .int x3), (4, .int x4), (5, .int x5)] := hl
  refine lv_aload_n hx hb d_Moment_settle_22 rfl (lv_at hl 1 rfl) ?_
  refine lv_lload hx hb d_Moment_settle_23 (lv_at hl 0 rfl) ?_
  refine lv_ldc2 (v := (86400 : Int64)) hx hb S.2.2.2.1 (S.2.2.2.2 _ gm_1_214) d_Moment_settle_25 ?_
  obtain ⟨u1, e2, he⟩ := ih_b he
  refine k_lo (r_S (As := [.long (x1 + ((60 : Int64) * (Int32.toInt64 x4))), .long (86400 : Int64)]) S X hA hP hD hS (c_Math_floorDiv_JJ l D kk st _ (x1 + ((60 : Int64) * (Int32.toInt64 x4))) (86400 : Int64) u1 e2) gm_1_217 gm_1_215 gm_1_216 gm_1_11 ⟨rfl, rfl, by decide, by decide⟩ kd_Math_floorDiv_JJ [] rfl rfl rfl rfl hl.1 rfl (Nat.le_of_ble_eq_true rfl) d_Moment_settle_28 ⟨Nat.zero_le _, Nat.zero_le _⟩) hA hP hD hS [] rfl (fun H locs hP hS => ?_)
  obtain ⟨u3, e4, he⟩ := ih_b he
  refine k_v (wr := []) (w1 := [(a_t, .inr (5, [.ref a_t_values, .long x1, .int x5])), (a_t_values, .inl (kk 0, 14, .inl u3))]) (w2 := [(a_t, .inr (5, [.ref a_t_values, .long x1, .int x5])), (a_t_values, .inl (kk 0, 14, .inl u3))]) (r_V (As := [.long u1]) S X hA hP hD hS (c_Moment_settleDate l D kk st a_t a_t_values _ x1 x5 t_values u1 u3 e4) gm_1_221 gm_1_218 gm_1_220 gm_p1_0 gm_1_10 ⟨rfl, rfl, by decide, by decide⟩ kd_Moment_settleDate [0, 1] rfl rfl rfl 0 5 rfl rfl rfl rfl hl.1 rfl (Nat.le_of_ble_eq_true rfl) d_Moment_settle_31 ⟨Nat.zero_le _, Nat.zero_le _⟩) hA hP hD hS [0, 1] [] [0, 1] rfl rfl rfl (by decide) rfl rfl rfl (fun H locs hP hD hS => ?_)
  refine lv_aload_n hx hb d_Moment_settle_34 rfl (lv_at hl 1 rfl) ?_
  refine lv_lload hx hb d_Moment_settle_35 (lv_at hl 0 rfl) ?_
  refine lv_ldc2 (v := (86400 : Int64)) hx hb S.2.2.2.1 (S.2.2.2.2 _ gm_1_214) d_Moment_settle_37 ?_
  obtain ⟨u5, e6, he⟩ := ih_b he
  refine k_lo (r_S (As := [.long (x1 + ((60 : Int64) * (Int32.toInt64 x4))), .long (86400 : Int64)]) S X hA hP hD hS (c_Math_floorMod_JJ l D kk st _ (x1 + ((60 : Int64) * (Int32.toInt64 x4))) (86400 : Int64) u5 e6) gm_2_12 gm_2_14 gm_2_11 gm_1_11 ⟨rfl, rfl, by decide, by decide⟩ kd_Math_floorMod_JJ [] rfl rfl rfl rfl hl.1 rfl (Nat.le_of_ble_eq_true rfl) d_Moment_settle_40 ⟨Nat.zero_le _, Nat.zero_le _⟩) hA hP hD hS [] rfl (fun H locs hP hS => ?_)
  refine lv_l2i hx hb d_Moment_settle_43 rfl ?_
  obtain ⟨u7, e8, he⟩ := ih_b he
  refine k_v (wr := []) (w1 := [(a_t, .inr (5, [.ref a_t_values, .long x1, .int x5])), (a_t_values, .inl (kk 0, 14, .inl u7))]) (w2 := [(a_t, .inr (5, [.ref a_t_values, .long x1, .int x5])), (a_t_values, .inl (kk 0, 14, .inl u7))]) (r_V (As := [.int (Int64.toInt32 u5)]) S X hA hP hD hS (c_Moment_settleTime l D kk st a_t a_t_values _ x1 x5 u3 (Int64.toInt32 u5) u7 e8) gm_2_18 gm_2_15 gm_2_17 gm_p1_1 gm_1_10 ⟨rfl, rfl, by decide, by decide⟩ kd_Moment_settleTime [0, 1] rfl rfl rfl 0 5 rfl rfl rfl rfl hl.1 rfl (Nat.le_of_ble_eq_true rfl) d_Moment_settle_44 ⟨Nat.zero_le _, Nat.zero_le _⟩) hA hP hD hS [0, 1] [] [0, 1] rfl rfl rfl (by decide) rfl rfl rfl (fun H locs hP hD hS => ?_)
  refine lv_aload_n hx hb d_Moment_settle_47 rfl (lv_at hl 1 rfl) ?_
  refine k_get S X us_Moment hP 0 rfl rfl 0 (by decide) gm_1_178 rfl d_Moment_settle_48 ?_
  refine lv_bipush (v := (12 : Int32)) hx hb d_Moment_settle_51 (by decide) ?_
  refine lv_iload_n hx hb d_Moment_settle_53 rfl (lv_at hl 3 rfl) ?_
  refine va_iast hx hb X.1 hP hD hS 1 0 rfl rfl (show ¬ ((12 : Int32) < 0 ∨ 14 ≤ ((12 : Int32)).toNatClampNeg) by decide) d_Moment_settle_54 (fun H locs hP hD hS => ?_)
  have hP : va_P D classes [(a_t, .inr (5, [.ref a_t_values, .long x1, .int x5])), (a_t_values, .inl (kk 0, 14, .inl (upd u7 ((12 : Int32)).toNatClampNeg x3)))] H := hP
  have hD : va_D A [(a_t, .inr (5, [.ref a_t_values, .long x1, .int x5])), (a_t_values, .inl (kk 0, 14, .inl (upd u7 ((12 : Int32)).toNatClampNeg x3)))] := hD
  refine lv_aload_n hx hb d_Moment_settle_55 rfl (lv_at hl 1 rfl) ?_
  refine k_get S X us_Moment hP 0 rfl rfl 0 (by decide) gm_1_178 rfl d_Moment_settle_56 ?_
  refine lv_bipush (v := (13 : Int32)) hx hb d_Moment_settle_59 (by decide) ?_
  refine lv_iload hx hb d_Moment_settle_61 (lv_at hl 4 rfl) ?_
  refine va_iast hx hb X.1 hP hD hS 1 0 rfl rfl (show ¬ ((13 : Int32) < 0 ∨ 14 ≤ ((13 : Int32)).toNatClampNeg) by decide) d_Moment_settle_63 (fun H locs hP hD hS => ?_)
  have hP : va_P D classes [(a_t, .inr (5, [.ref a_t_values, .long x1, .int x5])), (a_t_values, .inl (kk 0, 14, .inl (upd (upd u7 ((12 : Int32)).toNatClampNeg x3) ((13 : Int32)).toNatClampNeg x4)))] H := hP
  have hD : va_D A [(a_t, .inr (5, [.ref a_t_values, .long x1, .int x5])), (a_t_values, .inl (kk 0, 14, .inl (upd (upd u7 ((12 : Int32)).toNatClampNeg x3) ((13 : Int32)).toNatClampNeg x4)))] := hD
  cases he
  exact k_vre hx hb hr hlk X hP hD hS d_Moment_settle_64
abbrev rm_Moment_value : Room := { frames := 0, cells := 0, slots := 0, locals := 0 }
set_option maxHeartbeats 4000000 in
set_option maxRecDepth 100000 in
theorem c_Moment_value (l : Launch) (D : va_G) (kk : Nat → ClassId) (st : Nat → Nat) (a_t a_t_values : Nat) (sz : Nat) (t_seconds : Int64) (t_parts : Int32) (t_values : Nat → Int32) (x1 : Int32) (o : Int32) (he : f_Moment_value t_values x1 = some o) : Met l y_Moment_value (Cond.code y_Moment_value b_Moment_value 2 (some .int) :: GW) rm_Moment_value (KPc D kk st [.ref a_t, .int x1] [(a_t, .inr (5, [.ref a_t_values, .long t_seconds, .int t_parts])), (a_t_values, .inl (kk 0, 14, .inl t_values))] sz) (KQi D kk o [(a_t, .inr (5, [.ref a_t_values, .long t_seconds, .int t_parts])), (a_t_values, .inl (kk 0, 14, .inl t_values))] (va_A [(a_t, .inr (5, [.ref a_t_values, .long t_seconds, .int t_parts])), (a_t_values, .inl (kk 0, 14, .inl t_values))] sz)) 0 0 (va_A [(a_t, .inr (5, [.ref a_t_values, .long t_seconds, .int t_parts])), (a_t_values, .inl (kk 0, 14, .inl t_values))] sz) := by
  refine k_start (Qc := fun A => KQi D kk o [(a_t, .inr (5, [.ref a_t_values, .long t_seconds, .int t_parts])), (a_t_values, .inl (kk 0, 14, .inl t_values))] A) (by decide) (Nat.le_of_ble_eq_true rfl) ?_
  intro p e s m below meth c A ls S hnm hr hlk hA X hP hD hS hl
  have hl : lv_has ls 2 [(0, .ref a_t), (1, .int x1)] := hl
  have hx := S.1
  have hb := S.2.1
  unfold f_Moment_value at he
  refine lv_iload_n hx hb d_Moment_value_0 rfl (lv_at hl 1 rfl) ?_
  refine lv_if_lt (tgt := 19) hx hb d_Moment_value_1 rfl (fun hc => ?_) (fun hc => ?_)
  · have he := ih_t hc he
    refine lv_iconst (v := (-1 : Int32)) hx hb d_Moment_value_19 (by decide) ?_
    cases he
    exact k_ire hx hb hr hlk X hP hD hS d_Moment_value_20
  · have he := ih_f hc he
    refine lv_iload_n hx hb d_Moment_value_4 rfl (lv_at hl 1 rfl) ?_
    refine lv_bipush (v := (14 : Int32)) hx hb d_Moment_value_5 (by decide) ?_
    refine lv_icmp_ge (tgt := 19) hx hb d_Moment_value_7 rfl (fun hc => ?_) (fun hc => ?_)
    · have he := ih_t hc he
      refine lv_iconst (v := (-1 : Int32)) hx hb d_Moment_value_19 (by decide) ?_
      cases he
      exact k_ire hx hb hr hlk X hP hD hS d_Moment_value_20
    · have he := ih_f hc he
      refine lv_aload_n hx hb d_Moment_value_10 rfl (lv_at hl 0 rfl) ?_
      refine k_get S X us_Moment hP 0 rfl rfl 0 (by decide) gm_1_178 rfl d_Moment_value_11 ?_
      refine lv_iload_n hx hb d_Moment_value_14 rfl (lv_at hl 1 rfl) ?_
      obtain ⟨hi1, he⟩ := ih_g he
      refine va_iald hx hb X.1 hP 1 0 rfl rfl hi1 d_Moment_value_15 ?_
      refine lv_goto (tgt := 20) hx hb d_Moment_value_16 rfl ?_
      cases he
      exact k_ire hx hb hr hlk X hP hD hS d_Moment_value_20
abbrev rm_Moment_become : Room := { frames := 5, cells := 0, slots := 0, locals := 130 }
set_option maxHeartbeats 4000000 in
set_option maxRecDepth 100000 in
theorem c_Moment_become (l : Launch) (D : va_G) (kk : Nat → ClassId) (st : Nat → Nat) (a_t a_t_values a_q1 a_q1_values : Nat) (sz : Nat) (t_seconds : Int64) (t_parts : Int32) (t_values : Nat → Int32) (q1_seconds : Int64) (q1_parts : Int32) (q1_values : Nat → Int32) (o : Int64 × Int32 × (Nat → Int32)) (he : f_Moment_become t_seconds t_parts t_values q1_seconds q1_parts q1_values = some o) : Met l y_Moment_become (Cond.code y_Moment_become b_Moment_become 2 none :: GW) rm_Moment_become (KPc D kk st [.ref a_t, .ref a_q1] [(a_t, .inr (5, [.ref a_t_values, .long t_seconds, .int t_parts])), (a_t_values, .inl (kk 0, 14, .inl t_values)), (a_q1, .inr (5, [.ref a_q1_values, .long q1_seconds, .int q1_parts])), (a_q1_values, .inl (kk 0, 14, .inl q1_values))] sz) (KQv D kk [(a_t, .inr (5, [.ref a_t_values, .long o.1, .int o.2.1])), (a_t_values, .inl (kk 0, 14, .inl o.2.2)), (a_q1, .inr (5, [.ref a_q1_values, .long q1_seconds, .int q1_parts])), (a_q1_values, .inl (kk 0, 14, .inl q1_values))] (va_A [(a_t, .inr (5, [.ref a_t_values, .long t_seconds, .int t_parts])), (a_t_values, .inl (kk 0, 14, .inl t_values)), (a_q1, .inr (5, [.ref a_q1_values, .long q1_seconds, .int q1_parts])), (a_q1_values, .inl (kk 0, 14, .inl q1_values))] sz)) 0 0 (va_A [(a_t, .inr (5, [.ref a_t_values, .long t_seconds, .int t_parts])), (a_t_values, .inl (kk 0, 14, .inl t_values)), (a_q1, .inr (5, [.ref a_q1_values, .long q1_seconds, .int q1_parts])), (a_q1_values, .inl (kk 0, 14, .inl q1_values))] sz) := by
  refine k_start (Qc := fun A => KQv D kk [(a_t, .inr (5, [.ref a_t_values, .long o.1, .int o.2.1])), (a_t_values, .inl (kk 0, 14, .inl o.2.2)), (a_q1, .inr (5, [.ref a_q1_values, .long q1_seconds, .int q1_parts])), (a_q1_values, .inl (kk 0, 14, .inl q1_values))] A) (by decide) (Nat.le_of_ble_eq_true rfl) ?_
  intro p e s m below meth c A ls S hnm hr hlk hA X hP hD hS hl
  have hl : lv_has ls 2 [(0, .ref a_t), (1, .ref a_q1)] := hl
  have hx := S.1
  have hb := S.2.1
  unfold f_Moment_become at he
  refine lv_aload_n hx hb d_Moment_become_0 rfl (lv_at hl 0 rfl) ?_
  refine lv_aload_n hx hb d_Moment_become_1 rfl (lv_at hl 1 rfl) ?_
  refine k_get S X us_Moment hP 2 rfl rfl 1 (by decide) gm_1_179 rfl d_Moment_become_2 ?_
  refine lv_aload_n hx hb d_Moment_become_5 rfl (lv_at hl 1 rfl) ?_
  refine lv_bipush (v := (12 : Int32)) hx hb d_Moment_become_6 (by decide) ?_
  obtain ⟨u1, e2, he⟩ := ih_b he
  refine k_io (r_V (As := [.int (12 : Int32)]) S X hA hP hD hS (c_Moment_value l D kk st a_q1 a_q1_values _ q1_seconds q1_parts q1_values (12 : Int32) u1 e2) gm_3_37 gm_4_102 gm_3_35 gm_3_36 gm_1_10 ⟨rfl, rfl, by decide, by decide⟩ kd_Moment_value [2, 3] rfl rfl rfl 2 5 rfl rfl rfl rfl hl.1 rfl (Nat.le_of_ble_eq_true rfl) d_Moment_become_8 ⟨Nat.zero_le _, Nat.zero_le _⟩) hA hP hD hS [2, 3] rfl (fun H locs hP hS => ?_)
  refine lv_aload_n hx hb d_Moment_become_11 rfl (lv_at hl 1 rfl) ?_
  refine lv_bipush (v := (13 : Int32)) hx hb d_Moment_become_12 (by decide) ?_
  obtain ⟨u3, e4, he⟩ := ih_b he
  refine k_io (r_V (As := [.int (13 : Int32)]) S X hA hP hD hS (c_Moment_value l D kk st a_q1 a_q1_values _ q1_seconds q1_parts q1_values (13 : Int32) u3 e4) gm_3_37 gm_4_102 gm_3_35 gm_3_36 gm_1_10 ⟨rfl, rfl, by decide, by decide⟩ kd_Moment_value [2, 3] rfl rfl rfl 2 5 rfl rfl rfl rfl hl.1 rfl (Nat.le_of_ble_eq_true rfl) d_Moment_become_14 ⟨Nat.zero_le _, Nat.zero_le _⟩) hA hP hD hS [2, 3] rfl (fun H locs hP hS => ?_)
  refine lv_aload_n hx hb d_Moment_become_17 rfl (lv_at hl 1 rfl) ?_
  refine k_get S X us_Moment hP 2 rfl rfl 2 (by decide) gm_1_181 rfl d_Moment_become_18 ?_
  obtain ⟨u5, e6, he⟩ := ih_b he
  refine k_v (wr := [(a_q1, .inr (5, [.ref a_q1_values, .long q1_seconds, .int q1_parts])), (a_q1_values, .inl (kk 0, 14, .inl q1_values))]) (w1 := [(a_t, .inr (5, [.ref a_t_values, .long u5.1, .int u5.2.1])), (a_t_values, .inl (kk 0, 14, .inl u5.2.2))]) (w2 := [(a_t, .inr (5, [.ref a_t_values, .long u5.1, .int u5.2.1])), (a_t_values, .inl (kk 0, 14, .inl u5.2.2)), (a_q1, .inr (5, [.ref a_q1_values, .long q1_seconds, .int q1_parts])), (a_q1_values, .inl (kk 0, 14, .inl q1_values))]) (r_V (As := [.long q1_seconds, .int u1, .int u3, .int q1_parts]) S X hA hP hD hS (c_Moment_settle l D kk st a_t a_t_values _ t_seconds t_parts t_values q1_seconds u1 u3 q1_parts u5 e6) gm_1_212 gm_4_103 gm_1_210 gm_1_211 gm_1_10 ⟨rfl, rfl, by decide, by decide⟩ kd_Moment_settle [0, 1] rfl rfl rfl 0 5 rfl rfl rfl rfl hl.1 rfl (Nat.le_of_ble_eq_true rfl) d_Moment_become_21 ⟨Nat.zero_le _, Nat.zero_le _⟩) hA hP hD hS [0, 1] [2, 3] [2, 3, 0, 1] rfl rfl rfl (by decide) rfl rfl rfl (fun H locs hP hD hS => ?_)
  cases he
  exact k_vre hx hb hr hlk X hP hD hS d_Moment_become_24
abbrev rm_SkeletonClock_partOf : Room := { frames := 0, cells := 0, slots := 0, locals := 0 }
set_option maxHeartbeats 4000000 in
set_option maxRecDepth 100000 in
theorem c_SkeletonClock_partOf (l : Launch) (D : va_G) (kk : Nat → ClassId) (st : Nat → Nat) (sz : Nat) (x0 : Int32) (o : Int32) (he : f_SkeletonClock_partOf x0 = some o) : Met l y_SkeletonClock_partOf (Cond.code y_SkeletonClock_partOf b_SkeletonClock_partOf 1 (some .int) :: GW) rm_SkeletonClock_partOf (KPc D kk st [.int x0] [] sz) (KQi D kk o [] (va_A [] sz)) 0 0 (va_A [] sz) := by
  refine k_start (Qc := fun A => KQi D kk o [] A) (by decide) (Nat.le_of_ble_eq_true rfl) ?_
  intro p e s m below meth c A ls S hnm hr hlk hA X hP hD hS hl
  have hl : lv_has ls 1 [(0, .int x0)] := hl
  have hx := S.1
  have hb := S.2.1
  unfold f_SkeletonClock_partOf at he
  refine lv_iload_n hx hb d_SkeletonClock_partOf_0 rfl (lv_at hl 0 rfl) ?_
  refine lv_bipush (v := (6 : Int32)) hx hb d_SkeletonClock_partOf_1 (by decide) ?_
  refine lv_icmp_gt (tgt := 8) hx hb d_SkeletonClock_partOf_3 rfl (fun hc => ?_) (fun hc => ?_)
  · have he := ih_t hc he
    refine lv_iload_n hx hb d_SkeletonClock_partOf_8 rfl (lv_at hl 0 rfl) ?_
    refine lv_bipush (v := (12 : Int32)) hx hb d_SkeletonClock_partOf_9 (by decide) ?_
    refine lv_icmp_gt (tgt := 18) hx hb d_SkeletonClock_partOf_11 rfl (fun hc => ?_) (fun hc => ?_)
    · have he := ih_t hc he
      refine lv_iconst (v := (4 : Int32)) hx hb d_SkeletonClock_partOf_18 (by decide) ?_
      cases he
      exact k_ire hx hb hr hlk X hP hD hS d_SkeletonClock_partOf_19
    · have he := ih_f hc he
      refine lv_iconst (v := (2 : Int32)) hx hb d_SkeletonClock_partOf_14 (by decide) ?_
      refine lv_goto (tgt := 19) hx hb d_SkeletonClock_partOf_15 rfl ?_
      cases he
      exact k_ire hx hb hr hlk X hP hD hS d_SkeletonClock_partOf_19
  · have he := ih_f hc he
    refine lv_iconst (v := (1 : Int32)) hx hb d_SkeletonClock_partOf_6 (by decide) ?_
    cases he
    exact k_ire hx hb hr hlk X hP hD hS d_SkeletonClock_partOf_7
abbrev rm_Moment_has : Room := { frames := 1, cells := 0, slots := 0, locals := 20 }
set_option maxHeartbeats 4000000 in
set_option maxRecDepth 100000 in
theorem c_Moment_has (l : Launch) (D : va_G) (kk : Nat → ClassId) (st : Nat → Nat) (a_t a_t_values : Nat) (sz : Nat) (t_seconds : Int64) (t_parts : Int32) (x1 : Int32) (o : Int32) (he : f_Moment_has t_parts x1 = some o) : Met l y_Moment_has (Cond.code y_Moment_has b_Moment_has 2 (some .boolean) :: GW) rm_Moment_has (KPc D kk st [.ref a_t, .int x1] [(a_t, .inr (5, [.ref a_t_values, .long t_seconds, .int t_parts]))] sz) (KQi D kk o [(a_t, .inr (5, [.ref a_t_values, .long t_seconds, .int t_parts]))] (va_A [(a_t, .inr (5, [.ref a_t_values, .long t_seconds, .int t_parts]))] sz)) 0 0 (va_A [(a_t, .inr (5, [.ref a_t_values, .long t_seconds, .int t_parts]))] sz) := by
  refine k_start (Qc := fun A => KQi D kk o [(a_t, .inr (5, [.ref a_t_values, .long t_seconds, .int t_parts]))] A) (by decide) (Nat.le_of_ble_eq_true rfl) ?_
  intro p e s m below meth c A ls S hnm hr hlk hA X hP hD hS hl
  have hl : lv_has ls 2 [(0, .ref a_t), (1, .int x1)] := hl
  have hx := S.1
  have hb := S.2.1
  unfold f_Moment_has at he
  refine lv_aload_n hx hb d_Moment_has_0 rfl (lv_at hl 0 rfl) ?_
  refine k_get S X us_Moment hP 0 rfl rfl 2 (by decide) gm_1_181 rfl d_Moment_has_1 ?_
  refine lv_iload_n hx hb d_Moment_has_4 rfl (lv_at hl 1 rfl) ?_
  obtain ⟨u1, e2, he⟩ := ih_b he
  refine k_io (r_SN (As := [.int x1]) S X hA hP hD hS (c_SkeletonClock_partOf l D kk st _ x1 u1 e2) gm_3_71 gm_3_69 gm_3_70 gm_1_1 ⟨rfl, rfl, by decide, by decide⟩ kd_SkeletonClock_partOf [] rfl rfl rfl rfl hl.1 rfl (Nat.le_of_ble_eq_true rfl) d_Moment_has_5 ⟨Nat.zero_le _, Nat.zero_le _⟩) hA hP hD hS [] rfl (fun H locs hP hS => ?_)
  refine lv_iand hx hb d_Moment_has_8 ?_
  refine lv_if_eq (tgt := 16) hx hb d_Moment_has_9 rfl (fun hc => ?_) (fun hc => ?_)
  · have he := ih_t hc he
    refine lv_iconst (v := (0 : Int32)) hx hb d_Moment_has_16 (by decide) ?_
    cases he
    exact k_zre hx hb hr hlk X hP hD hS (Or.inl rfl) d_Moment_has_17
  · have he := ih_f hc he
    refine lv_iconst (v := (1 : Int32)) hx hb d_Moment_has_12 (by decide) ?_
    refine lv_goto (tgt := 17) hx hb d_Moment_has_13 rfl ?_
    cases he
    exact k_zre hx hb hr hlk X hP hD hS (Or.inr rfl) d_Moment_has_17
