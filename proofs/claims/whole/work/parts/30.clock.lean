abbrev b_SkeletonClock_type : ByteArray := prog_1_method_2_code
def y_SkeletonClock_type : MethodName := ⟨"SkeletonClock", "type", "(C)Z"⟩
theorem kd_SkeletonClock_type : kd_ok y_SkeletonClock_type 1 := by decide +kernel
abbrev b_SkeletonClock_distance : ByteArray := prog_1_method_5_code
def y_SkeletonClock_distance : MethodName := ⟨"SkeletonClock", "distance", "()I"⟩
theorem kd_SkeletonClock_distance : kd_ok y_SkeletonClock_distance 0 := by decide +kernel
abbrev b_SkeletonClock_isYear : ByteArray := prog_1_method_18_code
def y_SkeletonClock_isYear : MethodName := ⟨"SkeletonClock", "isYear", "(J)Z"⟩
theorem kd_SkeletonClock_isYear : kd_ok y_SkeletonClock_isYear 1 := by decide +kernel
abbrev b_SkeletonClock_moment : ByteArray := prog_1_method_6_code
def y_SkeletonClock_moment : MethodName := ⟨"SkeletonClock", "moment", "(JIII)Z"⟩
theorem kd_SkeletonClock_moment : kd_ok y_SkeletonClock_moment 4 := by decide +kernel
abbrev b_SkeletonClock_field : ByteArray := prog_1_method_7_code
def y_SkeletonClock_field : MethodName := ⟨"SkeletonClock", "field", "(C)I"⟩
theorem kd_SkeletonClock_field : kd_ok y_SkeletonClock_field 1 := by decide +kernel
abbrev b_SkeletonClock_charAt : ByteArray := prog_1_method_9_code
def y_SkeletonClock_charAt : MethodName := ⟨"SkeletonClock", "charAt", "(I)I"⟩
theorem kd_SkeletonClock_charAt : kd_ok y_SkeletonClock_charAt 1 := by decide +kernel
abbrev b_SkeletonClock_copy : ByteArray := prog_1_method_10_code
def y_SkeletonClock_copy : MethodName := ⟨"SkeletonClock", "copy", "()Z"⟩
theorem kd_SkeletonClock_copy : kd_ok y_SkeletonClock_copy 0 := by decide +kernel
abbrev b_SkeletonClock_parts : ByteArray := prog_1_method_12_code
def y_SkeletonClock_parts : MethodName := ⟨"SkeletonClock", "parts", "()I"⟩
theorem kd_SkeletonClock_parts : kd_ok y_SkeletonClock_parts 0 := by decide +kernel
abbrev b_SkeletonClock_seconds : ByteArray := prog_1_method_13_code
def y_SkeletonClock_seconds : MethodName := ⟨"SkeletonClock", "seconds", "()J"⟩
theorem kd_SkeletonClock_seconds : kd_ok y_SkeletonClock_seconds 0 := by decide +kernel
abbrev b_SkeletonClock_nano : ByteArray := prog_1_method_14_code
def y_SkeletonClock_nano : MethodName := ⟨"SkeletonClock", "nano", "()I"⟩
theorem kd_SkeletonClock_nano : kd_ok y_SkeletonClock_nano 0 := by decide +kernel
abbrev b_SkeletonClock_minutes : ByteArray := prog_1_method_15_code
def y_SkeletonClock_minutes : MethodName := ⟨"SkeletonClock", "minutes", "()I"⟩
theorem kd_SkeletonClock_minutes : kd_ok y_SkeletonClock_minutes 0 := by decide +kernel
abbrev b_SkeletonClock_take : ByteArray := prog_1_method_16_code
def y_SkeletonClock_take : MethodName := ⟨"SkeletonClock", "take", "()Z"⟩
theorem kd_SkeletonClock_take : kd_ok y_SkeletonClock_take 0 := by decide +kernel
abbrev b_SkeletonClock_isSlot : ByteArray := prog_1_method_17_code
def y_SkeletonClock_isSlot : MethodName := ⟨"SkeletonClock", "isSlot", "(I)Z"⟩
theorem kd_SkeletonClock_isSlot : kd_ok y_SkeletonClock_isSlot 1 := by decide +kernel
theorem gm_2_19 : Cond.fieldLink "SkeletonClock" (14 : Nat) "SkeletonClock" "text" "LSkeletonClock$Row;" ∈ GW := gw_2 (i := 19) rfl rfl
theorem gm_2_54 : Cond.methodLink "SkeletonClock" (73 : Nat) ({ cls := "SkeletonClock$Row", name := "put", desc := "(C)Z" } : MethodName) ∈ GW := gw_2 (i := 54) rfl rfl
theorem gm_2_28 : Cond.fieldLink "SkeletonClock" (65 : Nat) "SkeletonClock" "nearest" "I" ∈ GW := gw_2 (i := 28) rfl rfl
theorem gm_3_26 : Cond.constantLong "SkeletonClock" (186 : Nat) (-999999999 : Int64) ∈ GW := gw_3 (i := 26) rfl rfl
theorem gm_3_27 : Cond.constantLong "SkeletonClock" (188 : Nat) (999999999 : Int64) ∈ GW := gw_3 (i := 27) rfl rfl
theorem gm_3_19 : Cond.constantLong "SkeletonClock" (110 : Nat) (60 : Int64) ∈ GW := gw_3 (i := 19) rfl rfl
theorem gm_3_20 : Cond.constantLong "SkeletonClock" (112 : Nat) (86400 : Int64) ∈ GW := gw_3 (i := 20) rfl rfl
theorem gm_3_21 : Cond.methodLink "SkeletonClock" (114 : Nat) ({ cls := "java/lang/Math", name := "floorDiv", desc := "(JJ)J" } : MethodName) ∈ GW := gw_3 (i := 21) rfl rfl
theorem gm_3_22 : Cond.methodLink "SkeletonClock" (120 : Nat) ({ cls := "SkeletonClock$Days", name := "yearOf", desc := "(J)J" } : MethodName) ∈ GW := gw_3 (i := 22) rfl rfl
theorem gm_3_25 : Cond.code ({ cls := "SkeletonClock", name := "isYear", desc := "(J)Z" } : MethodName) prog_1_method_18_code (2 : Nat) (Option.some FieldType.boolean) ∈ GW := gw_3 (i := 25) rfl rfl
theorem gm_3_23 : Cond.methodLink "SkeletonClock" (126 : Nat) ({ cls := "SkeletonClock", name := "isYear", desc := "(J)Z" } : MethodName) ∈ GW := gw_3 (i := 23) rfl rfl
theorem gm_3_24 : Cond.static ({ cls := "SkeletonClock", name := "isYear", desc := "(J)Z" } : MethodName) ∈ GW := gw_3 (i := 24) rfl rfl
theorem gm_2_26 : Cond.fieldLink "SkeletonClock" (58 : Nat) "SkeletonClock" "now" "LSkeletonClock$Moment;" ∈ GW := gw_2 (i := 26) rfl rfl
theorem gm_1_209 : Cond.methodLink "SkeletonClock" (69 : Nat) ({ cls := "SkeletonClock$Moment", name := "settle", desc := "(JIII)V" } : MethodName) ∈ GW := gw_1 (i := 209) rfl rfl
theorem gm_3_16 : Cond.constant "SkeletonClock" (105 : Nat) (999999999 : Int32) ∈ GW := gw_3 (i := 16) rfl rfl
theorem gm_3_17 : Cond.constantLong "SkeletonClock" (106 : Nat) (-40000000000000000 : Int64) ∈ GW := gw_3 (i := 17) rfl rfl
theorem gm_3_18 : Cond.constantLong "SkeletonClock" (108 : Nat) (40000000000000000 : Int64) ∈ GW := gw_3 (i := 18) rfl rfl
theorem gm_3_33 : Cond.methodLink "SkeletonClock" (132 : Nat) ({ cls := "java/lang/String", name := "indexOf", desc := "(I)I" } : MethodName) ∈ GW := gw_3 (i := 33) rfl rfl
theorem gm_3_34 : Cond.methodLink "SkeletonClock" (138 : Nat) ({ cls := "SkeletonClock$Moment", name := "value", desc := "(I)I" } : MethodName) ∈ GW := gw_3 (i := 34) rfl rfl
theorem gm_2_20 : Cond.fieldLink "SkeletonClock" (18 : Nat) "SkeletonClock" "page" "LSkeletonClock$Row;" ∈ GW := gw_2 (i := 20) rfl rfl
theorem gm_3_167 : Cond.methodLink "SkeletonClock" (158 : Nat) ({ cls := "SkeletonClock$Row", name := "codeAt", desc := "(I)I" } : MethodName) ∈ GW := gw_3 (i := 167) rfl rfl
theorem gm_1_39 : Cond.fieldLink "SkeletonClock" (155 : Nat) "SkeletonClock$Row" "size" "I" ∈ GW := gw_1 (i := 39) rfl rfl
theorem gm_3_161 : Cond.code ({ cls := "SkeletonClock$Row", name := "become", desc := "(LSkeletonClock$Row;)V" } : MethodName) prog_11_method_4_code (3 : Nat) (Option.none : Option FieldType) ∈ GW := gw_3 (i := 161) rfl rfl
theorem gm_3_158 : Cond.methodLink "SkeletonClock" (152 : Nat) ({ cls := "SkeletonClock$Row", name := "become", desc := "(LSkeletonClock$Row;)V" } : MethodName) ∈ GW := gw_3 (i := 158) rfl rfl
theorem gm_3_159 : Cond.instanceMethod ({ cls := "SkeletonClock$Row", name := "become", desc := "(LSkeletonClock$Row;)V" } : MethodName) ∈ GW := gw_3 (i := 159) rfl rfl
theorem gm_3_160 : Cond.selects "SkeletonClock$Row" ({ cls := "SkeletonClock$Row", name := "become", desc := "(LSkeletonClock$Row;)V" } : MethodName) ({ cls := "SkeletonClock$Row", name := "become", desc := "(LSkeletonClock$Row;)V" } : MethodName) ∈ GW := gw_3 (i := 160) rfl rfl
theorem gm_2_27 : Cond.fieldLink "SkeletonClock" (62 : Nat) "SkeletonClock" "latest" "LSkeletonClock$Moment;" ∈ GW := gw_2 (i := 27) rfl rfl
theorem gm_1_182 : Cond.fieldLink "SkeletonClock" (179 : Nat) "SkeletonClock$Moment" "parts" "I" ∈ GW := gw_1 (i := 182) rfl rfl
theorem gm_1_180 : Cond.fieldLink "SkeletonClock" (182 : Nat) "SkeletonClock$Moment" "seconds" "J" ∈ GW := gw_1 (i := 180) rfl rfl
theorem gm_4_101 : Cond.code ({ cls := "SkeletonClock$Moment", name := "become", desc := "(LSkeletonClock$Moment;)V" } : MethodName) prog_4_method_5_code (2 : Nat) (Option.none : Option FieldType) ∈ GW := gw_4 (i := 101) rfl rfl
theorem gm_4_98 : Cond.methodLink "SkeletonClock" (176 : Nat) ({ cls := "SkeletonClock$Moment", name := "become", desc := "(LSkeletonClock$Moment;)V" } : MethodName) ∈ GW := gw_4 (i := 98) rfl rfl
theorem gm_4_99 : Cond.instanceMethod ({ cls := "SkeletonClock$Moment", name := "become", desc := "(LSkeletonClock$Moment;)V" } : MethodName) ∈ GW := gw_4 (i := 99) rfl rfl
theorem gm_4_100 : Cond.selects "SkeletonClock$Moment" ({ cls := "SkeletonClock$Moment", name := "become", desc := "(LSkeletonClock$Moment;)V" } : MethodName) ({ cls := "SkeletonClock$Moment", name := "become", desc := "(LSkeletonClock$Moment;)V" } : MethodName) ∈ GW := gw_4 (i := 100) rfl rfl
theorem d_SkeletonClock_type_0 : decode b_SkeletonClock_type 0 = .ok (.iload_n 1, 1) := by decide +kernel
theorem d_SkeletonClock_type_1 : decode b_SkeletonClock_type 1 = .ok (.bipush 32, 2) := by decide +kernel
theorem d_SkeletonClock_type_3 : decode b_SkeletonClock_type 3 = .ok (.if_icmp .lt 24, 3) := by decide +kernel
theorem d_SkeletonClock_type_6 : decode b_SkeletonClock_type 6 = .ok (.iload_n 1, 1) := by decide +kernel
theorem d_SkeletonClock_type_7 : decode b_SkeletonClock_type 7 = .ok (.bipush 126, 2) := by decide +kernel
theorem d_SkeletonClock_type_9 : decode b_SkeletonClock_type 9 = .ok (.if_icmp .gt 18, 3) := by decide +kernel
theorem d_SkeletonClock_type_12 : decode b_SkeletonClock_type 12 = .ok (.aload_n 0, 1) := by decide +kernel
theorem d_SkeletonClock_type_13 : decode b_SkeletonClock_type 13 = .ok (.getfield 14, 3) := by decide +kernel
theorem d_SkeletonClock_type_16 : decode b_SkeletonClock_type 16 = .ok (.iload_n 1, 1) := by decide +kernel
theorem d_SkeletonClock_type_17 : decode b_SkeletonClock_type 17 = .ok (.invokevirtual 73, 3) := by decide +kernel
theorem d_SkeletonClock_type_20 : decode b_SkeletonClock_type 20 = .ok (.ifCond .eq 7, 3) := by decide +kernel
theorem d_SkeletonClock_type_23 : decode b_SkeletonClock_type 23 = .ok (.iconst 1, 1) := by decide +kernel
theorem d_SkeletonClock_type_24 : decode b_SkeletonClock_type 24 = .ok (.goto 4, 3) := by decide +kernel
theorem d_SkeletonClock_type_27 : decode b_SkeletonClock_type 27 = .ok (.iconst 0, 1) := by decide +kernel
theorem d_SkeletonClock_type_28 : decode b_SkeletonClock_type 28 = .ok (.ireturn, 1) := by decide +kernel
theorem d_SkeletonClock_distance_0 : decode b_SkeletonClock_distance 0 = .ok (.aload_n 0, 1) := by decide +kernel
theorem d_SkeletonClock_distance_1 : decode b_SkeletonClock_distance 1 = .ok (.getfield 65, 3) := by decide +kernel
theorem d_SkeletonClock_distance_4 : decode b_SkeletonClock_distance 4 = .ok (.ireturn, 1) := by decide +kernel
theorem d_SkeletonClock_isYear_0 : decode b_SkeletonClock_isYear 0 = .ok (.lload_n 0, 1) := by decide +kernel
theorem d_SkeletonClock_isYear_1 : decode b_SkeletonClock_isYear 1 = .ok (.ldc2_w 186, 3) := by decide +kernel
theorem d_SkeletonClock_isYear_4 : decode b_SkeletonClock_isYear 4 = .ok (.lcmp, 1) := by decide +kernel
theorem d_SkeletonClock_isYear_5 : decode b_SkeletonClock_isYear 5 = .ok (.ifCond .lt 15, 3) := by decide +kernel
theorem d_SkeletonClock_isYear_8 : decode b_SkeletonClock_isYear 8 = .ok (.lload_n 0, 1) := by decide +kernel
theorem d_SkeletonClock_isYear_9 : decode b_SkeletonClock_isYear 9 = .ok (.ldc2_w 188, 3) := by decide +kernel
theorem d_SkeletonClock_isYear_12 : decode b_SkeletonClock_isYear 12 = .ok (.lcmp, 1) := by decide +kernel
theorem d_SkeletonClock_isYear_13 : decode b_SkeletonClock_isYear 13 = .ok (.ifCond .gt 7, 3) := by decide +kernel
theorem d_SkeletonClock_isYear_16 : decode b_SkeletonClock_isYear 16 = .ok (.iconst 1, 1) := by decide +kernel
theorem d_SkeletonClock_isYear_17 : decode b_SkeletonClock_isYear 17 = .ok (.goto 4, 3) := by decide +kernel
theorem d_SkeletonClock_isYear_20 : decode b_SkeletonClock_isYear 20 = .ok (.iconst 0, 1) := by decide +kernel
theorem d_SkeletonClock_isYear_21 : decode b_SkeletonClock_isYear 21 = .ok (.ireturn, 1) := by decide +kernel
theorem d_SkeletonClock_moment_0 : decode b_SkeletonClock_moment 0 = .ok (.iload_n 3, 1) := by decide +kernel
theorem d_SkeletonClock_moment_1 : decode b_SkeletonClock_moment 1 = .ok (.ifCond .lt 58, 3) := by decide +kernel
theorem d_SkeletonClock_moment_4 : decode b_SkeletonClock_moment 4 = .ok (.iload_n 3, 1) := by decide +kernel
theorem d_SkeletonClock_moment_5 : decode b_SkeletonClock_moment 5 = .ok (.ldc 105, 2) := by decide +kernel
theorem d_SkeletonClock_moment_7 : decode b_SkeletonClock_moment 7 = .ok (.if_icmp .gt 52, 3) := by decide +kernel
theorem d_SkeletonClock_moment_10 : decode b_SkeletonClock_moment 10 = .ok (.iload 4, 2) := by decide +kernel
theorem d_SkeletonClock_moment_12 : decode b_SkeletonClock_moment 12 = .ok (.sipush (-1080), 3) := by decide +kernel
theorem d_SkeletonClock_moment_15 : decode b_SkeletonClock_moment 15 = .ok (.if_icmp .lt 44, 3) := by decide +kernel
theorem d_SkeletonClock_moment_18 : decode b_SkeletonClock_moment 18 = .ok (.iload 4, 2) := by decide +kernel
theorem d_SkeletonClock_moment_20 : decode b_SkeletonClock_moment 20 = .ok (.sipush 1080, 3) := by decide +kernel
theorem d_SkeletonClock_moment_23 : decode b_SkeletonClock_moment 23 = .ok (.if_icmp .gt 36, 3) := by decide +kernel
theorem d_SkeletonClock_moment_26 : decode b_SkeletonClock_moment 26 = .ok (.iload 5, 2) := by decide +kernel
theorem d_SkeletonClock_moment_28 : decode b_SkeletonClock_moment 28 = .ok (.iconst 1, 1) := by decide +kernel
theorem d_SkeletonClock_moment_29 : decode b_SkeletonClock_moment 29 = .ok (.if_icmp .lt 30, 3) := by decide +kernel
theorem d_SkeletonClock_moment_32 : decode b_SkeletonClock_moment 32 = .ok (.iload 5, 2) := by decide +kernel
theorem d_SkeletonClock_moment_34 : decode b_SkeletonClock_moment 34 = .ok (.bipush 7, 2) := by decide +kernel
theorem d_SkeletonClock_moment_36 : decode b_SkeletonClock_moment 36 = .ok (.if_icmp .gt 23, 3) := by decide +kernel
theorem d_SkeletonClock_moment_39 : decode b_SkeletonClock_moment 39 = .ok (.lload_n 1, 1) := by decide +kernel
theorem d_SkeletonClock_moment_40 : decode b_SkeletonClock_moment 40 = .ok (.ldc2_w 106, 3) := by decide +kernel
theorem d_SkeletonClock_moment_43 : decode b_SkeletonClock_moment 43 = .ok (.lcmp, 1) := by decide +kernel
theorem d_SkeletonClock_moment_44 : decode b_SkeletonClock_moment 44 = .ok (.ifCond .lt 15, 3) := by decide +kernel
theorem d_SkeletonClock_moment_47 : decode b_SkeletonClock_moment 47 = .ok (.lload_n 1, 1) := by decide +kernel
theorem d_SkeletonClock_moment_48 : decode b_SkeletonClock_moment 48 = .ok (.ldc2_w 108, 3) := by decide +kernel
theorem d_SkeletonClock_moment_51 : decode b_SkeletonClock_moment 51 = .ok (.lcmp, 1) := by decide +kernel
theorem d_SkeletonClock_moment_52 : decode b_SkeletonClock_moment 52 = .ok (.ifCond .gt 7, 3) := by decide +kernel
theorem d_SkeletonClock_moment_55 : decode b_SkeletonClock_moment 55 = .ok (.iconst 1, 1) := by decide +kernel
theorem d_SkeletonClock_moment_56 : decode b_SkeletonClock_moment 56 = .ok (.goto 4, 3) := by decide +kernel
theorem d_SkeletonClock_moment_59 : decode b_SkeletonClock_moment 59 = .ok (.iconst 0, 1) := by decide +kernel
theorem d_SkeletonClock_moment_60 : decode b_SkeletonClock_moment 60 = .ok (.istore 6, 2) := by decide +kernel
theorem d_SkeletonClock_moment_62 : decode b_SkeletonClock_moment 62 = .ok (.iload 6, 2) := by decide +kernel
theorem d_SkeletonClock_moment_64 : decode b_SkeletonClock_moment 64 = .ok (.ifCond .eq 27, 3) := by decide +kernel
theorem d_SkeletonClock_moment_67 : decode b_SkeletonClock_moment 67 = .ok (.lload_n 1, 1) := by decide +kernel
theorem d_SkeletonClock_moment_68 : decode b_SkeletonClock_moment 68 = .ok (.ldc2_w 110, 3) := by decide +kernel
theorem d_SkeletonClock_moment_71 : decode b_SkeletonClock_moment 71 = .ok (.iload 4, 2) := by decide +kernel
theorem d_SkeletonClock_moment_73 : decode b_SkeletonClock_moment 73 = .ok (.i2l, 1) := by decide +kernel
theorem d_SkeletonClock_moment_74 : decode b_SkeletonClock_moment 74 = .ok (.lmul, 1) := by decide +kernel
theorem d_SkeletonClock_moment_75 : decode b_SkeletonClock_moment 75 = .ok (.ladd, 1) := by decide +kernel
theorem d_SkeletonClock_moment_76 : decode b_SkeletonClock_moment 76 = .ok (.ldc2_w 112, 3) := by decide +kernel
theorem d_SkeletonClock_moment_79 : decode b_SkeletonClock_moment 79 = .ok (.invokestatic 114, 3) := by decide +kernel
theorem d_SkeletonClock_moment_82 : decode b_SkeletonClock_moment 82 = .ok (.invokestatic 120, 3) := by decide +kernel
theorem d_SkeletonClock_moment_85 : decode b_SkeletonClock_moment 85 = .ok (.invokestatic 126, 3) := by decide +kernel
theorem d_SkeletonClock_moment_88 : decode b_SkeletonClock_moment 88 = .ok (.ifCond .ne 5, 3) := by decide +kernel
theorem d_SkeletonClock_moment_91 : decode b_SkeletonClock_moment 91 = .ok (.iconst 0, 1) := by decide +kernel
theorem d_SkeletonClock_moment_92 : decode b_SkeletonClock_moment 92 = .ok (.ireturn, 1) := by decide +kernel
theorem d_SkeletonClock_moment_93 : decode b_SkeletonClock_moment 93 = .ok (.aload_n 0, 1) := by decide +kernel
theorem d_SkeletonClock_moment_94 : decode b_SkeletonClock_moment 94 = .ok (.getfield 58, 3) := by decide +kernel
theorem d_SkeletonClock_moment_97 : decode b_SkeletonClock_moment 97 = .ok (.lload_n 1, 1) := by decide +kernel
theorem d_SkeletonClock_moment_98 : decode b_SkeletonClock_moment 98 = .ok (.iload_n 3, 1) := by decide +kernel
theorem d_SkeletonClock_moment_99 : decode b_SkeletonClock_moment 99 = .ok (.iload 4, 2) := by decide +kernel
theorem d_SkeletonClock_moment_101 : decode b_SkeletonClock_moment 101 = .ok (.iload 5, 2) := by decide +kernel
theorem d_SkeletonClock_moment_103 : decode b_SkeletonClock_moment 103 = .ok (.invokevirtual 69, 3) := by decide +kernel
theorem d_SkeletonClock_moment_106 : decode b_SkeletonClock_moment 106 = .ok (.iconst 1, 1) := by decide +kernel
theorem d_SkeletonClock_moment_107 : decode b_SkeletonClock_moment 107 = .ok (.ireturn, 1) := by decide +kernel
theorem d_SkeletonClock_field_0 : decode b_SkeletonClock_field 0 = .ok (.ldc 130, 2) := by decide +kernel
theorem d_SkeletonClock_field_2 : decode b_SkeletonClock_field 2 = .ok (.iload_n 1, 1) := by decide +kernel
theorem d_SkeletonClock_field_3 : decode b_SkeletonClock_field 3 = .ok (.invokevirtual 132, 3) := by decide +kernel
theorem d_SkeletonClock_field_6 : decode b_SkeletonClock_field 6 = .ok (.istore_n 2, 1) := by decide +kernel
theorem d_SkeletonClock_field_7 : decode b_SkeletonClock_field 7 = .ok (.iload_n 2, 1) := by decide +kernel
theorem d_SkeletonClock_field_8 : decode b_SkeletonClock_field 8 = .ok (.ifCond .lt 20, 3) := by decide +kernel
theorem d_SkeletonClock_field_11 : decode b_SkeletonClock_field 11 = .ok (.iload_n 2, 1) := by decide +kernel
theorem d_SkeletonClock_field_12 : decode b_SkeletonClock_field 12 = .ok (.bipush 14, 2) := by decide +kernel
theorem d_SkeletonClock_field_14 : decode b_SkeletonClock_field 14 = .ok (.if_icmp .ge 14, 3) := by decide +kernel
theorem d_SkeletonClock_field_17 : decode b_SkeletonClock_field 17 = .ok (.aload_n 0, 1) := by decide +kernel
theorem d_SkeletonClock_field_18 : decode b_SkeletonClock_field 18 = .ok (.getfield 58, 3) := by decide +kernel
theorem d_SkeletonClock_field_21 : decode b_SkeletonClock_field 21 = .ok (.iload_n 2, 1) := by decide +kernel
theorem d_SkeletonClock_field_22 : decode b_SkeletonClock_field 22 = .ok (.invokevirtual 138, 3) := by decide +kernel
theorem d_SkeletonClock_field_25 : decode b_SkeletonClock_field 25 = .ok (.goto 4, 3) := by decide +kernel
theorem d_SkeletonClock_field_28 : decode b_SkeletonClock_field 28 = .ok (.iconst (-1), 1) := by decide +kernel
theorem d_SkeletonClock_field_29 : decode b_SkeletonClock_field 29 = .ok (.ireturn, 1) := by decide +kernel
theorem d_SkeletonClock_charAt_0 : decode b_SkeletonClock_charAt 0 = .ok (.aload_n 0, 1) := by decide +kernel
theorem d_SkeletonClock_charAt_1 : decode b_SkeletonClock_charAt 1 = .ok (.getfield 18, 3) := by decide +kernel
theorem d_SkeletonClock_charAt_4 : decode b_SkeletonClock_charAt 4 = .ok (.iload_n 1, 1) := by decide +kernel
theorem d_SkeletonClock_charAt_5 : decode b_SkeletonClock_charAt 5 = .ok (.invokevirtual 158, 3) := by decide +kernel
theorem d_SkeletonClock_charAt_8 : decode b_SkeletonClock_charAt 8 = .ok (.ireturn, 1) := by decide +kernel
theorem d_SkeletonClock_copy_0 : decode b_SkeletonClock_copy 0 = .ok (.aload_n 0, 1) := by decide +kernel
theorem d_SkeletonClock_copy_1 : decode b_SkeletonClock_copy 1 = .ok (.getfield 18, 3) := by decide +kernel
theorem d_SkeletonClock_copy_4 : decode b_SkeletonClock_copy 4 = .ok (.getfield 155, 3) := by decide +kernel
theorem d_SkeletonClock_copy_7 : decode b_SkeletonClock_copy 7 = .ok (.bipush 60, 2) := by decide +kernel
theorem d_SkeletonClock_copy_9 : decode b_SkeletonClock_copy 9 = .ok (.if_icmp .le 5, 3) := by decide +kernel
theorem d_SkeletonClock_copy_12 : decode b_SkeletonClock_copy 12 = .ok (.iconst 0, 1) := by decide +kernel
theorem d_SkeletonClock_copy_13 : decode b_SkeletonClock_copy 13 = .ok (.ireturn, 1) := by decide +kernel
theorem d_SkeletonClock_copy_14 : decode b_SkeletonClock_copy 14 = .ok (.aload_n 0, 1) := by decide +kernel
theorem d_SkeletonClock_copy_15 : decode b_SkeletonClock_copy 15 = .ok (.getfield 14, 3) := by decide +kernel
theorem d_SkeletonClock_copy_18 : decode b_SkeletonClock_copy 18 = .ok (.aload_n 0, 1) := by decide +kernel
theorem d_SkeletonClock_copy_19 : decode b_SkeletonClock_copy 19 = .ok (.getfield 18, 3) := by decide +kernel
theorem d_SkeletonClock_copy_22 : decode b_SkeletonClock_copy 22 = .ok (.invokevirtual 152, 3) := by decide +kernel
theorem d_SkeletonClock_copy_25 : decode b_SkeletonClock_copy 25 = .ok (.iconst 1, 1) := by decide +kernel
theorem d_SkeletonClock_copy_26 : decode b_SkeletonClock_copy 26 = .ok (.ireturn, 1) := by decide +kernel
theorem d_SkeletonClock_parts_0 : decode b_SkeletonClock_parts 0 = .ok (.aload_n 0, 1) := by decide +kernel
theorem d_SkeletonClock_parts_1 : decode b_SkeletonClock_parts 1 = .ok (.getfield 62, 3) := by decide +kernel
theorem d_SkeletonClock_parts_4 : decode b_SkeletonClock_parts 4 = .ok (.getfield 179, 3) := by decide +kernel
theorem d_SkeletonClock_parts_7 : decode b_SkeletonClock_parts 7 = .ok (.ireturn, 1) := by decide +kernel
theorem d_SkeletonClock_seconds_0 : decode b_SkeletonClock_seconds 0 = .ok (.aload_n 0, 1) := by decide +kernel
theorem d_SkeletonClock_seconds_1 : decode b_SkeletonClock_seconds 1 = .ok (.getfield 62, 3) := by decide +kernel
theorem d_SkeletonClock_seconds_4 : decode b_SkeletonClock_seconds 4 = .ok (.getfield 182, 3) := by decide +kernel
theorem d_SkeletonClock_seconds_7 : decode b_SkeletonClock_seconds 7 = .ok (.lreturn, 1) := by decide +kernel
theorem d_SkeletonClock_nano_0 : decode b_SkeletonClock_nano 0 = .ok (.aload_n 0, 1) := by decide +kernel
theorem d_SkeletonClock_nano_1 : decode b_SkeletonClock_nano 1 = .ok (.getfield 62, 3) := by decide +kernel
theorem d_SkeletonClock_nano_4 : decode b_SkeletonClock_nano 4 = .ok (.bipush 12, 2) := by decide +kernel
theorem d_SkeletonClock_nano_6 : decode b_SkeletonClock_nano 6 = .ok (.invokevirtual 138, 3) := by decide +kernel
theorem d_SkeletonClock_nano_9 : decode b_SkeletonClock_nano 9 = .ok (.ireturn, 1) := by decide +kernel
theorem d_SkeletonClock_minutes_0 : decode b_SkeletonClock_minutes 0 = .ok (.aload_n 0, 1) := by decide +kernel
theorem d_SkeletonClock_minutes_1 : decode b_SkeletonClock_minutes 1 = .ok (.getfield 62, 3) := by decide +kernel
theorem d_SkeletonClock_minutes_4 : decode b_SkeletonClock_minutes 4 = .ok (.bipush 13, 2) := by decide +kernel
theorem d_SkeletonClock_minutes_6 : decode b_SkeletonClock_minutes 6 = .ok (.invokevirtual 138, 3) := by decide +kernel
theorem d_SkeletonClock_minutes_9 : decode b_SkeletonClock_minutes 9 = .ok (.ireturn, 1) := by decide +kernel
theorem d_SkeletonClock_take_0 : decode b_SkeletonClock_take 0 = .ok (.aload_n 0, 1) := by decide +kernel
theorem d_SkeletonClock_take_1 : decode b_SkeletonClock_take 1 = .ok (.getfield 62, 3) := by decide +kernel
theorem d_SkeletonClock_take_4 : decode b_SkeletonClock_take 4 = .ok (.getfield 179, 3) := by decide +kernel
theorem d_SkeletonClock_take_7 : decode b_SkeletonClock_take 7 = .ok (.ifCond .eq 18, 3) := by decide +kernel
theorem d_SkeletonClock_take_10 : decode b_SkeletonClock_take 10 = .ok (.aload_n 0, 1) := by decide +kernel
theorem d_SkeletonClock_take_11 : decode b_SkeletonClock_take 11 = .ok (.getfield 62, 3) := by decide +kernel
theorem d_SkeletonClock_take_14 : decode b_SkeletonClock_take 14 = .ok (.iconst 0, 1) := by decide +kernel
theorem d_SkeletonClock_take_15 : decode b_SkeletonClock_take 15 = .ok (.invokevirtual 138, 3) := by decide +kernel
theorem d_SkeletonClock_take_18 : decode b_SkeletonClock_take 18 = .ok (.i2l, 1) := by decide +kernel
theorem d_SkeletonClock_take_19 : decode b_SkeletonClock_take 19 = .ok (.invokestatic 126, 3) := by decide +kernel
theorem d_SkeletonClock_take_22 : decode b_SkeletonClock_take 22 = .ok (.ifCond .ne 5, 3) := by decide +kernel
theorem d_SkeletonClock_take_25 : decode b_SkeletonClock_take 25 = .ok (.iconst 0, 1) := by decide +kernel
theorem d_SkeletonClock_take_26 : decode b_SkeletonClock_take 26 = .ok (.ireturn, 1) := by decide +kernel
theorem d_SkeletonClock_take_27 : decode b_SkeletonClock_take 27 = .ok (.aload_n 0, 1) := by decide +kernel
theorem d_SkeletonClock_take_28 : decode b_SkeletonClock_take 28 = .ok (.getfield 58, 3) := by decide +kernel
theorem d_SkeletonClock_take_31 : decode b_SkeletonClock_take 31 = .ok (.aload_n 0, 1) := by decide +kernel
theorem d_SkeletonClock_take_32 : decode b_SkeletonClock_take 32 = .ok (.getfield 62, 3) := by decide +kernel
theorem d_SkeletonClock_take_35 : decode b_SkeletonClock_take 35 = .ok (.invokevirtual 176, 3) := by decide +kernel
theorem d_SkeletonClock_take_38 : decode b_SkeletonClock_take 38 = .ok (.iconst 1, 1) := by decide +kernel
theorem d_SkeletonClock_take_39 : decode b_SkeletonClock_take 39 = .ok (.ireturn, 1) := by decide +kernel
theorem d_SkeletonClock_isSlot_0 : decode b_SkeletonClock_isSlot 0 = .ok (.iload_n 0, 1) := by decide +kernel
theorem d_SkeletonClock_isSlot_1 : decode b_SkeletonClock_isSlot 1 = .ok (.ifCond .lt 13, 3) := by decide +kernel
theorem d_SkeletonClock_isSlot_4 : decode b_SkeletonClock_isSlot 4 = .ok (.iload_n 0, 1) := by decide +kernel
theorem d_SkeletonClock_isSlot_5 : decode b_SkeletonClock_isSlot 5 = .ok (.bipush 6, 2) := by decide +kernel
theorem d_SkeletonClock_isSlot_7 : decode b_SkeletonClock_isSlot 7 = .ok (.if_icmp .ge 7, 3) := by decide +kernel
theorem d_SkeletonClock_isSlot_10 : decode b_SkeletonClock_isSlot 10 = .ok (.iconst 1, 1) := by decide +kernel
theorem d_SkeletonClock_isSlot_11 : decode b_SkeletonClock_isSlot 11 = .ok (.goto 4, 3) := by decide +kernel
theorem d_SkeletonClock_isSlot_14 : decode b_SkeletonClock_isSlot 14 = .ok (.iconst 0, 1) := by decide +kernel
theorem d_SkeletonClock_isSlot_15 : decode b_SkeletonClock_isSlot 15 = .ok (.ireturn, 1) := by decide +kernel
abbrev rm_SkeletonClock_type : Room := { frames := 1, cells := 0, slots := 0, locals := 21 }
set_option maxHeartbeats 4000000 in
set_option maxRecDepth 100000 in
theorem c_SkeletonClock_type (l : Launch) (D : va_G) (kk : Nat → ClassId) (st : Nat → Nat) (a_t a_t_text a_t_text_cells a_t_page a_t_slots a_t_parser a_t_printer a_t_reader a_t_resolver a_t_now a_t_latest : Nat) (sz : Nat) (t_nearest : Int32) (t_text_size : Int32) (t_text_cells : Nat → Int32) (x1 : Int32) (o : Int32 × Int32 × (Nat → Int32)) (he : f_SkeletonClock_type t_text_size t_text_cells x1 = some o) : Met l y_SkeletonClock_type (Cond.code y_SkeletonClock_type b_SkeletonClock_type 2 (some .boolean) :: GW) rm_SkeletonClock_type (KPc D kk st [.ref a_t, .int x1] [(a_t, .inr (0, [.ref a_t_text, .ref a_t_page, .ref a_t_slots, .ref a_t_parser, .ref a_t_printer, .ref a_t_reader, .ref a_t_resolver, .ref a_t_now, .ref a_t_latest, .int t_nearest])), (a_t_text, .inr (1, [.ref a_t_text_cells, .int t_text_size])), (a_t_text_cells, .inl (kk 1, 60, .inl t_text_cells))] sz) (KQi D kk o.1 [(a_t, .inr (0, [.ref a_t_text, .ref a_t_page, .ref a_t_slots, .ref a_t_parser, .ref a_t_printer, .ref a_t_reader, .ref a_t_resolver, .ref a_t_now, .ref a_t_latest, .int t_nearest])), (a_t_text, .inr (1, [.ref a_t_text_cells, .int o.2.1])), (a_t_text_cells, .inl (kk 1, 60, .inl o.2.2))] (va_A [(a_t, .inr (0, [.ref a_t_text, .ref a_t_page, .ref a_t_slots, .ref a_t_parser, .ref a_t_printer, .ref a_t_reader, .ref a_t_resolver, .ref a_t_now, .ref a_t_latest, .int t_nearest])), (a_t_text, .inr (1, [.ref a_t_text_cells, .int t_text_size])), (a_t_text_cells, .inl (kk 1, 60, .inl t_text_cells))] sz)) 0 0 (va_A [(a_t, .inr (0, [.ref a_t_text, .ref a_t_page, .ref a_t_slots, .ref a_t_parser, .ref a_t_printer, .ref a_t_reader, .ref a_t_resolver, .ref a_t_now, .ref a_t_latest, .int t_nearest])), (a_t_text, .inr (1, [.ref a_t_text_cells, .int t_text_size])), (a_t_text_cells, .inl (kk 1, 60, .inl t_text_cells))] sz) := by
  refine k_start (Qc := fun A => KQi D kk o.1 [(a_t, .inr (0, [.ref a_t_text, .ref a_t_page, .ref a_t_slots, .ref a_t_parser, .ref a_t_printer, .ref a_t_reader, .ref a_t_resolver, .ref a_t_now, .ref a_t_latest, .int t_nearest])), (a_t_text, .inr (1, [.ref a_t_text_cells, .int o.2.1])), (a_t_text_cells, .inl (kk 1, 60, .inl o.2.2))] A) (by decide) (Nat.le_of_ble_eq_true rfl) ?_
  intro p e s m below meth c A ls S hnm hr hlk hA X hP hD hS hl
  have hl : lv_has ls 2 [(0, .ref a_t), (1, .int x1)] := hl
  have hx := S.1
  have hb := S.2.1
  unfold f_SkeletonClock_type at he
  refine lv_iload_n hx hb d_SkeletonClock_type_0 rfl (lv_at hl 1 rfl) ?_
  refine lv_bipush (v := (32 : Int32)) hx hb d_SkeletonClock_type_1 (by decide) ?_
  refine lv_icmp_lt (tgt := 27) hx hb d_SkeletonClock_type_3 rfl (fun hc => ?_) (fun hc => ?_)
  · have he := ih_t hc he
    refine lv_iconst (v := (0 : Int32)) hx hb d_SkeletonClock_type_27 (by decide) ?_
    cases he
    exact k_zre hx hb hr hlk X hP hD hS (Or.inl rfl) d_SkeletonClock_type_28
  · have he := ih_f hc he
    refine lv_iload_n hx hb d_SkeletonClock_type_6 rfl (lv_at hl 1 rfl) ?_
    refine lv_bipush (v := (126 : Int32)) hx hb d_SkeletonClock_type_7 (by decide) ?_
    refine lv_icmp_gt (tgt := 27) hx hb d_SkeletonClock_type_9 rfl (fun hc => ?_) (fun hc => ?_)
    · have he := ih_t hc he
      refine lv_iconst (v := (0 : Int32)) hx hb d_SkeletonClock_type_27 (by decide) ?_
      cases he
      exact k_zre hx hb hr hlk X hP hD hS (Or.inl rfl) d_SkeletonClock_type_28
    · have he := ih_f hc he
      refine lv_aload_n hx hb d_SkeletonClock_type_12 rfl (lv_at hl 0 rfl) ?_
      refine k_get S X us_SkeletonClock hP 0 rfl rfl 0 (by decide) gm_2_19 rfl d_SkeletonClock_type_13 ?_
      refine lv_iload_n hx hb d_SkeletonClock_type_16 rfl (lv_at hl 1 rfl) ?_
      obtain ⟨u1, e2, he⟩ := ih_b he
      refine k_i (wr := [(a_t, .inr (0, [.ref a_t_text, .ref a_t_page, .ref a_t_slots, .ref a_t_parser, .ref a_t_printer, .ref a_t_reader, .ref a_t_resolver, .ref a_t_now, .ref a_t_latest, .int t_nearest]))]) (w1 := [(a_t_text, .inr (1, [.ref a_t_text_cells, .int u1.2.1])), (a_t_text_cells, .inl (kk 1, 60, .inl u1.2.2))]) (w2 := [(a_t, .inr (0, [.ref a_t_text, .ref a_t_page, .ref a_t_slots, .ref a_t_parser, .ref a_t_printer, .ref a_t_reader, .ref a_t_resolver, .ref a_t_now, .ref a_t_latest, .int t_nearest])), (a_t_text, .inr (1, [.ref a_t_text_cells, .int u1.2.1])), (a_t_text_cells, .inl (kk 1, 60, .inl u1.2.2))]) (r_V (As := [.int x1]) S X hA hP hD hS (c_Row_put l D kk st a_t_text a_t_text_cells _ 60 t_text_size t_text_cells x1 u1 e2) gm_2_57 gm_2_54 gm_2_55 gm_2_56 gm_1_2 ⟨rfl, rfl, by decide, by decide⟩ kd_Row_put [1, 2] rfl rfl rfl 1 1 rfl rfl rfl rfl hl.1 rfl (Nat.le_of_ble_eq_true rfl) d_SkeletonClock_type_17 ⟨Nat.zero_le _, Nat.zero_le _⟩) hA hP hD hS [1, 2] [0] [0, 1, 2] rfl rfl rfl (by decide) rfl rfl rfl (fun H locs hP hD hS => ?_)
      refine lv_if_eq (tgt := 27) hx hb d_SkeletonClock_type_20 rfl (fun hc => ?_) (fun hc => ?_)
      · have he := ih_t hc he
        refine lv_iconst (v := (0 : Int32)) hx hb d_SkeletonClock_type_27 (by decide) ?_
        cases he
        exact k_zre hx hb hr hlk X hP hD hS (Or.inl rfl) d_SkeletonClock_type_28
      · have he := ih_f hc he
        refine lv_iconst (v := (1 : Int32)) hx hb d_SkeletonClock_type_23 (by decide) ?_
        refine lv_goto (tgt := 28) hx hb d_SkeletonClock_type_24 rfl ?_
        cases he
        exact k_zre hx hb hr hlk X hP hD hS (Or.inr rfl) d_SkeletonClock_type_28
abbrev rm_SkeletonClock_distance : Room := { frames := 0, cells := 0, slots := 0, locals := 0 }
set_option maxHeartbeats 4000000 in
set_option maxRecDepth 100000 in
theorem c_SkeletonClock_distance (l : Launch) (D : va_G) (kk : Nat → ClassId) (st : Nat → Nat) (a_t a_t_text a_t_page a_t_slots a_t_parser a_t_printer a_t_reader a_t_resolver a_t_now a_t_latest : Nat) (sz : Nat) (t_nearest : Int32) (o : Int32) (he : f_SkeletonClock_distance t_nearest = some o) : Met l y_SkeletonClock_distance (Cond.code y_SkeletonClock_distance b_SkeletonClock_distance 1 (some .int) :: GW) rm_SkeletonClock_distance (KPc D kk st [.ref a_t] [(a_t, .inr (0, [.ref a_t_text, .ref a_t_page, .ref a_t_slots, .ref a_t_parser, .ref a_t_printer, .ref a_t_reader, .ref a_t_resolver, .ref a_t_now, .ref a_t_latest, .int t_nearest]))] sz) (KQi D kk o [(a_t, .inr (0, [.ref a_t_text, .ref a_t_page, .ref a_t_slots, .ref a_t_parser, .ref a_t_printer, .ref a_t_reader, .ref a_t_resolver, .ref a_t_now, .ref a_t_latest, .int t_nearest]))] (va_A [(a_t, .inr (0, [.ref a_t_text, .ref a_t_page, .ref a_t_slots, .ref a_t_parser, .ref a_t_printer, .ref a_t_reader, .ref a_t_resolver, .ref a_t_now, .ref a_t_latest, .int t_nearest]))] sz)) 0 0 (va_A [(a_t, .inr (0, [.ref a_t_text, .ref a_t_page, .ref a_t_slots, .ref a_t_parser, .ref a_t_printer, .ref a_t_reader, .ref a_t_resolver, .ref a_t_now, .ref a_t_latest, .int t_nearest]))] sz) := by
  refine k_start (Qc := fun A => KQi D kk o [(a_t, .inr (0, [.ref a_t_text, .ref a_t_page, .ref a_t_slots, .ref a_t_parser, .ref a_t_printer, .ref a_t_reader, .ref a_t_resolver, .ref a_t_now, .ref a_t_latest, .int t_nearest]))] A) (by decide) (Nat.le_of_ble_eq_true rfl) ?_
  intro p e s m below meth c A ls S hnm hr hlk hA X hP hD hS hl
  have hl : lv_has ls 1 [(0, .ref a_t)] := hl
  have hx := S.1
  have hb := S.2.1
  unfold f_SkeletonClock_distance at he
  refine lv_aload_n hx hb d_SkeletonClock_distance_0 rfl (lv_at hl 0 rfl) ?_
  refine k_get S X us_SkeletonClock hP 0 rfl rfl 9 (by decide) gm_2_28 rfl d_SkeletonClock_distance_1 ?_
  cases he
  exact k_ire hx hb hr hlk X hP hD hS d_SkeletonClock_distance_4
abbrev rm_SkeletonClock_isYear : Room := { frames := 0, cells := 0, slots := 0, locals := 0 }
set_option maxHeartbeats 4000000 in
set_option maxRecDepth 100000 in
theorem c_SkeletonClock_isYear (l : Launch) (D : va_G) (kk : Nat → ClassId) (st : Nat → Nat) (sz : Nat) (x0 : Int64) (o : Int32) (he : f_SkeletonClock_isYear x0 = some o) : Met l y_SkeletonClock_isYear (Cond.code y_SkeletonClock_isYear b_SkeletonClock_isYear 2 (some .boolean) :: GW) rm_SkeletonClock_isYear (KPc D kk st [.long x0] [] sz) (KQi D kk o [] (va_A [] sz)) 0 0 (va_A [] sz) := by
  refine k_start (Qc := fun A => KQi D kk o [] A) (by decide) (Nat.le_of_ble_eq_true rfl) ?_
  intro p e s m below meth c A ls S hnm hr hlk hA X hP hD hS hl
  have hl : lv_has ls 2 [(0, .long x0)] := hl
  have hx := S.1
  have hb := S.2.1
  unfold f_SkeletonClock_isYear at he
  refine lv_lload_n hx hb d_SkeletonClock_isYear_0 rfl (lv_at hl 0 rfl) ?_
  refine lv_ldc2 (v := (-999999999 : Int64)) hx hb S.2.2.2.1 (S.2.2.2.2 _ gm_3_26) d_SkeletonClock_isYear_1 ?_
  refine lq_lt (tgt := 20) hx hb d_SkeletonClock_isYear_4 d_SkeletonClock_isYear_5 rfl (fun hc => ?_) (fun hc => ?_)
  · have he := ih_t hc he
    refine lv_iconst (v := (0 : Int32)) hx hb d_SkeletonClock_isYear_20 (by decide) ?_
    cases he
    exact k_zre hx hb hr hlk X hP hD hS (Or.inl rfl) d_SkeletonClock_isYear_21
  · have he := ih_f hc he
    refine lv_lload_n hx hb d_SkeletonClock_isYear_8 rfl (lv_at hl 0 rfl) ?_
    refine lv_ldc2 (v := (999999999 : Int64)) hx hb S.2.2.2.1 (S.2.2.2.2 _ gm_3_27) d_SkeletonClock_isYear_9 ?_
    refine lq_gt (tgt := 20) hx hb d_SkeletonClock_isYear_12 d_SkeletonClock_isYear_13 rfl (fun hc => ?_) (fun hc => ?_)
    · have he := ih_t hc he
      refine lv_iconst (v := (0 : Int32)) hx hb d_SkeletonClock_isYear_20 (by decide) ?_
      cases he
      exact k_zre hx hb hr hlk X hP hD hS (Or.inl rfl) d_SkeletonClock_isYear_21
    · have he := ih_f hc he
      refine lv_iconst (v := (1 : Int32)) hx hb d_SkeletonClock_isYear_16 (by decide) ?_
      refine lv_goto (tgt := 21) hx hb d_SkeletonClock_isYear_17 rfl ?_
      cases he
      exact k_zre hx hb hr hlk X hP hD hS (Or.inr rfl) d_SkeletonClock_isYear_21
abbrev rm_SkeletonClock_moment : Room := { frames := 5, cells := 0, slots := 0, locals := 130 }
set_option maxHeartbeats 4000000 in
set_option maxRecDepth 100000 in
theorem w_SkeletonClock_moment_60 {p : Program} {l : Launch} {e : Env} {s : State} {m : MethodId} {args : Array Value} {below : List Frame} {meth : Method} {c : Code} {A : Nat → Prop} {D : va_G} {kk : Nat → ClassId} {st : Nat → Nat} (a_t a_t_now a_t_now_values a_t_text a_t_page a_t_slots a_t_parser a_t_printer a_t_reader a_t_resolver a_t_latest : Nat) (t_nearest : Int32) (t_now_seconds : Int64) (t_now_parts : Int32) (t_now_values : Nat → Int32) (x1 : Int64) (x3 : Int32) (x4 : Int32) (x5 : Int32) (s0 : Int32) (o : Int32 × Int64 × Int32 × (Nat → Int32)) (S : CallFix p m c b_SkeletonClock_moment 7 s args GW y_SkeletonClock_moment.cls) (hr : meth.sig.returnType = (some .boolean)) (hlk : meth.locks = false) (hA : ∀ q, s.heap.size ≤ q → A q) (X : KX D kk st A s) (H : Heap) (locs : List Loc) (ls : Array Slot) (he : jn_SkeletonClock_moment_60 t_now_seconds t_now_parts t_now_values x1 x3 x4 x5 s0 = some o) (hl : lv_has ls 7 [(0, .ref a_t), (1, .long x1), (3, .int x3), (4, .int x4), (5, .int x5)]) (hP : va_P D classes [(a_t, .inr (0, [.ref a_t_text, .ref a_t_page, .ref a_t_slots, .ref a_t_parser, .ref a_t_printer, .ref a_t_reader, .ref a_t_resolver, .ref a_t_now, .ref a_t_latest, .int t_nearest])), (a_t_now, .inr (5, [.ref a_t_now_values, .long t_now_seconds, .int t_now_parts])), (a_t_now_values, .inl (kk 0, 14, .inl t_now_values))] H) (hD : va_D A [(a_t, .inr (0, [.ref a_t_text, .ref a_t_page, .ref a_t_slots, .ref a_t_parser, .ref a_t_printer, .ref a_t_reader, .ref a_t_resolver, .ref a_t_now, .ref a_t_latest, .int t_nearest])), (a_t_now, .inr (5, [.ref a_t_now_values, .long t_now_seconds, .int t_now_parts])), (a_t_now_values, .inl (kk 0, 14, .inl t_now_values))]) (hS : va_S A s.heap H locs) : W p l e rm_SkeletonClock_moment s m args below meth c H locs 0 0 (MQ below (KQi D kk o.1 [(a_t, .inr (0, [.ref a_t_text, .ref a_t_page, .ref a_t_slots, .ref a_t_parser, .ref a_t_printer, .ref a_t_reader, .ref a_t_resolver, .ref a_t_now, .ref a_t_latest, .int t_nearest])), (a_t_now, .inr (5, [.ref a_t_now_values, .long o.2.1, .int o.2.2.1])), (a_t_now_values, .inl (kk 0, 14, .inl o.2.2.2))] A) args s 0 0 A) (F0 m 60 ls [.int s0]) := by
  have hx := S.1
  have hb := S.2.1
  unfold jn_SkeletonClock_moment_60 at he
  refine lv_istore hx hb d_SkeletonClock_moment_60 hl (by decide) rfl (fun ls hl => ?_)
  have hl : lv_has ls 7 [(6, .int s0), (0, .ref a_t), (1, .long x1), (3, .int x3), (4, .int x4), (5, .int x5)] := hl
  refine lv_iload hx hb d_SkeletonClock_moment_62 (lv_at hl 0 rfl) ?_
  refine lv_if_eq (tgt := 91) hx hb d_SkeletonClock_moment_64 rfl (fun hc => ?_) (fun hc => ?_)
  · have he := ih_t hc he
    refine lv_iconst (v := (0 : Int32)) hx hb d_SkeletonClock_moment_91 (by decide) ?_
    cases he
    exact k_zre hx hb hr hlk X hP hD hS (Or.inl rfl) d_SkeletonClock_moment_92
  · have he := ih_f hc he
    refine lv_lload_n hx hb d_SkeletonClock_moment_67 rfl (lv_at hl 2 rfl) ?_
    refine lv_ldc2 (v := (60 : Int64)) hx hb S.2.2.2.1 (S.2.2.2.2 _ gm_3_19) d_SkeletonClock_moment_68 ?_
    refine lv_iload hx hb d_SkeletonClock_moment_71 (lv_at hl 4 rfl) ?_
    refine lv_i2l hx hb d_SkeletonClock_moment_73 rfl ?_
    refine lv_lmul hx hb d_SkeletonClock_moment_74 ?_
    refine lv_ladd hx hb d_SkeletonClock_moment_75 ?_
    refine lv_ldc2 (v := (86400 : Int64)) hx hb S.2.2.2.1 (S.2.2.2.2 _ gm_3_20) d_SkeletonClock_moment_76 ?_
    obtain ⟨u1, e2, he⟩ := ih_b he
    refine k_lo (r_S (As := [.long (x1 + ((60 : Int64) * (Int32.toInt64 x4))), .long (86400 : Int64)]) S X hA hP hD hS (c_Math_floorDiv_JJ l D kk st _ (x1 + ((60 : Int64) * (Int32.toInt64 x4))) (86400 : Int64) u1 e2) gm_1_217 gm_3_21 gm_1_216 gm_1_11 ⟨rfl, rfl, by decide, by decide⟩ kd_Math_floorDiv_JJ [] rfl rfl rfl rfl hl.1 rfl (Nat.le_of_ble_eq_true rfl) d_SkeletonClock_moment_79 ⟨Nat.zero_le _, Nat.zero_le _⟩) hA hP hD hS [] rfl (fun H locs hP hS => ?_)
    obtain ⟨u3, e4, he⟩ := ih_b he
    refine k_lo (r_S (As := [.long u1]) S X hA hP hD hS (c_Days_yearOf l D kk st _ u1 u3 e4) gm_1_224 gm_3_22 gm_1_223 gm_1_12 ⟨rfl, rfl, by decide, by decide⟩ kd_Days_yearOf [] rfl rfl rfl rfl hl.1 rfl (Nat.le_of_ble_eq_true rfl) d_SkeletonClock_moment_82 ⟨Nat.zero_le _, Nat.zero_le _⟩) hA hP hD hS [] rfl (fun H locs hP hS => ?_)
    obtain ⟨u5, e6, he⟩ := ih_b he
    refine k_io (r_S (As := [.long u3]) S X hA hP hD hS (c_SkeletonClock_isYear l D kk st _ u3 u5 e6) gm_3_25 gm_3_23 gm_3_24 gm_1_1 ⟨rfl, rfl, by decide, by decide⟩ kd_SkeletonClock_isYear [] rfl rfl rfl rfl hl.1 rfl (Nat.le_of_ble_eq_true rfl) d_SkeletonClock_moment_85 ⟨Nat.zero_le _, Nat.zero_le _⟩) hA hP hD hS [] rfl (fun H locs hP hS => ?_)
    refine lv_if_ne (tgt := 93) hx hb d_SkeletonClock_moment_88 rfl (fun hc => ?_) (fun hc => ?_)
    · have he := ih_f hc he
      refine lv_aload_n hx hb d_SkeletonClock_moment_93 rfl (lv_at hl 1 rfl) ?_
      refine k_get S X us_SkeletonClock hP 0 rfl rfl 7 (by decide) gm_2_26 rfl d_SkeletonClock_moment_94 ?_
      refine lv_lload_n hx hb d_SkeletonClock_moment_97 rfl (lv_at hl 2 rfl) ?_
      refine lv_iload_n hx hb d_SkeletonClock_moment_98 rfl (lv_at hl 3 rfl) ?_
      refine lv_iload hx hb d_SkeletonClock_moment_99 (lv_at hl 4 rfl) ?_
      refine lv_iload hx hb d_SkeletonClock_moment_101 (lv_at hl 5 rfl) ?_
      obtain ⟨u7, e8, he⟩ := ih_b he
      refine k_v (wr := [(a_t, .inr (0, [.ref a_t_text, .ref a_t_page, .ref a_t_slots, .ref a_t_parser, .ref a_t_printer, .ref a_t_reader, .ref a_t_resolver, .ref a_t_now, .ref a_t_latest, .int t_nearest]))]) (w1 := [(a_t_now, .inr (5, [.ref a_t_now_values, .long u7.1, .int u7.2.1])), (a_t_now_values, .inl (kk 0, 14, .inl u7.2.2))]) (w2 := [(a_t, .inr (0, [.ref a_t_text, .ref a_t_page, .ref a_t_slots, .ref a_t_parser, .ref a_t_printer, .ref a_t_reader, .ref a_t_resolver, .ref a_t_now, .ref a_t_latest, .int t_nearest])), (a_t_now, .inr (5, [.ref a_t_now_values, .long u7.1, .int u7.2.1])), (a_t_now_values, .inl (kk 0, 14, .inl u7.2.2))]) (r_V (As := [.long x1, .int x3, .int x4, .int x5]) S X hA hP hD hS (c_Moment_settle l D kk st a_t_now a_t_now_values _ t_now_seconds t_now_parts t_now_values x1 x3 x4 x5 u7 e8) gm_1_212 gm_1_209 gm_1_210 gm_1_211 gm_1_10 ⟨rfl, rfl, by decide, by decide⟩ kd_Moment_settle [1, 2] rfl rfl rfl 1 5 rfl rfl rfl rfl hl.1 rfl (Nat.le_of_ble_eq_true rfl) d_SkeletonClock_moment_103 ⟨Nat.zero_le _, Nat.zero_le _⟩) hA hP hD hS [1, 2] [0] [0, 1, 2] rfl rfl rfl (by decide) rfl rfl rfl (fun H locs hP hD hS => ?_)
      refine lv_iconst (v := (1 : Int32)) hx hb d_SkeletonClock_moment_106 (by decide) ?_
      cases he
      exact k_zre hx hb hr hlk X hP hD hS (Or.inr rfl) d_SkeletonClock_moment_107
    · have he := ih_t hc he
      refine lv_iconst (v := (0 : Int32)) hx hb d_SkeletonClock_moment_91 (by decide) ?_
      cases he
      exact k_zre hx hb hr hlk X hP hD hS (Or.inl rfl) d_SkeletonClock_moment_92
set_option maxHeartbeats 4000000 in
set_option maxRecDepth 100000 in
theorem w_SkeletonClock_moment_59 {p : Program} {l : Launch} {e : Env} {s : State} {m : MethodId} {args : Array Value} {below : List Frame} {meth : Method} {c : Code} {A : Nat → Prop} {D : va_G} {kk : Nat → ClassId} {st : Nat → Nat} (a_t a_t_now a_t_now_values a_t_text a_t_page a_t_slots a_t_parser a_t_printer a_t_reader a_t_resolver a_t_latest : Nat) (t_nearest : Int32) (t_now_seconds : Int64) (t_now_parts : Int32) (t_now_values : Nat → Int32) (x1 : Int64) (x3 : Int32) (x4 : Int32) (x5 : Int32) (o : Int32 × Int64 × Int32 × (Nat → Int32)) (S : CallFix p m c b_SkeletonClock_moment 7 s args GW y_SkeletonClock_moment.cls) (hr : meth.sig.returnType = (some .boolean)) (hlk : meth.locks = false) (hA : ∀ q, s.heap.size ≤ q → A q) (X : KX D kk st A s) (H : Heap) (locs : List Loc) (ls : Array Slot) (he : jn_SkeletonClock_moment_59 t_now_seconds t_now_parts t_now_values x1 x3 x4 x5 = some o) (hl : lv_has ls 7 [(0, .ref a_t), (1, .long x1), (3, .int x3), (4, .int x4), (5, .int x5)]) (hP : va_P D classes [(a_t, .inr (0, [.ref a_t_text, .ref a_t_page, .ref a_t_slots, .ref a_t_parser, .ref a_t_printer, .ref a_t_reader, .ref a_t_resolver, .ref a_t_now, .ref a_t_latest, .int t_nearest])), (a_t_now, .inr (5, [.ref a_t_now_values, .long t_now_seconds, .int t_now_parts])), (a_t_now_values, .inl (kk 0, 14, .inl t_now_values))] H) (hD : va_D A [(a_t, .inr (0, [.ref a_t_text, .ref a_t_page, .ref a_t_slots, .ref a_t_parser, .ref a_t_printer, .ref a_t_reader, .ref a_t_resolver, .ref a_t_now, .ref a_t_latest, .int t_nearest])), (a_t_now, .inr (5, [.ref a_t_now_values, .long t_now_seconds, .int t_now_parts])), (a_t_now_values, .inl (kk 0, 14, .inl t_now_values))]) (hS : va_S A s.heap H locs) : W p l e rm_SkeletonClock_moment s m args below meth c H locs 0 0 (MQ below (KQi D kk o.1 [(a_t, .inr (0, [.ref a_t_text, .ref a_t_page, .ref a_t_slots, .ref a_t_parser, .ref a_t_printer, .ref a_t_reader, .ref a_t_resolver, .ref a_t_now, .ref a_t_latest, .int t_nearest])), (a_t_now, .inr (5, [.ref a_t_now_values, .long o.2.1, .int o.2.2.1])), (a_t_now_values, .inl (kk 0, 14, .inl o.2.2.2))] A) args s 0 0 A) (F0 m 59 ls []) := by
  have hx := S.1
  have hb := S.2.1
  unfold jn_SkeletonClock_moment_59 at he
  refine lv_iconst (v := (0 : Int32)) hx hb d_SkeletonClock_moment_59 (by decide) ?_
  have hl : lv_has ls 7 [(0, .ref a_t), (1, .long x1), (3, .int x3), (4, .int x4), (5, .int x5)] := lv_sub hl [0, 1, 2, 3, 4] rfl
  exact w_SkeletonClock_moment_60 a_t a_t_now a_t_now_values a_t_text a_t_page a_t_slots a_t_parser a_t_printer a_t_reader a_t_resolver a_t_latest t_nearest t_now_seconds t_now_parts t_now_values x1 x3 x4 x5 (0 : Int32) o S hr hlk hA X _ _ ls he hl hP hD hS
set_option maxHeartbeats 4000000 in
set_option maxRecDepth 100000 in
theorem c_SkeletonClock_moment (l : Launch) (D : va_G) (kk : Nat → ClassId) (st : Nat → Nat) (a_t a_t_now a_t_now_values a_t_text a_t_page a_t_slots a_t_parser a_t_printer a_t_reader a_t_resolver a_t_latest : Nat) (sz : Nat) (t_nearest : Int32) (t_now_seconds : Int64) (t_now_parts : Int32) (t_now_values : Nat → Int32) (x1 : Int64) (x3 : Int32) (x4 : Int32) (x5 : Int32) (o : Int32 × Int64 × Int32 × (Nat → Int32)) (he : f_SkeletonClock_moment t_now_seconds t_now_parts t_now_values x1 x3 x4 x5 = some o) : Met l y_SkeletonClock_moment (Cond.code y_SkeletonClock_moment b_SkeletonClock_moment 7 (some .boolean) :: GW) rm_SkeletonClock_moment (KPc D kk st [.ref a_t, .long x1, .int x3, .int x4, .int x5] [(a_t, .inr (0, [.ref a_t_text, .ref a_t_page, .ref a_t_slots, .ref a_t_parser, .ref a_t_printer, .ref a_t_reader, .ref a_t_resolver, .ref a_t_now, .ref a_t_latest, .int t_nearest])), (a_t_now, .inr (5, [.ref a_t_now_values, .long t_now_seconds, .int t_now_parts])), (a_t_now_values, .inl (kk 0, 14, .inl t_now_values))] sz) (KQi D kk o.1 [(a_t, .inr (0, [.ref a_t_text, .ref a_t_page, .ref a_t_slots, .ref a_t_parser, .ref a_t_printer, .ref a_t_reader, .ref a_t_resolver, .ref a_t_now, .ref a_t_latest, .int t_nearest])), (a_t_now, .inr (5, [.ref a_t_now_values, .long o.2.1, .int o.2.2.1])), (a_t_now_values, .inl (kk 0, 14, .inl o.2.2.2))] (va_A [(a_t, .inr (0, [.ref a_t_text, .ref a_t_page, .ref a_t_slots, .ref a_t_parser, .ref a_t_printer, .ref a_t_reader, .ref a_t_resolver, .ref a_t_now, .ref a_t_latest, .int t_nearest])), (a_t_now, .inr (5, [.ref a_t_now_values, .long t_now_seconds, .int t_now_parts])), (a_t_now_values, .inl (kk 0, 14, .inl t_now_values))] sz)) 0 0 (va_A [(a_t, .inr (0, [.ref a_t_text, .ref a_t_page, .ref a_t_slots, .ref a_t_parser, .ref a_t_printer, .ref a_t_reader, .ref a_t_resolver, .ref a_t_now, .ref a_t_latest, .int t_nearest])), (a_t_now, .inr (5, [.ref a_t_now_values, .long t_now_seconds, .int t_now_parts])), (a_t_now_values, .inl (kk 0, 14, .inl t_now_values))] sz) := by
  refine k_start (Qc := fun A => KQi D kk o.1 [(a_t, .inr (0, [.ref a_t_text, .ref a_t_page, .ref a_t_slots, .ref a_t_parser, .ref a_t_printer, .ref a_t_reader, .ref a_t_resolver, .ref a_t_now, .ref a_t_latest, .int t_nearest])), (a_t_now, .inr (5, [.ref a_t_now_values, .long o.2.1, .int o.2.2.1])), (a_t_now_values, .inl (kk 0, 14, .inl o.2.2.2))] A) (by decide) (Nat.le_of_ble_eq_true rfl) ?_
  intro p e s m below meth c A ls S hnm hr hlk hA X hP hD hS hl
  have hl : lv_has ls 7 [(0, .ref a_t), (1, .long x1), (3, .int x3), (4, .int x4), (5, .int x5)] := hl
  have hx := S.1
  have hb := S.2.1
  unfold f_SkeletonClock_moment at he
  refine lv_iload_n hx hb d_SkeletonClock_moment_0 rfl (lv_at hl 2 rfl) ?_
  refine lv_if_lt (tgt := 59) hx hb d_SkeletonClock_moment_1 rfl (fun hc => ?_) (fun hc => ?_)
  · have he := ih_t hc he
    have hl : lv_has ls 7 [(0, .ref a_t), (1, .long x1), (3, .int x3), (4, .int x4), (5, .int x5)] := lv_sub hl [0, 1, 2, 3, 4] rfl
    exact w_SkeletonClock_moment_59 a_t a_t_now a_t_now_values a_t_text a_t_page a_t_slots a_t_parser a_t_printer a_t_reader a_t_resolver a_t_latest t_nearest t_now_seconds t_now_parts t_now_values x1 x3 x4 x5 o S hr hlk hA X _ _ ls he hl hP hD hS
  · have he := ih_f hc he
    refine lv_iload_n hx hb d_SkeletonClock_moment_4 rfl (lv_at hl 2 rfl) ?_
    refine lv_ldc (v := (999999999 : Int32)) hx hb S.2.2.2.1 (S.2.2.2.2 _ gm_3_16) d_SkeletonClock_moment_5 ?_
    refine lv_icmp_gt (tgt := 59) hx hb d_SkeletonClock_moment_7 rfl (fun hc => ?_) (fun hc => ?_)
    · have he := ih_t hc he
      have hl : lv_has ls 7 [(0, .ref a_t), (1, .long x1), (3, .int x3), (4, .int x4), (5, .int x5)] := lv_sub hl [0, 1, 2, 3, 4] rfl
      exact w_SkeletonClock_moment_59 a_t a_t_now a_t_now_values a_t_text a_t_page a_t_slots a_t_parser a_t_printer a_t_reader a_t_resolver a_t_latest t_nearest t_now_seconds t_now_parts t_now_values x1 x3 x4 x5 o S hr hlk hA X _ _ ls he hl hP hD hS
    · have he := ih_f hc he
      refine lv_iload hx hb d_SkeletonClock_moment_10 (lv_at hl 3 rfl) ?_
      refine lv_sipush (v := (-1080 : Int32)) hx hb d_SkeletonClock_moment_12 (by decide) ?_
      refine lv_icmp_lt (tgt := 59) hx hb d_SkeletonClock_moment_15 rfl (fun hc => ?_) (fun hc => ?_)
      · have he := ih_t hc he
        have hl : lv_has ls 7 [(0, .ref a_t), (1, .long x1), (3, .int x3), (4, .int x4), (5, .int x5)] := lv_sub hl [0, 1, 2, 3, 4] rfl
        exact w_SkeletonClock_moment_59 a_t a_t_now a_t_now_values a_t_text a_t_page a_t_slots a_t_parser a_t_printer a_t_reader a_t_resolver a_t_latest t_nearest t_now_seconds t_now_parts t_now_values x1 x3 x4 x5 o S hr hlk hA X _ _ ls he hl hP hD hS
      · have he := ih_f hc he
        refine lv_iload hx hb d_SkeletonClock_moment_18 (lv_at hl 3 rfl) ?_
        refine lv_sipush (v := (1080 : Int32)) hx hb d_SkeletonClock_moment_20 (by decide) ?_
        refine lv_icmp_gt (tgt := 59) hx hb d_SkeletonClock_moment_23 rfl (fun hc => ?_) (fun hc => ?_)
        · have he := ih_t hc he
          have hl : lv_has ls 7 [(0, .ref a_t), (1, .long x1), (3, .int x3), (4, .int x4), (5, .int x5)] := lv_sub hl [0, 1, 2, 3, 4] rfl
          exact w_SkeletonClock_moment_59 a_t a_t_now a_t_now_values a_t_text a_t_page a_t_slots a_t_parser a_t_printer a_t_reader a_t_resolver a_t_latest t_nearest t_now_seconds t_now_parts t_now_values x1 x3 x4 x5 o S hr hlk hA X _ _ ls he hl hP hD hS
        · have he := ih_f hc he
          refine lv_iload hx hb d_SkeletonClock_moment_26 (lv_at hl 4 rfl) ?_
          refine lv_iconst (v := (1 : Int32)) hx hb d_SkeletonClock_moment_28 (by decide) ?_
          refine lv_icmp_lt (tgt := 59) hx hb d_SkeletonClock_moment_29 rfl (fun hc => ?_) (fun hc => ?_)
          · have he := ih_t hc he
            have hl : lv_has ls 7 [(0, .ref a_t), (1, .long x1), (3, .int x3), (4, .int x4), (5, .int x5)] := lv_sub hl [0, 1, 2, 3, 4] rfl
            exact w_SkeletonClock_moment_59 a_t a_t_now a_t_now_values a_t_text a_t_page a_t_slots a_t_parser a_t_printer a_t_reader a_t_resolver a_t_latest t_nearest t_now_seconds t_now_parts t_now_values x1 x3 x4 x5 o S hr hlk hA X _ _ ls he hl hP hD hS
          · have he := ih_f hc he
            refine lv_iload hx hb d_SkeletonClock_moment_32 (lv_at hl 4 rfl) ?_
            refine lv_bipush (v := (7 : Int32)) hx hb d_SkeletonClock_moment_34 (by decide) ?_
            refine lv_icmp_gt (tgt := 59) hx hb d_SkeletonClock_moment_36 rfl (fun hc => ?_) (fun hc => ?_)
            · have he := ih_t hc he
              have hl : lv_has ls 7 [(0, .ref a_t), (1, .long x1), (3, .int x3), (4, .int x4), (5, .int x5)] := lv_sub hl [0, 1, 2, 3, 4] rfl
              exact w_SkeletonClock_moment_59 a_t a_t_now a_t_now_values a_t_text a_t_page a_t_slots a_t_parser a_t_printer a_t_reader a_t_resolver a_t_latest t_nearest t_now_seconds t_now_parts t_now_values x1 x3 x4 x5 o S hr hlk hA X _ _ ls he hl hP hD hS
            · have he := ih_f hc he
              refine lv_lload_n hx hb d_SkeletonClock_moment_39 rfl (lv_at hl 1 rfl) ?_
              refine lv_ldc2 (v := (-40000000000000000 : Int64)) hx hb S.2.2.2.1 (S.2.2.2.2 _ gm_3_17) d_SkeletonClock_moment_40 ?_
              refine lq_lt (tgt := 59) hx hb d_SkeletonClock_moment_43 d_SkeletonClock_moment_44 rfl (fun hc => ?_) (fun hc => ?_)
              · have he := ih_t hc he
                have hl : lv_has ls 7 [(0, .ref a_t), (1, .long x1), (3, .int x3), (4, .int x4), (5, .int x5)] := lv_sub hl [0, 1, 2, 3, 4] rfl
                exact w_SkeletonClock_moment_59 a_t a_t_now a_t_now_values a_t_text a_t_page a_t_slots a_t_parser a_t_printer a_t_reader a_t_resolver a_t_latest t_nearest t_now_seconds t_now_parts t_now_values x1 x3 x4 x5 o S hr hlk hA X _ _ ls he hl hP hD hS
              · have he := ih_f hc he
                refine lv_lload_n hx hb d_SkeletonClock_moment_47 rfl (lv_at hl 1 rfl) ?_
                refine lv_ldc2 (v := (40000000000000000 : Int64)) hx hb S.2.2.2.1 (S.2.2.2.2 _ gm_3_18) d_SkeletonClock_moment_48 ?_
                refine lq_gt (tgt := 59) hx hb d_SkeletonClock_moment_51 d_SkeletonClock_moment_52 rfl (fun hc => ?_) (fun hc => ?_)
                · have he := ih_t hc he
                  have hl : lv_has ls 7 [(0, .ref a_t), (1, .long x1), (3, .int x3), (4, .int x4), (5, .int x5)] := lv_sub hl [0, 1, 2, 3, 4] rfl
                  exact w_SkeletonClock_moment_59 a_t a_t_now a_t_now_values a_t_text a_t_page a_t_slots a_t_parser a_t_printer a_t_reader a_t_resolver a_t_latest t_nearest t_now_seconds t_now_parts t_now_values x1 x3 x4 x5 o S hr hlk hA X _ _ ls he hl hP hD hS
                · have he := ih_f hc he
                  refine lv_iconst (v := (1 : Int32)) hx hb d_SkeletonClock_moment_55 (by decide) ?_
                  refine lv_goto (tgt := 60) hx hb d_SkeletonClock_moment_56 rfl ?_
                  have hl : lv_has ls 7 [(0, .ref a_t), (1, .long x1), (3, .int x3), (4, .int x4), (5, .int x5)] := lv_sub hl [0, 1, 2, 3, 4] rfl
                  exact w_SkeletonClock_moment_60 a_t a_t_now a_t_now_values a_t_text a_t_page a_t_slots a_t_parser a_t_printer a_t_reader a_t_resolver a_t_latest t_nearest t_now_seconds t_now_parts t_now_values x1 x3 x4 x5 (1 : Int32) o S hr hlk hA X _ _ ls he hl hP hD hS
abbrev rm_SkeletonClock_field : Room := { frames := 4, cells := 0, slots := 0, locals := 91 }
set_option maxHeartbeats 4000000 in
set_option maxRecDepth 100000 in
theorem c_SkeletonClock_field (l : Launch) (D : va_G) (kk : Nat → ClassId) (st : Nat → Nat) (a_t a_t_now a_t_now_values a_t_text a_t_page a_t_slots a_t_parser a_t_printer a_t_reader a_t_resolver a_t_latest : Nat) (sz : Nat) (t_nearest : Int32) (t_now_seconds : Int64) (t_now_parts : Int32) (t_now_values : Nat → Int32) (x1 : Int32) (o : Int32) (he : f_SkeletonClock_field t_now_values x1 = some o) : Met l y_SkeletonClock_field (Cond.code y_SkeletonClock_field b_SkeletonClock_field 3 (some .int) :: GW) rm_SkeletonClock_field (KPc D kk st [.ref a_t, .int x1] [(a_t, .inr (0, [.ref a_t_text, .ref a_t_page, .ref a_t_slots, .ref a_t_parser, .ref a_t_printer, .ref a_t_reader, .ref a_t_resolver, .ref a_t_now, .ref a_t_latest, .int t_nearest])), (a_t_now, .inr (5, [.ref a_t_now_values, .long t_now_seconds, .int t_now_parts])), (a_t_now_values, .inl (kk 0, 14, .inl t_now_values))] sz) (KQi D kk o [(a_t, .inr (0, [.ref a_t_text, .ref a_t_page, .ref a_t_slots, .ref a_t_parser, .ref a_t_printer, .ref a_t_reader, .ref a_t_resolver, .ref a_t_now, .ref a_t_latest, .int t_nearest])), (a_t_now, .inr (5, [.ref a_t_now_values, .long t_now_seconds, .int t_now_parts])), (a_t_now_values, .inl (kk 0, 14, .inl t_now_values))] (va_A [(a_t, .inr (0, [.ref a_t_text, .ref a_t_page, .ref a_t_slots, .ref a_t_parser, .ref a_t_printer, .ref a_t_reader, .ref a_t_resolver, .ref a_t_now, .ref a_t_latest, .int t_nearest])), (a_t_now, .inr (5, [.ref a_t_now_values, .long t_now_seconds, .int t_now_parts])), (a_t_now_values, .inl (kk 0, 14, .inl t_now_values))] sz)) 0 0 (va_A [(a_t, .inr (0, [.ref a_t_text, .ref a_t_page, .ref a_t_slots, .ref a_t_parser, .ref a_t_printer, .ref a_t_reader, .ref a_t_resolver, .ref a_t_now, .ref a_t_latest, .int t_nearest])), (a_t_now, .inr (5, [.ref a_t_now_values, .long t_now_seconds, .int t_now_parts])), (a_t_now_values, .inl (kk 0, 14, .inl t_now_values))] sz) := by
  refine k_start (Qc := fun A => KQi D kk o [(a_t, .inr (0, [.ref a_t_text, .ref a_t_page, .ref a_t_slots, .ref a_t_parser, .ref a_t_printer, .ref a_t_reader, .ref a_t_resolver, .ref a_t_now, .ref a_t_latest, .int t_nearest])), (a_t_now, .inr (5, [.ref a_t_now_values, .long t_now_seconds, .int t_now_parts])), (a_t_now_values, .inl (kk 0, 14, .inl t_now_values))] A) (by decide) (Nat.le_of_ble_eq_true rfl) ?_
  intro p e s m below meth c A ls S hnm hr hlk hA X hP hD hS hl
  have hl : lv_has ls 3 [(0, .ref a_t), (1, .int x1)] := hl
  have hx := S.1
  have hb := S.2.1
  unfold f_SkeletonClock_field at he
  refine va_ldcS hx hb S.2.2.2.1 X.2.1.2.2.1 d_SkeletonClock_field_0 ?_
  refine lv_iload_n hx hb d_SkeletonClock_field_2 rfl (lv_at hl 1 rfl) ?_
  obtain ⟨u1, e2, he⟩ := ih_b he
  refine k_io (r_VH (As := [.int x1]) S X hA hP hD hS (c_String_indexOf_I l D kk st _ 0 (by decide) x1 u1 e2) gm_2_100 gm_3_33 gm_2_98 gm_2_99 gm_1_14 ⟨rfl, rfl, by decide, by decide⟩ kd_String_indexOf_I [] rfl rfl rfl (SW.rv X.2.2 0 (by decide) hS) rfl hl.1 rfl (Nat.le_of_ble_eq_true rfl) d_SkeletonClock_field_3 ⟨Nat.zero_le _, Nat.zero_le _⟩) hA hP hD hS [] rfl (fun H locs hP hS => ?_)
  refine lv_istore_n hx hb d_SkeletonClock_field_6 rfl hl (by decide) rfl (fun ls hl => ?_)
  have hl : lv_has ls 3 [(2, .int u1), (0, .ref a_t), (1, .int x1)] := hl
  refine lv_iload_n hx hb d_SkeletonClock_field_7 rfl (lv_at hl 0 rfl) ?_
  refine lv_if_lt (tgt := 28) hx hb d_SkeletonClock_field_8 rfl (fun hc => ?_) (fun hc => ?_)
  · have he := ih_t hc he
    refine lv_iconst (v := (-1 : Int32)) hx hb d_SkeletonClock_field_28 (by decide) ?_
    cases he
    exact k_ire hx hb hr hlk X hP hD hS d_SkeletonClock_field_29
  · have he := ih_f hc he
    refine lv_iload_n hx hb d_SkeletonClock_field_11 rfl (lv_at hl 0 rfl) ?_
    refine lv_bipush (v := (14 : Int32)) hx hb d_SkeletonClock_field_12 (by decide) ?_
    refine lv_icmp_ge (tgt := 28) hx hb d_SkeletonClock_field_14 rfl (fun hc => ?_) (fun hc => ?_)
    · have he := ih_t hc he
      refine lv_iconst (v := (-1 : Int32)) hx hb d_SkeletonClock_field_28 (by decide) ?_
      cases he
      exact k_ire hx hb hr hlk X hP hD hS d_SkeletonClock_field_29
    · have he := ih_f hc he
      refine lv_aload_n hx hb d_SkeletonClock_field_17 rfl (lv_at hl 1 rfl) ?_
      refine k_get S X us_SkeletonClock hP 0 rfl rfl 7 (by decide) gm_2_26 rfl d_SkeletonClock_field_18 ?_
      refine lv_iload_n hx hb d_SkeletonClock_field_21 rfl (lv_at hl 0 rfl) ?_
      obtain ⟨u3, e4, he⟩ := ih_b he
      refine k_io (r_V (As := [.int u1]) S X hA hP hD hS (c_Moment_value l D kk st a_t_now a_t_now_values _ t_now_seconds t_now_parts t_now_values u1 u3 e4) gm_3_37 gm_3_34 gm_3_35 gm_3_36 gm_1_10 ⟨rfl, rfl, by decide, by decide⟩ kd_Moment_value [1, 2] rfl rfl rfl 1 5 rfl rfl rfl rfl hl.1 rfl (Nat.le_of_ble_eq_true rfl) d_SkeletonClock_field_22 ⟨Nat.zero_le _, Nat.zero_le _⟩) hA hP hD hS [1, 2] rfl (fun H locs hP hS => ?_)
      refine lv_goto (tgt := 29) hx hb d_SkeletonClock_field_25 rfl ?_
      cases he
      exact k_ire hx hb hr hlk X hP hD hS d_SkeletonClock_field_29
abbrev rm_SkeletonClock_charAt : Room := { frames := 1, cells := 0, slots := 0, locals := 21 }
set_option maxHeartbeats 4000000 in
set_option maxRecDepth 100000 in
theorem c_SkeletonClock_charAt (l : Launch) (D : va_G) (kk : Nat → ClassId) (st : Nat → Nat) (a_t a_t_page a_t_page_cells a_t_text a_t_slots a_t_parser a_t_printer a_t_reader a_t_resolver a_t_now a_t_latest : Nat) (sz : Nat) (t_nearest : Int32) (t_page_size : Int32) (t_page_cells : Nat → Int32) (x1 : Int32) (o : Int32) (he : f_SkeletonClock_charAt t_page_size t_page_cells x1 = some o) : Met l y_SkeletonClock_charAt (Cond.code y_SkeletonClock_charAt b_SkeletonClock_charAt 2 (some .int) :: GW) rm_SkeletonClock_charAt (KPc D kk st [.ref a_t, .int x1] [(a_t, .inr (0, [.ref a_t_text, .ref a_t_page, .ref a_t_slots, .ref a_t_parser, .ref a_t_printer, .ref a_t_reader, .ref a_t_resolver, .ref a_t_now, .ref a_t_latest, .int t_nearest])), (a_t_page, .inr (1, [.ref a_t_page_cells, .int t_page_size])), (a_t_page_cells, .inl (kk 1, 200, .inl t_page_cells))] sz) (KQi D kk o [(a_t, .inr (0, [.ref a_t_text, .ref a_t_page, .ref a_t_slots, .ref a_t_parser, .ref a_t_printer, .ref a_t_reader, .ref a_t_resolver, .ref a_t_now, .ref a_t_latest, .int t_nearest])), (a_t_page, .inr (1, [.ref a_t_page_cells, .int t_page_size])), (a_t_page_cells, .inl (kk 1, 200, .inl t_page_cells))] (va_A [(a_t, .inr (0, [.ref a_t_text, .ref a_t_page, .ref a_t_slots, .ref a_t_parser, .ref a_t_printer, .ref a_t_reader, .ref a_t_resolver, .ref a_t_now, .ref a_t_latest, .int t_nearest])), (a_t_page, .inr (1, [.ref a_t_page_cells, .int t_page_size])), (a_t_page_cells, .inl (kk 1, 200, .inl t_page_cells))] sz)) 0 0 (va_A [(a_t, .inr (0, [.ref a_t_text, .ref a_t_page, .ref a_t_slots, .ref a_t_parser, .ref a_t_printer, .ref a_t_reader, .ref a_t_resolver, .ref a_t_now, .ref a_t_latest, .int t_nearest])), (a_t_page, .inr (1, [.ref a_t_page_cells, .int t_page_size])), (a_t_page_cells, .inl (kk 1, 200, .inl t_page_cells))] sz) := by
  refine k_start (Qc := fun A => KQi D kk o [(a_t, .inr (0, [.ref a_t_text, .ref a_t_page, .ref a_t_slots, .ref a_t_parser, .ref a_t_printer, .ref a_t_reader, .ref a_t_resolver, .ref a_t_now, .ref a_t_latest, .int t_nearest])), (a_t_page, .inr (1, [.ref a_t_page_cells, .int t_page_size])), (a_t_page_cells, .inl (kk 1, 200, .inl t_page_cells))] A) (by decide) (Nat.le_of_ble_eq_true rfl) ?_
  intro p e s m below meth c A ls S hnm hr hlk hA X hP hD hS hl
  have hl : lv_has ls 2 [(0, .ref a_t), (1, .int x1)] := hl
  have hx := S.1
  have hb := S.2.1
  unfold f_SkeletonClock_charAt at he
  refine lv_aload_n hx hb d_SkeletonClock_charAt_0 rfl (lv_at hl 0 rfl) ?_
  refine k_get S X us_SkeletonClock hP 0 rfl rfl 1 (by decide) gm_2_20 rfl d_SkeletonClock_charAt_1 ?_
  refine lv_iload_n hx hb d_SkeletonClock_charAt_4 rfl (lv_at hl 1 rfl) ?_
  obtain ⟨u1, e2, he⟩ := ih_b he
  refine k_io (r_V (As := [.int x1]) S X hA hP hD hS (c_Row_codeAt l D kk st a_t_page a_t_page_cells _ 200 t_page_size t_page_cells x1 u1 e2) gm_2_76 gm_3_167 gm_2_74 gm_2_75 gm_1_2 ⟨rfl, rfl, by decide, by decide⟩ kd_Row_codeAt [1, 2] rfl rfl rfl 1 1 rfl rfl rfl rfl hl.1 rfl (Nat.le_of_ble_eq_true rfl) d_SkeletonClock_charAt_5 ⟨Nat.zero_le _, Nat.zero_le _⟩) hA hP hD hS [1, 2] rfl (fun H locs hP hS => ?_)
  cases he
  exact k_ire hx hb hr hlk X hP hD hS d_SkeletonClock_charAt_8
abbrev rm_SkeletonClock_copy : Room := { frames := 2, cells := 0, slots := 0, locals := 43 }
set_option maxHeartbeats 4000000 in
set_option maxRecDepth 100000 in
theorem c_SkeletonClock_copy (l : Launch) (D : va_G) (kk : Nat → ClassId) (st : Nat → Nat) (a_t a_t_text a_t_text_cells a_t_page a_t_page_cells a_t_slots a_t_parser a_t_printer a_t_reader a_t_resolver a_t_now a_t_latest : Nat) (sz : Nat) (t_nearest : Int32) (t_text_size : Int32) (t_text_cells : Nat → Int32) (t_page_size : Int32) (t_page_cells : Nat → Int32) (o : Int32 × Int32 × (Nat → Int32)) (he : f_SkeletonClock_copy t_text_size t_text_cells t_page_size t_page_cells = some o) : Met l y_SkeletonClock_copy (Cond.code y_SkeletonClock_copy b_SkeletonClock_copy 1 (some .boolean) :: GW) rm_SkeletonClock_copy (KPc D kk st [.ref a_t] [(a_t, .inr (0, [.ref a_t_text, .ref a_t_page, .ref a_t_slots, .ref a_t_parser, .ref a_t_printer, .ref a_t_reader, .ref a_t_resolver, .ref a_t_now, .ref a_t_latest, .int t_nearest])), (a_t_text, .inr (1, [.ref a_t_text_cells, .int t_text_size])), (a_t_text_cells, .inl (kk 1, 60, .inl t_text_cells)), (a_t_page, .inr (1, [.ref a_t_page_cells, .int t_page_size])), (a_t_page_cells, .inl (kk 1, 200, .inl t_page_cells))] sz) (KQi D kk o.1 [(a_t, .inr (0, [.ref a_t_text, .ref a_t_page, .ref a_t_slots, .ref a_t_parser, .ref a_t_printer, .ref a_t_reader, .ref a_t_resolver, .ref a_t_now, .ref a_t_latest, .int t_nearest])), (a_t_text, .inr (1, [.ref a_t_text_cells, .int o.2.1])), (a_t_text_cells, .inl (kk 1, 60, .inl o.2.2)), (a_t_page, .inr (1, [.ref a_t_page_cells, .int t_page_size])), (a_t_page_cells, .inl (kk 1, 200, .inl t_page_cells))] (va_A [(a_t, .inr (0, [.ref a_t_text, .ref a_t_page, .ref a_t_slots, .ref a_t_parser, .ref a_t_printer, .ref a_t_reader, .ref a_t_resolver, .ref a_t_now, .ref a_t_latest, .int t_nearest])), (a_t_text, .inr (1, [.ref a_t_text_cells, .int t_text_size])), (a_t_text_cells, .inl (kk 1, 60, .inl t_text_cells)), (a_t_page, .inr (1, [.ref a_t_page_cells, .int t_page_size])), (a_t_page_cells, .inl (kk 1, 200, .inl t_page_cells))] sz)) 0 0 (va_A [(a_t, .inr (0, [.ref a_t_text, .ref a_t_page, .ref a_t_slots, .ref a_t_parser, .ref a_t_printer, .ref a_t_reader, .ref a_t_resolver, .ref a_t_now, .ref a_t_latest, .int t_nearest])), (a_t_text, .inr (1, [.ref a_t_text_cells, .int t_text_size])), (a_t_text_cells, .inl (kk 1, 60, .inl t_text_cells)), (a_t_page, .inr (1, [.ref a_t_page_cells, .int t_page_size])), (a_t_page_cells, .inl (kk 1, 200, .inl t_page_cells))] sz) := by
  refine k_start (Qc := fun A => KQi D kk o.1 [(a_t, .inr (0, [.ref a_t_text, .ref a_t_page, .ref a_t_slots, .ref a_t_parser, .ref a_t_printer, .ref a_t_reader, .ref a_t_resolver, .ref a_t_now, .ref a_t_latest, .int t_nearest])), (a_t_text, .inr (1, [.ref a_t_text_cells, .int o.2.1])), (a_t_text_cells, .inl (kk 1, 60, .inl o.2.2)), (a_t_page, .inr (1, [.ref a_t_page_cells, .int t_page_size])), (a_t_page_cells, .inl (kk 1, 200, .inl t_page_cells))] A) (by decide) (Nat.le_of_ble_eq_true rfl) ?_
  intro p e s m below meth c A ls S hnm hr hlk hA X hP hD hS hl
  have hl : lv_has ls 1 [(0, .ref a_t)] := hl
  have hx := S.1
  have hb := S.2.1
  unfold f_SkeletonClock_copy at he
  refine lv_aload_n hx hb d_SkeletonClock_copy_0 rfl (lv_at hl 0 rfl) ?_
  refine k_get S X us_SkeletonClock hP 0 rfl rfl 1 (by decide) gm_2_20 rfl d_SkeletonClock_copy_1 ?_
  refine k_get S X us_Row hP 3 rfl rfl 1 (by decide) gm_1_39 rfl d_SkeletonClock_copy_4 ?_
  refine lv_bipush (v := (60 : Int32)) hx hb d_SkeletonClock_copy_7 (by decide) ?_
  refine lv_icmp_le (tgt := 14) hx hb d_SkeletonClock_copy_9 rfl (fun hc => ?_) (fun hc => ?_)
  · have he := ih_t hc he
    refine lv_aload_n hx hb d_SkeletonClock_copy_14 rfl (lv_at hl 0 rfl) ?_
    refine k_get S X us_SkeletonClock hP 0 rfl rfl 0 (by decide) gm_2_19 rfl d_SkeletonClock_copy_15 ?_
    refine lv_aload_n hx hb d_SkeletonClock_copy_18 rfl (lv_at hl 0 rfl) ?_
    refine k_get S X us_SkeletonClock hP 0 rfl rfl 1 (by decide) gm_2_20 rfl d_SkeletonClock_copy_19 ?_
    obtain ⟨u1, e2, he⟩ := ih_b he
    refine k_v (wr := [(a_t, .inr (0, [.ref a_t_text, .ref a_t_page, .ref a_t_slots, .ref a_t_parser, .ref a_t_printer, .ref a_t_reader, .ref a_t_resolver, .ref a_t_now, .ref a_t_latest, .int t_nearest]))]) (w1 := [(a_t_text, .inr (1, [.ref a_t_text_cells, .int u1.1])), (a_t_text_cells, .inl (kk 1, 60, .inl u1.2)), (a_t_page, .inr (1, [.ref a_t_page_cells, .int t_page_size])), (a_t_page_cells, .inl (kk 1, 200, .inl t_page_cells))]) (w2 := [(a_t, .inr (0, [.ref a_t_text, .ref a_t_page, .ref a_t_slots, .ref a_t_parser, .ref a_t_printer, .ref a_t_reader, .ref a_t_resolver, .ref a_t_now, .ref a_t_latest, .int t_nearest])), (a_t_text, .inr (1, [.ref a_t_text_cells, .int u1.1])), (a_t_text_cells, .inl (kk 1, 60, .inl u1.2)), (a_t_page, .inr (1, [.ref a_t_page_cells, .int t_page_size])), (a_t_page_cells, .inl (kk 1, 200, .inl t_page_cells))]) (r_V (As := [.ref a_t_page]) S X hA hP hD hS (c_Row_become l D kk st a_t_text a_t_text_cells a_t_page a_t_page_cells _ 60 200 t_text_size t_text_cells t_page_size t_page_cells u1 e2) gm_3_161 gm_3_158 gm_3_159 gm_3_160 gm_1_2 ⟨rfl, rfl, by decide, by decide⟩ kd_Row_become [1, 2, 3, 4] rfl rfl rfl 1 1 rfl rfl rfl rfl hl.1 rfl (Nat.le_of_ble_eq_true rfl) d_SkeletonClock_copy_22 ⟨Nat.zero_le _, Nat.zero_le _⟩) hA hP hD hS [1, 2, 3, 4] [0] [0, 1, 2, 3, 4] rfl rfl rfl (by decide) rfl rfl rfl (fun H locs hP hD hS => ?_)
    refine lv_iconst (v := (1 : Int32)) hx hb d_SkeletonClock_copy_25 (by decide) ?_
    cases he
    exact k_zre hx hb hr hlk X hP hD hS (Or.inr rfl) d_SkeletonClock_copy_26
  · have he := ih_f hc he
    refine lv_iconst (v := (0 : Int32)) hx hb d_SkeletonClock_copy_12 (by decide) ?_
    cases he
    exact k_zre hx hb hr hlk X hP hD hS (Or.inl rfl) d_SkeletonClock_copy_13
abbrev rm_SkeletonClock_parts : Room := { frames := 0, cells := 0, slots := 0, locals := 0 }
set_option maxHeartbeats 4000000 in
set_option maxRecDepth 100000 in
theorem c_SkeletonClock_parts (l : Launch) (D : va_G) (kk : Nat → ClassId) (st : Nat → Nat) (a_t a_t_latest a_t_text a_t_page a_t_slots a_t_parser a_t_printer a_t_reader a_t_resolver a_t_now a_t_latest_values : Nat) (sz : Nat) (t_nearest : Int32) (t_latest_seconds : Int64) (t_latest_parts : Int32) (o : Int32) (he : f_SkeletonClock_parts t_latest_parts = some o) : Met l y_SkeletonClock_parts (Cond.code y_SkeletonClock_parts b_SkeletonClock_parts 1 (some .int) :: GW) rm_SkeletonClock_parts (KPc D kk st [.ref a_t] [(a_t, .inr (0, [.ref a_t_text, .ref a_t_page, .ref a_t_slots, .ref a_t_parser, .ref a_t_printer, .ref a_t_reader, .ref a_t_resolver, .ref a_t_now, .ref a_t_latest, .int t_nearest])), (a_t_latest, .inr (5, [.ref a_t_latest_values, .long t_latest_seconds, .int t_latest_parts]))] sz) (KQi D kk o [(a_t, .inr (0, [.ref a_t_text, .ref a_t_page, .ref a_t_slots, .ref a_t_parser, .ref a_t_printer, .ref a_t_reader, .ref a_t_resolver, .ref a_t_now, .ref a_t_latest, .int t_nearest])), (a_t_latest, .inr (5, [.ref a_t_latest_values, .long t_latest_seconds, .int t_latest_parts]))] (va_A [(a_t, .inr (0, [.ref a_t_text, .ref a_t_page, .ref a_t_slots, .ref a_t_parser, .ref a_t_printer, .ref a_t_reader, .ref a_t_resolver, .ref a_t_now, .ref a_t_latest, .int t_nearest])), (a_t_latest, .inr (5, [.ref a_t_latest_values, .long t_latest_seconds, .int t_latest_parts]))] sz)) 0 0 (va_A [(a_t, .inr (0, [.ref a_t_text, .ref a_t_page, .ref a_t_slots, .ref a_t_parser, .ref a_t_printer, .ref a_t_reader, .ref a_t_resolver, .ref a_t_now, .ref a_t_latest, .int t_nearest])), (a_t_latest, .inr (5, [.ref a_t_latest_values, .long t_latest_seconds, .int t_latest_parts]))] sz) := by
  refine k_start (Qc := fun A => KQi D kk o [(a_t, .inr (0, [.ref a_t_text, .ref a_t_page, .ref a_t_slots, .ref a_t_parser, .ref a_t_printer, .ref a_t_reader, .ref a_t_resolver, .ref a_t_now, .ref a_t_latest, .int t_nearest])), (a_t_latest, .inr (5, [.ref a_t_latest_values, .long t_latest_seconds, .int t_latest_parts]))] A) (by decide) (Nat.le_of_ble_eq_true rfl) ?_
  intro p e s m below meth c A ls S hnm hr hlk hA X hP hD hS hl
  have hl : lv_has ls 1 [(0, .ref a_t)] := hl
  have hx := S.1
  have hb := S.2.1
  unfold f_SkeletonClock_parts at he
  refine lv_aload_n hx hb d_SkeletonClock_parts_0 rfl (lv_at hl 0 rfl) ?_
  refine k_get S X us_SkeletonClock hP 0 rfl rfl 8 (by decide) gm_2_27 rfl d_SkeletonClock_parts_1 ?_
  refine k_get S X us_Moment hP 1 rfl rfl 2 (by decide) gm_1_182 rfl d_SkeletonClock_parts_4 ?_
  cases he
  exact k_ire hx hb hr hlk X hP hD hS d_SkeletonClock_parts_7
abbrev rm_SkeletonClock_seconds : Room := { frames := 0, cells := 0, slots := 0, locals := 0 }
set_option maxHeartbeats 4000000 in
set_option maxRecDepth 100000 in
theorem c_SkeletonClock_seconds (l : Launch) (D : va_G) (kk : Nat → ClassId) (st : Nat → Nat) (a_t a_t_latest a_t_text a_t_page a_t_slots a_t_parser a_t_printer a_t_reader a_t_resolver a_t_now a_t_latest_values : Nat) (sz : Nat) (t_nearest : Int32) (t_latest_seconds : Int64) (t_latest_parts : Int32) (o : Int64) (he : f_SkeletonClock_seconds t_latest_seconds = some o) : Met l y_SkeletonClock_seconds (Cond.code y_SkeletonClock_seconds b_SkeletonClock_seconds 1 (some .long) :: GW) rm_SkeletonClock_seconds (KPc D kk st [.ref a_t] [(a_t, .inr (0, [.ref a_t_text, .ref a_t_page, .ref a_t_slots, .ref a_t_parser, .ref a_t_printer, .ref a_t_reader, .ref a_t_resolver, .ref a_t_now, .ref a_t_latest, .int t_nearest])), (a_t_latest, .inr (5, [.ref a_t_latest_values, .long t_latest_seconds, .int t_latest_parts]))] sz) (KQl D kk o [(a_t, .inr (0, [.ref a_t_text, .ref a_t_page, .ref a_t_slots, .ref a_t_parser, .ref a_t_printer, .ref a_t_reader, .ref a_t_resolver, .ref a_t_now, .ref a_t_latest, .int t_nearest])), (a_t_latest, .inr (5, [.ref a_t_latest_values, .long t_latest_seconds, .int t_latest_parts]))] (va_A [(a_t, .inr (0, [.ref a_t_text, .ref a_t_page, .ref a_t_slots, .ref a_t_parser, .ref a_t_printer, .ref a_t_reader, .ref a_t_resolver, .ref a_t_now, .ref a_t_latest, .int t_nearest])), (a_t_latest, .inr (5, [.ref a_t_latest_values, .long t_latest_seconds, .int t_latest_parts]))] sz)) 0 0 (va_A [(a_t, .inr (0, [.ref a_t_text, .ref a_t_page, .ref a_t_slots, .ref a_t_parser, .ref a_t_printer, .ref a_t_reader, .ref a_t_resolver, .ref a_t_now, .ref a_t_latest, .int t_nearest])), (a_t_latest, .inr (5, [.ref a_t_latest_values, .long t_latest_seconds, .int t_latest_parts]))] sz) := by
  refine k_start (Qc := fun A => KQl D kk o [(a_t, .inr (0, [.ref a_t_text, .ref a_t_page, .ref a_t_slots, .ref a_t_parser, .ref a_t_printer, .ref a_t_reader, .ref a_t_resolver, .ref a_t_now, .ref a_t_latest, .int t_nearest])), (a_t_latest, .inr (5, [.ref a_t_latest_values, .long t_latest_seconds, .int t_latest_parts]))] A) (by decide) (Nat.le_of_ble_eq_true rfl) ?_
  intro p e s m below meth c A ls S hnm hr hlk hA X hP hD hS hl
  have hl : lv_has ls 1 [(0, .ref a_t)] := hl
  have hx := S.1
  have hb := S.2.1
  unfold f_SkeletonClock_seconds at he
  refine lv_aload_n hx hb d_SkeletonClock_seconds_0 rfl (lv_at hl 0 rfl) ?_
  refine k_get S X us_SkeletonClock hP 0 rfl rfl 8 (by decide) gm_2_27 rfl d_SkeletonClock_seconds_1 ?_
  refine k_get S X us_Moment hP 1 rfl rfl 1 (by decide) gm_1_180 rfl d_SkeletonClock_seconds_4 ?_
  cases he
  exact k_lre hx hb hr hlk X hP hD hS d_SkeletonClock_seconds_7
abbrev rm_SkeletonClock_nano : Room := { frames := 1, cells := 0, slots := 0, locals := 21 }
set_option maxHeartbeats 4000000 in
set_option maxRecDepth 100000 in
theorem c_SkeletonClock_nano (l : Launch) (D : va_G) (kk : Nat → ClassId) (st : Nat → Nat) (a_t a_t_latest a_t_latest_values a_t_text a_t_page a_t_slots a_t_parser a_t_printer a_t_reader a_t_resolver a_t_now : Nat) (sz : Nat) (t_nearest : Int32) (t_latest_seconds : Int64) (t_latest_parts : Int32) (t_latest_values : Nat → Int32) (o : Int32) (he : f_SkeletonClock_nano t_latest_values = some o) : Met l y_SkeletonClock_nano (Cond.code y_SkeletonClock_nano b_SkeletonClock_nano 1 (some .int) :: GW) rm_SkeletonClock_nano (KPc D kk st [.ref a_t] [(a_t, .inr (0, [.ref a_t_text, .ref a_t_page, .ref a_t_slots, .ref a_t_parser, .ref a_t_printer, .ref a_t_reader, .ref a_t_resolver, .ref a_t_now, .ref a_t_latest, .int t_nearest])), (a_t_latest, .inr (5, [.ref a_t_latest_values, .long t_latest_seconds, .int t_latest_parts])), (a_t_latest_values, .inl (kk 0, 14, .inl t_latest_values))] sz) (KQi D kk o [(a_t, .inr (0, [.ref a_t_text, .ref a_t_page, .ref a_t_slots, .ref a_t_parser, .ref a_t_printer, .ref a_t_reader, .ref a_t_resolver, .ref a_t_now, .ref a_t_latest, .int t_nearest])), (a_t_latest, .inr (5, [.ref a_t_latest_values, .long t_latest_seconds, .int t_latest_parts])), (a_t_latest_values, .inl (kk 0, 14, .inl t_latest_values))] (va_A [(a_t, .inr (0, [.ref a_t_text, .ref a_t_page, .ref a_t_slots, .ref a_t_parser, .ref a_t_printer, .ref a_t_reader, .ref a_t_resolver, .ref a_t_now, .ref a_t_latest, .int t_nearest])), (a_t_latest, .inr (5, [.ref a_t_latest_values, .long t_latest_seconds, .int t_latest_parts])), (a_t_latest_values, .inl (kk 0, 14, .inl t_latest_values))] sz)) 0 0 (va_A [(a_t, .inr (0, [.ref a_t_text, .ref a_t_page, .ref a_t_slots, .ref a_t_parser, .ref a_t_printer, .ref a_t_reader, .ref a_t_resolver, .ref a_t_now, .ref a_t_latest, .int t_nearest])), (a_t_latest, .inr (5, [.ref a_t_latest_values, .long t_latest_seconds, .int t_latest_parts])), (a_t_latest_values, .inl (kk 0, 14, .inl t_latest_values))] sz) := by
  refine k_start (Qc := fun A => KQi D kk o [(a_t, .inr (0, [.ref a_t_text, .ref a_t_page, .ref a_t_slots, .ref a_t_parser, .ref a_t_printer, .ref a_t_reader, .ref a_t_resolver, .ref a_t_now, .ref a_t_latest, .int t_nearest])), (a_t_latest, .inr (5, [.ref a_t_latest_values, .long t_latest_seconds, .int t_latest_parts])), (a_t_latest_values, .inl (kk 0, 14, .inl t_latest_values))] A) (by decide) (Nat.le_of_ble_eq_true rfl) ?_
  intro p e s m below meth c A ls S hnm hr hlk hA X hP hD hS hl
  have hl : lv_has ls 1 [(0, .ref a_t)] := hl
  have hx := S.1
  have hb := S.2.1
  unfold f_SkeletonClock_nano at he
  refine lv_aload_n hx hb d_SkeletonClock_nano_0 rfl (lv_at hl 0 rfl) ?_
  refine k_get S X us_SkeletonClock hP 0 rfl rfl 8 (by decide) gm_2_27 rfl d_SkeletonClock_nano_1 ?_
  refine lv_bipush (v := (12 : Int32)) hx hb d_SkeletonClock_nano_4 (by decide) ?_
  obtain ⟨u1, e2, he⟩ := ih_b he
  refine k_io (r_V (As := [.int (12 : Int32)]) S X hA hP hD hS (c_Moment_value l D kk st a_t_latest a_t_latest_values _ t_latest_seconds t_latest_parts t_latest_values (12 : Int32) u1 e2) gm_3_37 gm_3_34 gm_3_35 gm_3_36 gm_1_10 ⟨rfl, rfl, by decide, by decide⟩ kd_Moment_value [1, 2] rfl rfl rfl 1 5 rfl rfl rfl rfl hl.1 rfl (Nat.le_of_ble_eq_true rfl) d_SkeletonClock_nano_6 ⟨Nat.zero_le _, Nat.zero_le _⟩) hA hP hD hS [1, 2] rfl (fun H locs hP hS => ?_)
  cases he
  exact k_ire hx hb hr hlk X hP hD hS d_SkeletonClock_nano_9
abbrev rm_SkeletonClock_minutes : Room := { frames := 1, cells := 0, slots := 0, locals := 21 }
set_option maxHeartbeats 4000000 in
set_option maxRecDepth 100000 in
theorem c_SkeletonClock_minutes (l : Launch) (D : va_G) (kk : Nat → ClassId) (st : Nat → Nat) (a_t a_t_latest a_t_latest_values a_t_text a_t_page a_t_slots a_t_parser a_t_printer a_t_reader a_t_resolver a_t_now : Nat) (sz : Nat) (t_nearest : Int32) (t_latest_seconds : Int64) (t_latest_parts : Int32) (t_latest_values : Nat → Int32) (o : Int32) (he : f_SkeletonClock_minutes t_latest_values = some o) : Met l y_SkeletonClock_minutes (Cond.code y_SkeletonClock_minutes b_SkeletonClock_minutes 1 (some .int) :: GW) rm_SkeletonClock_minutes (KPc D kk st [.ref a_t] [(a_t, .inr (0, [.ref a_t_text, .ref a_t_page, .ref a_t_slots, .ref a_t_parser, .ref a_t_printer, .ref a_t_reader, .ref a_t_resolver, .ref a_t_now, .ref a_t_latest, .int t_nearest])), (a_t_latest, .inr (5, [.ref a_t_latest_values, .long t_latest_seconds, .int t_latest_parts])), (a_t_latest_values, .inl (kk 0, 14, .inl t_latest_values))] sz) (KQi D kk o [(a_t, .inr (0, [.ref a_t_text, .ref a_t_page, .ref a_t_slots, .ref a_t_parser, .ref a_t_printer, .ref a_t_reader, .ref a_t_resolver, .ref a_t_now, .ref a_t_latest, .int t_nearest])), (a_t_latest, .inr (5, [.ref a_t_latest_values, .long t_latest_seconds, .int t_latest_parts])), (a_t_latest_values, .inl (kk 0, 14, .inl t_latest_values))] (va_A [(a_t, .inr (0, [.ref a_t_text, .ref a_t_page, .ref a_t_slots, .ref a_t_parser, .ref a_t_printer, .ref a_t_reader, .ref a_t_resolver, .ref a_t_now, .ref a_t_latest, .int t_nearest])), (a_t_latest, .inr (5, [.ref a_t_latest_values, .long t_latest_seconds, .int t_latest_parts])), (a_t_latest_values, .inl (kk 0, 14, .inl t_latest_values))] sz)) 0 0 (va_A [(a_t, .inr (0, [.ref a_t_text, .ref a_t_page, .ref a_t_slots, .ref a_t_parser, .ref a_t_printer, .ref a_t_reader, .ref a_t_resolver, .ref a_t_now, .ref a_t_latest, .int t_nearest])), (a_t_latest, .inr (5, [.ref a_t_latest_values, .long t_latest_seconds, .int t_latest_parts])), (a_t_latest_values, .inl (kk 0, 14, .inl t_latest_values))] sz) := by
  refine k_start (Qc := fun A => KQi D kk o [(a_t, .inr (0, [.ref a_t_text, .ref a_t_page, .ref a_t_slots, .ref a_t_parser, .ref a_t_printer, .ref a_t_reader, .ref a_t_resolver, .ref a_t_now, .ref a_t_latest, .int t_nearest])), (a_t_latest, .inr (5, [.ref a_t_latest_values, .long t_latest_seconds, .int t_latest_parts])), (a_t_latest_values, .inl (kk 0, 14, .inl t_latest_values))] A) (by decide) (Nat.le_of_ble_eq_true rfl) ?_
  intro p e s m below meth c A ls S hnm hr hlk hA X hP hD hS hl
  have hl : lv_has ls 1 [(0, .ref a_t)] := hl
  have hx := S.1
  have hb := S.2.1
  unfold f_SkeletonClock_minutes at he
  refine lv_aload_n hx hb d_SkeletonClock_minutes_0 rfl (lv_at hl 0 rfl) ?_
  refine k_get S X us_SkeletonClock hP 0 rfl rfl 8 (by decide) gm_2_27 rfl d_SkeletonClock_minutes_1 ?_
  refine lv_bipush (v := (13 : Int32)) hx hb d_SkeletonClock_minutes_4 (by decide) ?_
  obtain ⟨u1, e2, he⟩ := ih_b he
  refine k_io (r_V (As := [.int (13 : Int32)]) S X hA hP hD hS (c_Moment_value l D kk st a_t_latest a_t_latest_values _ t_latest_seconds t_latest_parts t_latest_values (13 : Int32) u1 e2) gm_3_37 gm_3_34 gm_3_35 gm_3_36 gm_1_10 ⟨rfl, rfl, by decide, by decide⟩ kd_Moment_value [1, 2] rfl rfl rfl 1 5 rfl rfl rfl rfl hl.1 rfl (Nat.le_of_ble_eq_true rfl) d_SkeletonClock_minutes_6 ⟨Nat.zero_le _, Nat.zero_le _⟩) hA hP hD hS [1, 2] rfl (fun H locs hP hS => ?_)
  cases he
  exact k_ire hx hb hr hlk X hP hD hS d_SkeletonClock_minutes_9
abbrev rm_SkeletonClock_take : Room := { frames := 6, cells := 0, slots := 0, locals := 151 }
set_option maxHeartbeats 4000000 in
set_option maxRecDepth 100000 in
theorem c_SkeletonClock_take (l : Launch) (D : va_G) (kk : Nat → ClassId) (st : Nat → Nat) (a_t a_t_now a_t_now_values a_t_latest a_t_latest_values a_t_text a_t_page a_t_slots a_t_parser a_t_printer a_t_reader a_t_resolver : Nat) (sz : Nat) (t_nearest : Int32) (t_now_seconds : Int64) (t_now_parts : Int32) (t_now_values : Nat → Int32) (t_latest_seconds : Int64) (t_latest_parts : Int32) (t_latest_values : Nat → Int32) (o : Int32 × Int64 × Int32 × (Nat → Int32)) (he : f_SkeletonClock_take t_now_seconds t_now_parts t_now_values t_latest_seconds t_latest_parts t_latest_values = some o) : Met l y_SkeletonClock_take (Cond.code y_SkeletonClock_take b_SkeletonClock_take 1 (some .boolean) :: GW) rm_SkeletonClock_take (KPc D kk st [.ref a_t] [(a_t, .inr (0, [.ref a_t_text, .ref a_t_page, .ref a_t_slots, .ref a_t_parser, .ref a_t_printer, .ref a_t_reader, .ref a_t_resolver, .ref a_t_now, .ref a_t_latest, .int t_nearest])), (a_t_now, .inr (5, [.ref a_t_now_values, .long t_now_seconds, .int t_now_parts])), (a_t_now_values, .inl (kk 0, 14, .inl t_now_values)), (a_t_latest, .inr (5, [.ref a_t_latest_values, .long t_latest_seconds, .int t_latest_parts])), (a_t_latest_values, .inl (kk 0, 14, .inl t_latest_values))] sz) (KQi D kk o.1 [(a_t, .inr (0, [.ref a_t_text, .ref a_t_page, .ref a_t_slots, .ref a_t_parser, .ref a_t_printer, .ref a_t_reader, .ref a_t_resolver, .ref a_t_now, .ref a_t_latest, .int t_nearest])), (a_t_now, .inr (5, [.ref a_t_now_values, .long o.2.1, .int o.2.2.1])), (a_t_now_values, .inl (kk 0, 14, .inl o.2.2.2)), (a_t_latest, .inr (5, [.ref a_t_latest_values, .long t_latest_seconds, .int t_latest_parts])), (a_t_latest_values, .inl (kk 0, 14, .inl t_latest_values))] (va_A [(a_t, .inr (0, [.ref a_t_text, .ref a_t_page, .ref a_t_slots, .ref a_t_parser, .ref a_t_printer, .ref a_t_reader, .ref a_t_resolver, .ref a_t_now, .ref a_t_latest, .int t_nearest])), (a_t_now, .inr (5, [.ref a_t_now_values, .long t_now_seconds, .int t_now_parts])), (a_t_now_values, .inl (kk 0, 14, .inl t_now_values)), (a_t_latest, .inr (5, [.ref a_t_latest_values, .long t_latest_seconds, .int t_latest_parts])), (a_t_latest_values, .inl (kk 0, 14, .inl t_latest_values))] sz)) 0 0 (va_A [(a_t, .inr (0, [.ref a_t_text, .ref a_t_page, .ref a_t_slots, .ref a_t_parser, .ref a_t_printer, .ref a_t_reader, .ref a_t_resolver, .ref a_t_now, .ref a_t_latest, .int t_nearest])), (a_t_now, .inr (5, [.ref a_t_now_values, .long t_now_seconds, .int t_now_parts])), (a_t_now_values, .inl (kk 0, 14, .inl t_now_values)), (a_t_latest, .inr (5, [.ref a_t_latest_values, .long t_latest_seconds, .int t_latest_parts])), (a_t_latest_values, .inl (kk 0, 14, .inl t_latest_values))] sz) := by
  refine k_start (Qc := fun A => KQi D kk o.1 [(a_t, .inr (0, [.ref a_t_text, .ref a_t_page, .ref a_t_slots, .ref a_t_parser, .ref a_t_printer, .ref a_t_reader, .ref a_t_resolver, .ref a_t_now, .ref a_t_latest, .int t_nearest])), (a_t_now, .inr (5, [.ref a_t_now_values, .long o.2.1, .int o.2.2.1])), (a_t_now_values, .inl (kk 0, 14, .inl o.2.2.2)), (a_t_latest, .inr (5, [.ref a_t_latest_values, .long t_latest_seconds, .int t_latest_parts])), (a_t_latest_values, .inl (kk 0, 14, .inl t_latest_values))] A) (by decide) (Nat.le_of_ble_eq_true rfl) ?_
  intro p e s m below meth c A ls S hnm hr hlk hA X hP hD hS hl
  have hl : lv_has ls 1 [(0, .ref a_t)] := hl
  have hx := S.1
  have hb := S.2.1
  unfold f_SkeletonClock_take at he
  refine lv_aload_n hx hb d_SkeletonClock_take_0 rfl (lv_at hl 0 rfl) ?_
  refine k_get S X us_SkeletonClock hP 0 rfl rfl 8 (by decide) gm_2_27 rfl d_SkeletonClock_take_1 ?_
  refine k_get S X us_Moment hP 3 rfl rfl 2 (by decide) gm_1_182 rfl d_SkeletonClock_take_4 ?_
  refine lv_if_eq (tgt := 25) hx hb d_SkeletonClock_take_7 rfl (fun hc => ?_) (fun hc => ?_)
  · have he := ih_t hc he
    refine lv_iconst (v := (0 : Int32)) hx hb d_SkeletonClock_take_25 (by decide) ?_
    cases he
    exact k_zre hx hb hr hlk X hP hD hS (Or.inl rfl) d_SkeletonClock_take_26
  · have he := ih_f hc he
    refine lv_aload_n hx hb d_SkeletonClock_take_10 rfl (lv_at hl 0 rfl) ?_
    refine k_get S X us_SkeletonClock hP 0 rfl rfl 8 (by decide) gm_2_27 rfl d_SkeletonClock_take_11 ?_
    refine lv_iconst (v := (0 : Int32)) hx hb d_SkeletonClock_take_14 (by decide) ?_
    obtain ⟨u1, e2, he⟩ := ih_b he
    refine k_io (r_V (As := [.int (0 : Int32)]) S X hA hP hD hS (c_Moment_value l D kk st a_t_latest a_t_latest_values _ t_latest_seconds t_latest_parts t_latest_values (0 : Int32) u1 e2) gm_3_37 gm_3_34 gm_3_35 gm_3_36 gm_1_10 ⟨rfl, rfl, by decide, by decide⟩ kd_Moment_value [3, 4] rfl rfl rfl 3 5 rfl rfl rfl rfl hl.1 rfl (Nat.le_of_ble_eq_true rfl) d_SkeletonClock_take_15 ⟨Nat.zero_le _, Nat.zero_le _⟩) hA hP hD hS [3, 4] rfl (fun H locs hP hS => ?_)
    refine lv_i2l hx hb d_SkeletonClock_take_18 rfl ?_
    obtain ⟨u3, e4, he⟩ := ih_b he
    refine k_io (r_S (As := [.long (Int32.toInt64 u1)]) S X hA hP hD hS (c_SkeletonClock_isYear l D kk st _ (Int32.toInt64 u1) u3 e4) gm_3_25 gm_3_23 gm_3_24 gm_1_1 ⟨rfl, rfl, by decide, by decide⟩ kd_SkeletonClock_isYear [] rfl rfl rfl rfl hl.1 rfl (Nat.le_of_ble_eq_true rfl) d_SkeletonClock_take_19 ⟨Nat.zero_le _, Nat.zero_le _⟩) hA hP hD hS [] rfl (fun H locs hP hS => ?_)
    refine lv_if_ne (tgt := 27) hx hb d_SkeletonClock_take_22 rfl (fun hc => ?_) (fun hc => ?_)
    · have he := ih_f hc he
      refine lv_aload_n hx hb d_SkeletonClock_take_27 rfl (lv_at hl 0 rfl) ?_
      refine k_get S X us_SkeletonClock hP 0 rfl rfl 7 (by decide) gm_2_26 rfl d_SkeletonClock_take_28 ?_
      refine lv_aload_n hx hb d_SkeletonClock_take_31 rfl (lv_at hl 0 rfl) ?_
      refine k_get S X us_SkeletonClock hP 0 rfl rfl 8 (by decide) gm_2_27 rfl d_SkeletonClock_take_32 ?_
      obtain ⟨u5, e6, he⟩ := ih_b he
      refine k_v (wr := [(a_t, .inr (0, [.ref a_t_text, .ref a_t_page, .ref a_t_slots, .ref a_t_parser, .ref a_t_printer, .ref a_t_reader, .ref a_t_resolver, .ref a_t_now, .ref a_t_latest, .int t_nearest]))]) (w1 := [(a_t_now, .inr (5, [.ref a_t_now_values, .long u5.1, .int u5.2.1])), (a_t_now_values, .inl (kk 0, 14, .inl u5.2.2)), (a_t_latest, .inr (5, [.ref a_t_latest_values, .long t_latest_seconds, .int t_latest_parts])), (a_t_latest_values, .inl (kk 0, 14, .inl t_latest_values))]) (w2 := [(a_t, .inr (0, [.ref a_t_text, .ref a_t_page, .ref a_t_slots, .ref a_t_parser, .ref a_t_printer, .ref a_t_reader, .ref a_t_resolver, .ref a_t_now, .ref a_t_latest, .int t_nearest])), (a_t_now, .inr (5, [.ref a_t_now_values, .long u5.1, .int u5.2.1])), (a_t_now_values, .inl (kk 0, 14, .inl u5.2.2)), (a_t_latest, .inr (5, [.ref a_t_latest_values, .long t_latest_seconds, .int t_latest_parts])), (a_t_latest_values, .inl (kk 0, 14, .inl t_latest_values))]) (r_V (As := [.ref a_t_latest]) S X hA hP hD hS (c_Moment_become l D kk st a_t_now a_t_now_values a_t_latest a_t_latest_values _ t_now_seconds t_now_parts t_now_values t_latest_seconds t_latest_parts t_latest_values u5 e6) gm_4_101 gm_4_98 gm_4_99 gm_4_100 gm_1_10 ⟨rfl, rfl, by decide, by decide⟩ kd_Moment_become [1, 2, 3, 4] rfl rfl rfl 1 5 rfl rfl rfl rfl hl.1 rfl (Nat.le_of_ble_eq_true rfl) d_SkeletonClock_take_35 ⟨Nat.zero_le _, Nat.zero_le _⟩) hA hP hD hS [1, 2, 3, 4] [0] [0, 1, 2, 3, 4] rfl rfl rfl (by decide) rfl rfl rfl (fun H locs hP hD hS => ?_)
      refine lv_iconst (v := (1 : Int32)) hx hb d_SkeletonClock_take_38 (by decide) ?_
      cases he
      exact k_zre hx hb hr hlk X hP hD hS (Or.inr rfl) d_SkeletonClock_take_39
    · have he := ih_t hc he
      refine lv_iconst (v := (0 : Int32)) hx hb d_SkeletonClock_take_25 (by decide) ?_
      cases he
      exact k_zre hx hb hr hlk X hP hD hS (Or.inl rfl) d_SkeletonClock_take_26
abbrev rm_SkeletonClock_isSlot : Room := { frames := 0, cells := 0, slots := 0, locals := 0 }
set_option maxHeartbeats 4000000 in
set_option maxRecDepth 100000 in
theorem c_SkeletonClock_isSlot (l : Launch) (D : va_G) (kk : Nat → ClassId) (st : Nat → Nat) (sz : Nat) (x0 : Int32) (o : Int32) (he : f_SkeletonClock_isSlot x0 = some o) : Met l y_SkeletonClock_isSlot (Cond.code y_SkeletonClock_isSlot b_SkeletonClock_isSlot 1 (some .boolean) :: GW) rm_SkeletonClock_isSlot (KPc D kk st [.int x0] [] sz) (KQi D kk o [] (va_A [] sz)) 0 0 (va_A [] sz) := by
  refine k_start (Qc := fun A => KQi D kk o [] A) (by decide) (Nat.le_of_ble_eq_true rfl) ?_
  intro p e s m below meth c A ls S hnm hr hlk hA X hP hD hS hl
  have hl : lv_has ls 1 [(0, .int x0)] := hl
  have hx := S.1
  have hb := S.2.1
  unfold f_SkeletonClock_isSlot at he
  refine lv_iload_n hx hb d_SkeletonClock_isSlot_0 rfl (lv_at hl 0 rfl) ?_
  refine lv_if_lt (tgt := 14) hx hb d_SkeletonClock_isSlot_1 rfl (fun hc => ?_) (fun hc => ?_)
  · have he := ih_t hc he
    refine lv_iconst (v := (0 : Int32)) hx hb d_SkeletonClock_isSlot_14 (by decide) ?_
    cases he
    exact k_zre hx hb hr hlk X hP hD hS (Or.inl rfl) d_SkeletonClock_isSlot_15
  · have he := ih_f hc he
    refine lv_iload_n hx hb d_SkeletonClock_isSlot_4 rfl (lv_at hl 0 rfl) ?_
    refine lv_bipush (v := (6 : Int32)) hx hb d_SkeletonClock_isSlot_5 (by decide) ?_
    refine lv_icmp_ge (tgt := 14) hx hb d_SkeletonClock_isSlot_7 rfl (fun hc => ?_) (fun hc => ?_)
    · have he := ih_t hc he
      refine lv_iconst (v := (0 : Int32)) hx hb d_SkeletonClock_isSlot_14 (by decide) ?_
      cases he
      exact k_zre hx hb hr hlk X hP hD hS (Or.inl rfl) d_SkeletonClock_isSlot_15
    · have he := ih_f hc he
      refine lv_iconst (v := (1 : Int32)) hx hb d_SkeletonClock_isSlot_10 (by decide) ?_
      refine lv_goto (tgt := 15) hx hb d_SkeletonClock_isSlot_11 rfl ?_
      cases he
      exact k_zre hx hb hr hlk X hP hD hS (Or.inr rfl) d_SkeletonClock_isSlot_15
