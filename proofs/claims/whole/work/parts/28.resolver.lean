abbrev b_Resolver_use : ByteArray := prog_10_method_3_code
def y_Resolver_use : MethodName := ⟨"SkeletonClock$Resolver", "use", "(LSkeletonClock$Known;I)I"⟩
theorem kd_Resolver_use : kd_ok y_Resolver_use 2 := by decide +kernel
abbrev b_Resolver_findByMonth : ByteArray := prog_10_method_5_code
def y_Resolver_findByMonth : MethodName := ⟨"SkeletonClock$Resolver", "findByMonth", "(III)Z"⟩
theorem kd_Resolver_findByMonth : kd_ok y_Resolver_findByMonth 3 := by decide +kernel
abbrev b_Resolver_findByYearDay : ByteArray := prog_10_method_6_code
def y_Resolver_findByYearDay : MethodName := ⟨"SkeletonClock$Resolver", "findByYearDay", "(II)Z"⟩
theorem kd_Resolver_findByYearDay : kd_ok y_Resolver_findByYearDay 2 := by decide +kernel
abbrev b_Resolver_findByWeek : ByteArray := prog_10_method_7_code
def y_Resolver_findByWeek : MethodName := ⟨"SkeletonClock$Resolver", "findByWeek", "(III)Z"⟩
theorem kd_Resolver_findByWeek : kd_ok y_Resolver_findByWeek 3 := by decide +kernel
abbrev b_Resolver_findDate : ByteArray := prog_10_method_4_code
def y_Resolver_findDate : MethodName := ⟨"SkeletonClock$Resolver", "findDate", "(LSkeletonClock$Known;)Z"⟩
theorem kd_Resolver_findDate : kd_ok y_Resolver_findDate 1 := by decide +kernel
abbrev b_Resolver_findTime : ByteArray := prog_10_method_8_code
def y_Resolver_findTime : MethodName := ⟨"SkeletonClock$Resolver", "findTime", "(LSkeletonClock$Known;)Z"⟩
theorem kd_Resolver_findTime : kd_ok y_Resolver_findTime 1 := by decide +kernel
abbrev b_Resolver_agrees : ByteArray := prog_10_method_9_code
def y_Resolver_agrees : MethodName := ⟨"SkeletonClock$Resolver", "agrees", "(LSkeletonClock$Known;)Z"⟩
theorem kd_Resolver_agrees : kd_ok y_Resolver_agrees 1 := by decide +kernel
theorem gm_1_193 : Cond.fieldLink "SkeletonClock$Resolver" (22 : Nat) "SkeletonClock$Resolver" "used" "I" ∈ GW := gw_1 (i := 193) rfl rfl
theorem gm_4_52 : Cond.code ({ cls := "SkeletonClock$Known", name := "value", desc := "(I)I" } : MethodName) prog_3_method_6_code (2 : Nat) (Option.some FieldType.int) ∈ GW := gw_4 (i := 52) rfl rfl
theorem gm_4_49 : Cond.methodLink "SkeletonClock$Resolver" (51 : Nat) ({ cls := "SkeletonClock$Known", name := "value", desc := "(I)I" } : MethodName) ∈ GW := gw_4 (i := 49) rfl rfl
theorem gm_4_50 : Cond.instanceMethod ({ cls := "SkeletonClock$Known", name := "value", desc := "(I)I" } : MethodName) ∈ GW := gw_4 (i := 50) rfl rfl
theorem gm_4_51 : Cond.selects "SkeletonClock$Known" ({ cls := "SkeletonClock$Known", name := "value", desc := "(I)I" } : MethodName) ({ cls := "SkeletonClock$Known", name := "value", desc := "(I)I" } : MethodName) ∈ GW := gw_4 (i := 51) rfl rfl
theorem gm_1_192 : Cond.fieldLink "SkeletonClock$Resolver" (18 : Nat) "SkeletonClock$Resolver" "style" "I" ∈ GW := gw_1 (i := 192) rfl rfl
theorem gm_4_64 : Cond.code ({ cls := "SkeletonClock$Days", name := "firstOfMonth", desc := "(JI)J" } : MethodName) prog_2_method_8_code (5 : Nat) (Option.some FieldType.long) ∈ GW := gw_4 (i := 64) rfl rfl
theorem gm_4_62 : Cond.methodLink "SkeletonClock$Resolver" (90 : Nat) ({ cls := "SkeletonClock$Days", name := "firstOfMonth", desc := "(JI)J" } : MethodName) ∈ GW := gw_4 (i := 62) rfl rfl
theorem gm_4_63 : Cond.static ({ cls := "SkeletonClock$Days", name := "firstOfMonth", desc := "(JI)J" } : MethodName) ∈ GW := gw_4 (i := 63) rfl rfl
theorem gm_1_194 : Cond.fieldLink "SkeletonClock$Resolver" (25 : Nat) "SkeletonClock$Resolver" "day" "J" ∈ GW := gw_1 (i := 194) rfl rfl
theorem gm_4_59 : Cond.code ({ cls := "SkeletonClock$Days", name := "monthLength", desc := "(JI)I" } : MethodName) prog_2_method_7_code (3 : Nat) (Option.some FieldType.int) ∈ GW := gw_4 (i := 59) rfl rfl
theorem gm_4_57 : Cond.methodLink "SkeletonClock$Resolver" (78 : Nat) ({ cls := "SkeletonClock$Days", name := "monthLength", desc := "(JI)I" } : MethodName) ∈ GW := gw_4 (i := 57) rfl rfl
theorem gm_4_58 : Cond.static ({ cls := "SkeletonClock$Days", name := "monthLength", desc := "(JI)I" } : MethodName) ∈ GW := gw_4 (i := 58) rfl rfl
theorem gm_4_61 : Cond.methodLink "SkeletonClock$Resolver" (84 : Nat) ({ cls := "java/lang/Math", name := "min", desc := "(II)I" } : MethodName) ∈ GW := gw_4 (i := 61) rfl rfl
theorem gm_4_73 : Cond.methodLink "SkeletonClock$Resolver" (94 : Nat) ({ cls := "SkeletonClock$Days", name := "firstOfYear", desc := "(J)J" } : MethodName) ∈ GW := gw_4 (i := 73) rfl rfl
theorem gm_4_76 : Cond.code ({ cls := "SkeletonClock$Days", name := "yearLength", desc := "(J)I" } : MethodName) prog_2_method_3_code (2 : Nat) (Option.some FieldType.int) ∈ GW := gw_4 (i := 76) rfl rfl
theorem gm_4_74 : Cond.methodLink "SkeletonClock$Resolver" (98 : Nat) ({ cls := "SkeletonClock$Days", name := "yearLength", desc := "(J)I" } : MethodName) ∈ GW := gw_4 (i := 74) rfl rfl
theorem gm_4_75 : Cond.static ({ cls := "SkeletonClock$Days", name := "yearLength", desc := "(J)I" } : MethodName) ∈ GW := gw_4 (i := 75) rfl rfl
theorem gm_4_83 : Cond.code ({ cls := "SkeletonClock$Days", name := "firstMonday", desc := "(J)J" } : MethodName) prog_2_method_10_code (4 : Nat) (Option.some FieldType.long) ∈ GW := gw_4 (i := 83) rfl rfl
theorem gm_4_81 : Cond.methodLink "SkeletonClock$Resolver" (102 : Nat) ({ cls := "SkeletonClock$Days", name := "firstMonday", desc := "(J)J" } : MethodName) ∈ GW := gw_4 (i := 81) rfl rfl
theorem gm_4_82 : Cond.static ({ cls := "SkeletonClock$Days", name := "firstMonday", desc := "(J)J" } : MethodName) ∈ GW := gw_4 (i := 82) rfl rfl
theorem gm_4_85 : Cond.constantLong "SkeletonClock$Resolver" (105 : Nat) (7 : Int64) ∈ GW := gw_4 (i := 85) rfl rfl
theorem gm_4_40 : Cond.methodLink "SkeletonClock$Resolver" (38 : Nat) ({ cls := "SkeletonClock$Known", name := "has", desc := "(I)Z" } : MethodName) ∈ GW := gw_4 (i := 40) rfl rfl
theorem gm_4_48 : Cond.code ({ cls := "SkeletonClock$Resolver", name := "use", desc := "(LSkeletonClock$Known;I)I" } : MethodName) prog_10_method_3_code (3 : Nat) (Option.some FieldType.int) ∈ GW := gw_4 (i := 48) rfl rfl
theorem gm_4_45 : Cond.methodLink "SkeletonClock$Resolver" (64 : Nat) ({ cls := "SkeletonClock$Resolver", name := "use", desc := "(LSkeletonClock$Known;I)I" } : MethodName) ∈ GW := gw_4 (i := 45) rfl rfl
theorem gm_1_9 : Cond.initialized "SkeletonClock$Resolver" ∈ GW := gw_1 (i := 9) rfl rfl
theorem gm_4_47 : Cond.instanceMethod ({ cls := "SkeletonClock$Resolver", name := "use", desc := "(LSkeletonClock$Known;I)I" } : MethodName) ∈ GW := gw_4 (i := 47) rfl rfl
theorem gm_p2_9 : Cond.selects "SkeletonClock$Resolver" ⟨"SkeletonClock$Resolver", "use", "(LSkeletonClock$Known;I)I"⟩ ⟨"SkeletonClock$Resolver", "use", "(LSkeletonClock$Known;I)I"⟩ ∈ GW := gs_2 (i := 9) rfl
theorem gm_4_80 : Cond.code ({ cls := "SkeletonClock$Resolver", name := "findByWeek", desc := "(III)Z" } : MethodName) prog_10_method_7_code (4 : Nat) (Option.some FieldType.boolean) ∈ GW := gw_4 (i := 80) rfl rfl
theorem gm_4_77 : Cond.methodLink "SkeletonClock$Resolver" (75 : Nat) ({ cls := "SkeletonClock$Resolver", name := "findByWeek", desc := "(III)Z" } : MethodName) ∈ GW := gw_4 (i := 77) rfl rfl
theorem gm_4_79 : Cond.instanceMethod ({ cls := "SkeletonClock$Resolver", name := "findByWeek", desc := "(III)Z" } : MethodName) ∈ GW := gw_4 (i := 79) rfl rfl
theorem gm_p2_12 : Cond.selects "SkeletonClock$Resolver" ⟨"SkeletonClock$Resolver", "findByWeek", "(III)Z"⟩ ⟨"SkeletonClock$Resolver", "findByWeek", "(III)Z"⟩ ∈ GW := gs_2 (i := 12) rfl
theorem gm_4_72 : Cond.code ({ cls := "SkeletonClock$Resolver", name := "findByYearDay", desc := "(II)Z" } : MethodName) prog_10_method_6_code (3 : Nat) (Option.some FieldType.boolean) ∈ GW := gw_4 (i := 72) rfl rfl
theorem gm_4_69 : Cond.methodLink "SkeletonClock$Resolver" (72 : Nat) ({ cls := "SkeletonClock$Resolver", name := "findByYearDay", desc := "(II)Z" } : MethodName) ∈ GW := gw_4 (i := 69) rfl rfl
theorem gm_4_71 : Cond.instanceMethod ({ cls := "SkeletonClock$Resolver", name := "findByYearDay", desc := "(II)Z" } : MethodName) ∈ GW := gw_4 (i := 71) rfl rfl
theorem gm_p2_11 : Cond.selects "SkeletonClock$Resolver" ⟨"SkeletonClock$Resolver", "findByYearDay", "(II)Z"⟩ ⟨"SkeletonClock$Resolver", "findByYearDay", "(II)Z"⟩ ∈ GW := gs_2 (i := 11) rfl
theorem gm_4_56 : Cond.code ({ cls := "SkeletonClock$Resolver", name := "findByMonth", desc := "(III)Z" } : MethodName) prog_10_method_5_code (6 : Nat) (Option.some FieldType.boolean) ∈ GW := gw_4 (i := 56) rfl rfl
theorem gm_4_53 : Cond.methodLink "SkeletonClock$Resolver" (68 : Nat) ({ cls := "SkeletonClock$Resolver", name := "findByMonth", desc := "(III)Z" } : MethodName) ∈ GW := gw_4 (i := 53) rfl rfl
theorem gm_4_55 : Cond.instanceMethod ({ cls := "SkeletonClock$Resolver", name := "findByMonth", desc := "(III)Z" } : MethodName) ∈ GW := gw_4 (i := 55) rfl rfl
theorem gm_p2_10 : Cond.selects "SkeletonClock$Resolver" ⟨"SkeletonClock$Resolver", "findByMonth", "(III)Z"⟩ ⟨"SkeletonClock$Resolver", "findByMonth", "(III)Z"⟩ ∈ GW := gs_2 (i := 10) rfl
theorem gm_1_195 : Cond.fieldLink "SkeletonClock$Resolver" (29 : Nat) "SkeletonClock$Resolver" "second" "I" ∈ GW := gw_1 (i := 195) rfl rfl
theorem gm_1_190 : Cond.fieldLink "SkeletonClock$Resolver" (12 : Nat) "SkeletonClock$Resolver" "moment" "LSkeletonClock$Moment;" ∈ GW := gw_1 (i := 190) rfl rfl
theorem gm_4_97 : Cond.methodLink "SkeletonClock$Resolver" (107 : Nat) ({ cls := "SkeletonClock$Moment", name := "value", desc := "(I)I" } : MethodName) ∈ GW := gw_4 (i := 97) rfl rfl
theorem d_Resolver_use_0 : decode b_Resolver_use 0 = .ok (.aload_n 0, 1) := by decide +kernel
theorem d_Resolver_use_1 : decode b_Resolver_use 1 = .ok (.dup, 1) := by decide +kernel
theorem d_Resolver_use_2 : decode b_Resolver_use 2 = .ok (.getfield 22, 3) := by decide +kernel
theorem d_Resolver_use_5 : decode b_Resolver_use 5 = .ok (.iconst 1, 1) := by decide +kernel
theorem d_Resolver_use_6 : decode b_Resolver_use 6 = .ok (.iload_n 2, 1) := by decide +kernel
theorem d_Resolver_use_7 : decode b_Resolver_use 7 = .ok (.ishl, 1) := by decide +kernel
theorem d_Resolver_use_8 : decode b_Resolver_use 8 = .ok (.ior, 1) := by decide +kernel
theorem d_Resolver_use_9 : decode b_Resolver_use 9 = .ok (.putfield 22, 3) := by decide +kernel
theorem d_Resolver_use_12 : decode b_Resolver_use 12 = .ok (.aload_n 1, 1) := by decide +kernel
theorem d_Resolver_use_13 : decode b_Resolver_use 13 = .ok (.iload_n 2, 1) := by decide +kernel
theorem d_Resolver_use_14 : decode b_Resolver_use 14 = .ok (.invokevirtual 51, 3) := by decide +kernel
theorem d_Resolver_use_17 : decode b_Resolver_use 17 = .ok (.ireturn, 1) := by decide +kernel
theorem d_Resolver_findByMonth_0 : decode b_Resolver_findByMonth 0 = .ok (.iload_n 3, 1) := by decide +kernel
theorem d_Resolver_findByMonth_1 : decode b_Resolver_findByMonth 1 = .ok (.istore 4, 2) := by decide +kernel
theorem d_Resolver_findByMonth_3 : decode b_Resolver_findByMonth 3 = .ok (.aload_n 0, 1) := by decide +kernel
theorem d_Resolver_findByMonth_4 : decode b_Resolver_findByMonth 4 = .ok (.getfield 18, 3) := by decide +kernel
theorem d_Resolver_findByMonth_7 : decode b_Resolver_findByMonth 7 = .ok (.iconst 2, 1) := by decide +kernel
theorem d_Resolver_findByMonth_8 : decode b_Resolver_findByMonth 8 = .ok (.if_icmp .eq 61, 3) := by decide +kernel
theorem d_Resolver_findByMonth_11 : decode b_Resolver_findByMonth 11 = .ok (.iload_n 2, 1) := by decide +kernel
theorem d_Resolver_findByMonth_12 : decode b_Resolver_findByMonth 12 = .ok (.iconst 1, 1) := by decide +kernel
theorem d_Resolver_findByMonth_13 : decode b_Resolver_findByMonth 13 = .ok (.if_icmp .lt 9, 3) := by decide +kernel
theorem d_Resolver_findByMonth_16 : decode b_Resolver_findByMonth 16 = .ok (.iload_n 2, 1) := by decide +kernel
theorem d_Resolver_findByMonth_17 : decode b_Resolver_findByMonth 17 = .ok (.bipush 12, 2) := by decide +kernel
theorem d_Resolver_findByMonth_19 : decode b_Resolver_findByMonth 19 = .ok (.if_icmp .le 5, 3) := by decide +kernel
theorem d_Resolver_findByMonth_22 : decode b_Resolver_findByMonth 22 = .ok (.iconst 0, 1) := by decide +kernel
theorem d_Resolver_findByMonth_23 : decode b_Resolver_findByMonth 23 = .ok (.ireturn, 1) := by decide +kernel
theorem d_Resolver_findByMonth_24 : decode b_Resolver_findByMonth 24 = .ok (.iload_n 1, 1) := by decide +kernel
theorem d_Resolver_findByMonth_25 : decode b_Resolver_findByMonth 25 = .ok (.i2l, 1) := by decide +kernel
theorem d_Resolver_findByMonth_26 : decode b_Resolver_findByMonth 26 = .ok (.iload_n 2, 1) := by decide +kernel
theorem d_Resolver_findByMonth_27 : decode b_Resolver_findByMonth 27 = .ok (.invokestatic 78, 3) := by decide +kernel
theorem d_Resolver_findByMonth_30 : decode b_Resolver_findByMonth 30 = .ok (.istore 5, 2) := by decide +kernel
theorem d_Resolver_findByMonth_32 : decode b_Resolver_findByMonth 32 = .ok (.aload_n 0, 1) := by decide +kernel
theorem d_Resolver_findByMonth_33 : decode b_Resolver_findByMonth 33 = .ok (.getfield 18, 3) := by decide +kernel
theorem d_Resolver_findByMonth_36 : decode b_Resolver_findByMonth 36 = .ok (.iconst 1, 1) := by decide +kernel
theorem d_Resolver_findByMonth_37 : decode b_Resolver_findByMonth 37 = .ok (.if_icmp .ne 17, 3) := by decide +kernel
theorem d_Resolver_findByMonth_40 : decode b_Resolver_findByMonth 40 = .ok (.iload_n 3, 1) := by decide +kernel
theorem d_Resolver_findByMonth_41 : decode b_Resolver_findByMonth 41 = .ok (.bipush 31, 2) := by decide +kernel
theorem d_Resolver_findByMonth_43 : decode b_Resolver_findByMonth 43 = .ok (.if_icmp .gt 11, 3) := by decide +kernel
theorem d_Resolver_findByMonth_46 : decode b_Resolver_findByMonth 46 = .ok (.iload_n 3, 1) := by decide +kernel
theorem d_Resolver_findByMonth_47 : decode b_Resolver_findByMonth 47 = .ok (.iload 5, 2) := by decide +kernel
theorem d_Resolver_findByMonth_49 : decode b_Resolver_findByMonth 49 = .ok (.invokestatic 84, 3) := by decide +kernel
theorem d_Resolver_findByMonth_52 : decode b_Resolver_findByMonth 52 = .ok (.istore 4, 2) := by decide +kernel
theorem d_Resolver_findByMonth_54 : decode b_Resolver_findByMonth 54 = .ok (.iload 4, 2) := by decide +kernel
theorem d_Resolver_findByMonth_56 : decode b_Resolver_findByMonth 56 = .ok (.iconst 1, 1) := by decide +kernel
theorem d_Resolver_findByMonth_57 : decode b_Resolver_findByMonth 57 = .ok (.if_icmp .lt 10, 3) := by decide +kernel
theorem d_Resolver_findByMonth_60 : decode b_Resolver_findByMonth 60 = .ok (.iload 4, 2) := by decide +kernel
theorem d_Resolver_findByMonth_62 : decode b_Resolver_findByMonth 62 = .ok (.iload 5, 2) := by decide +kernel
theorem d_Resolver_findByMonth_64 : decode b_Resolver_findByMonth 64 = .ok (.if_icmp .le 5, 3) := by decide +kernel
theorem d_Resolver_findByMonth_67 : decode b_Resolver_findByMonth 67 = .ok (.iconst 0, 1) := by decide +kernel
theorem d_Resolver_findByMonth_68 : decode b_Resolver_findByMonth 68 = .ok (.ireturn, 1) := by decide +kernel
theorem d_Resolver_findByMonth_69 : decode b_Resolver_findByMonth 69 = .ok (.aload_n 0, 1) := by decide +kernel
theorem d_Resolver_findByMonth_70 : decode b_Resolver_findByMonth 70 = .ok (.iload_n 1, 1) := by decide +kernel
theorem d_Resolver_findByMonth_71 : decode b_Resolver_findByMonth 71 = .ok (.i2l, 1) := by decide +kernel
theorem d_Resolver_findByMonth_72 : decode b_Resolver_findByMonth 72 = .ok (.iload_n 2, 1) := by decide +kernel
theorem d_Resolver_findByMonth_73 : decode b_Resolver_findByMonth 73 = .ok (.invokestatic 90, 3) := by decide +kernel
theorem d_Resolver_findByMonth_76 : decode b_Resolver_findByMonth 76 = .ok (.iload 4, 2) := by decide +kernel
theorem d_Resolver_findByMonth_78 : decode b_Resolver_findByMonth 78 = .ok (.i2l, 1) := by decide +kernel
theorem d_Resolver_findByMonth_79 : decode b_Resolver_findByMonth 79 = .ok (.ladd, 1) := by decide +kernel
theorem d_Resolver_findByMonth_80 : decode b_Resolver_findByMonth 80 = .ok (.lconst 1, 1) := by decide +kernel
theorem d_Resolver_findByMonth_81 : decode b_Resolver_findByMonth 81 = .ok (.lsub, 1) := by decide +kernel
theorem d_Resolver_findByMonth_82 : decode b_Resolver_findByMonth 82 = .ok (.putfield 25, 3) := by decide +kernel
theorem d_Resolver_findByMonth_85 : decode b_Resolver_findByMonth 85 = .ok (.iconst 1, 1) := by decide +kernel
theorem d_Resolver_findByMonth_86 : decode b_Resolver_findByMonth 86 = .ok (.ireturn, 1) := by decide +kernel
theorem d_Resolver_findByYearDay_0 : decode b_Resolver_findByYearDay 0 = .ok (.aload_n 0, 1) := by decide +kernel
theorem d_Resolver_findByYearDay_1 : decode b_Resolver_findByYearDay 1 = .ok (.iload_n 1, 1) := by decide +kernel
theorem d_Resolver_findByYearDay_2 : decode b_Resolver_findByYearDay 2 = .ok (.i2l, 1) := by decide +kernel
theorem d_Resolver_findByYearDay_3 : decode b_Resolver_findByYearDay 3 = .ok (.invokestatic 94, 3) := by decide +kernel
theorem d_Resolver_findByYearDay_6 : decode b_Resolver_findByYearDay 6 = .ok (.iload_n 2, 1) := by decide +kernel
theorem d_Resolver_findByYearDay_7 : decode b_Resolver_findByYearDay 7 = .ok (.i2l, 1) := by decide +kernel
theorem d_Resolver_findByYearDay_8 : decode b_Resolver_findByYearDay 8 = .ok (.ladd, 1) := by decide +kernel
theorem d_Resolver_findByYearDay_9 : decode b_Resolver_findByYearDay 9 = .ok (.lconst 1, 1) := by decide +kernel
theorem d_Resolver_findByYearDay_10 : decode b_Resolver_findByYearDay 10 = .ok (.lsub, 1) := by decide +kernel
theorem d_Resolver_findByYearDay_11 : decode b_Resolver_findByYearDay 11 = .ok (.putfield 25, 3) := by decide +kernel
theorem d_Resolver_findByYearDay_14 : decode b_Resolver_findByYearDay 14 = .ok (.aload_n 0, 1) := by decide +kernel
theorem d_Resolver_findByYearDay_15 : decode b_Resolver_findByYearDay 15 = .ok (.getfield 18, 3) := by decide +kernel
theorem d_Resolver_findByYearDay_18 : decode b_Resolver_findByYearDay 18 = .ok (.iconst 2, 1) := by decide +kernel
theorem d_Resolver_findByYearDay_19 : decode b_Resolver_findByYearDay 19 = .ok (.if_icmp .eq 17, 3) := by decide +kernel
theorem d_Resolver_findByYearDay_22 : decode b_Resolver_findByYearDay 22 = .ok (.iload_n 2, 1) := by decide +kernel
theorem d_Resolver_findByYearDay_23 : decode b_Resolver_findByYearDay 23 = .ok (.iconst 1, 1) := by decide +kernel
theorem d_Resolver_findByYearDay_24 : decode b_Resolver_findByYearDay 24 = .ok (.if_icmp .lt 16, 3) := by decide +kernel
theorem d_Resolver_findByYearDay_27 : decode b_Resolver_findByYearDay 27 = .ok (.iload_n 2, 1) := by decide +kernel
theorem d_Resolver_findByYearDay_28 : decode b_Resolver_findByYearDay 28 = .ok (.iload_n 1, 1) := by decide +kernel
theorem d_Resolver_findByYearDay_29 : decode b_Resolver_findByYearDay 29 = .ok (.i2l, 1) := by decide +kernel
theorem d_Resolver_findByYearDay_30 : decode b_Resolver_findByYearDay 30 = .ok (.invokestatic 98, 3) := by decide +kernel
theorem d_Resolver_findByYearDay_33 : decode b_Resolver_findByYearDay 33 = .ok (.if_icmp .gt 7, 3) := by decide +kernel
theorem d_Resolver_findByYearDay_36 : decode b_Resolver_findByYearDay 36 = .ok (.iconst 1, 1) := by decide +kernel
theorem d_Resolver_findByYearDay_37 : decode b_Resolver_findByYearDay 37 = .ok (.goto 4, 3) := by decide +kernel
theorem d_Resolver_findByYearDay_40 : decode b_Resolver_findByYearDay 40 = .ok (.iconst 0, 1) := by decide +kernel
theorem d_Resolver_findByYearDay_41 : decode b_Resolver_findByYearDay 41 = .ok (.ireturn, 1) := by decide +kernel
theorem d_Resolver_findByWeek_0 : decode b_Resolver_findByWeek 0 = .ok (.aload_n 0, 1) := by decide +kernel
theorem d_Resolver_findByWeek_1 : decode b_Resolver_findByWeek 1 = .ok (.iload_n 1, 1) := by decide +kernel
theorem d_Resolver_findByWeek_2 : decode b_Resolver_findByWeek 2 = .ok (.i2l, 1) := by decide +kernel
theorem d_Resolver_findByWeek_3 : decode b_Resolver_findByWeek 3 = .ok (.invokestatic 102, 3) := by decide +kernel
theorem d_Resolver_findByWeek_6 : decode b_Resolver_findByWeek 6 = .ok (.ldc2_w 105, 3) := by decide +kernel
theorem d_Resolver_findByWeek_9 : decode b_Resolver_findByWeek 9 = .ok (.iload_n 2, 1) := by decide +kernel
theorem d_Resolver_findByWeek_10 : decode b_Resolver_findByWeek 10 = .ok (.iconst 1, 1) := by decide +kernel
theorem d_Resolver_findByWeek_11 : decode b_Resolver_findByWeek 11 = .ok (.isub, 1) := by decide +kernel
theorem d_Resolver_findByWeek_12 : decode b_Resolver_findByWeek 12 = .ok (.i2l, 1) := by decide +kernel
theorem d_Resolver_findByWeek_13 : decode b_Resolver_findByWeek 13 = .ok (.lmul, 1) := by decide +kernel
theorem d_Resolver_findByWeek_14 : decode b_Resolver_findByWeek 14 = .ok (.ladd, 1) := by decide +kernel
theorem d_Resolver_findByWeek_15 : decode b_Resolver_findByWeek 15 = .ok (.iload_n 3, 1) := by decide +kernel
theorem d_Resolver_findByWeek_16 : decode b_Resolver_findByWeek 16 = .ok (.i2l, 1) := by decide +kernel
theorem d_Resolver_findByWeek_17 : decode b_Resolver_findByWeek 17 = .ok (.ladd, 1) := by decide +kernel
theorem d_Resolver_findByWeek_18 : decode b_Resolver_findByWeek 18 = .ok (.lconst 1, 1) := by decide +kernel
theorem d_Resolver_findByWeek_19 : decode b_Resolver_findByWeek 19 = .ok (.lsub, 1) := by decide +kernel
theorem d_Resolver_findByWeek_20 : decode b_Resolver_findByWeek 20 = .ok (.putfield 25, 3) := by decide +kernel
theorem d_Resolver_findByWeek_23 : decode b_Resolver_findByWeek 23 = .ok (.aload_n 0, 1) := by decide +kernel
theorem d_Resolver_findByWeek_24 : decode b_Resolver_findByWeek 24 = .ok (.getfield 18, 3) := by decide +kernel
theorem d_Resolver_findByWeek_27 : decode b_Resolver_findByWeek 27 = .ok (.iconst 2, 1) := by decide +kernel
theorem d_Resolver_findByWeek_28 : decode b_Resolver_findByWeek 28 = .ok (.if_icmp .eq 23, 3) := by decide +kernel
theorem d_Resolver_findByWeek_31 : decode b_Resolver_findByWeek 31 = .ok (.iload_n 2, 1) := by decide +kernel
theorem d_Resolver_findByWeek_32 : decode b_Resolver_findByWeek 32 = .ok (.iconst 1, 1) := by decide +kernel
theorem d_Resolver_findByWeek_33 : decode b_Resolver_findByWeek 33 = .ok (.if_icmp .lt 22, 3) := by decide +kernel
theorem d_Resolver_findByWeek_36 : decode b_Resolver_findByWeek 36 = .ok (.aload_n 0, 1) := by decide +kernel
theorem d_Resolver_findByWeek_37 : decode b_Resolver_findByWeek 37 = .ok (.getfield 25, 3) := by decide +kernel
theorem d_Resolver_findByWeek_40 : decode b_Resolver_findByWeek 40 = .ok (.iload_n 1, 1) := by decide +kernel
theorem d_Resolver_findByWeek_41 : decode b_Resolver_findByWeek 41 = .ok (.i2l, 1) := by decide +kernel
theorem d_Resolver_findByWeek_42 : decode b_Resolver_findByWeek 42 = .ok (.lconst 1, 1) := by decide +kernel
theorem d_Resolver_findByWeek_43 : decode b_Resolver_findByWeek 43 = .ok (.ladd, 1) := by decide +kernel
theorem d_Resolver_findByWeek_44 : decode b_Resolver_findByWeek 44 = .ok (.invokestatic 102, 3) := by decide +kernel
theorem d_Resolver_findByWeek_47 : decode b_Resolver_findByWeek 47 = .ok (.lcmp, 1) := by decide +kernel
theorem d_Resolver_findByWeek_48 : decode b_Resolver_findByWeek 48 = .ok (.ifCond .ge 7, 3) := by decide +kernel
theorem d_Resolver_findByWeek_51 : decode b_Resolver_findByWeek 51 = .ok (.iconst 1, 1) := by decide +kernel
theorem d_Resolver_findByWeek_52 : decode b_Resolver_findByWeek 52 = .ok (.goto 4, 3) := by decide +kernel
theorem d_Resolver_findByWeek_55 : decode b_Resolver_findByWeek 55 = .ok (.iconst 0, 1) := by decide +kernel
theorem d_Resolver_findByWeek_56 : decode b_Resolver_findByWeek 56 = .ok (.ireturn, 1) := by decide +kernel
theorem d_Resolver_findDate_0 : decode b_Resolver_findDate 0 = .ok (.aload_n 1, 1) := by decide +kernel
theorem d_Resolver_findDate_1 : decode b_Resolver_findDate 1 = .ok (.iconst 0, 1) := by decide +kernel
theorem d_Resolver_findDate_2 : decode b_Resolver_findDate 2 = .ok (.invokevirtual 38, 3) := by decide +kernel
theorem d_Resolver_findDate_5 : decode b_Resolver_findDate 5 = .ok (.ifCond .eq 42, 3) := by decide +kernel
theorem d_Resolver_findDate_8 : decode b_Resolver_findDate 8 = .ok (.aload_n 1, 1) := by decide +kernel
theorem d_Resolver_findDate_9 : decode b_Resolver_findDate 9 = .ok (.iconst 2, 1) := by decide +kernel
theorem d_Resolver_findDate_10 : decode b_Resolver_findDate 10 = .ok (.invokevirtual 38, 3) := by decide +kernel
theorem d_Resolver_findDate_13 : decode b_Resolver_findDate 13 = .ok (.ifCond .eq 34, 3) := by decide +kernel
theorem d_Resolver_findDate_16 : decode b_Resolver_findDate 16 = .ok (.aload_n 1, 1) := by decide +kernel
theorem d_Resolver_findDate_17 : decode b_Resolver_findDate 17 = .ok (.iconst 3, 1) := by decide +kernel
theorem d_Resolver_findDate_18 : decode b_Resolver_findDate 18 = .ok (.invokevirtual 38, 3) := by decide +kernel
theorem d_Resolver_findDate_21 : decode b_Resolver_findDate 21 = .ok (.ifCond .eq 26, 3) := by decide +kernel
theorem d_Resolver_findDate_24 : decode b_Resolver_findDate 24 = .ok (.aload_n 0, 1) := by decide +kernel
theorem d_Resolver_findDate_25 : decode b_Resolver_findDate 25 = .ok (.aload_n 0, 1) := by decide +kernel
theorem d_Resolver_findDate_26 : decode b_Resolver_findDate 26 = .ok (.aload_n 1, 1) := by decide +kernel
theorem d_Resolver_findDate_27 : decode b_Resolver_findDate 27 = .ok (.iconst 0, 1) := by decide +kernel
theorem d_Resolver_findDate_28 : decode b_Resolver_findDate 28 = .ok (.invokevirtual 64, 3) := by decide +kernel
theorem d_Resolver_findDate_31 : decode b_Resolver_findDate 31 = .ok (.aload_n 0, 1) := by decide +kernel
theorem d_Resolver_findDate_32 : decode b_Resolver_findDate 32 = .ok (.aload_n 1, 1) := by decide +kernel
theorem d_Resolver_findDate_33 : decode b_Resolver_findDate 33 = .ok (.iconst 2, 1) := by decide +kernel
theorem d_Resolver_findDate_34 : decode b_Resolver_findDate 34 = .ok (.invokevirtual 64, 3) := by decide +kernel
theorem d_Resolver_findDate_37 : decode b_Resolver_findDate 37 = .ok (.aload_n 0, 1) := by decide +kernel
theorem d_Resolver_findDate_38 : decode b_Resolver_findDate 38 = .ok (.aload_n 1, 1) := by decide +kernel
theorem d_Resolver_findDate_39 : decode b_Resolver_findDate 39 = .ok (.iconst 3, 1) := by decide +kernel
theorem d_Resolver_findDate_40 : decode b_Resolver_findDate 40 = .ok (.invokevirtual 64, 3) := by decide +kernel
theorem d_Resolver_findDate_43 : decode b_Resolver_findDate 43 = .ok (.invokevirtual 68, 3) := by decide +kernel
theorem d_Resolver_findDate_46 : decode b_Resolver_findDate 46 = .ok (.ireturn, 1) := by decide +kernel
theorem d_Resolver_findDate_47 : decode b_Resolver_findDate 47 = .ok (.aload_n 1, 1) := by decide +kernel
theorem d_Resolver_findDate_48 : decode b_Resolver_findDate 48 = .ok (.iconst 0, 1) := by decide +kernel
theorem d_Resolver_findDate_49 : decode b_Resolver_findDate 49 = .ok (.invokevirtual 38, 3) := by decide +kernel
theorem d_Resolver_findDate_52 : decode b_Resolver_findDate 52 = .ok (.ifCond .eq 28, 3) := by decide +kernel
theorem d_Resolver_findDate_55 : decode b_Resolver_findDate 55 = .ok (.aload_n 1, 1) := by decide +kernel
theorem d_Resolver_findDate_56 : decode b_Resolver_findDate 56 = .ok (.iconst 4, 1) := by decide +kernel
theorem d_Resolver_findDate_57 : decode b_Resolver_findDate 57 = .ok (.invokevirtual 38, 3) := by decide +kernel
theorem d_Resolver_findDate_60 : decode b_Resolver_findDate 60 = .ok (.ifCond .eq 20, 3) := by decide +kernel
theorem d_Resolver_findDate_63 : decode b_Resolver_findDate 63 = .ok (.aload_n 0, 1) := by decide +kernel
theorem d_Resolver_findDate_64 : decode b_Resolver_findDate 64 = .ok (.aload_n 0, 1) := by decide +kernel
theorem d_Resolver_findDate_65 : decode b_Resolver_findDate 65 = .ok (.aload_n 1, 1) := by decide +kernel
theorem d_Resolver_findDate_66 : decode b_Resolver_findDate 66 = .ok (.iconst 0, 1) := by decide +kernel
theorem d_Resolver_findDate_67 : decode b_Resolver_findDate 67 = .ok (.invokevirtual 64, 3) := by decide +kernel
theorem d_Resolver_findDate_70 : decode b_Resolver_findDate 70 = .ok (.aload_n 0, 1) := by decide +kernel
theorem d_Resolver_findDate_71 : decode b_Resolver_findDate 71 = .ok (.aload_n 1, 1) := by decide +kernel
theorem d_Resolver_findDate_72 : decode b_Resolver_findDate 72 = .ok (.iconst 4, 1) := by decide +kernel
theorem d_Resolver_findDate_73 : decode b_Resolver_findDate 73 = .ok (.invokevirtual 64, 3) := by decide +kernel
theorem d_Resolver_findDate_76 : decode b_Resolver_findDate 76 = .ok (.invokevirtual 72, 3) := by decide +kernel
theorem d_Resolver_findDate_79 : decode b_Resolver_findDate 79 = .ok (.ireturn, 1) := by decide +kernel
theorem d_Resolver_findDate_80 : decode b_Resolver_findDate 80 = .ok (.aload_n 1, 1) := by decide +kernel
theorem d_Resolver_findDate_81 : decode b_Resolver_findDate 81 = .ok (.iconst 1, 1) := by decide +kernel
theorem d_Resolver_findDate_82 : decode b_Resolver_findDate 82 = .ok (.invokevirtual 38, 3) := by decide +kernel
theorem d_Resolver_findDate_85 : decode b_Resolver_findDate 85 = .ok (.ifCond .eq 44, 3) := by decide +kernel
theorem d_Resolver_findDate_88 : decode b_Resolver_findDate 88 = .ok (.aload_n 1, 1) := by decide +kernel
theorem d_Resolver_findDate_89 : decode b_Resolver_findDate 89 = .ok (.bipush 6, 2) := by decide +kernel
theorem d_Resolver_findDate_91 : decode b_Resolver_findDate 91 = .ok (.invokevirtual 38, 3) := by decide +kernel
theorem d_Resolver_findDate_94 : decode b_Resolver_findDate 94 = .ok (.ifCond .eq 35, 3) := by decide +kernel
theorem d_Resolver_findDate_97 : decode b_Resolver_findDate 97 = .ok (.aload_n 1, 1) := by decide +kernel
theorem d_Resolver_findDate_98 : decode b_Resolver_findDate 98 = .ok (.iconst 5, 1) := by decide +kernel
theorem d_Resolver_findDate_99 : decode b_Resolver_findDate 99 = .ok (.invokevirtual 38, 3) := by decide +kernel
theorem d_Resolver_findDate_102 : decode b_Resolver_findDate 102 = .ok (.ifCond .eq 27, 3) := by decide +kernel
theorem d_Resolver_findDate_105 : decode b_Resolver_findDate 105 = .ok (.aload_n 0, 1) := by decide +kernel
theorem d_Resolver_findDate_106 : decode b_Resolver_findDate 106 = .ok (.aload_n 0, 1) := by decide +kernel
theorem d_Resolver_findDate_107 : decode b_Resolver_findDate 107 = .ok (.aload_n 1, 1) := by decide +kernel
theorem d_Resolver_findDate_108 : decode b_Resolver_findDate 108 = .ok (.iconst 1, 1) := by decide +kernel
theorem d_Resolver_findDate_109 : decode b_Resolver_findDate 109 = .ok (.invokevirtual 64, 3) := by decide +kernel
theorem d_Resolver_findDate_112 : decode b_Resolver_findDate 112 = .ok (.aload_n 0, 1) := by decide +kernel
theorem d_Resolver_findDate_113 : decode b_Resolver_findDate 113 = .ok (.aload_n 1, 1) := by decide +kernel
theorem d_Resolver_findDate_114 : decode b_Resolver_findDate 114 = .ok (.bipush 6, 2) := by decide +kernel
theorem d_Resolver_findDate_116 : decode b_Resolver_findDate 116 = .ok (.invokevirtual 64, 3) := by decide +kernel
theorem d_Resolver_findDate_119 : decode b_Resolver_findDate 119 = .ok (.aload_n 0, 1) := by decide +kernel
theorem d_Resolver_findDate_120 : decode b_Resolver_findDate 120 = .ok (.aload_n 1, 1) := by decide +kernel
theorem d_Resolver_findDate_121 : decode b_Resolver_findDate 121 = .ok (.iconst 5, 1) := by decide +kernel
theorem d_Resolver_findDate_122 : decode b_Resolver_findDate 122 = .ok (.invokevirtual 64, 3) := by decide +kernel
theorem d_Resolver_findDate_125 : decode b_Resolver_findDate 125 = .ok (.invokevirtual 75, 3) := by decide +kernel
theorem d_Resolver_findDate_128 : decode b_Resolver_findDate 128 = .ok (.ireturn, 1) := by decide +kernel
theorem d_Resolver_findDate_129 : decode b_Resolver_findDate 129 = .ok (.iconst 0, 1) := by decide +kernel
theorem d_Resolver_findDate_130 : decode b_Resolver_findDate 130 = .ok (.ireturn, 1) := by decide +kernel
theorem d_Resolver_findTime_0 : decode b_Resolver_findTime 0 = .ok (.iconst 0, 1) := by decide +kernel
theorem d_Resolver_findTime_1 : decode b_Resolver_findTime 1 = .ok (.istore_n 2, 1) := by decide +kernel
theorem d_Resolver_findTime_2 : decode b_Resolver_findTime 2 = .ok (.iconst 1, 1) := by decide +kernel
theorem d_Resolver_findTime_3 : decode b_Resolver_findTime 3 = .ok (.istore_n 3, 1) := by decide +kernel
theorem d_Resolver_findTime_4 : decode b_Resolver_findTime 4 = .ok (.aload_n 1, 1) := by decide +kernel
theorem d_Resolver_findTime_5 : decode b_Resolver_findTime 5 = .ok (.bipush 7, 2) := by decide +kernel
theorem d_Resolver_findTime_7 : decode b_Resolver_findTime 7 = .ok (.invokevirtual 38, 3) := by decide +kernel
theorem d_Resolver_findTime_10 : decode b_Resolver_findTime 10 = .ok (.ifCond .eq 26, 3) := by decide +kernel
theorem d_Resolver_findTime_13 : decode b_Resolver_findTime 13 = .ok (.aload_n 0, 1) := by decide +kernel
theorem d_Resolver_findTime_14 : decode b_Resolver_findTime 14 = .ok (.aload_n 1, 1) := by decide +kernel
theorem d_Resolver_findTime_15 : decode b_Resolver_findTime 15 = .ok (.bipush 7, 2) := by decide +kernel
theorem d_Resolver_findTime_17 : decode b_Resolver_findTime 17 = .ok (.invokevirtual 64, 3) := by decide +kernel
theorem d_Resolver_findTime_20 : decode b_Resolver_findTime 20 = .ok (.istore_n 2, 1) := by decide +kernel
theorem d_Resolver_findTime_21 : decode b_Resolver_findTime 21 = .ok (.iload_n 2, 1) := by decide +kernel
theorem d_Resolver_findTime_22 : decode b_Resolver_findTime 22 = .ok (.bipush 23, 2) := by decide +kernel
theorem d_Resolver_findTime_24 : decode b_Resolver_findTime 24 = .ok (.if_icmp .gt 7, 3) := by decide +kernel
theorem d_Resolver_findTime_27 : decode b_Resolver_findTime 27 = .ok (.iconst 1, 1) := by decide +kernel
theorem d_Resolver_findTime_28 : decode b_Resolver_findTime 28 = .ok (.goto 4, 3) := by decide +kernel
theorem d_Resolver_findTime_31 : decode b_Resolver_findTime 31 = .ok (.iconst 0, 1) := by decide +kernel
theorem d_Resolver_findTime_32 : decode b_Resolver_findTime 32 = .ok (.istore_n 3, 1) := by decide +kernel
theorem d_Resolver_findTime_33 : decode b_Resolver_findTime 33 = .ok (.goto 74, 3) := by decide +kernel
theorem d_Resolver_findTime_36 : decode b_Resolver_findTime 36 = .ok (.aload_n 1, 1) := by decide +kernel
theorem d_Resolver_findTime_37 : decode b_Resolver_findTime 37 = .ok (.bipush 8, 2) := by decide +kernel
theorem d_Resolver_findTime_39 : decode b_Resolver_findTime 39 = .ok (.invokevirtual 38, 3) := by decide +kernel
theorem d_Resolver_findTime_42 : decode b_Resolver_findTime 42 = .ok (.ifCond .eq 65, 3) := by decide +kernel
theorem d_Resolver_findTime_45 : decode b_Resolver_findTime 45 = .ok (.aload_n 1, 1) := by decide +kernel
theorem d_Resolver_findTime_46 : decode b_Resolver_findTime 46 = .ok (.bipush 9, 2) := by decide +kernel
theorem d_Resolver_findTime_48 : decode b_Resolver_findTime 48 = .ok (.invokevirtual 38, 3) := by decide +kernel
theorem d_Resolver_findTime_51 : decode b_Resolver_findTime 51 = .ok (.ifCond .eq 56, 3) := by decide +kernel
theorem d_Resolver_findTime_54 : decode b_Resolver_findTime 54 = .ok (.aload_n 0, 1) := by decide +kernel
theorem d_Resolver_findTime_55 : decode b_Resolver_findTime 55 = .ok (.aload_n 1, 1) := by decide +kernel
theorem d_Resolver_findTime_56 : decode b_Resolver_findTime 56 = .ok (.bipush 8, 2) := by decide +kernel
theorem d_Resolver_findTime_58 : decode b_Resolver_findTime 58 = .ok (.invokevirtual 64, 3) := by decide +kernel
theorem d_Resolver_findTime_61 : decode b_Resolver_findTime 61 = .ok (.istore 4, 2) := by decide +kernel
theorem d_Resolver_findTime_63 : decode b_Resolver_findTime 63 = .ok (.bipush 12, 2) := by decide +kernel
theorem d_Resolver_findTime_65 : decode b_Resolver_findTime 65 = .ok (.aload_n 0, 1) := by decide +kernel
theorem d_Resolver_findTime_66 : decode b_Resolver_findTime 66 = .ok (.aload_n 1, 1) := by decide +kernel
theorem d_Resolver_findTime_67 : decode b_Resolver_findTime 67 = .ok (.bipush 9, 2) := by decide +kernel
theorem d_Resolver_findTime_69 : decode b_Resolver_findTime 69 = .ok (.invokevirtual 64, 3) := by decide +kernel
theorem d_Resolver_findTime_72 : decode b_Resolver_findTime 72 = .ok (.imul, 1) := by decide +kernel
theorem d_Resolver_findTime_73 : decode b_Resolver_findTime 73 = .ok (.iload 4, 2) := by decide +kernel
theorem d_Resolver_findTime_75 : decode b_Resolver_findTime 75 = .ok (.bipush 12, 2) := by decide +kernel
theorem d_Resolver_findTime_77 : decode b_Resolver_findTime 77 = .ok (.if_icmp .ne 7, 3) := by decide +kernel
theorem d_Resolver_findTime_80 : decode b_Resolver_findTime 80 = .ok (.iconst 0, 1) := by decide +kernel
theorem d_Resolver_findTime_81 : decode b_Resolver_findTime 81 = .ok (.goto 5, 3) := by decide +kernel
theorem d_Resolver_findTime_84 : decode b_Resolver_findTime 84 = .ok (.iload 4, 2) := by decide +kernel
theorem d_Resolver_findTime_86 : decode b_Resolver_findTime 86 = .ok (.iadd, 1) := by decide +kernel
theorem d_Resolver_findTime_87 : decode b_Resolver_findTime 87 = .ok (.istore_n 2, 1) := by decide +kernel
theorem d_Resolver_findTime_88 : decode b_Resolver_findTime 88 = .ok (.iload 4, 2) := by decide +kernel
theorem d_Resolver_findTime_90 : decode b_Resolver_findTime 90 = .ok (.iconst 1, 1) := by decide +kernel
theorem d_Resolver_findTime_91 : decode b_Resolver_findTime 91 = .ok (.if_icmp .lt 14, 3) := by decide +kernel
theorem d_Resolver_findTime_94 : decode b_Resolver_findTime 94 = .ok (.iload 4, 2) := by decide +kernel
theorem d_Resolver_findTime_96 : decode b_Resolver_findTime 96 = .ok (.bipush 12, 2) := by decide +kernel
theorem d_Resolver_findTime_98 : decode b_Resolver_findTime 98 = .ok (.if_icmp .gt 7, 3) := by decide +kernel
theorem d_Resolver_findTime_101 : decode b_Resolver_findTime 101 = .ok (.iconst 1, 1) := by decide +kernel
theorem d_Resolver_findTime_102 : decode b_Resolver_findTime 102 = .ok (.goto 4, 3) := by decide +kernel
theorem d_Resolver_findTime_105 : decode b_Resolver_findTime 105 = .ok (.iconst 0, 1) := by decide +kernel
theorem d_Resolver_findTime_106 : decode b_Resolver_findTime 106 = .ok (.istore_n 3, 1) := by decide +kernel
theorem d_Resolver_findTime_107 : decode b_Resolver_findTime 107 = .ok (.aload_n 0, 1) := by decide +kernel
theorem d_Resolver_findTime_108 : decode b_Resolver_findTime 108 = .ok (.aload_n 1, 1) := by decide +kernel
theorem d_Resolver_findTime_109 : decode b_Resolver_findTime 109 = .ok (.bipush 10, 2) := by decide +kernel
theorem d_Resolver_findTime_111 : decode b_Resolver_findTime 111 = .ok (.invokevirtual 64, 3) := by decide +kernel
theorem d_Resolver_findTime_114 : decode b_Resolver_findTime 114 = .ok (.istore 4, 2) := by decide +kernel
theorem d_Resolver_findTime_116 : decode b_Resolver_findTime 116 = .ok (.aload_n 0, 1) := by decide +kernel
theorem d_Resolver_findTime_117 : decode b_Resolver_findTime 117 = .ok (.aload_n 1, 1) := by decide +kernel
theorem d_Resolver_findTime_118 : decode b_Resolver_findTime 118 = .ok (.bipush 11, 2) := by decide +kernel
theorem d_Resolver_findTime_120 : decode b_Resolver_findTime 120 = .ok (.invokevirtual 64, 3) := by decide +kernel
theorem d_Resolver_findTime_123 : decode b_Resolver_findTime 123 = .ok (.istore 5, 2) := by decide +kernel
theorem d_Resolver_findTime_125 : decode b_Resolver_findTime 125 = .ok (.aload_n 0, 1) := by decide +kernel
theorem d_Resolver_findTime_126 : decode b_Resolver_findTime 126 = .ok (.aload_n 1, 1) := by decide +kernel
theorem d_Resolver_findTime_127 : decode b_Resolver_findTime 127 = .ok (.bipush 12, 2) := by decide +kernel
theorem d_Resolver_findTime_129 : decode b_Resolver_findTime 129 = .ok (.invokevirtual 64, 3) := by decide +kernel
theorem d_Resolver_findTime_132 : decode b_Resolver_findTime 132 = .ok (.pop, 1) := by decide +kernel
theorem d_Resolver_findTime_133 : decode b_Resolver_findTime 133 = .ok (.aload_n 0, 1) := by decide +kernel
theorem d_Resolver_findTime_134 : decode b_Resolver_findTime 134 = .ok (.sipush 3600, 3) := by decide +kernel
theorem d_Resolver_findTime_137 : decode b_Resolver_findTime 137 = .ok (.iload_n 2, 1) := by decide +kernel
theorem d_Resolver_findTime_138 : decode b_Resolver_findTime 138 = .ok (.imul, 1) := by decide +kernel
theorem d_Resolver_findTime_139 : decode b_Resolver_findTime 139 = .ok (.bipush 60, 2) := by decide +kernel
theorem d_Resolver_findTime_141 : decode b_Resolver_findTime 141 = .ok (.iload 4, 2) := by decide +kernel
theorem d_Resolver_findTime_143 : decode b_Resolver_findTime 143 = .ok (.imul, 1) := by decide +kernel
theorem d_Resolver_findTime_144 : decode b_Resolver_findTime 144 = .ok (.iadd, 1) := by decide +kernel
theorem d_Resolver_findTime_145 : decode b_Resolver_findTime 145 = .ok (.iload 5, 2) := by decide +kernel
theorem d_Resolver_findTime_147 : decode b_Resolver_findTime 147 = .ok (.iadd, 1) := by decide +kernel
theorem d_Resolver_findTime_148 : decode b_Resolver_findTime 148 = .ok (.putfield 29, 3) := by decide +kernel
theorem d_Resolver_findTime_151 : decode b_Resolver_findTime 151 = .ok (.aload_n 0, 1) := by decide +kernel
theorem d_Resolver_findTime_152 : decode b_Resolver_findTime 152 = .ok (.getfield 18, 3) := by decide +kernel
theorem d_Resolver_findTime_155 : decode b_Resolver_findTime 155 = .ok (.iconst 2, 1) := by decide +kernel
theorem d_Resolver_findTime_156 : decode b_Resolver_findTime 156 = .ok (.if_icmp .eq 21, 3) := by decide +kernel
theorem d_Resolver_findTime_159 : decode b_Resolver_findTime 159 = .ok (.iload_n 3, 1) := by decide +kernel
theorem d_Resolver_findTime_160 : decode b_Resolver_findTime 160 = .ok (.ifCond .eq 21, 3) := by decide +kernel
theorem d_Resolver_findTime_163 : decode b_Resolver_findTime 163 = .ok (.iload 4, 2) := by decide +kernel
theorem d_Resolver_findTime_165 : decode b_Resolver_findTime 165 = .ok (.bipush 59, 2) := by decide +kernel
theorem d_Resolver_findTime_167 : decode b_Resolver_findTime 167 = .ok (.if_icmp .gt 14, 3) := by decide +kernel
theorem d_Resolver_findTime_170 : decode b_Resolver_findTime 170 = .ok (.iload 5, 2) := by decide +kernel
theorem d_Resolver_findTime_172 : decode b_Resolver_findTime 172 = .ok (.bipush 59, 2) := by decide +kernel
theorem d_Resolver_findTime_174 : decode b_Resolver_findTime 174 = .ok (.if_icmp .gt 7, 3) := by decide +kernel
theorem d_Resolver_findTime_177 : decode b_Resolver_findTime 177 = .ok (.iconst 1, 1) := by decide +kernel
theorem d_Resolver_findTime_178 : decode b_Resolver_findTime 178 = .ok (.goto 4, 3) := by decide +kernel
theorem d_Resolver_findTime_181 : decode b_Resolver_findTime 181 = .ok (.iconst 0, 1) := by decide +kernel
theorem d_Resolver_findTime_182 : decode b_Resolver_findTime 182 = .ok (.ireturn, 1) := by decide +kernel
theorem d_Resolver_agrees_0 : decode b_Resolver_agrees 0 = .ok (.iconst 0, 1) := by decide +kernel
theorem d_Resolver_agrees_1 : decode b_Resolver_agrees 1 = .ok (.istore_n 2, 1) := by decide +kernel
theorem d_Resolver_agrees_2 : decode b_Resolver_agrees 2 = .ok (.iload_n 2, 1) := by decide +kernel
theorem d_Resolver_agrees_3 : decode b_Resolver_agrees 3 = .ok (.bipush 12, 2) := by decide +kernel
theorem d_Resolver_agrees_5 : decode b_Resolver_agrees 5 = .ok (.if_icmp .gt 56, 3) := by decide +kernel
theorem d_Resolver_agrees_8 : decode b_Resolver_agrees 8 = .ok (.aload_n 1, 1) := by decide +kernel
theorem d_Resolver_agrees_9 : decode b_Resolver_agrees 9 = .ok (.iload_n 2, 1) := by decide +kernel
theorem d_Resolver_agrees_10 : decode b_Resolver_agrees 10 = .ok (.invokevirtual 38, 3) := by decide +kernel
theorem d_Resolver_agrees_13 : decode b_Resolver_agrees 13 = .ok (.ifCond .eq 18, 3) := by decide +kernel
theorem d_Resolver_agrees_16 : decode b_Resolver_agrees 16 = .ok (.aload_n 0, 1) := by decide +kernel
theorem d_Resolver_agrees_17 : decode b_Resolver_agrees 17 = .ok (.getfield 22, 3) := by decide +kernel
theorem d_Resolver_agrees_20 : decode b_Resolver_agrees 20 = .ok (.iload_n 2, 1) := by decide +kernel
theorem d_Resolver_agrees_21 : decode b_Resolver_agrees 21 = .ok (.ishr, 1) := by decide +kernel
theorem d_Resolver_agrees_22 : decode b_Resolver_agrees 22 = .ok (.iconst 1, 1) := by decide +kernel
theorem d_Resolver_agrees_23 : decode b_Resolver_agrees 23 = .ok (.iand, 1) := by decide +kernel
theorem d_Resolver_agrees_24 : decode b_Resolver_agrees 24 = .ok (.ifCond .ne 7, 3) := by decide +kernel
theorem d_Resolver_agrees_27 : decode b_Resolver_agrees 27 = .ok (.iconst 1, 1) := by decide +kernel
theorem d_Resolver_agrees_28 : decode b_Resolver_agrees 28 = .ok (.goto 4, 3) := by decide +kernel
theorem d_Resolver_agrees_31 : decode b_Resolver_agrees 31 = .ok (.iconst 0, 1) := by decide +kernel
theorem d_Resolver_agrees_32 : decode b_Resolver_agrees 32 = .ok (.istore_n 3, 1) := by decide +kernel
theorem d_Resolver_agrees_33 : decode b_Resolver_agrees 33 = .ok (.iload_n 3, 1) := by decide +kernel
theorem d_Resolver_agrees_34 : decode b_Resolver_agrees 34 = .ok (.ifCond .eq 21, 3) := by decide +kernel
theorem d_Resolver_agrees_37 : decode b_Resolver_agrees 37 = .ok (.aload_n 1, 1) := by decide +kernel
theorem d_Resolver_agrees_38 : decode b_Resolver_agrees 38 = .ok (.iload_n 2, 1) := by decide +kernel
theorem d_Resolver_agrees_39 : decode b_Resolver_agrees 39 = .ok (.invokevirtual 51, 3) := by decide +kernel
theorem d_Resolver_agrees_42 : decode b_Resolver_agrees 42 = .ok (.aload_n 0, 1) := by decide +kernel
theorem d_Resolver_agrees_43 : decode b_Resolver_agrees 43 = .ok (.getfield 12, 3) := by decide +kernel
theorem d_Resolver_agrees_46 : decode b_Resolver_agrees 46 = .ok (.iload_n 2, 1) := by decide +kernel
theorem d_Resolver_agrees_47 : decode b_Resolver_agrees 47 = .ok (.invokevirtual 107, 3) := by decide +kernel
theorem d_Resolver_agrees_50 : decode b_Resolver_agrees 50 = .ok (.if_icmp .eq 5, 3) := by decide +kernel
theorem d_Resolver_agrees_53 : decode b_Resolver_agrees 53 = .ok (.iconst 0, 1) := by decide +kernel
theorem d_Resolver_agrees_54 : decode b_Resolver_agrees 54 = .ok (.ireturn, 1) := by decide +kernel
theorem d_Resolver_agrees_55 : decode b_Resolver_agrees 55 = .ok (.iinc 2 1, 3) := by decide +kernel
theorem d_Resolver_agrees_58 : decode b_Resolver_agrees 58 = .ok (.goto (-56), 3) := by decide +kernel
theorem d_Resolver_agrees_61 : decode b_Resolver_agrees 61 = .ok (.iconst 1, 1) := by decide +kernel
theorem d_Resolver_agrees_62 : decode b_Resolver_agrees 62 = .ok (.ireturn, 1) := by decide +kernel
abbrev rm_Resolver_use : Room := { frames := 2, cells := 0, slots := 0, locals := 42 }
set_option maxHeartbeats 4000000 in
set_option maxRecDepth 100000 in
theorem c_Resolver_use (l : Launch) (D : va_G) (kk : Nat → ClassId) (st : Nat → Nat) (a_t a_q1 a_q1_values a_q1_flags a_t_moment a_q1_order : Nat) (sz : Nat) (t_style : Int32) (t_used : Int32) (t_day : Int64) (t_second : Int32) (q1_size : Int32) (q1_values : Nat → Int32) (q1_flags : Nat → Int32) (x2 : Int32) (o : Int32 × Int32) (he : f_Resolver_use t_used q1_values q1_flags x2 = some o) : Met l y_Resolver_use (Cond.code y_Resolver_use b_Resolver_use 3 (some .int) :: GW) rm_Resolver_use (KPc D kk st [.ref a_t, .ref a_q1, .int x2] [(a_t, .inr (9, [.ref a_t_moment, .int t_style, .int t_used, .long t_day, .int t_second])), (a_q1, .inr (7, [.ref a_q1_values, .ref a_q1_flags, .ref a_q1_order, .int q1_size])), (a_q1_values, .inl (kk 0, 14, .inl q1_values)), (a_q1_flags, .inl (kk 2, 14, .inl q1_flags))] sz) (KQi D kk o.1 [(a_t, .inr (9, [.ref a_t_moment, .int t_style, .int o.2, .long t_day, .int t_second])), (a_q1, .inr (7, [.ref a_q1_values, .ref a_q1_flags, .ref a_q1_order, .int q1_size])), (a_q1_values, .inl (kk 0, 14, .inl q1_values)), (a_q1_flags, .inl (kk 2, 14, .inl q1_flags))] (va_A [(a_t, .inr (9, [.ref a_t_moment, .int t_style, .int t_used, .long t_day, .int t_second])), (a_q1, .inr (7, [.ref a_q1_values, .ref a_q1_flags, .ref a_q1_order, .int q1_size])), (a_q1_values, .inl (kk 0, 14, .inl q1_values)), (a_q1_flags, .inl (kk 2, 14, .inl q1_flags))] sz)) 0 0 (va_A [(a_t, .inr (9, [.ref a_t_moment, .int t_style, .int t_used, .long t_day, .int t_second])), (a_q1, .inr (7, [.ref a_q1_values, .ref a_q1_flags, .ref a_q1_order, .int q1_size])), (a_q1_values, .inl (kk 0, 14, .inl q1_values)), (a_q1_flags, .inl (kk 2, 14, .inl q1_flags))] sz) := by
  refine k_start (Qc := fun A => KQi D kk o.1 [(a_t, .inr (9, [.ref a_t_moment, .int t_style, .int o.2, .long t_day, .int t_second])), (a_q1, .inr (7, [.ref a_q1_values, .ref a_q1_flags, .ref a_q1_order, .int q1_size])), (a_q1_values, .inl (kk 0, 14, .inl q1_values)), (a_q1_flags, .inl (kk 2, 14, .inl q1_flags))] A) (by decide) (Nat.le_of_ble_eq_true rfl) ?_
  intro p e s m below meth c A ls S hnm hr hlk hA X hP hD hS hl
  have hl : lv_has ls 3 [(0, .ref a_t), (1, .ref a_q1), (2, .int x2)] := hl
  have hx := S.1
  have hb := S.2.1
  unfold f_Resolver_use at he
  refine lv_aload_n hx hb d_Resolver_use_0 rfl (lv_at hl 0 rfl) ?_
  refine lv_dup hx hb d_Resolver_use_1 rfl ?_
  refine k_get S X us_Resolver hP 0 rfl rfl 2 (by decide) gm_1_193 rfl d_Resolver_use_2 ?_
  refine lv_iconst (v := (1 : Int32)) hx hb d_Resolver_use_5 (by decide) ?_
  refine lv_iload_n hx hb d_Resolver_use_6 rfl (lv_at hl 2 rfl) ?_
  refine lv_ishl hx hb d_Resolver_use_7 ?_
  refine lv_ior hx hb d_Resolver_use_8 ?_
  refine k_put S X us_Resolver t_Resolver t_Resolver_ok n_Resolver hP hD hS 0 rfl rfl 2 (by decide) gm_1_193 rfl rfl rfl (Nat.le_of_ble_eq_true rfl) d_Resolver_use_9 (fun H locs hP hD hS => ?_)
  have hP : va_P D classes [(a_t, .inr (9, [.ref a_t_moment, .int t_style, .int (t_used ||| ((1 : Int32) <<< (x2 &&& 31))), .long t_day, .int t_second])), (a_q1, .inr (7, [.ref a_q1_values, .ref a_q1_flags, .ref a_q1_order, .int q1_size])), (a_q1_values, .inl (kk 0, 14, .inl q1_values)), (a_q1_flags, .inl (kk 2, 14, .inl q1_flags))] H := hP
  have hD : va_D A [(a_t, .inr (9, [.ref a_t_moment, .int t_style, .int (t_used ||| ((1 : Int32) <<< (x2 &&& 31))), .long t_day, .int t_second])), (a_q1, .inr (7, [.ref a_q1_values, .ref a_q1_flags, .ref a_q1_order, .int q1_size])), (a_q1_values, .inl (kk 0, 14, .inl q1_values)), (a_q1_flags, .inl (kk 2, 14, .inl q1_flags))] := hD
  refine lv_aload_n hx hb d_Resolver_use_12 rfl (lv_at hl 1 rfl) ?_
  refine lv_iload_n hx hb d_Resolver_use_13 rfl (lv_at hl 2 rfl) ?_
  obtain ⟨u1, e2, he⟩ := ih_b he
  refine k_io (r_V (As := [.int x2]) S X hA hP hD hS (c_Known_value l D kk st a_q1 a_q1_values a_q1_flags a_q1_order _ q1_size q1_values q1_flags x2 u1 e2) gm_4_52 gm_4_49 gm_4_50 gm_4_51 gm_1_8 ⟨rfl, rfl, by decide, by decide⟩ kd_Known_value [1, 2, 3] rfl rfl rfl 1 7 rfl rfl rfl rfl hl.1 rfl (Nat.le_of_ble_eq_true rfl) d_Resolver_use_14 ⟨Nat.zero_le _, Nat.zero_le _⟩) hA hP hD hS [1, 2, 3] rfl (fun H locs hP hS => ?_)
  cases he
  exact k_ire hx hb hr hlk X hP hD hS d_Resolver_use_17
abbrev rm_Resolver_findByMonth : Room := { frames := 3, cells := 0, slots := 0, locals := 74 }
set_option maxHeartbeats 4000000 in
set_option maxRecDepth 100000 in
theorem w_Resolver_findByMonth_54 {p : Program} {l : Launch} {e : Env} {s : State} {m : MethodId} {args : Array Value} {below : List Frame} {meth : Method} {c : Code} {A : Nat → Prop} {D : va_G} {kk : Nat → ClassId} {st : Nat → Nat} (a_t a_t_moment : Nat) (t_style : Int32) (t_used : Int32) (t_day : Int64) (t_second : Int32) (x1 : Int32) (x2 : Int32) (x4 : Int32) (x5 : Int32) (o : Int32 × Int64) (S : CallFix p m c b_Resolver_findByMonth 6 s args GW y_Resolver_findByMonth.cls) (hr : meth.sig.returnType = (some .boolean)) (hlk : meth.locks = false) (hA : ∀ q, s.heap.size ≤ q → A q) (X : KX D kk st A s) (H : Heap) (locs : List Loc) (ls : Array Slot) (he : jn_Resolver_findByMonth_54 t_style t_day x1 x2 x4 x5 = some o) (hl : lv_has ls 6 [(0, .ref a_t), (1, .int x1), (2, .int x2), (4, .int x4), (5, .int x5)]) (hP : va_P D classes [(a_t, .inr (9, [.ref a_t_moment, .int t_style, .int t_used, .long t_day, .int t_second]))] H) (hD : va_D A [(a_t, .inr (9, [.ref a_t_moment, .int t_style, .int t_used, .long t_day, .int t_second]))]) (hS : va_S A s.heap H locs) : W p l e rm_Resolver_findByMonth s m args below meth c H locs 0 0 (MQ below (KQi D kk o.1 [(a_t, .inr (9, [.ref a_t_moment, .int t_style, .int t_used, .long o.2, .int t_second]))] A) args s 0 0 A) (F0 m 54 ls []) := by
  have hx := S.1
  have hb := S.2.1
  unfold jn_Resolver_findByMonth_54 at he
  refine lv_iload hx hb d_Resolver_findByMonth_54 (lv_at hl 3 rfl) ?_
  refine lv_iconst (v := (1 : Int32)) hx hb d_Resolver_findByMonth_56 (by decide) ?_
  refine lv_icmp_lt (tgt := 67) hx hb d_Resolver_findByMonth_57 rfl (fun hc => ?_) (fun hc => ?_)
  · have he := ih_t hc he
    refine lv_iconst (v := (0 : Int32)) hx hb d_Resolver_findByMonth_67 (by decide) ?_
    cases he
    exact k_zre hx hb hr hlk X hP hD hS (Or.inl rfl) d_Resolver_findByMonth_68
  · have he := ih_f hc he
    refine lv_iload hx hb d_Resolver_findByMonth_60 (lv_at hl 3 rfl) ?_
    refine lv_iload hx hb d_Resolver_findByMonth_62 (lv_at hl 4 rfl) ?_
    refine lv_icmp_le (tgt := 69) hx hb d_Resolver_findByMonth_64 rfl (fun hc => ?_) (fun hc => ?_)
    · have he := ih_t hc he
      refine lv_aload_n hx hb d_Resolver_findByMonth_69 rfl (lv_at hl 0 rfl) ?_
      refine lv_iload_n hx hb d_Resolver_findByMonth_70 rfl (lv_at hl 1 rfl) ?_
      refine lv_i2l hx hb d_Resolver_findByMonth_71 rfl ?_
      refine lv_iload_n hx hb d_Resolver_findByMonth_72 rfl (lv_at hl 2 rfl) ?_
      obtain ⟨u5, e6, he⟩ := ih_b he
      refine k_lo (r_S (As := [.long (Int32.toInt64 x1), .int x2]) S X hA hP hD hS (c_Days_firstOfMonth l D kk st _ (Int32.toInt64 x1) x2 u5 e6) gm_4_64 gm_4_62 gm_4_63 gm_1_12 ⟨rfl, rfl, by decide, by decide⟩ kd_Days_firstOfMonth [] rfl rfl rfl rfl hl.1 rfl (Nat.le_of_ble_eq_true rfl) d_Resolver_findByMonth_73 ⟨Nat.zero_le _, Nat.zero_le _⟩) hA hP hD hS [] rfl (fun H locs hP hS => ?_)
      refine lv_iload hx hb d_Resolver_findByMonth_76 (lv_at hl 3 rfl) ?_
      refine lv_i2l hx hb d_Resolver_findByMonth_78 rfl ?_
      refine lv_ladd hx hb d_Resolver_findByMonth_79 ?_
      refine lv_lconst (v := (1 : Int64)) hx hb d_Resolver_findByMonth_80 (by decide) ?_
      refine lv_lsub hx hb d_Resolver_findByMonth_81 ?_
      refine k_put S X us_Resolver t_Resolver t_Resolver_ok n_Resolver hP hD hS 0 rfl rfl 3 (by decide) gm_1_194 rfl rfl rfl (Nat.le_of_ble_eq_true rfl) d_Resolver_findByMonth_82 (fun H locs hP hD hS => ?_)
      have hP : va_P D classes [(a_t, .inr (9, [.ref a_t_moment, .int t_style, .int t_used, .long ((u5 + (Int32.toInt64 x4)) - (1 : Int64)), .int t_second]))] H := hP
      have hD : va_D A [(a_t, .inr (9, [.ref a_t_moment, .int t_style, .int t_used, .long ((u5 + (Int32.toInt64 x4)) - (1 : Int64)), .int t_second]))] := hD
      refine lv_iconst (v := (1 : Int32)) hx hb d_Resolver_findByMonth_85 (by decide) ?_
      cases he
      exact k_zre hx hb hr hlk X hP hD hS (Or.inr rfl) d_Resolver_findByMonth_86
    · have he := ih_f hc he
      refine lv_iconst (v := (0 : Int32)) hx hb d_Resolver_findByMonth_67 (by decide) ?_
      cases he
      exact k_zre hx hb hr hlk X hP hD hS (Or.inl rfl) d_Resolver_findByMonth_68
set_option maxHeartbeats 4000000 in
set_option maxRecDepth 100000 in
theorem c_Resolver_findByMonth (l : Launch) (D : va_G) (kk : Nat → ClassId) (st : Nat → Nat) (a_t a_t_moment : Nat) (sz : Nat) (t_style : Int32) (t_used : Int32) (t_day : Int64) (t_second : Int32) (x1 : Int32) (x2 : Int32) (x3 : Int32) (o : Int32 × Int64) (he : f_Resolver_findByMonth t_style t_day x1 x2 x3 = some o) : Met l y_Resolver_findByMonth (Cond.code y_Resolver_findByMonth b_Resolver_findByMonth 6 (some .boolean) :: GW) rm_Resolver_findByMonth (KPc D kk st [.ref a_t, .int x1, .int x2, .int x3] [(a_t, .inr (9, [.ref a_t_moment, .int t_style, .int t_used, .long t_day, .int t_second]))] sz) (KQi D kk o.1 [(a_t, .inr (9, [.ref a_t_moment, .int t_style, .int t_used, .long o.2, .int t_second]))] (va_A [(a_t, .inr (9, [.ref a_t_moment, .int t_style, .int t_used, .long t_day, .int t_second]))] sz)) 0 0 (va_A [(a_t, .inr (9, [.ref a_t_moment, .int t_style, .int t_used, .long t_day, .int t_second]))] sz) := by
  refine k_start (Qc := fun A => KQi D kk o.1 [(a_t, .inr (9, [.ref a_t_moment, .int t_style, .int t_used, .long o.2, .int t_second]))] A) (by decide) (Nat.le_of_ble_eq_true rfl) ?_
  intro p e s m below meth c A ls S hnm hr hlk hA X hP hD hS hl
  have hl : lv_has ls 6 [(0, .ref a_t), (1, .int x1), (2, .int x2), (3, .int x3)] := hl
  have hx := S.1
  have hb := S.2.1
  unfold f_Resolver_findByMonth at he
  refine lv_iload_n hx hb d_Resolver_findByMonth_0 rfl (lv_at hl 3 rfl) ?_
  refine lv_istore hx hb d_Resolver_findByMonth_1 hl (by decide) rfl (fun ls hl => ?_)
  have hl : lv_has ls 6 [(4, .int x3), (0, .ref a_t), (1, .int x1), (2, .int x2), (3, .int x3)] := hl
  refine lv_aload_n hx hb d_Resolver_findByMonth_3 rfl (lv_at hl 1 rfl) ?_
  refine k_get S X us_Resolver hP 0 rfl rfl 1 (by decide) gm_1_192 rfl d_Resolver_findByMonth_4 ?_
  refine lv_iconst (v := (2 : Int32)) hx hb d_Resolver_findByMonth_7 (by decide) ?_
  refine lv_icmp_eq (tgt := 69) hx hb d_Resolver_findByMonth_8 rfl (fun hc => ?_) (fun hc => ?_)
  · have he := ih_t hc he
    refine lv_aload_n hx hb d_Resolver_findByMonth_69 rfl (lv_at hl 1 rfl) ?_
    refine lv_iload_n hx hb d_Resolver_findByMonth_70 rfl (lv_at hl 2 rfl) ?_
    refine lv_i2l hx hb d_Resolver_findByMonth_71 rfl ?_
    refine lv_iload_n hx hb d_Resolver_findByMonth_72 rfl (lv_at hl 3 rfl) ?_
    obtain ⟨u1, e2, he⟩ := ih_b he
    refine k_lo (r_S (As := [.long (Int32.toInt64 x1), .int x2]) S X hA hP hD hS (c_Days_firstOfMonth l D kk st _ (Int32.toInt64 x1) x2 u1 e2) gm_4_64 gm_4_62 gm_4_63 gm_1_12 ⟨rfl, rfl, by decide, by decide⟩ kd_Days_firstOfMonth [] rfl rfl rfl rfl hl.1 rfl (Nat.le_of_ble_eq_true rfl) d_Resolver_findByMonth_73 ⟨Nat.zero_le _, Nat.zero_le _⟩) hA hP hD hS [] rfl (fun H locs hP hS => ?_)
    refine lv_iload hx hb d_Resolver_findByMonth_76 (lv_at hl 0 rfl) ?_
    refine lv_i2l hx hb d_Resolver_findByMonth_78 rfl ?_
    refine lv_ladd hx hb d_Resolver_findByMonth_79 ?_
    refine lv_lconst (v := (1 : Int64)) hx hb d_Resolver_findByMonth_80 (by decide) ?_
    refine lv_lsub hx hb d_Resolver_findByMonth_81 ?_
    refine k_put S X us_Resolver t_Resolver t_Resolver_ok n_Resolver hP hD hS 0 rfl rfl 3 (by decide) gm_1_194 rfl rfl rfl (Nat.le_of_ble_eq_true rfl) d_Resolver_findByMonth_82 (fun H locs hP hD hS => ?_)
    have hP : va_P D classes [(a_t, .inr (9, [.ref a_t_moment, .int t_style, .int t_used, .long ((u1 + (Int32.toInt64 x3)) - (1 : Int64)), .int t_second]))] H := hP
    have hD : va_D A [(a_t, .inr (9, [.ref a_t_moment, .int t_style, .int t_used, .long ((u1 + (Int32.toInt64 x3)) - (1 : Int64)), .int t_second]))] := hD
    refine lv_iconst (v := (1 : Int32)) hx hb d_Resolver_findByMonth_85 (by decide) ?_
    cases he
    exact k_zre hx hb hr hlk X hP hD hS (Or.inr rfl) d_Resolver_findByMonth_86
  · have he := ih_f hc he
    refine lv_iload_n hx hb d_Resolver_findByMonth_11 rfl (lv_at hl 3 rfl) ?_
    refine lv_iconst (v := (1 : Int32)) hx hb d_Resolver_findByMonth_12 (by decide) ?_
    refine lv_icmp_lt (tgt := 22) hx hb d_Resolver_findByMonth_13 rfl (fun hc => ?_) (fun hc => ?_)
    · have he := ih_t hc he
      refine lv_iconst (v := (0 : Int32)) hx hb d_Resolver_findByMonth_22 (by decide) ?_
      cases he
      exact k_zre hx hb hr hlk X hP hD hS (Or.inl rfl) d_Resolver_findByMonth_23
    · have he := ih_f hc he
      refine lv_iload_n hx hb d_Resolver_findByMonth_16 rfl (lv_at hl 3 rfl) ?_
      refine lv_bipush (v := (12 : Int32)) hx hb d_Resolver_findByMonth_17 (by decide) ?_
      refine lv_icmp_le (tgt := 24) hx hb d_Resolver_findByMonth_19 rfl (fun hc => ?_) (fun hc => ?_)
      · have he := ih_t hc he
        refine lv_iload_n hx hb d_Resolver_findByMonth_24 rfl (lv_at hl 2 rfl) ?_
        refine lv_i2l hx hb d_Resolver_findByMonth_25 rfl ?_
        refine lv_iload_n hx hb d_Resolver_findByMonth_26 rfl (lv_at hl 3 rfl) ?_
        obtain ⟨u3, e4, he⟩ := ih_b he
        refine k_io (r_S (As := [.long (Int32.toInt64 x1), .int x2]) S X hA hP hD hS (c_Days_monthLength l D kk st _ (Int32.toInt64 x1) x2 u3 e4) gm_4_59 gm_4_57 gm_4_58 gm_1_12 ⟨rfl, rfl, by decide, by decide⟩ kd_Days_monthLength [] rfl rfl rfl rfl hl.1 rfl (Nat.le_of_ble_eq_true rfl) d_Resolver_findByMonth_27 ⟨Nat.zero_le _, Nat.zero_le _⟩) hA hP hD hS [] rfl (fun H locs hP hS => ?_)
        refine lv_istore hx hb d_Resolver_findByMonth_30 hl (by decide) rfl (fun ls hl => ?_)
        have hl : lv_has ls 6 [(5, .int u3), (4, .int x3), (0, .ref a_t), (1, .int x1), (2, .int x2), (3, .int x3)] := hl
        refine lv_aload_n hx hb d_Resolver_findByMonth_32 rfl (lv_at hl 2 rfl) ?_
        refine k_get S X us_Resolver hP 0 rfl rfl 1 (by decide) gm_1_192 rfl d_Resolver_findByMonth_33 ?_
        refine lv_iconst (v := (1 : Int32)) hx hb d_Resolver_findByMonth_36 (by decide) ?_
        refine lv_icmp_ne (tgt := 54) hx hb d_Resolver_findByMonth_37 rfl (fun hc => ?_) (fun hc => ?_)
        · have he := ih_f hc he
          have hl : lv_has ls 6 [(0, .ref a_t), (1, .int x1), (2, .int x2), (4, .int x3), (5, .int u3)] := lv_sub hl [2, 3, 4, 1, 0] rfl
          exact w_Resolver_findByMonth_54 a_t a_t_moment t_style t_used t_day t_second x1 x2 x3 u3 o S hr hlk hA X _ _ ls he hl hP hD hS
        · have he := ih_t hc he
          refine lv_iload_n hx hb d_Resolver_findByMonth_40 rfl (lv_at hl 5 rfl) ?_
          refine lv_bipush (v := (31 : Int32)) hx hb d_Resolver_findByMonth_41 (by decide) ?_
          refine lv_icmp_gt (tgt := 54) hx hb d_Resolver_findByMonth_43 rfl (fun hc => ?_) (fun hc => ?_)
          · have he := ih_t hc he
            have hl : lv_has ls 6 [(0, .ref a_t), (1, .int x1), (2, .int x2), (4, .int x3), (5, .int u3)] := lv_sub hl [2, 3, 4, 1, 0] rfl
            exact w_Resolver_findByMonth_54 a_t a_t_moment t_style t_used t_day t_second x1 x2 x3 u3 o S hr hlk hA X _ _ ls he hl hP hD hS
          · have he := ih_f hc he
            refine lv_iload_n hx hb d_Resolver_findByMonth_46 rfl (lv_at hl 5 rfl) ?_
            refine lv_iload hx hb d_Resolver_findByMonth_47 (lv_at hl 0 rfl) ?_
            refine va_mmin hx hb (by rw [S.2.2.1]; exact hl.1.symm) S.2.2.2.1 (S.2.2.2.2 _ gm_4_61) (S.2.2.2.2 _ gm_2_129) (S.2.2.2.2 _ gm_1_11) (S.2.2.2.2 _ gm_2_130) (by decide) (Nat.le_of_ble_eq_true rfl) (Nat.zero_le _) (Nat.zero_le _) d_Resolver_findByMonth_49 ?_
            refine lv_istore hx hb d_Resolver_findByMonth_52 hl (by decide) rfl (fun ls hl => ?_)
            have hl : lv_has ls 6 [(4, .int (if u3 < x3 then u3 else x3)), (5, .int u3), (0, .ref a_t), (1, .int x1), (2, .int x2), (3, .int x3)] := hl
            have hl : lv_has ls 6 [(0, .ref a_t), (1, .int x1), (2, .int x2), (4, .int (if u3 < x3 then u3 else x3)), (5, .int u3)] := lv_sub hl [2, 3, 4, 0, 1] rfl
            exact w_Resolver_findByMonth_54 a_t a_t_moment t_style t_used t_day t_second x1 x2 (if u3 < x3 then u3 else x3) u3 o S hr hlk hA X _ _ ls he hl hP hD hS
      · have he := ih_f hc he
        refine lv_iconst (v := (0 : Int32)) hx hb d_Resolver_findByMonth_22 (by decide) ?_
        cases he
        exact k_zre hx hb hr hlk X hP hD hS (Or.inl rfl) d_Resolver_findByMonth_23
abbrev rm_Resolver_findByYearDay : Room := { frames := 2, cells := 0, slots := 0, locals := 50 }
set_option maxHeartbeats 4000000 in
set_option maxRecDepth 100000 in
theorem c_Resolver_findByYearDay (l : Launch) (D : va_G) (kk : Nat → ClassId) (st : Nat → Nat) (a_t a_t_moment : Nat) (sz : Nat) (t_style : Int32) (t_used : Int32) (t_day : Int64) (t_second : Int32) (x1 : Int32) (x2 : Int32) (o : Int32 × Int64) (he : f_Resolver_findByYearDay t_style t_day x1 x2 = some o) : Met l y_Resolver_findByYearDay (Cond.code y_Resolver_findByYearDay b_Resolver_findByYearDay 3 (some .boolean) :: GW) rm_Resolver_findByYearDay (KPc D kk st [.ref a_t, .int x1, .int x2] [(a_t, .inr (9, [.ref a_t_moment, .int t_style, .int t_used, .long t_day, .int t_second]))] sz) (KQi D kk o.1 [(a_t, .inr (9, [.ref a_t_moment, .int t_style, .int t_used, .long o.2, .int t_second]))] (va_A [(a_t, .inr (9, [.ref a_t_moment, .int t_style, .int t_used, .long t_day, .int t_second]))] sz)) 0 0 (va_A [(a_t, .inr (9, [.ref a_t_moment, .int t_style, .int t_used, .long t_day, .int t_second]))] sz) := by
  refine k_start (Qc := fun A => KQi D kk o.1 [(a_t, .inr (9, [.ref a_t_moment, .int t_style, .int t_used, .long o.2, .int t_second]))] A) (by decide) (Nat.le_of_ble_eq_true rfl) ?_
  intro p e s m below meth c A ls S hnm hr hlk hA X hP hD hS hl
  have hl : lv_has ls 3 [(0, .ref a_t), (1, .int x1), (2, .int x2)] := hl
  have hx := S.1
  have hb := S.2.1
  unfold f_Resolver_findByYearDay at he
  refine lv_aload_n hx hb d_Resolver_findByYearDay_0 rfl (lv_at hl 0 rfl) ?_
  refine lv_iload_n hx hb d_Resolver_findByYearDay_1 rfl (lv_at hl 1 rfl) ?_
  refine lv_i2l hx hb d_Resolver_findByYearDay_2 rfl ?_
  obtain ⟨u1, e2, he⟩ := ih_b he
  refine k_lo (r_S (As := [.long (Int32.toInt64 x1)]) S X hA hP hD hS (c_Days_firstOfYear l D kk st _ (Int32.toInt64 x1) u1 e2) gm_1_231 gm_4_73 gm_1_230 gm_1_12 ⟨rfl, rfl, by decide, by decide⟩ kd_Days_firstOfYear [] rfl rfl rfl rfl hl.1 rfl (Nat.le_of_ble_eq_true rfl) d_Resolver_findByYearDay_3 ⟨Nat.zero_le _, Nat.zero_le _⟩) hA hP hD hS [] rfl (fun H locs hP hS => ?_)
  refine lv_iload_n hx hb d_Resolver_findByYearDay_6 rfl (lv_at hl 2 rfl) ?_
  refine lv_i2l hx hb d_Resolver_findByYearDay_7 rfl ?_
  refine lv_ladd hx hb d_Resolver_findByYearDay_8 ?_
  refine lv_lconst (v := (1 : Int64)) hx hb d_Resolver_findByYearDay_9 (by decide) ?_
  refine lv_lsub hx hb d_Resolver_findByYearDay_10 ?_
  refine k_put S X us_Resolver t_Resolver t_Resolver_ok n_Resolver hP hD hS 0 rfl rfl 3 (by decide) gm_1_194 rfl rfl rfl (Nat.le_of_ble_eq_true rfl) d_Resolver_findByYearDay_11 (fun H locs hP hD hS => ?_)
  have hP : va_P D classes [(a_t, .inr (9, [.ref a_t_moment, .int t_style, .int t_used, .long ((u1 + (Int32.toInt64 x2)) - (1 : Int64)), .int t_second]))] H := hP
  have hD : va_D A [(a_t, .inr (9, [.ref a_t_moment, .int t_style, .int t_used, .long ((u1 + (Int32.toInt64 x2)) - (1 : Int64)), .int t_second]))] := hD
  refine lv_aload_n hx hb d_Resolver_findByYearDay_14 rfl (lv_at hl 0 rfl) ?_
  refine k_get S X us_Resolver hP 0 rfl rfl 1 (by decide) gm_1_192 rfl d_Resolver_findByYearDay_15 ?_
  refine lv_iconst (v := (2 : Int32)) hx hb d_Resolver_findByYearDay_18 (by decide) ?_
  refine lv_icmp_eq (tgt := 36) hx hb d_Resolver_findByYearDay_19 rfl (fun hc => ?_) (fun hc => ?_)
  · have he := ih_t hc he
    refine lv_iconst (v := (1 : Int32)) hx hb d_Resolver_findByYearDay_36 (by decide) ?_
    refine lv_goto (tgt := 41) hx hb d_Resolver_findByYearDay_37 rfl ?_
    cases he
    exact k_zre hx hb hr hlk X hP hD hS (Or.inr rfl) d_Resolver_findByYearDay_41
  · have he := ih_f hc he
    refine lv_iload_n hx hb d_Resolver_findByYearDay_22 rfl (lv_at hl 2 rfl) ?_
    refine lv_iconst (v := (1 : Int32)) hx hb d_Resolver_findByYearDay_23 (by decide) ?_
    refine lv_icmp_lt (tgt := 40) hx hb d_Resolver_findByYearDay_24 rfl (fun hc => ?_) (fun hc => ?_)
    · have he := ih_t hc he
      refine lv_iconst (v := (0 : Int32)) hx hb d_Resolver_findByYearDay_40 (by decide) ?_
      cases he
      exact k_zre hx hb hr hlk X hP hD hS (Or.inl rfl) d_Resolver_findByYearDay_41
    · have he := ih_f hc he
      refine lv_iload_n hx hb d_Resolver_findByYearDay_27 rfl (lv_at hl 2 rfl) ?_
      refine lv_iload_n hx hb d_Resolver_findByYearDay_28 rfl (lv_at hl 1 rfl) ?_
      refine lv_i2l hx hb d_Resolver_findByYearDay_29 rfl ?_
      obtain ⟨u3, e4, he⟩ := ih_b he
      refine k_io (r_S (As := [.long (Int32.toInt64 x1)]) S X hA hP hD hS (c_Days_yearLength l D kk st _ (Int32.toInt64 x1) u3 e4) gm_4_76 gm_4_74 gm_4_75 gm_1_12 ⟨rfl, rfl, by decide, by decide⟩ kd_Days_yearLength [] rfl rfl rfl rfl hl.1 rfl (Nat.le_of_ble_eq_true rfl) d_Resolver_findByYearDay_30 ⟨Nat.zero_le _, Nat.zero_le _⟩) hA hP hD hS [] rfl (fun H locs hP hS => ?_)
      refine lv_icmp_gt (tgt := 40) hx hb d_Resolver_findByYearDay_33 rfl (fun hc => ?_) (fun hc => ?_)
      · have he := ih_t hc he
        refine lv_iconst (v := (0 : Int32)) hx hb d_Resolver_findByYearDay_40 (by decide) ?_
        cases he
        exact k_zre hx hb hr hlk X hP hD hS (Or.inl rfl) d_Resolver_findByYearDay_41
      · have he := ih_f hc he
        refine lv_iconst (v := (1 : Int32)) hx hb d_Resolver_findByYearDay_36 (by decide) ?_
        refine lv_goto (tgt := 41) hx hb d_Resolver_findByYearDay_37 rfl ?_
        cases he
        exact k_zre hx hb hr hlk X hP hD hS (Or.inr rfl) d_Resolver_findByYearDay_41
abbrev rm_Resolver_findByWeek : Room := { frames := 3, cells := 0, slots := 0, locals := 73 }
set_option maxHeartbeats 4000000 in
set_option maxRecDepth 100000 in
theorem c_Resolver_findByWeek (l : Launch) (D : va_G) (kk : Nat → ClassId) (st : Nat → Nat) (a_t a_t_moment : Nat) (sz : Nat) (t_style : Int32) (t_used : Int32) (t_day : Int64) (t_second : Int32) (x1 : Int32) (x2 : Int32) (x3 : Int32) (o : Int32 × Int64) (he : f_Resolver_findByWeek t_style t_day x1 x2 x3 = some o) : Met l y_Resolver_findByWeek (Cond.code y_Resolver_findByWeek b_Resolver_findByWeek 4 (some .boolean) :: GW) rm_Resolver_findByWeek (KPc D kk st [.ref a_t, .int x1, .int x2, .int x3] [(a_t, .inr (9, [.ref a_t_moment, .int t_style, .int t_used, .long t_day, .int t_second]))] sz) (KQi D kk o.1 [(a_t, .inr (9, [.ref a_t_moment, .int t_style, .int t_used, .long o.2, .int t_second]))] (va_A [(a_t, .inr (9, [.ref a_t_moment, .int t_style, .int t_used, .long t_day, .int t_second]))] sz)) 0 0 (va_A [(a_t, .inr (9, [.ref a_t_moment, .int t_style, .int t_used, .long t_day, .int t_second]))] sz) := by
  refine k_start (Qc := fun A => KQi D kk o.1 [(a_t, .inr (9, [.ref a_t_moment, .int t_style, .int t_used, .long o.2, .int t_second]))] A) (by decide) (Nat.le_of_ble_eq_true rfl) ?_
  intro p e s m below meth c A ls S hnm hr hlk hA X hP hD hS hl
  have hl : lv_has ls 4 [(0, .ref a_t), (1, .int x1), (2, .int x2), (3, .int x3)] := hl
  have hx := S.1
  have hb := S.2.1
  unfold f_Resolver_findByWeek at he
  refine lv_aload_n hx hb d_Resolver_findByWeek_0 rfl (lv_at hl 0 rfl) ?_
  refine lv_iload_n hx hb d_Resolver_findByWeek_1 rfl (lv_at hl 1 rfl) ?_
  refine lv_i2l hx hb d_Resolver_findByWeek_2 rfl ?_
  obtain ⟨u1, e2, he⟩ := ih_b he
  refine k_lo (r_S (As := [.long (Int32.toInt64 x1)]) S X hA hP hD hS (c_Days_firstMonday l D kk st _ (Int32.toInt64 x1) u1 e2) gm_4_83 gm_4_81 gm_4_82 gm_1_12 ⟨rfl, rfl, by decide, by decide⟩ kd_Days_firstMonday [] rfl rfl rfl rfl hl.1 rfl (Nat.le_of_ble_eq_true rfl) d_Resolver_findByWeek_3 ⟨Nat.zero_le _, Nat.zero_le _⟩) hA hP hD hS [] rfl (fun H locs hP hS => ?_)
  refine lv_ldc2 (v := (7 : Int64)) hx hb S.2.2.2.1 (S.2.2.2.2 _ gm_4_85) d_Resolver_findByWeek_6 ?_
  refine lv_iload_n hx hb d_Resolver_findByWeek_9 rfl (lv_at hl 2 rfl) ?_
  refine lv_iconst (v := (1 : Int32)) hx hb d_Resolver_findByWeek_10 (by decide) ?_
  refine lv_isub hx hb d_Resolver_findByWeek_11 ?_
  refine lv_i2l hx hb d_Resolver_findByWeek_12 rfl ?_
  refine lv_lmul hx hb d_Resolver_findByWeek_13 ?_
  refine lv_ladd hx hb d_Resolver_findByWeek_14 ?_
  refine lv_iload_n hx hb d_Resolver_findByWeek_15 rfl (lv_at hl 3 rfl) ?_
  refine lv_i2l hx hb d_Resolver_findByWeek_16 rfl ?_
  refine lv_ladd hx hb d_Resolver_findByWeek_17 ?_
  refine lv_lconst (v := (1 : Int64)) hx hb d_Resolver_findByWeek_18 (by decide) ?_
  refine lv_lsub hx hb d_Resolver_findByWeek_19 ?_
  refine k_put S X us_Resolver t_Resolver t_Resolver_ok n_Resolver hP hD hS 0 rfl rfl 3 (by decide) gm_1_194 rfl rfl rfl (Nat.le_of_ble_eq_true rfl) d_Resolver_findByWeek_20 (fun H locs hP hD hS => ?_)
  have hP : va_P D classes [(a_t, .inr (9, [.ref a_t_moment, .int t_style, .int t_used, .long (((u1 + ((7 : Int64) * (Int32.toInt64 (x2 - (1 : Int32))))) + (Int32.toInt64 x3)) - (1 : Int64)), .int t_second]))] H := hP
  have hD : va_D A [(a_t, .inr (9, [.ref a_t_moment, .int t_style, .int t_used, .long (((u1 + ((7 : Int64) * (Int32.toInt64 (x2 - (1 : Int32))))) + (Int32.toInt64 x3)) - (1 : Int64)), .int t_second]))] := hD
  refine lv_aload_n hx hb d_Resolver_findByWeek_23 rfl (lv_at hl 0 rfl) ?_
  refine k_get S X us_Resolver hP 0 rfl rfl 1 (by decide) gm_1_192 rfl d_Resolver_findByWeek_24 ?_
  refine lv_iconst (v := (2 : Int32)) hx hb d_Resolver_findByWeek_27 (by decide) ?_
  refine lv_icmp_eq (tgt := 51) hx hb d_Resolver_findByWeek_28 rfl (fun hc => ?_) (fun hc => ?_)
  · have he := ih_t hc he
    refine lv_iconst (v := (1 : Int32)) hx hb d_Resolver_findByWeek_51 (by decide) ?_
    refine lv_goto (tgt := 56) hx hb d_Resolver_findByWeek_52 rfl ?_
    cases he
    exact k_zre hx hb hr hlk X hP hD hS (Or.inr rfl) d_Resolver_findByWeek_56
  · have he := ih_f hc he
    refine lv_iload_n hx hb d_Resolver_findByWeek_31 rfl (lv_at hl 2 rfl) ?_
    refine lv_iconst (v := (1 : Int32)) hx hb d_Resolver_findByWeek_32 (by decide) ?_
    refine lv_icmp_lt (tgt := 55) hx hb d_Resolver_findByWeek_33 rfl (fun hc => ?_) (fun hc => ?_)
    · have he := ih_t hc he
      refine lv_iconst (v := (0 : Int32)) hx hb d_Resolver_findByWeek_55 (by decide) ?_
      cases he
      exact k_zre hx hb hr hlk X hP hD hS (Or.inl rfl) d_Resolver_findByWeek_56
    · have he := ih_f hc he
      refine lv_aload_n hx hb d_Resolver_findByWeek_36 rfl (lv_at hl 0 rfl) ?_
      refine k_get S X us_Resolver hP 0 rfl rfl 3 (by decide) gm_1_194 rfl d_Resolver_findByWeek_37 ?_
      refine lv_iload_n hx hb d_Resolver_findByWeek_40 rfl (lv_at hl 1 rfl) ?_
      refine lv_i2l hx hb d_Resolver_findByWeek_41 rfl ?_
      refine lv_lconst (v := (1 : Int64)) hx hb d_Resolver_findByWeek_42 (by decide) ?_
      refine lv_ladd hx hb d_Resolver_findByWeek_43 ?_
      obtain ⟨u3, e4, he⟩ := ih_b he
      refine k_lo (r_S (As := [.long ((Int32.toInt64 x1) + (1 : Int64))]) S X hA hP hD hS (c_Days_firstMonday l D kk st _ ((Int32.toInt64 x1) + (1 : Int64)) u3 e4) gm_4_83 gm_4_81 gm_4_82 gm_1_12 ⟨rfl, rfl, by decide, by decide⟩ kd_Days_firstMonday [] rfl rfl rfl rfl hl.1 rfl (Nat.le_of_ble_eq_true rfl) d_Resolver_findByWeek_44 ⟨Nat.zero_le _, Nat.zero_le _⟩) hA hP hD hS [] rfl (fun H locs hP hS => ?_)
      refine lq_ge (tgt := 55) hx hb d_Resolver_findByWeek_47 d_Resolver_findByWeek_48 rfl (fun hc => ?_) (fun hc => ?_)
      · have he := ih_t hc he
        refine lv_iconst (v := (0 : Int32)) hx hb d_Resolver_findByWeek_55 (by decide) ?_
        cases he
        exact k_zre hx hb hr hlk X hP hD hS (Or.inl rfl) d_Resolver_findByWeek_56
      · have he := ih_f hc he
        refine lv_iconst (v := (1 : Int32)) hx hb d_Resolver_findByWeek_51 (by decide) ?_
        refine lv_goto (tgt := 56) hx hb d_Resolver_findByWeek_52 rfl ?_
        cases he
        exact k_zre hx hb hr hlk X hP hD hS (Or.inr rfl) d_Resolver_findByWeek_56
abbrev rm_Resolver_findDate : Room := { frames := 4, cells := 0, slots := 0, locals := 99 }
set_option maxHeartbeats 4000000 in
set_option maxRecDepth 100000 in
theorem w_Resolver_findDate_80 {p : Program} {l : Launch} {e : Env} {s : State} {m : MethodId} {args : Array Value} {below : List Frame} {meth : Method} {c : Code} {A : Nat → Prop} {D : va_G} {kk : Nat → ClassId} {st : Nat → Nat} (a_t a_q1 a_q1_values a_q1_flags a_t_moment a_q1_order : Nat) (t_style : Int32) (t_used : Int32) (t_day : Int64) (t_second : Int32) (q1_size : Int32) (q1_values : Nat → Int32) (q1_flags : Nat → Int32) (o : Int32 × Int32 × Int64) (S : CallFix p m c b_Resolver_findDate 2 s args GW y_Resolver_findDate.cls) (hr : meth.sig.returnType = (some .boolean)) (hlk : meth.locks = false) (hA : ∀ q, s.heap.size ≤ q → A q) (X : KX D kk st A s) (H : Heap) (locs : List Loc) (ls : Array Slot) (he : jn_Resolver_findDate_80 t_style t_used t_day q1_values q1_flags = some o) (hl : lv_has ls 2 [(0, .ref a_t), (1, .ref a_q1)]) (hP : va_P D classes [(a_t, .inr (9, [.ref a_t_moment, .int t_style, .int t_used, .long t_day, .int t_second])), (a_q1, .inr (7, [.ref a_q1_values, .ref a_q1_flags, .ref a_q1_order, .int q1_size])), (a_q1_values, .inl (kk 0, 14, .inl q1_values)), (a_q1_flags, .inl (kk 2, 14, .inl q1_flags))] H) (hD : va_D A [(a_t, .inr (9, [.ref a_t_moment, .int t_style, .int t_used, .long t_day, .int t_second])), (a_q1, .inr (7, [.ref a_q1_values, .ref a_q1_flags, .ref a_q1_order, .int q1_size])), (a_q1_values, .inl (kk 0, 14, .inl q1_values)), (a_q1_flags, .inl (kk 2, 14, .inl q1_flags))]) (hS : va_S A s.heap H locs) : W p l e rm_Resolver_findDate s m args below meth c H locs 0 0 (MQ below (KQi D kk o.1 [(a_t, .inr (9, [.ref a_t_moment, .int t_style, .int o.2.1, .long o.2.2, .int t_second])), (a_q1, .inr (7, [.ref a_q1_values, .ref a_q1_flags, .ref a_q1_order, .int q1_size])), (a_q1_values, .inl (kk 0, 14, .inl q1_values)), (a_q1_flags, .inl (kk 2, 14, .inl q1_flags))] A) args s 0 0 A) (F0 m 80 ls []) := by
  have hx := S.1
  have hb := S.2.1
  unfold jn_Resolver_findDate_80 at he
  refine lv_aload_n hx hb d_Resolver_findDate_80 rfl (lv_at hl 1 rfl) ?_
  refine lv_iconst (v := (1 : Int32)) hx hb d_Resolver_findDate_81 (by decide) ?_
  obtain ⟨u5, e6, he⟩ := ih_b he
  refine k_io (r_V (As := [.int (1 : Int32)]) S X hA hP hD hS (c_Known_has l D kk st a_q1 a_q1_flags a_q1_values a_q1_order _ q1_size q1_flags (1 : Int32) u5 e6) gm_4_39 gm_4_40 gm_4_37 gm_4_38 gm_1_8 ⟨rfl, rfl, by decide, by decide⟩ kd_Known_has [1, 3] rfl rfl rfl 1 7 rfl rfl rfl rfl hl.1 rfl (Nat.le_of_ble_eq_true rfl) d_Resolver_findDate_82 ⟨Nat.zero_le _, Nat.zero_le _⟩) hA hP hD hS [1, 3] rfl (fun H locs hP hS => ?_)
  refine lv_if_eq (tgt := 129) hx hb d_Resolver_findDate_85 rfl (fun hc => ?_) (fun hc => ?_)
  · have he := ih_t hc he
    refine lv_iconst (v := (0 : Int32)) hx hb d_Resolver_findDate_129 (by decide) ?_
    cases he
    exact k_zre hx hb hr hlk X hP hD hS (Or.inl rfl) d_Resolver_findDate_130
  · have he := ih_f hc he
    refine lv_aload_n hx hb d_Resolver_findDate_88 rfl (lv_at hl 1 rfl) ?_
    refine lv_bipush (v := (6 : Int32)) hx hb d_Resolver_findDate_89 (by decide) ?_
    obtain ⟨u7, e8, he⟩ := ih_b he
    refine k_io (r_V (As := [.int (6 : Int32)]) S X hA hP hD hS (c_Known_has l D kk st a_q1 a_q1_flags a_q1_values a_q1_order _ q1_size q1_flags (6 : Int32) u7 e8) gm_4_39 gm_4_40 gm_4_37 gm_4_38 gm_1_8 ⟨rfl, rfl, by decide, by decide⟩ kd_Known_has [1, 3] rfl rfl rfl 1 7 rfl rfl rfl rfl hl.1 rfl (Nat.le_of_ble_eq_true rfl) d_Resolver_findDate_91 ⟨Nat.zero_le _, Nat.zero_le _⟩) hA hP hD hS [1, 3] rfl (fun H locs hP hS => ?_)
    refine lv_if_eq (tgt := 129) hx hb d_Resolver_findDate_94 rfl (fun hc => ?_) (fun hc => ?_)
    · have he := ih_t hc he
      refine lv_iconst (v := (0 : Int32)) hx hb d_Resolver_findDate_129 (by decide) ?_
      cases he
      exact k_zre hx hb hr hlk X hP hD hS (Or.inl rfl) d_Resolver_findDate_130
    · have he := ih_f hc he
      refine lv_aload_n hx hb d_Resolver_findDate_97 rfl (lv_at hl 1 rfl) ?_
      refine lv_iconst (v := (5 : Int32)) hx hb d_Resolver_findDate_98 (by decide) ?_
      obtain ⟨u9, e10, he⟩ := ih_b he
      refine k_io (r_V (As := [.int (5 : Int32)]) S X hA hP hD hS (c_Known_has l D kk st a_q1 a_q1_flags a_q1_values a_q1_order _ q1_size q1_flags (5 : Int32) u9 e10) gm_4_39 gm_4_40 gm_4_37 gm_4_38 gm_1_8 ⟨rfl, rfl, by decide, by decide⟩ kd_Known_has [1, 3] rfl rfl rfl 1 7 rfl rfl rfl rfl hl.1 rfl (Nat.le_of_ble_eq_true rfl) d_Resolver_findDate_99 ⟨Nat.zero_le _, Nat.zero_le _⟩) hA hP hD hS [1, 3] rfl (fun H locs hP hS => ?_)
      refine lv_if_eq (tgt := 129) hx hb d_Resolver_findDate_102 rfl (fun hc => ?_) (fun hc => ?_)
      · have he := ih_t hc he
        refine lv_iconst (v := (0 : Int32)) hx hb d_Resolver_findDate_129 (by decide) ?_
        cases he
        exact k_zre hx hb hr hlk X hP hD hS (Or.inl rfl) d_Resolver_findDate_130
      · have he := ih_f hc he
        refine lv_aload_n hx hb d_Resolver_findDate_105 rfl (lv_at hl 0 rfl) ?_
        refine lv_aload_n hx hb d_Resolver_findDate_106 rfl (lv_at hl 0 rfl) ?_
        refine lv_aload_n hx hb d_Resolver_findDate_107 rfl (lv_at hl 1 rfl) ?_
        refine lv_iconst (v := (1 : Int32)) hx hb d_Resolver_findDate_108 (by decide) ?_
        obtain ⟨u11, e12, he⟩ := ih_b he
        refine k_i (wr := []) (w1 := [(a_t, .inr (9, [.ref a_t_moment, .int t_style, .int u11.2, .long t_day, .int t_second])), (a_q1, .inr (7, [.ref a_q1_values, .ref a_q1_flags, .ref a_q1_order, .int q1_size])), (a_q1_values, .inl (kk 0, 14, .inl q1_values)), (a_q1_flags, .inl (kk 2, 14, .inl q1_flags))]) (w2 := [(a_t, .inr (9, [.ref a_t_moment, .int t_style, .int u11.2, .long t_day, .int t_second])), (a_q1, .inr (7, [.ref a_q1_values, .ref a_q1_flags, .ref a_q1_order, .int q1_size])), (a_q1_values, .inl (kk 0, 14, .inl q1_values)), (a_q1_flags, .inl (kk 2, 14, .inl q1_flags))]) (r_V (As := [.ref a_q1, .int (1 : Int32)]) S X hA hP hD hS (c_Resolver_use l D kk st a_t a_q1 a_q1_values a_q1_flags a_t_moment a_q1_order _ t_style t_used t_day t_second q1_size q1_values q1_flags (1 : Int32) u11 e12) gm_4_48 gm_4_45 gm_4_47 gm_p2_9 gm_1_9 ⟨rfl, rfl, by decide, by decide⟩ kd_Resolver_use [0, 1, 2, 3] rfl rfl rfl 0 9 rfl rfl rfl rfl hl.1 rfl (Nat.le_of_ble_eq_true rfl) d_Resolver_findDate_109 ⟨Nat.zero_le _, Nat.zero_le _⟩) hA hP hD hS [0, 1, 2, 3] [] [0, 1, 2, 3] rfl rfl rfl (by decide) rfl rfl rfl (fun H locs hP hD hS => ?_)
        refine lv_aload_n hx hb d_Resolver_findDate_112 rfl (lv_at hl 0 rfl) ?_
        refine lv_aload_n hx hb d_Resolver_findDate_113 rfl (lv_at hl 1 rfl) ?_
        refine lv_bipush (v := (6 : Int32)) hx hb d_Resolver_findDate_114 (by decide) ?_
        obtain ⟨u13, e14, he⟩ := ih_b he
        refine k_i (wr := []) (w1 := [(a_t, .inr (9, [.ref a_t_moment, .int t_style, .int u13.2, .long t_day, .int t_second])), (a_q1, .inr (7, [.ref a_q1_values, .ref a_q1_flags, .ref a_q1_order, .int q1_size])), (a_q1_values, .inl (kk 0, 14, .inl q1_values)), (a_q1_flags, .inl (kk 2, 14, .inl q1_flags))]) (w2 := [(a_t, .inr (9, [.ref a_t_moment, .int t_style, .int u13.2, .long t_day, .int t_second])), (a_q1, .inr (7, [.ref a_q1_values, .ref a_q1_flags, .ref a_q1_order, .int q1_size])), (a_q1_values, .inl (kk 0, 14, .inl q1_values)), (a_q1_flags, .inl (kk 2, 14, .inl q1_flags))]) (r_V (As := [.ref a_q1, .int (6 : Int32)]) S X hA hP hD hS (c_Resolver_use l D kk st a_t a_q1 a_q1_values a_q1_flags a_t_moment a_q1_order _ t_style u11.2 t_day t_second q1_size q1_values q1_flags (6 : Int32) u13 e14) gm_4_48 gm_4_45 gm_4_47 gm_p2_9 gm_1_9 ⟨rfl, rfl, by decide, by decide⟩ kd_Resolver_use [0, 1, 2, 3] rfl rfl rfl 0 9 rfl rfl rfl rfl hl.1 rfl (Nat.le_of_ble_eq_true rfl) d_Resolver_findDate_116 ⟨Nat.zero_le _, Nat.zero_le _⟩) hA hP hD hS [0, 1, 2, 3] [] [0, 1, 2, 3] rfl rfl rfl (by decide) rfl rfl rfl (fun H locs hP hD hS => ?_)
        refine lv_aload_n hx hb d_Resolver_findDate_119 rfl (lv_at hl 0 rfl) ?_
        refine lv_aload_n hx hb d_Resolver_findDate_120 rfl (lv_at hl 1 rfl) ?_
        refine lv_iconst (v := (5 : Int32)) hx hb d_Resolver_findDate_121 (by decide) ?_
        obtain ⟨u15, e16, he⟩ := ih_b he
        refine k_i (wr := []) (w1 := [(a_t, .inr (9, [.ref a_t_moment, .int t_style, .int u15.2, .long t_day, .int t_second])), (a_q1, .inr (7, [.ref a_q1_values, .ref a_q1_flags, .ref a_q1_order, .int q1_size])), (a_q1_values, .inl (kk 0, 14, .inl q1_values)), (a_q1_flags, .inl (kk 2, 14, .inl q1_flags))]) (w2 := [(a_t, .inr (9, [.ref a_t_moment, .int t_style, .int u15.2, .long t_day, .int t_second])), (a_q1, .inr (7, [.ref a_q1_values, .ref a_q1_flags, .ref a_q1_order, .int q1_size])), (a_q1_values, .inl (kk 0, 14, .inl q1_values)), (a_q1_flags, .inl (kk 2, 14, .inl q1_flags))]) (r_V (As := [.ref a_q1, .int (5 : Int32)]) S X hA hP hD hS (c_Resolver_use l D kk st a_t a_q1 a_q1_values a_q1_flags a_t_moment a_q1_order _ t_style u13.2 t_day t_second q1_size q1_values q1_flags (5 : Int32) u15 e16) gm_4_48 gm_4_45 gm_4_47 gm_p2_9 gm_1_9 ⟨rfl, rfl, by decide, by decide⟩ kd_Resolver_use [0, 1, 2, 3] rfl rfl rfl 0 9 rfl rfl rfl rfl hl.1 rfl (Nat.le_of_ble_eq_true rfl) d_Resolver_findDate_122 ⟨Nat.zero_le _, Nat.zero_le _⟩) hA hP hD hS [0, 1, 2, 3] [] [0, 1, 2, 3] rfl rfl rfl (by decide) rfl rfl rfl (fun H locs hP hD hS => ?_)
        obtain ⟨u17, e18, he⟩ := ih_b he
        refine k_i (wr := [(a_q1, .inr (7, [.ref a_q1_values, .ref a_q1_flags, .ref a_q1_order, .int q1_size])), (a_q1_values, .inl (kk 0, 14, .inl q1_values)), (a_q1_flags, .inl (kk 2, 14, .inl q1_flags))]) (w1 := [(a_t, .inr (9, [.ref a_t_moment, .int t_style, .int u15.2, .long u17.2, .int t_second]))]) (w2 := [(a_t, .inr (9, [.ref a_t_moment, .int t_style, .int u15.2, .long u17.2, .int t_second])), (a_q1, .inr (7, [.ref a_q1_values, .ref a_q1_flags, .ref a_q1_order, .int q1_size])), (a_q1_values, .inl (kk 0, 14, .inl q1_values)), (a_q1_flags, .inl (kk 2, 14, .inl q1_flags))]) (r_V (As := [.int u11.1, .int u13.1, .int u15.1]) S X hA hP hD hS (c_Resolver_findByWeek l D kk st a_t a_t_moment _ t_style u15.2 t_day t_second u11.1 u13.1 u15.1 u17 e18) gm_4_80 gm_4_77 gm_4_79 gm_p2_12 gm_1_9 ⟨rfl, rfl, by decide, by decide⟩ kd_Resolver_findByWeek [0] rfl rfl rfl 0 9 rfl rfl rfl rfl hl.1 rfl (Nat.le_of_ble_eq_true rfl) d_Resolver_findDate_125 ⟨Nat.zero_le _, Nat.zero_le _⟩) hA hP hD hS [0] [1, 2, 3] [3, 0, 1, 2] rfl rfl rfl (by decide) rfl rfl rfl (fun H locs hP hD hS => ?_)
        obtain ⟨hv19, he⟩ := ih_g he
        cases he
        exact k_zre hx hb hr hlk X hP hD hS hv19 d_Resolver_findDate_128
set_option maxHeartbeats 4000000 in
set_option maxRecDepth 100000 in
theorem w_Resolver_findDate_47 {p : Program} {l : Launch} {e : Env} {s : State} {m : MethodId} {args : Array Value} {below : List Frame} {meth : Method} {c : Code} {A : Nat → Prop} {D : va_G} {kk : Nat → ClassId} {st : Nat → Nat} (a_t a_q1 a_q1_values a_q1_flags a_t_moment a_q1_order : Nat) (t_style : Int32) (t_used : Int32) (t_day : Int64) (t_second : Int32) (q1_size : Int32) (q1_values : Nat → Int32) (q1_flags : Nat → Int32) (o : Int32 × Int32 × Int64) (S : CallFix p m c b_Resolver_findDate 2 s args GW y_Resolver_findDate.cls) (hr : meth.sig.returnType = (some .boolean)) (hlk : meth.locks = false) (hA : ∀ q, s.heap.size ≤ q → A q) (X : KX D kk st A s) (H : Heap) (locs : List Loc) (ls : Array Slot) (he : jn_Resolver_findDate_47 t_style t_used t_day q1_values q1_flags = some o) (hl : lv_has ls 2 [(0, .ref a_t), (1, .ref a_q1)]) (hP : va_P D classes [(a_t, .inr (9, [.ref a_t_moment, .int t_style, .int t_used, .long t_day, .int t_second])), (a_q1, .inr (7, [.ref a_q1_values, .ref a_q1_flags, .ref a_q1_order, .int q1_size])), (a_q1_values, .inl (kk 0, 14, .inl q1_values)), (a_q1_flags, .inl (kk 2, 14, .inl q1_flags))] H) (hD : va_D A [(a_t, .inr (9, [.ref a_t_moment, .int t_style, .int t_used, .long t_day, .int t_second])), (a_q1, .inr (7, [.ref a_q1_values, .ref a_q1_flags, .ref a_q1_order, .int q1_size])), (a_q1_values, .inl (kk 0, 14, .inl q1_values)), (a_q1_flags, .inl (kk 2, 14, .inl q1_flags))]) (hS : va_S A s.heap H locs) : W p l e rm_Resolver_findDate s m args below meth c H locs 0 0 (MQ below (KQi D kk o.1 [(a_t, .inr (9, [.ref a_t_moment, .int t_style, .int o.2.1, .long o.2.2, .int t_second])), (a_q1, .inr (7, [.ref a_q1_values, .ref a_q1_flags, .ref a_q1_order, .int q1_size])), (a_q1_values, .inl (kk 0, 14, .inl q1_values)), (a_q1_flags, .inl (kk 2, 14, .inl q1_flags))] A) args s 0 0 A) (F0 m 47 ls []) := by
  have hx := S.1
  have hb := S.2.1
  unfold jn_Resolver_findDate_47 at he
  refine lv_aload_n hx hb d_Resolver_findDate_47 rfl (lv_at hl 1 rfl) ?_
  refine lv_iconst (v := (0 : Int32)) hx hb d_Resolver_findDate_48 (by decide) ?_
  obtain ⟨u3, e4, he⟩ := ih_b he
  refine k_io (r_V (As := [.int (0 : Int32)]) S X hA hP hD hS (c_Known_has l D kk st a_q1 a_q1_flags a_q1_values a_q1_order _ q1_size q1_flags (0 : Int32) u3 e4) gm_4_39 gm_4_40 gm_4_37 gm_4_38 gm_1_8 ⟨rfl, rfl, by decide, by decide⟩ kd_Known_has [1, 3] rfl rfl rfl 1 7 rfl rfl rfl rfl hl.1 rfl (Nat.le_of_ble_eq_true rfl) d_Resolver_findDate_49 ⟨Nat.zero_le _, Nat.zero_le _⟩) hA hP hD hS [1, 3] rfl (fun H locs hP hS => ?_)
  refine lv_if_eq (tgt := 80) hx hb d_Resolver_findDate_52 rfl (fun hc => ?_) (fun hc => ?_)
  · have he := ih_t hc he
    have hl : lv_has ls 2 [(0, .ref a_t), (1, .ref a_q1)] := lv_sub hl [0, 1] rfl
    exact w_Resolver_findDate_80 a_t a_q1 a_q1_values a_q1_flags a_t_moment a_q1_order t_style t_used t_day t_second q1_size q1_values q1_flags o S hr hlk hA X _ _ ls he hl hP hD hS
  · have he := ih_f hc he
    refine lv_aload_n hx hb d_Resolver_findDate_55 rfl (lv_at hl 1 rfl) ?_
    refine lv_iconst (v := (4 : Int32)) hx hb d_Resolver_findDate_56 (by decide) ?_
    obtain ⟨u20, e21, he⟩ := ih_b he
    refine k_io (r_V (As := [.int (4 : Int32)]) S X hA hP hD hS (c_Known_has l D kk st a_q1 a_q1_flags a_q1_values a_q1_order _ q1_size q1_flags (4 : Int32) u20 e21) gm_4_39 gm_4_40 gm_4_37 gm_4_38 gm_1_8 ⟨rfl, rfl, by decide, by decide⟩ kd_Known_has [1, 3] rfl rfl rfl 1 7 rfl rfl rfl rfl hl.1 rfl (Nat.le_of_ble_eq_true rfl) d_Resolver_findDate_57 ⟨Nat.zero_le _, Nat.zero_le _⟩) hA hP hD hS [1, 3] rfl (fun H locs hP hS => ?_)
    refine lv_if_eq (tgt := 80) hx hb d_Resolver_findDate_60 rfl (fun hc => ?_) (fun hc => ?_)
    · have he := ih_t hc he
      have hl : lv_has ls 2 [(0, .ref a_t), (1, .ref a_q1)] := lv_sub hl [0, 1] rfl
      exact w_Resolver_findDate_80 a_t a_q1 a_q1_values a_q1_flags a_t_moment a_q1_order t_style t_used t_day t_second q1_size q1_values q1_flags o S hr hlk hA X _ _ ls he hl hP hD hS
    · have he := ih_f hc he
      refine lv_aload_n hx hb d_Resolver_findDate_63 rfl (lv_at hl 0 rfl) ?_
      refine lv_aload_n hx hb d_Resolver_findDate_64 rfl (lv_at hl 0 rfl) ?_
      refine lv_aload_n hx hb d_Resolver_findDate_65 rfl (lv_at hl 1 rfl) ?_
      refine lv_iconst (v := (0 : Int32)) hx hb d_Resolver_findDate_66 (by decide) ?_
      obtain ⟨u22, e23, he⟩ := ih_b he
      refine k_i (wr := []) (w1 := [(a_t, .inr (9, [.ref a_t_moment, .int t_style, .int u22.2, .long t_day, .int t_second])), (a_q1, .inr (7, [.ref a_q1_values, .ref a_q1_flags, .ref a_q1_order, .int q1_size])), (a_q1_values, .inl (kk 0, 14, .inl q1_values)), (a_q1_flags, .inl (kk 2, 14, .inl q1_flags))]) (w2 := [(a_t, .inr (9, [.ref a_t_moment, .int t_style, .int u22.2, .long t_day, .int t_second])), (a_q1, .inr (7, [.ref a_q1_values, .ref a_q1_flags, .ref a_q1_order, .int q1_size])), (a_q1_values, .inl (kk 0, 14, .inl q1_values)), (a_q1_flags, .inl (kk 2, 14, .inl q1_flags))]) (r_V (As := [.ref a_q1, .int (0 : Int32)]) S X hA hP hD hS (c_Resolver_use l D kk st a_t a_q1 a_q1_values a_q1_flags a_t_moment a_q1_order _ t_style t_used t_day t_second q1_size q1_values q1_flags (0 : Int32) u22 e23) gm_4_48 gm_4_45 gm_4_47 gm_p2_9 gm_1_9 ⟨rfl, rfl, by decide, by decide⟩ kd_Resolver_use [0, 1, 2, 3] rfl rfl rfl 0 9 rfl rfl rfl rfl hl.1 rfl (Nat.le_of_ble_eq_true rfl) d_Resolver_findDate_67 ⟨Nat.zero_le _, Nat.zero_le _⟩) hA hP hD hS [0, 1, 2, 3] [] [0, 1, 2, 3] rfl rfl rfl (by decide) rfl rfl rfl (fun H locs hP hD hS => ?_)
      refine lv_aload_n hx hb d_Resolver_findDate_70 rfl (lv_at hl 0 rfl) ?_
      refine lv_aload_n hx hb d_Resolver_findDate_71 rfl (lv_at hl 1 rfl) ?_
      refine lv_iconst (v := (4 : Int32)) hx hb d_Resolver_findDate_72 (by decide) ?_
      obtain ⟨u24, e25, he⟩ := ih_b he
      refine k_i (wr := []) (w1 := [(a_t, .inr (9, [.ref a_t_moment, .int t_style, .int u24.2, .long t_day, .int t_second])), (a_q1, .inr (7, [.ref a_q1_values, .ref a_q1_flags, .ref a_q1_order, .int q1_size])), (a_q1_values, .inl (kk 0, 14, .inl q1_values)), (a_q1_flags, .inl (kk 2, 14, .inl q1_flags))]) (w2 := [(a_t, .inr (9, [.ref a_t_moment, .int t_style, .int u24.2, .long t_day, .int t_second])), (a_q1, .inr (7, [.ref a_q1_values, .ref a_q1_flags, .ref a_q1_order, .int q1_size])), (a_q1_values, .inl (kk 0, 14, .inl q1_values)), (a_q1_flags, .inl (kk 2, 14, .inl q1_flags))]) (r_V (As := [.ref a_q1, .int (4 : Int32)]) S X hA hP hD hS (c_Resolver_use l D kk st a_t a_q1 a_q1_values a_q1_flags a_t_moment a_q1_order _ t_style u22.2 t_day t_second q1_size q1_values q1_flags (4 : Int32) u24 e25) gm_4_48 gm_4_45 gm_4_47 gm_p2_9 gm_1_9 ⟨rfl, rfl, by decide, by decide⟩ kd_Resolver_use [0, 1, 2, 3] rfl rfl rfl 0 9 rfl rfl rfl rfl hl.1 rfl (Nat.le_of_ble_eq_true rfl) d_Resolver_findDate_73 ⟨Nat.zero_le _, Nat.zero_le _⟩) hA hP hD hS [0, 1, 2, 3] [] [0, 1, 2, 3] rfl rfl rfl (by decide) rfl rfl rfl (fun H locs hP hD hS => ?_)
      obtain ⟨u26, e27, he⟩ := ih_b he
      refine k_i (wr := [(a_q1, .inr (7, [.ref a_q1_values, .ref a_q1_flags, .ref a_q1_order, .int q1_size])), (a_q1_values, .inl (kk 0, 14, .inl q1_values)), (a_q1_flags, .inl (kk 2, 14, .inl q1_flags))]) (w1 := [(a_t, .inr (9, [.ref a_t_moment, .int t_style, .int u24.2, .long u26.2, .int t_second]))]) (w2 := [(a_t, .inr (9, [.ref a_t_moment, .int t_style, .int u24.2, .long u26.2, .int t_second])), (a_q1, .inr (7, [.ref a_q1_values, .ref a_q1_flags, .ref a_q1_order, .int q1_size])), (a_q1_values, .inl (kk 0, 14, .inl q1_values)), (a_q1_flags, .inl (kk 2, 14, .inl q1_flags))]) (r_V (As := [.int u22.1, .int u24.1]) S X hA hP hD hS (c_Resolver_findByYearDay l D kk st a_t a_t_moment _ t_style u24.2 t_day t_second u22.1 u24.1 u26 e27) gm_4_72 gm_4_69 gm_4_71 gm_p2_11 gm_1_9 ⟨rfl, rfl, by decide, by decide⟩ kd_Resolver_findByYearDay [0] rfl rfl rfl 0 9 rfl rfl rfl rfl hl.1 rfl (Nat.le_of_ble_eq_true rfl) d_Resolver_findDate_76 ⟨Nat.zero_le _, Nat.zero_le _⟩) hA hP hD hS [0] [1, 2, 3] [3, 0, 1, 2] rfl rfl rfl (by decide) rfl rfl rfl (fun H locs hP hD hS => ?_)
      obtain ⟨hv28, he⟩ := ih_g he
      cases he
      exact k_zre hx hb hr hlk X hP hD hS hv28 d_Resolver_findDate_79
set_option maxHeartbeats 4000000 in
set_option maxRecDepth 100000 in
theorem c_Resolver_findDate (l : Launch) (D : va_G) (kk : Nat → ClassId) (st : Nat → Nat) (a_t a_q1 a_q1_values a_q1_flags a_t_moment a_q1_order : Nat) (sz : Nat) (t_style : Int32) (t_used : Int32) (t_day : Int64) (t_second : Int32) (q1_size : Int32) (q1_values : Nat → Int32) (q1_flags : Nat → Int32) (o : Int32 × Int32 × Int64) (he : f_Resolver_findDate t_style t_used t_day q1_values q1_flags = some o) : Met l y_Resolver_findDate (Cond.code y_Resolver_findDate b_Resolver_findDate 2 (some .boolean) :: GW) rm_Resolver_findDate (KPc D kk st [.ref a_t, .ref a_q1] [(a_t, .inr (9, [.ref a_t_moment, .int t_style, .int t_used, .long t_day, .int t_second])), (a_q1, .inr (7, [.ref a_q1_values, .ref a_q1_flags, .ref a_q1_order, .int q1_size])), (a_q1_values, .inl (kk 0, 14, .inl q1_values)), (a_q1_flags, .inl (kk 2, 14, .inl q1_flags))] sz) (KQi D kk o.1 [(a_t, .inr (9, [.ref a_t_moment, .int t_style, .int o.2.1, .long o.2.2, .int t_second])), (a_q1, .inr (7, [.ref a_q1_values, .ref a_q1_flags, .ref a_q1_order, .int q1_size])), (a_q1_values, .inl (kk 0, 14, .inl q1_values)), (a_q1_flags, .inl (kk 2, 14, .inl q1_flags))] (va_A [(a_t, .inr (9, [.ref a_t_moment, .int t_style, .int t_used, .long t_day, .int t_second])), (a_q1, .inr (7, [.ref a_q1_values, .ref a_q1_flags, .ref a_q1_order, .int q1_size])), (a_q1_values, .inl (kk 0, 14, .inl q1_values)), (a_q1_flags, .inl (kk 2, 14, .inl q1_flags))] sz)) 0 0 (va_A [(a_t, .inr (9, [.ref a_t_moment, .int t_style, .int t_used, .long t_day, .int t_second])), (a_q1, .inr (7, [.ref a_q1_values, .ref a_q1_flags, .ref a_q1_order, .int q1_size])), (a_q1_values, .inl (kk 0, 14, .inl q1_values)), (a_q1_flags, .inl (kk 2, 14, .inl q1_flags))] sz) := by
  refine k_start (Qc := fun A => KQi D kk o.1 [(a_t, .inr (9, [.ref a_t_moment, .int t_style, .int o.2.1, .long o.2.2, .int t_second])), (a_q1, .inr (7, [.ref a_q1_values, .ref a_q1_flags, .ref a_q1_order, .int q1_size])), (a_q1_values, .inl (kk 0, 14, .inl q1_values)), (a_q1_flags, .inl (kk 2, 14, .inl q1_flags))] A) (by decide) (Nat.le_of_ble_eq_true rfl) ?_
  intro p e s m below meth c A ls S hnm hr hlk hA X hP hD hS hl
  have hl : lv_has ls 2 [(0, .ref a_t), (1, .ref a_q1)] := hl
  have hx := S.1
  have hb := S.2.1
  unfold f_Resolver_findDate at he
  refine lv_aload_n hx hb d_Resolver_findDate_0 rfl (lv_at hl 1 rfl) ?_
  refine lv_iconst (v := (0 : Int32)) hx hb d_Resolver_findDate_1 (by decide) ?_
  obtain ⟨u1, e2, he⟩ := ih_b he
  refine k_io (r_V (As := [.int (0 : Int32)]) S X hA hP hD hS (c_Known_has l D kk st a_q1 a_q1_flags a_q1_values a_q1_order _ q1_size q1_flags (0 : Int32) u1 e2) gm_4_39 gm_4_40 gm_4_37 gm_4_38 gm_1_8 ⟨rfl, rfl, by decide, by decide⟩ kd_Known_has [1, 3] rfl rfl rfl 1 7 rfl rfl rfl rfl hl.1 rfl (Nat.le_of_ble_eq_true rfl) d_Resolver_findDate_2 ⟨Nat.zero_le _, Nat.zero_le _⟩) hA hP hD hS [1, 3] rfl (fun H locs hP hS => ?_)
  refine lv_if_eq (tgt := 47) hx hb d_Resolver_findDate_5 rfl (fun hc => ?_) (fun hc => ?_)
  · have he := ih_t hc he
    have hl : lv_has ls 2 [(0, .ref a_t), (1, .ref a_q1)] := lv_sub hl [0, 1] rfl
    exact w_Resolver_findDate_47 a_t a_q1 a_q1_values a_q1_flags a_t_moment a_q1_order t_style t_used t_day t_second q1_size q1_values q1_flags o S hr hlk hA X _ _ ls he hl hP hD hS
  · have he := ih_f hc he
    refine lv_aload_n hx hb d_Resolver_findDate_8 rfl (lv_at hl 1 rfl) ?_
    refine lv_iconst (v := (2 : Int32)) hx hb d_Resolver_findDate_9 (by decide) ?_
    obtain ⟨u29, e30, he⟩ := ih_b he
    refine k_io (r_V (As := [.int (2 : Int32)]) S X hA hP hD hS (c_Known_has l D kk st a_q1 a_q1_flags a_q1_values a_q1_order _ q1_size q1_flags (2 : Int32) u29 e30) gm_4_39 gm_4_40 gm_4_37 gm_4_38 gm_1_8 ⟨rfl, rfl, by decide, by decide⟩ kd_Known_has [1, 3] rfl rfl rfl 1 7 rfl rfl rfl rfl hl.1 rfl (Nat.le_of_ble_eq_true rfl) d_Resolver_findDate_10 ⟨Nat.zero_le _, Nat.zero_le _⟩) hA hP hD hS [1, 3] rfl (fun H locs hP hS => ?_)
    refine lv_if_eq (tgt := 47) hx hb d_Resolver_findDate_13 rfl (fun hc => ?_) (fun hc => ?_)
    · have he := ih_t hc he
      have hl : lv_has ls 2 [(0, .ref a_t), (1, .ref a_q1)] := lv_sub hl [0, 1] rfl
      exact w_Resolver_findDate_47 a_t a_q1 a_q1_values a_q1_flags a_t_moment a_q1_order t_style t_used t_day t_second q1_size q1_values q1_flags o S hr hlk hA X _ _ ls he hl hP hD hS
    · have he := ih_f hc he
      refine lv_aload_n hx hb d_Resolver_findDate_16 rfl (lv_at hl 1 rfl) ?_
      refine lv_iconst (v := (3 : Int32)) hx hb d_Resolver_findDate_17 (by decide) ?_
      obtain ⟨u31, e32, he⟩ := ih_b he
      refine k_io (r_V (As := [.int (3 : Int32)]) S X hA hP hD hS (c_Known_has l D kk st a_q1 a_q1_flags a_q1_values a_q1_order _ q1_size q1_flags (3 : Int32) u31 e32) gm_4_39 gm_4_40 gm_4_37 gm_4_38 gm_1_8 ⟨rfl, rfl, by decide, by decide⟩ kd_Known_has [1, 3] rfl rfl rfl 1 7 rfl rfl rfl rfl hl.1 rfl (Nat.le_of_ble_eq_true rfl) d_Resolver_findDate_18 ⟨Nat.zero_le _, Nat.zero_le _⟩) hA hP hD hS [1, 3] rfl (fun H locs hP hS => ?_)
      refine lv_if_eq (tgt := 47) hx hb d_Resolver_findDate_21 rfl (fun hc => ?_) (fun hc => ?_)
      · have he := ih_t hc he
        have hl : lv_has ls 2 [(0, .ref a_t), (1, .ref a_q1)] := lv_sub hl [0, 1] rfl
        exact w_Resolver_findDate_47 a_t a_q1 a_q1_values a_q1_flags a_t_moment a_q1_order t_style t_used t_day t_second q1_size q1_values q1_flags o S hr hlk hA X _ _ ls he hl hP hD hS
      · have he := ih_f hc he
        refine lv_aload_n hx hb d_Resolver_findDate_24 rfl (lv_at hl 0 rfl) ?_
        refine lv_aload_n hx hb d_Resolver_findDate_25 rfl (lv_at hl 0 rfl) ?_
        refine lv_aload_n hx hb d_Resolver_findDate_26 rfl (lv_at hl 1 rfl) ?_
        refine lv_iconst (v := (0 : Int32)) hx hb d_Resolver_findDate_27 (by decide) ?_
        obtain ⟨u33, e34, he⟩ := ih_b he
        refine k_i (wr := []) (w1 := [(a_t, .inr (9, [.ref a_t_moment, .int t_style, .int u33.2, .long t_day, .int t_second])), (a_q1, .inr (7, [.ref a_q1_values, .ref a_q1_flags, .ref a_q1_order, .int q1_size])), (a_q1_values, .inl (kk 0, 14, .inl q1_values)), (a_q1_flags, .inl (kk 2, 14, .inl q1_flags))]) (w2 := [(a_t, .inr (9, [.ref a_t_moment, .int t_style, .int u33.2, .long t_day, .int t_second])), (a_q1, .inr (7, [.ref a_q1_values, .ref a_q1_flags, .ref a_q1_order, .int q1_size])), (a_q1_values, .inl (kk 0, 14, .inl q1_values)), (a_q1_flags, .inl (kk 2, 14, .inl q1_flags))]) (r_V (As := [.ref a_q1, .int (0 : Int32)]) S X hA hP hD hS (c_Resolver_use l D kk st a_t a_q1 a_q1_values a_q1_flags a_t_moment a_q1_order _ t_style t_used t_day t_second q1_size q1_values q1_flags (0 : Int32) u33 e34) gm_4_48 gm_4_45 gm_4_47 gm_p2_9 gm_1_9 ⟨rfl, rfl, by decide, by decide⟩ kd_Resolver_use [0, 1, 2, 3] rfl rfl rfl 0 9 rfl rfl rfl rfl hl.1 rfl (Nat.le_of_ble_eq_true rfl) d_Resolver_findDate_28 ⟨Nat.zero_le _, Nat.zero_le _⟩) hA hP hD hS [0, 1, 2, 3] [] [0, 1, 2, 3] rfl rfl rfl (by decide) rfl rfl rfl (fun H locs hP hD hS => ?_)
        refine lv_aload_n hx hb d_Resolver_findDate_31 rfl (lv_at hl 0 rfl) ?_
        refine lv_aload_n hx hb d_Resolver_findDate_32 rfl (lv_at hl 1 rfl) ?_
        refine lv_iconst (v := (2 : Int32)) hx hb d_Resolver_findDate_33 (by decide) ?_
        obtain ⟨u35, e36, he⟩ := ih_b he
        refine k_i (wr := []) (w1 := [(a_t, .inr (9, [.ref a_t_moment, .int t_style, .int u35.2, .long t_day, .int t_second])), (a_q1, .inr (7, [.ref a_q1_values, .ref a_q1_flags, .ref a_q1_order, .int q1_size])), (a_q1_values, .inl (kk 0, 14, .inl q1_values)), (a_q1_flags, .inl (kk 2, 14, .inl q1_flags))]) (w2 := [(a_t, .inr (9, [.ref a_t_moment, .int t_style, .int u35.2, .long t_day, .int t_second])), (a_q1, .inr (7, [.ref a_q1_values, .ref a_q1_flags, .ref a_q1_order, .int q1_size])), (a_q1_values, .inl (kk 0, 14, .inl q1_values)), (a_q1_flags, .inl (kk 2, 14, .inl q1_flags))]) (r_V (As := [.ref a_q1, .int (2 : Int32)]) S X hA hP hD hS (c_Resolver_use l D kk st a_t a_q1 a_q1_values a_q1_flags a_t_moment a_q1_order _ t_style u33.2 t_day t_second q1_size q1_values q1_flags (2 : Int32) u35 e36) gm_4_48 gm_4_45 gm_4_47 gm_p2_9 gm_1_9 ⟨rfl, rfl, by decide, by decide⟩ kd_Resolver_use [0, 1, 2, 3] rfl rfl rfl 0 9 rfl rfl rfl rfl hl.1 rfl (Nat.le_of_ble_eq_true rfl) d_Resolver_findDate_34 ⟨Nat.zero_le _, Nat.zero_le _⟩) hA hP hD hS [0, 1, 2, 3] [] [0, 1, 2, 3] rfl rfl rfl (by decide) rfl rfl rfl (fun H locs hP hD hS => ?_)
        refine lv_aload_n hx hb d_Resolver_findDate_37 rfl (lv_at hl 0 rfl) ?_
        refine lv_aload_n hx hb d_Resolver_findDate_38 rfl (lv_at hl 1 rfl) ?_
        refine lv_iconst (v := (3 : Int32)) hx hb d_Resolver_findDate_39 (by decide) ?_
        obtain ⟨u37, e38, he⟩ := ih_b he
        refine k_i (wr := []) (w1 := [(a_t, .inr (9, [.ref a_t_moment, .int t_style, .int u37.2, .long t_day, .int t_second])), (a_q1, .inr (7, [.ref a_q1_values, .ref a_q1_flags, .ref a_q1_order, .int q1_size])), (a_q1_values, .inl (kk 0, 14, .inl q1_values)), (a_q1_flags, .inl (kk 2, 14, .inl q1_flags))]) (w2 := [(a_t, .inr (9, [.ref a_t_moment, .int t_style, .int u37.2, .long t_day, .int t_second])), (a_q1, .inr (7, [.ref a_q1_values, .ref a_q1_flags, .ref a_q1_order, .int q1_size])), (a_q1_values, .inl (kk 0, 14, .inl q1_values)), (a_q1_flags, .inl (kk 2, 14, .inl q1_flags))]) (r_V (As := [.ref a_q1, .int (3 : Int32)]) S X hA hP hD hS (c_Resolver_use l D kk st a_t a_q1 a_q1_values a_q1_flags a_t_moment a_q1_order _ t_style u35.2 t_day t_second q1_size q1_values q1_flags (3 : Int32) u37 e38) gm_4_48 gm_4_45 gm_4_47 gm_p2_9 gm_1_9 ⟨rfl, rfl, by decide, by decide⟩ kd_Resolver_use [0, 1, 2, 3] rfl rfl rfl 0 9 rfl rfl rfl rfl hl.1 rfl (Nat.le_of_ble_eq_true rfl) d_Resolver_findDate_40 ⟨Nat.zero_le _, Nat.zero_le _⟩) hA hP hD hS [0, 1, 2, 3] [] [0, 1, 2, 3] rfl rfl rfl (by decide) rfl rfl rfl (fun H locs hP hD hS => ?_)
        obtain ⟨u39, e40, he⟩ := ih_b he
        refine k_i (wr := [(a_q1, .inr (7, [.ref a_q1_values, .ref a_q1_flags, .ref a_q1_order, .int q1_size])), (a_q1_values, .inl (kk 0, 14, .inl q1_values)), (a_q1_flags, .inl (kk 2, 14, .inl q1_flags))]) (w1 := [(a_t, .inr (9, [.ref a_t_moment, .int t_style, .int u37.2, .long u39.2, .int t_second]))]) (w2 := [(a_t, .inr (9, [.ref a_t_moment, .int t_style, .int u37.2, .long u39.2, .int t_second])), (a_q1, .inr (7, [.ref a_q1_values, .ref a_q1_flags, .ref a_q1_order, .int q1_size])), (a_q1_values, .inl (kk 0, 14, .inl q1_values)), (a_q1_flags, .inl (kk 2, 14, .inl q1_flags))]) (r_V (As := [.int u33.1, .int u35.1, .int u37.1]) S X hA hP hD hS (c_Resolver_findByMonth l D kk st a_t a_t_moment _ t_style u37.2 t_day t_second u33.1 u35.1 u37.1 u39 e40) gm_4_56 gm_4_53 gm_4_55 gm_p2_10 gm_1_9 ⟨rfl, rfl, by decide, by decide⟩ kd_Resolver_findByMonth [0] rfl rfl rfl 0 9 rfl rfl rfl rfl hl.1 rfl (Nat.le_of_ble_eq_true rfl) d_Resolver_findDate_43 ⟨Nat.zero_le _, Nat.zero_le _⟩) hA hP hD hS [0] [1, 2, 3] [3, 0, 1, 2] rfl rfl rfl (by decide) rfl rfl rfl (fun H locs hP hD hS => ?_)
        obtain ⟨hv41, he⟩ := ih_g he
        cases he
        exact k_zre hx hb hr hlk X hP hD hS hv41 d_Resolver_findDate_46
abbrev rm_Resolver_findTime : Room := { frames := 3, cells := 0, slots := 0, locals := 64 }
set_option maxHeartbeats 4000000 in
set_option maxRecDepth 100000 in
theorem w_Resolver_findTime_107 {p : Program} {l : Launch} {e : Env} {s : State} {m : MethodId} {args : Array Value} {below : List Frame} {meth : Method} {c : Code} {A : Nat → Prop} {D : va_G} {kk : Nat → ClassId} {st : Nat → Nat} (a_t a_q1 a_q1_values a_q1_flags a_t_moment a_q1_order : Nat) (t_style : Int32) (t_used : Int32) (t_day : Int64) (t_second : Int32) (q1_size : Int32) (q1_values : Nat → Int32) (q1_flags : Nat → Int32) (x2 : Int32) (x3 : Int32) (o : Int32 × Int32 × Int32) (S : CallFix p m c b_Resolver_findTime 6 s args GW y_Resolver_findTime.cls) (hr : meth.sig.returnType = (some .boolean)) (hlk : meth.locks = false) (hA : ∀ q, s.heap.size ≤ q → A q) (X : KX D kk st A s) (H : Heap) (locs : List Loc) (ls : Array Slot) (he : jn_Resolver_findTime_107 t_style t_used t_second q1_values q1_flags x2 x3 = some o) (hl : lv_has ls 6 [(0, .ref a_t), (1, .ref a_q1), (2, .int x2), (3, .int x3)]) (hP : va_P D classes [(a_t, .inr (9, [.ref a_t_moment, .int t_style, .int t_used, .long t_day, .int t_second])), (a_q1, .inr (7, [.ref a_q1_values, .ref a_q1_flags, .ref a_q1_order, .int q1_size])), (a_q1_values, .inl (kk 0, 14, .inl q1_values)), (a_q1_flags, .inl (kk 2, 14, .inl q1_flags))] H) (hD : va_D A [(a_t, .inr (9, [.ref a_t_moment, .int t_style, .int t_used, .long t_day, .int t_second])), (a_q1, .inr (7, [.ref a_q1_values, .ref a_q1_flags, .ref a_q1_order, .int q1_size])), (a_q1_values, .inl (kk 0, 14, .inl q1_values)), (a_q1_flags, .inl (kk 2, 14, .inl q1_flags))]) (hS : va_S A s.heap H locs) : W p l e rm_Resolver_findTime s m args below meth c H locs 0 0 (MQ below (KQi D kk o.1 [(a_t, .inr (9, [.ref a_t_moment, .int t_style, .int o.2.1, .long t_day, .int o.2.2])), (a_q1, .inr (7, [.ref a_q1_values, .ref a_q1_flags, .ref a_q1_order, .int q1_size])), (a_q1_values, .inl (kk 0, 14, .inl q1_values)), (a_q1_flags, .inl (kk 2, 14, .inl q1_flags))] A) args s 0 0 A) (F0 m 107 ls []) := by
  have hx := S.1
  have hb := S.2.1
  unfold jn_Resolver_findTime_107 at he
  refine lv_aload_n hx hb d_Resolver_findTime_107 rfl (lv_at hl 0 rfl) ?_
  refine lv_aload_n hx hb d_Resolver_findTime_108 rfl (lv_at hl 1 rfl) ?_
  refine lv_bipush (v := (10 : Int32)) hx hb d_Resolver_findTime_109 (by decide) ?_
  obtain ⟨u5, e6, he⟩ := ih_b he
  refine k_i (wr := []) (w1 := [(a_t, .inr (9, [.ref a_t_moment, .int t_style, .int u5.2, .long t_day, .int t_second])), (a_q1, .inr (7, [.ref a_q1_values, .ref a_q1_flags, .ref a_q1_order, .int q1_size])), (a_q1_values, .inl (kk 0, 14, .inl q1_values)), (a_q1_flags, .inl (kk 2, 14, .inl q1_flags))]) (w2 := [(a_t, .inr (9, [.ref a_t_moment, .int t_style, .int u5.2, .long t_day, .int t_second])), (a_q1, .inr (7, [.ref a_q1_values, .ref a_q1_flags, .ref a_q1_order, .int q1_size])), (a_q1_values, .inl (kk 0, 14, .inl q1_values)), (a_q1_flags, .inl (kk 2, 14, .inl q1_flags))]) (r_V (As := [.ref a_q1, .int (10 : Int32)]) S X hA hP hD hS (c_Resolver_use l D kk st a_t a_q1 a_q1_values a_q1_flags a_t_moment a_q1_order _ t_style t_used t_day t_second q1_size q1_values q1_flags (10 : Int32) u5 e6) gm_4_48 gm_4_45 gm_4_47 gm_p2_9 gm_1_9 ⟨rfl, rfl, by decide, by decide⟩ kd_Resolver_use [0, 1, 2, 3] rfl rfl rfl 0 9 rfl rfl rfl rfl hl.1 rfl (Nat.le_of_ble_eq_true rfl) d_Resolver_findTime_111 ⟨Nat.zero_le _, Nat.zero_le _⟩) hA hP hD hS [0, 1, 2, 3] [] [0, 1, 2, 3] rfl rfl rfl (by decide) rfl rfl rfl (fun H locs hP hD hS => ?_)
  refine lv_istore hx hb d_Resolver_findTime_114 hl (by decide) rfl (fun ls hl => ?_)
  have hl : lv_has ls 6 [(4, .int u5.1), (0, .ref a_t), (1, .ref a_q1), (2, .int x2), (3, .int x3)] := hl
  refine lv_aload_n hx hb d_Resolver_findTime_116 rfl (lv_at hl 1 rfl) ?_
  refine lv_aload_n hx hb d_Resolver_findTime_117 rfl (lv_at hl 2 rfl) ?_
  refine lv_bipush (v := (11 : Int32)) hx hb d_Resolver_findTime_118 (by decide) ?_
  obtain ⟨u7, e8, he⟩ := ih_b he
  refine k_i (wr := []) (w1 := [(a_t, .inr (9, [.ref a_t_moment, .int t_style, .int u7.2, .long t_day, .int t_second])), (a_q1, .inr (7, [.ref a_q1_values, .ref a_q1_flags, .ref a_q1_order, .int q1_size])), (a_q1_values, .inl (kk 0, 14, .inl q1_values)), (a_q1_flags, .inl (kk 2, 14, .inl q1_flags))]) (w2 := [(a_t, .inr (9, [.ref a_t_moment, .int t_style, .int u7.2, .long t_day, .int t_second])), (a_q1, .inr (7, [.ref a_q1_values, .ref a_q1_flags, .ref a_q1_order, .int q1_size])), (a_q1_values, .inl (kk 0, 14, .inl q1_values)), (a_q1_flags, .inl (kk 2, 14, .inl q1_flags))]) (r_V (As := [.ref a_q1, .int (11 : Int32)]) S X hA hP hD hS (c_Resolver_use l D kk st a_t a_q1 a_q1_values a_q1_flags a_t_moment a_q1_order _ t_style u5.2 t_day t_second q1_size q1_values q1_flags (11 : Int32) u7 e8) gm_4_48 gm_4_45 gm_4_47 gm_p2_9 gm_1_9 ⟨rfl, rfl, by decide, by decide⟩ kd_Resolver_use [0, 1, 2, 3] rfl rfl rfl 0 9 rfl rfl rfl rfl hl.1 rfl (Nat.le_of_ble_eq_true rfl) d_Resolver_findTime_120 ⟨Nat.zero_le _, Nat.zero_le _⟩) hA hP hD hS [0, 1, 2, 3] [] [0, 1, 2, 3] rfl rfl rfl (by decide) rfl rfl rfl (fun H locs hP hD hS => ?_)
  refine lv_istore hx hb d_Resolver_findTime_123 hl (by decide) rfl (fun ls hl => ?_)
  have hl : lv_has ls 6 [(5, .int u7.1), (4, .int u5.1), (0, .ref a_t), (1, .ref a_q1), (2, .int x2), (3, .int x3)] := hl
  refine lv_aload_n hx hb d_Resolver_findTime_125 rfl (lv_at hl 2 rfl) ?_
  refine lv_aload_n hx hb d_Resolver_findTime_126 rfl (lv_at hl 3 rfl) ?_
  refine lv_bipush (v := (12 : Int32)) hx hb d_Resolver_findTime_127 (by decide) ?_
  obtain ⟨u9, e10, he⟩ := ih_b he
  refine k_i (wr := []) (w1 := [(a_t, .inr (9, [.ref a_t_moment, .int t_style, .int u9.2, .long t_day, .int t_second])), (a_q1, .inr (7, [.ref a_q1_values, .ref a_q1_flags, .ref a_q1_order, .int q1_size])), (a_q1_values, .inl (kk 0, 14, .inl q1_values)), (a_q1_flags, .inl (kk 2, 14, .inl q1_flags))]) (w2 := [(a_t, .inr (9, [.ref a_t_moment, .int t_style, .int u9.2, .long t_day, .int t_second])), (a_q1, .inr (7, [.ref a_q1_values, .ref a_q1_flags, .ref a_q1_order, .int q1_size])), (a_q1_values, .inl (kk 0, 14, .inl q1_values)), (a_q1_flags, .inl (kk 2, 14, .inl q1_flags))]) (r_V (As := [.ref a_q1, .int (12 : Int32)]) S X hA hP hD hS (c_Resolver_use l D kk st a_t a_q1 a_q1_values a_q1_flags a_t_moment a_q1_order _ t_style u7.2 t_day t_second q1_size q1_values q1_flags (12 : Int32) u9 e10) gm_4_48 gm_4_45 gm_4_47 gm_p2_9 gm_1_9 ⟨rfl, rfl, by decide, by decide⟩ kd_Resolver_use [0, 1, 2, 3] rfl rfl rfl 0 9 rfl rfl rfl rfl hl.1 rfl (Nat.le_of_ble_eq_true rfl) d_Resolver_findTime_129 ⟨Nat.zero_le _, Nat.zero_le _⟩) hA hP hD hS [0, 1, 2, 3] [] [0, 1, 2, 3] rfl rfl rfl (by decide) rfl rfl rfl (fun H locs hP hD hS => ?_)
  refine lv_pop hx hb d_Resolver_findTime_132 rfl ?_
  refine lv_aload_n hx hb d_Resolver_findTime_133 rfl (lv_at hl 2 rfl) ?_
  refine lv_sipush (v := (3600 : Int32)) hx hb d_Resolver_findTime_134 (by decide) ?_
  refine lv_iload_n hx hb d_Resolver_findTime_137 rfl (lv_at hl 4 rfl) ?_
  refine lv_imul hx hb d_Resolver_findTime_138 ?_
  refine lv_bipush (v := (60 : Int32)) hx hb d_Resolver_findTime_139 (by decide) ?_
  refine lv_iload hx hb d_Resolver_findTime_141 (lv_at hl 1 rfl) ?_
  refine lv_imul hx hb d_Resolver_findTime_143 ?_
  refine lv_iadd hx hb d_Resolver_findTime_144 ?_
  refine lv_iload hx hb d_Resolver_findTime_145 (lv_at hl 0 rfl) ?_
  refine lv_iadd hx hb d_Resolver_findTime_147 ?_
  refine k_put S X us_Resolver t_Resolver t_Resolver_ok n_Resolver hP hD hS 0 rfl rfl 4 (by decide) gm_1_195 rfl rfl rfl (Nat.le_of_ble_eq_true rfl) d_Resolver_findTime_148 (fun H locs hP hD hS => ?_)
  have hP : va_P D classes [(a_t, .inr (9, [.ref a_t_moment, .int t_style, .int u9.2, .long t_day, .int ((((3600 : Int32) * x2) + ((60 : Int32) * u5.1)) + u7.1)])), (a_q1, .inr (7, [.ref a_q1_values, .ref a_q1_flags, .ref a_q1_order, .int q1_size])), (a_q1_values, .inl (kk 0, 14, .inl q1_values)), (a_q1_flags, .inl (kk 2, 14, .inl q1_flags))] H := hP
  have hD : va_D A [(a_t, .inr (9, [.ref a_t_moment, .int t_style, .int u9.2, .long t_day, .int ((((3600 : Int32) * x2) + ((60 : Int32) * u5.1)) + u7.1)])), (a_q1, .inr (7, [.ref a_q1_values, .ref a_q1_flags, .ref a_q1_order, .int q1_size])), (a_q1_values, .inl (kk 0, 14, .inl q1_values)), (a_q1_flags, .inl (kk 2, 14, .inl q1_flags))] := hD
  refine lv_aload_n hx hb d_Resolver_findTime_151 rfl (lv_at hl 2 rfl) ?_
  refine k_get S X us_Resolver hP 0 rfl rfl 1 (by decide) gm_1_192 rfl d_Resolver_findTime_152 ?_
  refine lv_iconst (v := (2 : Int32)) hx hb d_Resolver_findTime_155 (by decide) ?_
  refine lv_icmp_eq (tgt := 177) hx hb d_Resolver_findTime_156 rfl (fun hc => ?_) (fun hc => ?_)
  · have he := ih_t hc he
    refine lv_iconst (v := (1 : Int32)) hx hb d_Resolver_findTime_177 (by decide) ?_
    refine lv_goto (tgt := 182) hx hb d_Resolver_findTime_178 rfl ?_
    cases he
    exact k_zre hx hb hr hlk X hP hD hS (Or.inr rfl) d_Resolver_findTime_182
  · have he := ih_f hc he
    refine lv_iload_n hx hb d_Resolver_findTime_159 rfl (lv_at hl 5 rfl) ?_
    refine lv_if_eq (tgt := 181) hx hb d_Resolver_findTime_160 rfl (fun hc => ?_) (fun hc => ?_)
    · have he := ih_t hc he
      refine lv_iconst (v := (0 : Int32)) hx hb d_Resolver_findTime_181 (by decide) ?_
      cases he
      exact k_zre hx hb hr hlk X hP hD hS (Or.inl rfl) d_Resolver_findTime_182
    · have he := ih_f hc he
      refine lv_iload hx hb d_Resolver_findTime_163 (lv_at hl 1 rfl) ?_
      refine lv_bipush (v := (59 : Int32)) hx hb d_Resolver_findTime_165 (by decide) ?_
      refine lv_icmp_gt (tgt := 181) hx hb d_Resolver_findTime_167 rfl (fun hc => ?_) (fun hc => ?_)
      · have he := ih_t hc he
        refine lv_iconst (v := (0 : Int32)) hx hb d_Resolver_findTime_181 (by decide) ?_
        cases he
        exact k_zre hx hb hr hlk X hP hD hS (Or.inl rfl) d_Resolver_findTime_182
      · have he := ih_f hc he
        refine lv_iload hx hb d_Resolver_findTime_170 (lv_at hl 0 rfl) ?_
        refine lv_bipush (v := (59 : Int32)) hx hb d_Resolver_findTime_172 (by decide) ?_
        refine lv_icmp_gt (tgt := 181) hx hb d_Resolver_findTime_174 rfl (fun hc => ?_) (fun hc => ?_)
        · have he := ih_t hc he
          refine lv_iconst (v := (0 : Int32)) hx hb d_Resolver_findTime_181 (by decide) ?_
          cases he
          exact k_zre hx hb hr hlk X hP hD hS (Or.inl rfl) d_Resolver_findTime_182
        · have he := ih_f hc he
          refine lv_iconst (v := (1 : Int32)) hx hb d_Resolver_findTime_177 (by decide) ?_
          refine lv_goto (tgt := 182) hx hb d_Resolver_findTime_178 rfl ?_
          cases he
          exact k_zre hx hb hr hlk X hP hD hS (Or.inr rfl) d_Resolver_findTime_182
set_option maxHeartbeats 4000000 in
set_option maxRecDepth 100000 in
theorem w_Resolver_findTime_106 {p : Program} {l : Launch} {e : Env} {s : State} {m : MethodId} {args : Array Value} {below : List Frame} {meth : Method} {c : Code} {A : Nat → Prop} {D : va_G} {kk : Nat → ClassId} {st : Nat → Nat} (a_t a_q1 a_q1_values a_q1_flags a_t_moment a_q1_order : Nat) (t_style : Int32) (t_used : Int32) (t_day : Int64) (t_second : Int32) (q1_size : Int32) (q1_values : Nat → Int32) (q1_flags : Nat → Int32) (x2 : Int32) (s0 : Int32) (o : Int32 × Int32 × Int32) (S : CallFix p m c b_Resolver_findTime 6 s args GW y_Resolver_findTime.cls) (hr : meth.sig.returnType = (some .boolean)) (hlk : meth.locks = false) (hA : ∀ q, s.heap.size ≤ q → A q) (X : KX D kk st A s) (H : Heap) (locs : List Loc) (ls : Array Slot) (he : jn_Resolver_findTime_106 t_style t_used t_second q1_values q1_flags x2 s0 = some o) (hl : lv_has ls 6 [(0, .ref a_t), (1, .ref a_q1), (2, .int x2)]) (hP : va_P D classes [(a_t, .inr (9, [.ref a_t_moment, .int t_style, .int t_used, .long t_day, .int t_second])), (a_q1, .inr (7, [.ref a_q1_values, .ref a_q1_flags, .ref a_q1_order, .int q1_size])), (a_q1_values, .inl (kk 0, 14, .inl q1_values)), (a_q1_flags, .inl (kk 2, 14, .inl q1_flags))] H) (hD : va_D A [(a_t, .inr (9, [.ref a_t_moment, .int t_style, .int t_used, .long t_day, .int t_second])), (a_q1, .inr (7, [.ref a_q1_values, .ref a_q1_flags, .ref a_q1_order, .int q1_size])), (a_q1_values, .inl (kk 0, 14, .inl q1_values)), (a_q1_flags, .inl (kk 2, 14, .inl q1_flags))]) (hS : va_S A s.heap H locs) : W p l e rm_Resolver_findTime s m args below meth c H locs 0 0 (MQ below (KQi D kk o.1 [(a_t, .inr (9, [.ref a_t_moment, .int t_style, .int o.2.1, .long t_day, .int o.2.2])), (a_q1, .inr (7, [.ref a_q1_values, .ref a_q1_flags, .ref a_q1_order, .int q1_size])), (a_q1_values, .inl (kk 0, 14, .inl q1_values)), (a_q1_flags, .inl (kk 2, 14, .inl q1_flags))] A) args s 0 0 A) (F0 m 106 ls [.int s0]) := by
  have hx := S.1
  have hb := S.2.1
  unfold jn_Resolver_findTime_106 at he
  refine lv_istore_n hx hb d_Resolver_findTime_106 rfl hl (by decide) rfl (fun ls hl => ?_)
  have hl : lv_has ls 6 [(3, .int s0), (0, .ref a_t), (1, .ref a_q1), (2, .int x2)] := hl
  have hl : lv_has ls 6 [(0, .ref a_t), (1, .ref a_q1), (2, .int x2), (3, .int s0)] := lv_sub hl [1, 2, 3, 0] rfl
  exact w_Resolver_findTime_107 a_t a_q1 a_q1_values a_q1_flags a_t_moment a_q1_order t_style t_used t_day t_second q1_size q1_values q1_flags x2 s0 o S hr hlk hA X _ _ ls he hl hP hD hS
set_option maxHeartbeats 4000000 in
set_option maxRecDepth 100000 in
theorem w_Resolver_findTime_105 {p : Program} {l : Launch} {e : Env} {s : State} {m : MethodId} {args : Array Value} {below : List Frame} {meth : Method} {c : Code} {A : Nat → Prop} {D : va_G} {kk : Nat → ClassId} {st : Nat → Nat} (a_t a_q1 a_q1_values a_q1_flags a_t_moment a_q1_order : Nat) (t_style : Int32) (t_used : Int32) (t_day : Int64) (t_second : Int32) (q1_size : Int32) (q1_values : Nat → Int32) (q1_flags : Nat → Int32) (x2 : Int32) (o : Int32 × Int32 × Int32) (S : CallFix p m c b_Resolver_findTime 6 s args GW y_Resolver_findTime.cls) (hr : meth.sig.returnType = (some .boolean)) (hlk : meth.locks = false) (hA : ∀ q, s.heap.size ≤ q → A q) (X : KX D kk st A s) (H : Heap) (locs : List Loc) (ls : Array Slot) (he : jn_Resolver_findTime_105 t_style t_used t_second q1_values q1_flags x2 = some o) (hl : lv_has ls 6 [(0, .ref a_t), (1, .ref a_q1), (2, .int x2)]) (hP : va_P D classes [(a_t, .inr (9, [.ref a_t_moment, .int t_style, .int t_used, .long t_day, .int t_second])), (a_q1, .inr (7, [.ref a_q1_values, .ref a_q1_flags, .ref a_q1_order, .int q1_size])), (a_q1_values, .inl (kk 0, 14, .inl q1_values)), (a_q1_flags, .inl (kk 2, 14, .inl q1_flags))] H) (hD : va_D A [(a_t, .inr (9, [.ref a_t_moment, .int t_style, .int t_used, .long t_day, .int t_second])), (a_q1, .inr (7, [.ref a_q1_values, .ref a_q1_flags, .ref a_q1_order, .int q1_size])), (a_q1_values, .inl (kk 0, 14, .inl q1_values)), (a_q1_flags, .inl (kk 2, 14, .inl q1_flags))]) (hS : va_S A s.heap H locs) : W p l e rm_Resolver_findTime s m args below meth c H locs 0 0 (MQ below (KQi D kk o.1 [(a_t, .inr (9, [.ref a_t_moment, .int t_style, .int o.2.1, .long t_day, .int o.2.2])), (a_q1, .inr (7, [.ref a_q1_values, .ref a_q1_flags, .ref a_q1_order, .int q1_size])), (a_q1_values, .inl (kk 0, 14, .inl q1_values)), (a_q1_flags, .inl (kk 2, 14, .inl q1_flags))] A) args s 0 0 A) (F0 m 105 ls []) := by
  have hx := S.1
  have hb := S.2.1
  unfold jn_Resolver_findTime_105 at he
  refine lv_iconst (v := (0 : Int32)) hx hb d_Resolver_findTime_105 (by decide) ?_
  have hl : lv_has ls 6 [(0, .ref a_t), (1, .ref a_q1), (2, .int x2)] := lv_sub hl [0, 1, 2] rfl
  exact w_Resolver_findTime_106 a_t a_q1 a_q1_values a_q1_flags a_t_moment a_q1_order t_style t_used t_day t_second q1_size q1_values q1_flags x2 (0 : Int32) o S hr hlk hA X _ _ ls he hl hP hD hS
set_option maxHeartbeats 4000000 in
set_option maxRecDepth 100000 in
theorem w_Resolver_findTime_86 {p : Program} {l : Launch} {e : Env} {s : State} {m : MethodId} {args : Array Value} {below : List Frame} {meth : Method} {c : Code} {A : Nat → Prop} {D : va_G} {kk : Nat → ClassId} {st : Nat → Nat} (a_t a_q1 a_q1_values a_q1_flags a_t_moment a_q1_order : Nat) (t_style : Int32) (t_used : Int32) (t_day : Int64) (t_second : Int32) (q1_size : Int32) (q1_values : Nat → Int32) (q1_flags : Nat → Int32) (x4 : Int32) (s0 : Int32) (s1 : Int32) (o : Int32 × Int32 × Int32) (S : CallFix p m c b_Resolver_findTime 6 s args GW y_Resolver_findTime.cls) (hr : meth.sig.returnType = (some .boolean)) (hlk : meth.locks = false) (hA : ∀ q, s.heap.size ≤ q → A q) (X : KX D kk st A s) (H : Heap) (locs : List Loc) (ls : Array Slot) (he : jn_Resolver_findTime_86 t_style t_used t_second q1_values q1_flags x4 s0 s1 = some o) (hl : lv_has ls 6 [(0, .ref a_t), (1, .ref a_q1), (4, .int x4)]) (hP : va_P D classes [(a_t, .inr (9, [.ref a_t_moment, .int t_style, .int t_used, .long t_day, .int t_second])), (a_q1, .inr (7, [.ref a_q1_values, .ref a_q1_flags, .ref a_q1_order, .int q1_size])), (a_q1_values, .inl (kk 0, 14, .inl q1_values)), (a_q1_flags, .inl (kk 2, 14, .inl q1_flags))] H) (hD : va_D A [(a_t, .inr (9, [.ref a_t_moment, .int t_style, .int t_used, .long t_day, .int t_second])), (a_q1, .inr (7, [.ref a_q1_values, .ref a_q1_flags, .ref a_q1_order, .int q1_size])), (a_q1_values, .inl (kk 0, 14, .inl q1_values)), (a_q1_flags, .inl (kk 2, 14, .inl q1_flags))]) (hS : va_S A s.heap H locs) : W p l e rm_Resolver_findTime s m args below meth c H locs 0 0 (MQ below (KQi D kk o.1 [(a_t, .inr (9, [.ref a_t_moment, .int t_style, .int o.2.1, .long t_day, .int o.2.2])), (a_q1, .inr (7, [.ref a_q1_values, .ref a_q1_flags, .ref a_q1_order, .int q1_size])), (a_q1_values, .inl (kk 0, 14, .inl q1_values)), (a_q1_flags, .inl (kk 2, 14, .inl q1_flags))] A) args s 0 0 A) (F0 m 86 ls [.int s1, .int s0]) := by
  have hx := S.1
  have hb := S.2.1
  unfold jn_Resolver_findTime_86 at he
  refine lv_iadd hx hb d_Resolver_findTime_86 ?_
  refine lv_istore_n hx hb d_Resolver_findTime_87 rfl hl (by decide) rfl (fun ls hl => ?_)
  have hl : lv_has ls 6 [(2, .int (s0 + s1)), (0, .ref a_t), (1, .ref a_q1), (4, .int x4)] := hl
  refine lv_iload hx hb d_Resolver_findTime_88 (lv_at hl 3 rfl) ?_
  refine lv_iconst (v := (1 : Int32)) hx hb d_Resolver_findTime_90 (by decide) ?_
  refine lv_icmp_lt (tgt := 105) hx hb d_Resolver_findTime_91 rfl (fun hc => ?_) (fun hc => ?_)
  · have he := ih_t hc he
    have hl : lv_has ls 6 [(0, .ref a_t), (1, .ref a_q1), (2, .int (s0 + s1))] := lv_sub hl [1, 2, 0] rfl
    exact w_Resolver_findTime_105 a_t a_q1 a_q1_values a_q1_flags a_t_moment a_q1_order t_style t_used t_day t_second q1_size q1_values q1_flags (s0 + s1) o S hr hlk hA X _ _ ls he hl hP hD hS
  · have he := ih_f hc he
    refine lv_iload hx hb d_Resolver_findTime_94 (lv_at hl 3 rfl) ?_
    refine lv_bipush (v := (12 : Int32)) hx hb d_Resolver_findTime_96 (by decide) ?_
    refine lv_icmp_gt (tgt := 105) hx hb d_Resolver_findTime_98 rfl (fun hc => ?_) (fun hc => ?_)
    · have he := ih_t hc he
      have hl : lv_has ls 6 [(0, .ref a_t), (1, .ref a_q1), (2, .int (s0 + s1))] := lv_sub hl [1, 2, 0] rfl
      exact w_Resolver_findTime_105 a_t a_q1 a_q1_values a_q1_flags a_t_moment a_q1_order t_style t_used t_day t_second q1_size q1_values q1_flags (s0 + s1) o S hr hlk hA X _ _ ls he hl hP hD hS
    · have he := ih_f hc he
      refine lv_iconst (v := (1 : Int32)) hx hb d_Resolver_findTime_101 (by decide) ?_
      refine lv_goto (tgt := 106) hx hb d_Resolver_findTime_102 rfl ?_
      have hl : lv_has ls 6 [(0, .ref a_t), (1, .ref a_q1), (2, .int (s0 + s1))] := lv_sub hl [1, 2, 0] rfl
      exact w_Resolver_findTime_106 a_t a_q1 a_q1_values a_q1_flags a_t_moment a_q1_order t_style t_used t_day t_second q1_size q1_values q1_flags (s0 + s1) (1 : Int32) o S hr hlk hA X _ _ ls he hl hP hD hS
set_option maxHeartbeats 4000000 in
set_option maxRecDepth 100000 in
theorem w_Resolver_findTime_32 {p : Program} {l : Launch} {e : Env} {s : State} {m : MethodId} {args : Array Value} {below : List Frame} {meth : Method} {c : Code} {A : Nat → Prop} {D : va_G} {kk : Nat → ClassId} {st : Nat → Nat} (a_t a_q1 a_q1_values a_q1_flags a_t_moment a_q1_order : Nat) (t_style : Int32) (t_used : Int32) (t_day : Int64) (t_second : Int32) (q1_size : Int32) (q1_values : Nat → Int32) (q1_flags : Nat → Int32) (x2 : Int32) (s0 : Int32) (o : Int32 × Int32 × Int32) (S : CallFix p m c b_Resolver_findTime 6 s args GW y_Resolver_findTime.cls) (hr : meth.sig.returnType = (some .boolean)) (hlk : meth.locks = false) (hA : ∀ q, s.heap.size ≤ q → A q) (X : KX D kk st A s) (H : Heap) (locs : List Loc) (ls : Array Slot) (he : jn_Resolver_findTime_32 t_style t_used t_second q1_values q1_flags x2 s0 = some o) (hl : lv_has ls 6 [(0, .ref a_t), (1, .ref a_q1), (2, .int x2)]) (hP : va_P D classes [(a_t, .inr (9, [.ref a_t_moment, .int t_style, .int t_used, .long t_day, .int t_second])), (a_q1, .inr (7, [.ref a_q1_values, .ref a_q1_flags, .ref a_q1_order, .int q1_size])), (a_q1_values, .inl (kk 0, 14, .inl q1_values)), (a_q1_flags, .inl (kk 2, 14, .inl q1_flags))] H) (hD : va_D A [(a_t, .inr (9, [.ref a_t_moment, .int t_style, .int t_used, .long t_day, .int t_second])), (a_q1, .inr (7, [.ref a_q1_values, .ref a_q1_flags, .ref a_q1_order, .int q1_size])), (a_q1_values, .inl (kk 0, 14, .inl q1_values)), (a_q1_flags, .inl (kk 2, 14, .inl q1_flags))]) (hS : va_S A s.heap H locs) : W p l e rm_Resolver_findTime s m args below meth c H locs 0 0 (MQ below (KQi D kk o.1 [(a_t, .inr (9, [.ref a_t_moment, .int t_style, .int o.2.1, .long t_day, .int o.2.2])), (a_q1, .inr (7, [.ref a_q1_values, .ref a_q1_flags, .ref a_q1_order, .int q1_size])), (a_q1_values, .inl (kk 0, 14, .inl q1_values)), (a_q1_flags, .inl (kk 2, 14, .inl q1_flags))] A) args s 0 0 A) (F0 m 32 ls [.int s0]) := by
  have hx := S.1
  have hb := S.2.1
  unfold jn_Resolver_findTime_32 at he
  refine lv_istore_n hx hb d_Resolver_findTime_32 rfl hl (by decide) rfl (fun ls hl => ?_)
  have hl : lv_has ls 6 [(3, .int s0), (0, .ref a_t), (1, .ref a_q1), (2, .int x2)] := hl
  refine lv_goto (tgt := 107) hx hb d_Resolver_findTime_33 rfl ?_
  have hl : lv_has ls 6 [(0, .ref a_t), (1, .ref a_q1), (2, .int x2), (3, .int s0)] := lv_sub hl [1, 2, 3, 0] rfl
  exact w_Resolver_findTime_107 a_t a_q1 a_q1_values a_q1_flags a_t_moment a_q1_order t_style t_used t_day t_second q1_size q1_values q1_flags x2 s0 o S hr hlk hA X _ _ ls he hl hP hD hS
set_option maxHeartbeats 4000000 in
set_option maxRecDepth 100000 in
theorem c_Resolver_findTime (l : Launch) (D : va_G) (kk : Nat → ClassId) (st : Nat → Nat) (a_t a_q1 a_q1_values a_q1_flags a_t_moment a_q1_order : Nat) (sz : Nat) (t_style : Int32) (t_used : Int32) (t_day : Int64) (t_second : Int32) (q1_size : Int32) (q1_values : Nat → Int32) (q1_flags : Nat → Int32) (o : Int32 × Int32 × Int32) (he : f_Resolver_findTime t_style t_used t_second q1_values q1_flags = some o) : Met l y_Resolver_findTime (Cond.code y_Resolver_findTime b_Resolver_findTime 6 (some .boolean) :: GW) rm_Resolver_findTime (KPc D kk st [.ref a_t, .ref a_q1] [(a_t, .inr (9, [.ref a_t_moment, .int t_style, .int t_used, .long t_day, .int t_second])), (a_q1, .inr (7, [.ref a_q1_values, .ref a_q1_flags, .ref a_q1_order, .int q1_size])), (a_q1_values, .inl (kk 0, 14, .inl q1_values)), (a_q1_flags, .inl (kk 2, 14, .inl q1_flags))] sz) (KQi D kk o.1 [(a_t, .inr (9, [.ref a_t_moment, .int t_style, .int o.2.1, .long t_day, .int o.2.2])), (a_q1, .inr (7, [.ref a_q1_values, .ref a_q1_flags, .ref a_q1_order, .int q1_size])), (a_q1_values, .inl (kk 0, 14, .inl q1_values)), (a_q1_flags, .inl (kk 2, 14, .inl q1_flags))] (va_A [(a_t, .inr (9, [.ref a_t_moment, .int t_style, .int t_used, .long t_day, .int t_second])), (a_q1, .inr (7, [.ref a_q1_values, .ref a_q1_flags, .ref a_q1_order, .int q1_size])), (a_q1_values, .inl (kk 0, 14, .inl q1_values)), (a_q1_flags, .inl (kk 2, 14, .inl q1_flags))] sz)) 0 0 (va_A [(a_t, .inr (9, [.ref a_t_moment, .int t_style, .int t_used, .long t_day, .int t_second])), (a_q1, .inr (7, [.ref a_q1_values, .ref a_q1_flags, .ref a_q1_order, .int q1_size])), (a_q1_values, .inl (kk 0, 14, .inl q1_values)), (a_q1_flags, .inl (kk 2, 14, .inl q1_flags))] sz) := by
  refine k_start (Qc := fun A => KQi D kk o.1 [(a_t, .inr (9, [.ref a_t_moment, .int t_style, .int o.2.1, .long t_day, .int o.2.2])), (a_q1, .inr (7, [.ref a_q1_values, .ref a_q1_flags, .ref a_q1_order, .int q1_size])), (a_q1_values, .inl (kk 0, 14, .inl q1_values)), (a_q1_flags, .inl (kk 2, 14, .inl q1_flags))] A) (by decide) (Nat.le_of_ble_eq_true rfl) ?_
  intro p e s m below meth c A ls S hnm hr hlk hA X hP hD hS hl
  have hl : lv_has ls 6 [(0, .ref a_t), (1, .ref a_q1)] := hl
  have hx := S.1
  have hb := S.2.1
  unfold f_Resolver_findTime at he
  refine lv_iconst (v := (0 : Int32)) hx hb d_Resolver_findTime_0 (by decide) ?_
  refine lv_istore_n hx hb d_Resolver_findTime_1 rfl hl (by decide) rfl (fun ls hl => ?_)
  have hl : lv_has ls 6 [(2, .int (0 : Int32)), (0, .ref a_t), (1, .ref a_q1)] := hl
  refine lv_iconst (v := (1 : Int32)) hx hb d_Resolver_findTime_2 (by decide) ?_
  refine lv_istore_n hx hb d_Resolver_findTime_3 rfl hl (by decide) rfl (fun ls hl => ?_)
  have hl : lv_has ls 6 [(3, .int (1 : Int32)), (2, .int (0 : Int32)), (0, .ref a_t), (1, .ref a_q1)] := hl
  refine lv_aload_n hx hb d_Resolver_findTime_4 rfl (lv_at hl 3 rfl) ?_
  refine lv_bipush (v := (7 : Int32)) hx hb d_Resolver_findTime_5 (by decide) ?_
  obtain ⟨u1, e2, he⟩ := ih_b he
  refine k_io (r_V (As := [.int (7 : Int32)]) S X hA hP hD hS (c_Known_has l D kk st a_q1 a_q1_flags a_q1_values a_q1_order _ q1_size q1_flags (7 : Int32) u1 e2) gm_4_39 gm_4_40 gm_4_37 gm_4_38 gm_1_8 ⟨rfl, rfl, by decide, by decide⟩ kd_Known_has [1, 3] rfl rfl rfl 1 7 rfl rfl rfl rfl hl.1 rfl (Nat.le_of_ble_eq_true rfl) d_Resolver_findTime_7 ⟨Nat.zero_le _, Nat.zero_le _⟩) hA hP hD hS [1, 3] rfl (fun H locs hP hS => ?_)
  refine lv_if_eq (tgt := 36) hx hb d_Resolver_findTime_10 rfl (fun hc => ?_) (fun hc => ?_)
  · have he := ih_t hc he
    refine lv_aload_n hx hb d_Resolver_findTime_36 rfl (lv_at hl 3 rfl) ?_
    refine lv_bipush (v := (8 : Int32)) hx hb d_Resolver_findTime_37 (by decide) ?_
    obtain ⟨u3, e4, he⟩ := ih_b he
    refine k_io (r_V (As := [.int (8 : Int32)]) S X hA hP hD hS (c_Known_has l D kk st a_q1 a_q1_flags a_q1_values a_q1_order _ q1_size q1_flags (8 : Int32) u3 e4) gm_4_39 gm_4_40 gm_4_37 gm_4_38 gm_1_8 ⟨rfl, rfl, by decide, by decide⟩ kd_Known_has [1, 3] rfl rfl rfl 1 7 rfl rfl rfl rfl hl.1 rfl (Nat.le_of_ble_eq_true rfl) d_Resolver_findTime_39 ⟨Nat.zero_le _, Nat.zero_le _⟩) hA hP hD hS [1, 3] rfl (fun H locs hP hS => ?_)
    refine lv_if_eq (tgt := 107) hx hb d_Resolver_findTime_42 rfl (fun hc => ?_) (fun hc => ?_)
    · have he := ih_t hc he
      have hl : lv_has ls 6 [(0, .ref a_t), (1, .ref a_q1), (2, .int (0 : Int32)), (3, .int (1 : Int32))] := lv_sub hl [2, 3, 1, 0] rfl
      exact w_Resolver_findTime_107 a_t a_q1 a_q1_values a_q1_flags a_t_moment a_q1_order t_style t_used t_day t_second q1_size q1_values q1_flags (0 : Int32) (1 : Int32) o S hr hlk hA X _ _ ls he hl hP hD hS
    · have he := ih_f hc he
      refine lv_aload_n hx hb d_Resolver_findTime_45 rfl (lv_at hl 3 rfl) ?_
      refine lv_bipush (v := (9 : Int32)) hx hb d_Resolver_findTime_46 (by decide) ?_
      obtain ⟨u11, e12, he⟩ := ih_b he
      refine k_io (r_V (As := [.int (9 : Int32)]) S X hA hP hD hS (c_Known_has l D kk st a_q1 a_q1_flags a_q1_values a_q1_order _ q1_size q1_flags (9 : Int32) u11 e12) gm_4_39 gm_4_40 gm_4_37 gm_4_38 gm_1_8 ⟨rfl, rfl, by decide, by decide⟩ kd_Known_has [1, 3] rfl rfl rfl 1 7 rfl rfl rfl rfl hl.1 rfl (Nat.le_of_ble_eq_true rfl) d_Resolver_findTime_48 ⟨Nat.zero_le _, Nat.zero_le _⟩) hA hP hD hS [1, 3] rfl (fun H locs hP hS => ?_)
      refine lv_if_eq (tgt := 107) hx hb d_Resolver_findTime_51 rfl (fun hc => ?_) (fun hc => ?_)
      · have he := ih_t hc he
        have hl : lv_has ls 6 [(0, .ref a_t), (1, .ref a_q1), (2, .int (0 : Int32)), (3, .int (1 : Int32))] := lv_sub hl [2, 3, 1, 0] rfl
        exact w_Resolver_findTime_107 a_t a_q1 a_q1_values a_q1_flags a_t_moment a_q1_order t_style t_used t_day t_second q1_size q1_values q1_flags (0 : Int32) (1 : Int32) o S hr hlk hA X _ _ ls he hl hP hD hS
      · have he := ih_f hc he
        refine lv_aload_n hx hb d_Resolver_findTime_54 rfl (lv_at hl 2 rfl) ?_
        refine lv_aload_n hx hb d_Resolver_findTime_55 rfl (lv_at hl 3 rfl) ?_
        refine lv_bipush (v := (8 : Int32)) hx hb d_Resolver_findTime_56 (by decide) ?_
        obtain ⟨u13, e14, he⟩ := ih_b he
        refine k_i (wr := []) (w1 := [(a_t, .inr (9, [.ref a_t_moment, .int t_style, .int u13.2, .long t_day, .int t_second])), (a_q1, .inr (7, [.ref a_q1_values, .ref a_q1_flags, .ref a_q1_order, .int q1_size])), (a_q1_values, .inl (kk 0, 14, .inl q1_values)), (a_q1_flags, .inl (kk 2, 14, .inl q1_flags))]) (w2 := [(a_t, .inr (9, [.ref a_t_moment, .int t_style, .int u13.2, .long t_day, .int t_second])), (a_q1, .inr (7, [.ref a_q1_values, .ref a_q1_flags, .ref a_q1_order, .int q1_size])), (a_q1_values, .inl (kk 0, 14, .inl q1_values)), (a_q1_flags, .inl (kk 2, 14, .inl q1_flags))]) (r_V (As := [.ref a_q1, .int (8 : Int32)]) S X hA hP hD hS (c_Resolver_use l D kk st a_t a_q1 a_q1_values a_q1_flags a_t_moment a_q1_order _ t_style t_used t_day t_second q1_size q1_values q1_flags (8 : Int32) u13 e14) gm_4_48 gm_4_45 gm_4_47 gm_p2_9 gm_1_9 ⟨rfl, rfl, by decide, by decide⟩ kd_Resolver_use [0, 1, 2, 3] rfl rfl rfl 0 9 rfl rfl rfl rfl hl.1 rfl (Nat.le_of_ble_eq_true rfl) d_Resolver_findTime_58 ⟨Nat.zero_le _, Nat.zero_le _⟩) hA hP hD hS [0, 1, 2, 3] [] [0, 1, 2, 3] rfl rfl rfl (by decide) rfl rfl rfl (fun H locs hP hD hS => ?_)
        refine lv_istore hx hb d_Resolver_findTime_61 hl (by decide) rfl (fun ls hl => ?_)
        have hl : lv_has ls 6 [(4, .int u13.1), (3, .int (1 : Int32)), (2, .int (0 : Int32)), (0, .ref a_t), (1, .ref a_q1)] := hl
        refine lv_bipush (v := (12 : Int32)) hx hb d_Resolver_findTime_63 (by decide) ?_
        refine lv_aload_n hx hb d_Resolver_findTime_65 rfl (lv_at hl 3 rfl) ?_
        refine lv_aload_n hx hb d_Resolver_findTime_66 rfl (lv_at hl 4 rfl) ?_
        refine lv_bipush (v := (9 : Int32)) hx hb d_Resolver_findTime_67 (by decide) ?_
        obtain ⟨u15, e16, he⟩ := ih_b he
        refine k_i (wr := []) (w1 := [(a_t, .inr (9, [.ref a_t_moment, .int t_style, .int u15.2, .long t_day, .int t_second])), (a_q1, .inr (7, [.ref a_q1_values, .ref a_q1_flags, .ref a_q1_order, .int q1_size])), (a_q1_values, .inl (kk 0, 14, .inl q1_values)), (a_q1_flags, .inl (kk 2, 14, .inl q1_flags))]) (w2 := [(a_t, .inr (9, [.ref a_t_moment, .int t_style, .int u15.2, .long t_day, .int t_second])), (a_q1, .inr (7, [.ref a_q1_values, .ref a_q1_flags, .ref a_q1_order, .int q1_size])), (a_q1_values, .inl (kk 0, 14, .inl q1_values)), (a_q1_flags, .inl (kk 2, 14, .inl q1_flags))]) (r_V (As := [.ref a_q1, .int (9 : Int32)]) S X hA hP hD hS (c_Resolver_use l D kk st a_t a_q1 a_q1_values a_q1_flags a_t_moment a_q1_order _ t_style u13.2 t_day t_second q1_size q1_values q1_flags (9 : Int32) u15 e16) gm_4_48 gm_4_45 gm_4_47 gm_p2_9 gm_1_9 ⟨rfl, rfl, by decide, by decide⟩ kd_Resolver_use [0, 1, 2, 3] rfl rfl rfl 0 9 rfl rfl rfl rfl hl.1 rfl (Nat.le_of_ble_eq_true rfl) d_Resolver_findTime_69 ⟨Nat.zero_le _, Nat.zero_le _⟩) hA hP hD hS [0, 1, 2, 3] [] [0, 1, 2, 3] rfl rfl rfl (by decide) rfl rfl rfl (fun H locs hP hD hS => ?_)
        refine lv_imul hx hb d_Resolver_findTime_72 ?_
        refine lv_iload hx hb d_Resolver_findTime_73 (lv_at hl 0 rfl) ?_
        refine lv_bipush (v := (12 : Int32)) hx hb d_Resolver_findTime_75 (by decide) ?_
        refine lv_icmp_ne (tgt := 84) hx hb d_Resolver_findTime_77 rfl (fun hc => ?_) (fun hc => ?_)
        · have he := ih_f hc he
          refine lv_iload hx hb d_Resolver_findTime_84 (lv_at hl 0 rfl) ?_
          have hl : lv_has ls 6 [(0, .ref a_t), (1, .ref a_q1), (4, .int u13.1)] := lv_sub hl [3, 4, 0] rfl
          exact w_Resolver_findTime_86 a_t a_q1 a_q1_values a_q1_flags a_t_moment a_q1_order t_style u15.2 t_day t_second q1_size q1_values q1_flags u13.1 ((12 : Int32) * u15.1) u13.1 o S hr hlk hA X _ _ ls he hl hP hD hS
        · have he := ih_t hc he
          refine lv_iconst (v := (0 : Int32)) hx hb d_Resolver_findTime_80 (by decide) ?_
          refine lv_goto (tgt := 86) hx hb d_Resolver_findTime_81 rfl ?_
          have hl : lv_has ls 6 [(0, .ref a_t), (1, .ref a_q1), (4, .int u13.1)] := lv_sub hl [3, 4, 0] rfl
          exact w_Resolver_findTime_86 a_t a_q1 a_q1_values a_q1_flags a_t_moment a_q1_order t_style u15.2 t_day t_second q1_size q1_values q1_flags u13.1 ((12 : Int32) * u15.1) (0 : Int32) o S hr hlk hA X _ _ ls he hl hP hD hS
  · have he := ih_f hc he
    refine lv_aload_n hx hb d_Resolver_findTime_13 rfl (lv_at hl 2 rfl) ?_
    refine lv_aload_n hx hb d_Resolver_findTime_14 rfl (lv_at hl 3 rfl) ?_
    refine lv_bipush (v := (7 : Int32)) hx hb d_Resolver_findTime_15 (by decide) ?_
    obtain ⟨u17, e18, he⟩ := ih_b he
    refine k_i (wr := []) (w1 := [(a_t, .inr (9, [.ref a_t_moment, .int t_style, .int u17.2, .long t_day, .int t_second])), (a_q1, .inr (7, [.ref a_q1_values, .ref a_q1_flags, .ref a_q1_order, .int q1_size])), (a_q1_values, .inl (kk 0, 14, .inl q1_values)), (a_q1_flags, .inl (kk 2, 14, .inl q1_flags))]) (w2 := [(a_t, .inr (9, [.ref a_t_moment, .int t_style, .int u17.2, .long t_day, .int t_second])), (a_q1, .inr (7, [.ref a_q1_values, .ref a_q1_flags, .ref a_q1_order, .int q1_size])), (a_q1_values, .inl (kk 0, 14, .inl q1_values)), (a_q1_flags, .inl (kk 2, 14, .inl q1_flags))]) (r_V (As := [.ref a_q1, .int (7 : Int32)]) S X hA hP hD hS (c_Resolver_use l D kk st a_t a_q1 a_q1_values a_q1_flags a_t_moment a_q1_order _ t_style t_used t_day t_second q1_size q1_values q1_flags (7 : Int32) u17 e18) gm_4_48 gm_4_45 gm_4_47 gm_p2_9 gm_1_9 ⟨rfl, rfl, by decide, by decide⟩ kd_Resolver_use [0, 1, 2, 3] rfl rfl rfl 0 9 rfl rfl rfl rfl hl.1 rfl (Nat.le_of_ble_eq_true rfl) d_Resolver_findTime_17 ⟨Nat.zero_le _, Nat.zero_le _⟩) hA hP hD hS [0, 1, 2, 3] [] [0, 1, 2, 3] rfl rfl rfl (by decide) rfl rfl rfl (fun H locs hP hD hS => ?_)
    refine lv_istore_n hx hb d_Resolver_findTime_20 rfl hl (by decide) rfl (fun ls hl => ?_)
    have hl : lv_has ls 6 [(2, .int u17.1), (3, .int (1 : Int32)), (0, .ref a_t), (1, .ref a_q1)] := hl
    refine lv_iload_n hx hb d_Resolver_findTime_21 rfl (lv_at hl 0 rfl) ?_
    refine lv_bipush (v := (23 : Int32)) hx hb d_Resolver_findTime_22 (by decide) ?_
    refine lv_icmp_gt (tgt := 31) hx hb d_Resolver_findTime_24 rfl (fun hc => ?_) (fun hc => ?_)
    · have he := ih_t hc he
      refine lv_iconst (v := (0 : Int32)) hx hb d_Resolver_findTime_31 (by decide) ?_
      have hl : lv_has ls 6 [(0, .ref a_t), (1, .ref a_q1), (2, .int u17.1)] := lv_sub hl [2, 3, 0] rfl
      exact w_Resolver_findTime_32 a_t a_q1 a_q1_values a_q1_flags a_t_moment a_q1_order t_style u17.2 t_day t_second q1_size q1_values q1_flags u17.1 (0 : Int32) o S hr hlk hA X _ _ ls he hl hP hD hS
    · have he := ih_f hc he
      refine lv_iconst (v := (1 : Int32)) hx hb d_Resolver_findTime_27 (by decide) ?_
      refine lv_goto (tgt := 32) hx hb d_Resolver_findTime_28 rfl ?_
      have hl : lv_has ls 6 [(0, .ref a_t), (1, .ref a_q1), (2, .int u17.1)] := lv_sub hl [2, 3, 0] rfl
      exact w_Resolver_findTime_32 a_t a_q1 a_q1_values a_q1_flags a_t_moment a_q1_order t_style u17.2 t_day t_second q1_size q1_values q1_flags u17.1 (1 : Int32) o S hr hlk hA X _ _ ls he hl hP hD hS
abbrev rm_Resolver_agrees : Room := { frames := 2, cells := 0, slots := 0, locals := 42 }
set_option maxHeartbeats 4000000 in
set_option maxRecDepth 100000 in
theorem w_Resolver_agrees_2 {p : Program} {l : Launch} {e : Env} {s : State} {m : MethodId} {args : Array Value} {below : List Frame} {meth : Method} {c : Code} {Q : State → Prop} {A : Nat → Prop} {D : va_G} {kk : Nat → ClassId} {st : Nat → Nat} (a_t a_t_moment a_t_moment_values a_q1 a_q1_values a_q1_flags a_q1_order : Nat) (t_style : Int32) (t_used : Int32) (t_day : Int64) (t_second : Int32) (t_moment_seconds : Int64) (t_moment_parts : Int32) (t_moment_values : Nat → Int32) (q1_size : Int32) (q1_values : Nat → Int32) (q1_flags : Nat → Int32) (S : CallFix p m c b_Resolver_agrees 4 s args GW y_Resolver_agrees.cls) (hr : meth.sig.returnType = (some .boolean)) (hlk : meth.locks = false) (hA : ∀ q, s.heap.size ≤ q → A q) (X : KX D kk st A s) : ∀ (n : Nat) (x2 : Int32) (v : (Int32) ⊕ (Int32)) (H : Heap) (locs : List Loc) (ls : Array Slot), lp_Resolver_agrees_2 t_used t_moment_values q1_values q1_flags n x2 = some v → lv_has ls 4 [(0, .ref a_t), (1, .ref a_q1), (2, .int x2)] → va_P D classes [(a_t, .inr (9, [.ref a_t_moment, .int t_style, .int t_used, .long t_day, .int t_second])), (a_t_moment, .inr (5, [.ref a_t_moment_values, .long t_moment_seconds, .int t_moment_parts])), (a_t_moment_values, .inl (kk 0, 14, .inl t_moment_values)), (a_q1, .inr (7, [.ref a_q1_values, .ref a_q1_flags, .ref a_q1_order, .int q1_size])), (a_q1_values, .inl (kk 0, 14, .inl q1_values)), (a_q1_flags, .inl (kk 2, 14, .inl q1_flags))] H → va_D A [(a_t, .inr (9, [.ref a_t_moment, .int t_style, .int t_used, .long t_day, .int t_second])), (a_t_moment, .inr (5, [.ref a_t_moment_values, .long t_moment_seconds, .int t_moment_parts])), (a_t_moment_values, .inl (kk 0, 14, .inl t_moment_values)), (a_q1, .inr (7, [.ref a_q1_values, .ref a_q1_flags, .ref a_q1_order, .int q1_size])), (a_q1_values, .inl (kk 0, 14, .inl q1_values)), (a_q1_flags, .inl (kk 2, 14, .inl q1_flags))] → va_S A s.heap H locs → (∀ o : Int32, v = .inl o → Q = MQ below (KQi D kk o [(a_t, .inr (9, [.ref a_t_moment, .int t_style, .int t_used, .long t_day, .int t_second])), (a_t_moment, .inr (5, [.ref a_t_moment_values, .long t_moment_seconds, .int t_moment_parts])), (a_t_moment_values, .inl (kk 0, 14, .inl t_moment_values)), (a_q1, .inr (7, [.ref a_q1_values, .ref a_q1_flags, .ref a_q1_order, .int q1_size])), (a_q1_values, .inl (kk 0, 14, .inl q1_values)), (a_q1_flags, .inl (kk 2, 14, .inl q1_flags))] A) args s 0 0 A) → (∀ v' : Int32, v = .inr v' → ∀ (H : Heap) (locs : List Loc) (ls : Array Slot), lv_has ls 4 [(0, .ref a_t), (1, .ref a_q1), (2, .int v')] → va_P D classes [(a_t, .inr (9, [.ref a_t_moment, .int t_style, .int t_used, .long t_day, .int t_second])), (a_t_moment, .inr (5, [.ref a_t_moment_values, .long t_moment_seconds, .int t_moment_parts])), (a_t_moment_values, .inl (kk 0, 14, .inl t_moment_values)), (a_q1, .inr (7, [.ref a_q1_values, .ref a_q1_flags, .ref a_q1_order, .int q1_size])), (a_q1_values, .inl (kk 0, 14, .inl q1_values)), (a_q1_flags, .inl (kk 2, 14, .inl q1_flags))] H → va_D A [(a_t, .inr (9, [.ref a_t_moment, .int t_style, .int t_used, .long t_day, .int t_second])), (a_t_moment, .inr (5, [.ref a_t_moment_values, .long t_moment_seconds, .int t_moment_parts])), (a_t_moment_values, .inl (kk 0, 14, .inl t_moment_values)), (a_q1, .inr (7, [.ref a_q1_values, .ref a_q1_flags, .ref a_q1_order, .int q1_size])), (a_q1_values, .inl (kk 0, 14, .inl q1_values)), (a_q1_flags, .inl (kk 2, 14, .inl q1_flags))] → va_S A s.heap H locs → W p l e rm_Resolver_agrees s m args below meth c H locs 0 0 Q (F0 m 61 ls [])) → W p l e rm_Resolver_agrees s m args below meth c H locs 0 0 Q (F0 m 2 ls []) := by
  intro n
  induction n with
  | zero =>
    intro x2 v H locs ls he hl hP hD hS hret K
    exact ih_n he
  | succ n ih =>
    intro x2 v H locs ls he hl hP hD hS hret K
    have hx := S.1
    have hb := S.2.1
    have he : st_Resolver_agrees_2 t_used t_moment_values q1_values q1_flags (lp_Resolver_agrees_2 t_used t_moment_values q1_values q1_flags n) x2 = some v := he
    unfold st_Resolver_agrees_2 at he
    refine lv_iload_n hx hb d_Resolver_agrees_2 rfl (lv_at hl 2 rfl) ?_
    refine lv_bipush (v := (12 : Int32)) hx hb d_Resolver_agrees_3 (by decide) ?_
    refine lv_icmp_gt (tgt := 61) hx hb d_Resolver_agrees_5 rfl (fun hc => ?_) (fun hc => ?_)
    · have he := ih_t hc he
      have hl : lv_has ls 4 [(0, .ref a_t), (1, .ref a_q1), (2, .int x2)] := lv_sub hl [0, 1, 2] rfl
      cases he
      exact K _ rfl _ _ _ hl hP hD hS
    · have he := ih_f hc he
      refine lv_aload_n hx hb d_Resolver_agrees_8 rfl (lv_at hl 1 rfl) ?_
      refine lv_iload_n hx hb d_Resolver_agrees_9 rfl (lv_at hl 2 rfl) ?_
      obtain ⟨u1, e2, he⟩ := ih_b he
      refine k_io (r_V (As := [.int x2]) S X hA hP hD hS (c_Known_has l D kk st a_q1 a_q1_flags a_q1_values a_q1_order _ q1_size q1_flags x2 u1 e2) gm_4_39 gm_4_40 gm_4_37 gm_4_38 gm_1_8 ⟨rfl, rfl, by decide, by decide⟩ kd_Known_has [3, 5] rfl rfl rfl 3 7 rfl rfl rfl rfl hl.1 rfl (Nat.le_of_ble_eq_true rfl) d_Resolver_agrees_10 ⟨Nat.zero_le _, Nat.zero_le _⟩) hA hP hD hS [3, 5] rfl (fun H locs hP hS => ?_)
      refine lv_if_eq (tgt := 31) hx hb d_Resolver_agrees_13 rfl (fun hc => ?_) (fun hc => ?_)
      · have he := ih_t hc he
        refine lv_iconst (v := (0 : Int32)) hx hb d_Resolver_agrees_31 (by decide) ?_
        refine lv_istore_n hx hb d_Resolver_agrees_32 rfl hl (by decide) rfl (fun ls hl => ?_)
        have hl : lv_has ls 4 [(3, .int (0 : Int32)), (0, .ref a_t), (1, .ref a_q1), (2, .int x2)] := hl
        refine lv_iload_n hx hb d_Resolver_agrees_33 rfl (lv_at hl 0 rfl) ?_
        refine lv_if_eq (tgt := 55) hx hb d_Resolver_agrees_34 rfl (fun hc => ?_) (fun hc => ?_)
        · refine lv_iinc (k := 3) hx hb d_Resolver_agrees_55 hl rfl (ii_ (v := (1 : Int32)) (by decide)) (by decide) rfl (fun ls hl => ?_)
          have hl : lv_has ls 4 [(2, .int (x2 + (1 : Int32))), (3, .int (0 : Int32)), (0, .ref a_t), (1, .ref a_q1)] := hl
          refine lv_goto (tgt := 2) hx hb d_Resolver_agrees_58 rfl ?_
          have hl : lv_has ls 4 [(0, .ref a_t), (1, .ref a_q1), (2, .int (x2 + (1 : Int32)))] := lv_sub hl [2, 3, 0] rfl
          exact ih _ _ _ _ _ he hl hP hD hS hret K
        · exact absurd (by decide) hc
      · have he := ih_f hc he
        refine lv_aload_n hx hb d_Resolver_agrees_16 rfl (lv_at hl 0 rfl) ?_
        refine k_get S X us_Resolver hP 0 rfl rfl 2 (by decide) gm_1_193 rfl d_Resolver_agrees_17 ?_
        refine lv_iload_n hx hb d_Resolver_agrees_20 rfl (lv_at hl 2 rfl) ?_
        refine lv_ishr hx hb d_Resolver_agrees_21 ?_
        refine lv_iconst (v := (1 : Int32)) hx hb d_Resolver_agrees_22 (by decide) ?_
        refine lv_iand hx hb d_Resolver_agrees_23 ?_
        refine lv_if_ne (tgt := 31) hx hb d_Resolver_agrees_24 rfl (fun hc => ?_) (fun hc => ?_)
        · have he := ih_f hc he
          refine lv_iconst (v := (0 : Int32)) hx hb d_Resolver_agrees_31 (by decide) ?_
          refine lv_istore_n hx hb d_Resolver_agrees_32 rfl hl (by decide) rfl (fun ls hl => ?_)
          have hl : lv_has ls 4 [(3, .int (0 : Int32)), (0, .ref a_t), (1, .ref a_q1), (2, .int x2)] := hl
          refine lv_iload_n hx hb d_Resolver_agrees_33 rfl (lv_at hl 0 rfl) ?_
          refine lv_if_eq (tgt := 55) hx hb d_Resolver_agrees_34 rfl (fun hc => ?_) (fun hc => ?_)
          · refine lv_iinc (k := 3) hx hb d_Resolver_agrees_55 hl rfl (ii_ (v := (1 : Int32)) (by decide)) (by decide) rfl (fun ls hl => ?_)
            have hl : lv_has ls 4 [(2, .int (x2 + (1 : Int32))), (3, .int (0 : Int32)), (0, .ref a_t), (1, .ref a_q1)] := hl
            refine lv_goto (tgt := 2) hx hb d_Resolver_agrees_58 rfl ?_
            have hl : lv_has ls 4 [(0, .ref a_t), (1, .ref a_q1), (2, .int (x2 + (1 : Int32)))] := lv_sub hl [2, 3, 0] rfl
            exact ih _ _ _ _ _ he hl hP hD hS hret K
          · exact absurd (by decide) hc
        · have he := ih_t hc he
          refine lv_iconst (v := (1 : Int32)) hx hb d_Resolver_agrees_27 (by decide) ?_
          refine lv_goto (tgt := 32) hx hb d_Resolver_agrees_28 rfl ?_
          refine lv_istore_n hx hb d_Resolver_agrees_32 rfl hl (by decide) rfl (fun ls hl => ?_)
          have hl : lv_has ls 4 [(3, .int (1 : Int32)), (0, .ref a_t), (1, .ref a_q1), (2, .int x2)] := hl
          refine lv_iload_n hx hb d_Resolver_agrees_33 rfl (lv_at hl 0 rfl) ?_
          refine lv_if_eq (tgt := 55) hx hb d_Resolver_agrees_34 rfl (fun hc => ?_) (fun hc => ?_)
          · exact absurd hc (by decide)
          · refine lv_aload_n hx hb d_Resolver_agrees_37 rfl (lv_at hl 2 rfl) ?_
            refine lv_iload_n hx hb d_Resolver_agrees_38 rfl (lv_at hl 3 rfl) ?_
            obtain ⟨u3, e4, he⟩ := ih_b he
            refine k_io (r_V (As := [.int x2]) S X hA hP hD hS (c_Known_value l D kk st a_q1 a_q1_values a_q1_flags a_q1_order _ q1_size q1_values q1_flags x2 u3 e4) gm_4_52 gm_4_49 gm_4_50 gm_4_51 gm_1_8 ⟨rfl, rfl, by decide, by decide⟩ kd_Known_value [3, 4, 5] rfl rfl rfl 3 7 rfl rfl rfl rfl hl.1 rfl (Nat.le_of_ble_eq_true rfl) d_Resolver_agrees_39 ⟨Nat.zero_le _, Nat.zero_le _⟩) hA hP hD hS [3, 4, 5] rfl (fun H locs hP hS => ?_)
            refine lv_aload_n hx hb d_Resolver_agrees_42 rfl (lv_at hl 1 rfl) ?_
            refine k_get S X us_Resolver hP 0 rfl rfl 0 (by decide) gm_1_190 rfl d_Resolver_agrees_43 ?_
            refine lv_iload_n hx hb d_Resolver_agrees_46 rfl (lv_at hl 3 rfl) ?_
            obtain ⟨u5, e6, he⟩ := ih_b he
            refine k_io (r_V (As := [.int x2]) S X hA hP hD hS (c_Moment_value l D kk st a_t_moment a_t_moment_values _ t_moment_seconds t_moment_parts t_moment_values x2 u5 e6) gm_3_37 gm_4_97 gm_3_35 gm_3_36 gm_1_10 ⟨rfl, rfl, by decide, by decide⟩ kd_Moment_value [1, 2] rfl rfl rfl 1 5 rfl rfl rfl rfl hl.1 rfl (Nat.le_of_ble_eq_true rfl) d_Resolver_agrees_47 ⟨Nat.zero_le _, Nat.zero_le _⟩) hA hP hD hS [1, 2] rfl (fun H locs hP hS => ?_)
            refine lv_icmp_eq (tgt := 55) hx hb d_Resolver_agrees_50 rfl (fun hc => ?_) (fun hc => ?_)
            · have he := ih_t hc he
              refine lv_iinc (k := 3) hx hb d_Resolver_agrees_55 hl rfl (ii_ (v := (1 : Int32)) (by decide)) (by decide) rfl (fun ls hl => ?_)
              have hl : lv_has ls 4 [(2, .int (x2 + (1 : Int32))), (3, .int (1 : Int32)), (0, .ref a_t), (1, .ref a_q1)] := hl
              refine lv_goto (tgt := 2) hx hb d_Resolver_agrees_58 rfl ?_
              have hl : lv_has ls 4 [(0, .ref a_t), (1, .ref a_q1), (2, .int (x2 + (1 : Int32)))] := lv_sub hl [2, 3, 0] rfl
              exact ih _ _ _ _ _ he hl hP hD hS hret K
            · have he := ih_f hc he
              refine lv_iconst (v := (0 : Int32)) hx hb d_Resolver_agrees_53 (by decide) ?_
              cases he
              have hq := hret _ rfl
              subst hq
              exact k_zre hx hb hr hlk X hP hD hS (Or.inl rfl) d_Resolver_agrees_54
set_option maxHeartbeats 4000000 in
set_option maxRecDepth 100000 in
theorem c_Resolver_agrees (l : Launch) (D : va_G) (kk : Nat → ClassId) (st : Nat → Nat) (a_t a_t_moment a_t_moment_values a_q1 a_q1_values a_q1_flags a_q1_order : Nat) (sz : Nat) (t_style : Int32) (t_used : Int32) (t_day : Int64) (t_second : Int32) (t_moment_seconds : Int64) (t_moment_parts : Int32) (t_moment_values : Nat → Int32) (q1_size : Int32) (q1_values : Nat → Int32) (q1_flags : Nat → Int32) (o : Int32) (he : f_Resolver_agrees t_used t_moment_values q1_values q1_flags = some o) : Met l y_Resolver_agrees (Cond.code y_Resolver_agrees b_Resolver_agrees 4 (some .boolean) :: GW) rm_Resolver_agrees (KPc D kk st [.ref a_t, .ref a_q1] [(a_t, .inr (9, [.ref a_t_moment, .int t_style, .int t_used, .long t_day, .int t_second])), (a_t_moment, .inr (5, [.ref a_t_moment_values, .long t_moment_seconds, .int t_moment_parts])), (a_t_moment_values, .inl (kk 0, 14, .inl t_moment_values)), (a_q1, .inr (7, [.ref a_q1_values, .ref a_q1_flags, .ref a_q1_order, .int q1_size])), (a_q1_values, .inl (kk 0, 14, .inl q1_values)), (a_q1_flags, .inl (kk 2, 14, .inl q1_flags))] sz) (KQi D kk o [(a_t, .inr (9, [.ref a_t_moment, .int t_style, .int t_used, .long t_day, .int t_second])), (a_t_moment, .inr (5, [.ref a_t_moment_values, .long t_moment_seconds, .int t_moment_parts])), (a_t_moment_values, .inl (kk 0, 14, .inl t_moment_values)), (a_q1, .inr (7, [.ref a_q1_values, .ref a_q1_flags, .ref a_q1_order, .int q1_size])), (a_q1_values, .inl (kk 0, 14, .inl q1_values)), (a_q1_flags, .inl (kk 2, 14, .inl q1_flags))] (va_A [(a_t, .inr (9, [.ref a_t_moment, .int t_style, .int t_used, .long t_day, .int t_second])), (a_t_moment, .inr (5, [.ref a_t_moment_values, .long t_moment_seconds, .int t_moment_parts])), (a_t_moment_values, .inl (kk 0, 14, .inl t_moment_values)), (a_q1, .inr (7, [.ref a_q1_values, .ref a_q1_flags, .ref a_q1_order, .int q1_size])), (a_q1_values, .inl (kk 0, 14, .inl q1_values)), (a_q1_flags, .inl (kk 2, 14, .inl q1_flags))] sz)) 0 0 (va_A [(a_t, .inr (9, [.ref a_t_moment, .int t_style, .int t_used, .long t_day, .int t_second])), (a_t_moment, .inr (5, [.ref a_t_moment_values, .long t_moment_seconds, .int t_moment_parts])), (a_t_moment_values, .inl (kk 0, 14, .inl t_moment_values)), (a_q1, .inr (7, [.ref a_q1_values, .ref a_q1_flags, .ref a_q1_order, .int q1_size])), (a_q1_values, .inl (kk 0, 14, .inl q1_values)), (a_q1_flags, .inl (kk 2, 14, .inl q1_flags))] sz) := by
  refine k_start (Qc := fun A => KQi D kk o [(a_t, .inr (9, [.ref a_t_moment, .int t_style, .int t_used, .long t_day, .int t_second])), (a_t_moment, .inr (5, [.ref a_t_moment_values, .long t_moment_seconds, .int t_moment_parts])), (a_t_moment_values, .inl (kk 0, 14, .inl t_moment_values)), (a_q1, .inr (7, [.ref a_q1_values, .ref a_q1_flags, .ref a_q1_order, .int q1_size])), (a_q1_values, .inl (kk 0, 14, .inl q1_values)), (a_q1_flags, .inl (kk 2, 14, .inl q1_flags))] A) (by decide) (Nat.le_of_ble_eq_true rfl) ?_
  intro p e s m below meth c A ls S hnm hr hlk hA X hP hD hS hl
  have hl : lv_has ls 4 [(0, .ref a_t), (1, .ref a_q1)] := hl
  have hx := S.1
  have hb := S.2.1
  unfold f_Resolver_agrees at he
  refine lv_iconst (v := (0 : Int32)) hx hb d_Resolver_agrees_0 (by decide) ?_
  refine lv_istore_n hx hb d_Resolver_agrees_1 rfl hl (by decide) rfl (fun ls hl => ?_)
  have hl : lv_has ls 4 [(2, .int (0 : Int32)), (0, .ref a_t), (1, .ref a_q1)] := hl
  obtain ⟨u7, e8, he⟩ := ih_b he
  have hl : lv_has ls 4 [(0, .ref a_t), (1, .ref a_q1), (2, .int (0 : Int32))] := lv_sub hl [1, 2, 0] rfl
  rcases u7 with o9 | v10
  · have he := sel_l he
    cases he
    exact w_Resolver_agrees_2 a_t a_t_moment a_t_moment_values a_q1 a_q1_values a_q1_flags a_q1_order t_style t_used t_day t_second t_moment_seconds t_moment_parts t_moment_values q1_size q1_values q1_flags S hr hlk hA X FU (0 : Int32) _ _ _ ls e8 hl hP hD hS (fun o h => by cases h; rfl) (fun v h => by cases h)
  · have he := sel_r he
    refine w_Resolver_agrees_2 a_t a_t_moment a_t_moment_values a_q1 a_q1_values a_q1_flags a_q1_order t_style t_used t_day t_second t_moment_seconds t_moment_parts t_moment_values q1_size q1_values q1_flags S hr hlk hA X FU (0 : Int32) _ _ _ ls e8 hl hP hD hS (fun o h => by cases h) (fun v h H locs ls hl hP hD hS => ?_)
    have h := Sum.inr.inj h
    subst h
    refine lv_iconst (v := (1 : Int32)) hx hb d_Resolver_agrees_61 (by decide) ?_
    cases he
    exact k_zre hx hb hr hlk X hP hD hS (Or.inr rfl) d_Resolver_agrees_62
