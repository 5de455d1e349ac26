abbrev b_SkeletonClockModel_proper : ByteArray := prog_14_method_56_code
def y_SkeletonClockModel_proper : MethodName := ⟨"SkeletonClockModel", "proper", "(II)Z"⟩
theorem kd_SkeletonClockModel_proper : kd_ok y_SkeletonClockModel_proper 2 := by decide +kernel
abbrev b_SkeletonClockModel_dayBy : ByteArray := prog_14_method_57_code
def y_SkeletonClockModel_dayBy : MethodName := ⟨"SkeletonClockModel", "dayBy", "(II)J"⟩
theorem kd_SkeletonClockModel_dayBy : kd_ok y_SkeletonClockModel_dayBy 2 := by decide +kernel
abbrev b_SkeletonClockModel_hour : ByteArray := prog_14_method_58_code
def y_SkeletonClockModel_hour : MethodName := ⟨"SkeletonClockModel", "hour", "()J"⟩
theorem kd_SkeletonClockModel_hour : kd_ok y_SkeletonClockModel_hour 0 := by decide +kernel
abbrev b_SkeletonClockModel_properTime : ByteArray := prog_14_method_59_code
def y_SkeletonClockModel_properTime : MethodName := ⟨"SkeletonClockModel", "properTime", "()Z"⟩
theorem kd_SkeletonClockModel_properTime : kd_ok y_SkeletonClockModel_properTime 0 := by decide +kernel
abbrev b_SkeletonClockModel_usedBy : ByteArray := prog_14_method_60_code
def y_SkeletonClockModel_usedBy : MethodName := ⟨"SkeletonClockModel", "usedBy", "(II)Z"⟩
theorem kd_SkeletonClockModel_usedBy : kd_ok y_SkeletonClockModel_usedBy 2 := by decide +kernel
theorem gm_6_3 : Cond.code ({ cls := "SkeletonClockModel", name := "firstMonday", desc := "(J)J" } : MethodName) prog_14_method_10_code (4 : Nat) (Option.some FieldType.long) ∈ GW := gw_6 (i := 3) rfl rfl
theorem gm_6_1 : Cond.methodLink "SkeletonClockModel" (332 : Nat) ({ cls := "SkeletonClockModel", name := "firstMonday", desc := "(J)J" } : MethodName) ∈ GW := gw_6 (i := 1) rfl rfl
theorem gm_6_2 : Cond.static ({ cls := "SkeletonClockModel", name := "firstMonday", desc := "(J)J" } : MethodName) ∈ GW := gw_6 (i := 2) rfl rfl
theorem gm_5_239 : Cond.code ({ cls := "SkeletonClockModel", name := "within", desc := "(IJJ)Z" } : MethodName) prog_14_method_53_code (6 : Nat) (Option.some FieldType.boolean) ∈ GW := gw_5 (i := 239) rfl rfl
theorem gm_5_236 : Cond.methodLink "SkeletonClockModel" (326 : Nat) ({ cls := "SkeletonClockModel", name := "within", desc := "(IJJ)Z" } : MethodName) ∈ GW := gw_5 (i := 236) rfl rfl
theorem gm_5_238 : Cond.instanceMethod ({ cls := "SkeletonClockModel", name := "within", desc := "(IJJ)Z" } : MethodName) ∈ GW := gw_5 (i := 238) rfl rfl
theorem gm_p4_14 : Cond.selects "SkeletonClockModel" ⟨"SkeletonClockModel", "within", "(IJJ)Z"⟩ ⟨"SkeletonClockModel", "within", "(IJJ)Z"⟩ ∈ GW := gs_4 (i := 14) rfl
theorem gm_5_235 : Cond.constantLong "SkeletonClockModel" (324 : Nat) (12 : Int64) ∈ GW := gw_5 (i := 235) rfl rfl
theorem gm_6_0 : Cond.constantLong "SkeletonClockModel" (330 : Nat) (31 : Int64) ∈ GW := gw_6 (i := 0) rfl rfl
theorem gm_6_8 : Cond.constantLong "SkeletonClockModel" (335 : Nat) (23 : Int64) ∈ GW := gw_6 (i := 8) rfl rfl
theorem d_SkeletonClockModel_proper_0 : decode b_SkeletonClockModel_proper 0 = .ok (.iload_n 1, 1) := by decide +kernel
theorem d_SkeletonClockModel_proper_1 : decode b_SkeletonClockModel_proper 1 = .ok (.iconst 1, 1) := by decide +kernel
theorem d_SkeletonClockModel_proper_2 : decode b_SkeletonClockModel_proper 2 = .ok (.if_icmp .ne 52, 3) := by decide +kernel
theorem d_SkeletonClockModel_proper_5 : decode b_SkeletonClockModel_proper 5 = .ok (.aload_n 0, 1) := by decide +kernel
theorem d_SkeletonClockModel_proper_6 : decode b_SkeletonClockModel_proper 6 = .ok (.iconst 1, 1) := by decide +kernel
theorem d_SkeletonClockModel_proper_7 : decode b_SkeletonClockModel_proper 7 = .ok (.lconst 1, 1) := by decide +kernel
theorem d_SkeletonClockModel_proper_8 : decode b_SkeletonClockModel_proper 8 = .ok (.ldc2_w 324, 3) := by decide +kernel
theorem d_SkeletonClockModel_proper_11 : decode b_SkeletonClockModel_proper 11 = .ok (.invokevirtual 326, 3) := by decide +kernel
theorem d_SkeletonClockModel_proper_14 : decode b_SkeletonClockModel_proper 14 = .ok (.ifCond .ne 5, 3) := by decide +kernel
theorem d_SkeletonClockModel_proper_17 : decode b_SkeletonClockModel_proper 17 = .ok (.iconst 0, 1) := by decide +kernel
theorem d_SkeletonClockModel_proper_18 : decode b_SkeletonClockModel_proper 18 = .ok (.ireturn, 1) := by decide +kernel
theorem d_SkeletonClockModel_proper_19 : decode b_SkeletonClockModel_proper 19 = .ok (.aload_n 0, 1) := by decide +kernel
theorem d_SkeletonClockModel_proper_20 : decode b_SkeletonClockModel_proper 20 = .ok (.iconst 2, 1) := by decide +kernel
theorem d_SkeletonClockModel_proper_21 : decode b_SkeletonClockModel_proper 21 = .ok (.lconst 1, 1) := by decide +kernel
theorem d_SkeletonClockModel_proper_22 : decode b_SkeletonClockModel_proper 22 = .ok (.iload_n 2, 1) := by decide +kernel
theorem d_SkeletonClockModel_proper_23 : decode b_SkeletonClockModel_proper 23 = .ok (.iconst 1, 1) := by decide +kernel
theorem d_SkeletonClockModel_proper_24 : decode b_SkeletonClockModel_proper 24 = .ok (.if_icmp .ne 9, 3) := by decide +kernel
theorem d_SkeletonClockModel_proper_27 : decode b_SkeletonClockModel_proper 27 = .ok (.ldc2_w 330, 3) := by decide +kernel
theorem d_SkeletonClockModel_proper_30 : decode b_SkeletonClockModel_proper 30 = .ok (.goto 20, 3) := by decide +kernel
theorem d_SkeletonClockModel_proper_33 : decode b_SkeletonClockModel_proper 33 = .ok (.aload_n 0, 1) := by decide +kernel
theorem d_SkeletonClockModel_proper_34 : decode b_SkeletonClockModel_proper 34 = .ok (.getfield 59, 3) := by decide +kernel
theorem d_SkeletonClockModel_proper_37 : decode b_SkeletonClockModel_proper 37 = .ok (.iconst 0, 1) := by decide +kernel
theorem d_SkeletonClockModel_proper_38 : decode b_SkeletonClockModel_proper 38 = .ok (.laload, 1) := by decide +kernel
theorem d_SkeletonClockModel_proper_39 : decode b_SkeletonClockModel_proper 39 = .ok (.aload_n 0, 1) := by decide +kernel
theorem d_SkeletonClockModel_proper_40 : decode b_SkeletonClockModel_proper 40 = .ok (.getfield 59, 3) := by decide +kernel
theorem d_SkeletonClockModel_proper_43 : decode b_SkeletonClockModel_proper 43 = .ok (.iconst 1, 1) := by decide +kernel
theorem d_SkeletonClockModel_proper_44 : decode b_SkeletonClockModel_proper 44 = .ok (.laload, 1) := by decide +kernel
theorem d_SkeletonClockModel_proper_45 : decode b_SkeletonClockModel_proper 45 = .ok (.l2i, 1) := by decide +kernel
theorem d_SkeletonClockModel_proper_46 : decode b_SkeletonClockModel_proper 46 = .ok (.invokestatic 138, 3) := by decide +kernel
theorem d_SkeletonClockModel_proper_49 : decode b_SkeletonClockModel_proper 49 = .ok (.i2l, 1) := by decide +kernel
theorem d_SkeletonClockModel_proper_50 : decode b_SkeletonClockModel_proper 50 = .ok (.invokevirtual 326, 3) := by decide +kernel
theorem d_SkeletonClockModel_proper_53 : decode b_SkeletonClockModel_proper 53 = .ok (.ireturn, 1) := by decide +kernel
theorem d_SkeletonClockModel_proper_54 : decode b_SkeletonClockModel_proper 54 = .ok (.iload_n 1, 1) := by decide +kernel
theorem d_SkeletonClockModel_proper_55 : decode b_SkeletonClockModel_proper 55 = .ok (.iconst 2, 1) := by decide +kernel
theorem d_SkeletonClockModel_proper_56 : decode b_SkeletonClockModel_proper 56 = .ok (.if_icmp .ne 31, 3) := by decide +kernel
theorem d_SkeletonClockModel_proper_59 : decode b_SkeletonClockModel_proper 59 = .ok (.aload_n 0, 1) := by decide +kernel
theorem d_SkeletonClockModel_proper_60 : decode b_SkeletonClockModel_proper 60 = .ok (.iconst 3, 1) := by decide +kernel
theorem d_SkeletonClockModel_proper_61 : decode b_SkeletonClockModel_proper 61 = .ok (.lconst 1, 1) := by decide +kernel
theorem d_SkeletonClockModel_proper_62 : decode b_SkeletonClockModel_proper 62 = .ok (.aload_n 0, 1) := by decide +kernel
theorem d_SkeletonClockModel_proper_63 : decode b_SkeletonClockModel_proper 63 = .ok (.getfield 59, 3) := by decide +kernel
theorem d_SkeletonClockModel_proper_66 : decode b_SkeletonClockModel_proper 66 = .ok (.iconst 0, 1) := by decide +kernel
theorem d_SkeletonClockModel_proper_67 : decode b_SkeletonClockModel_proper 67 = .ok (.laload, 1) := by decide +kernel
theorem d_SkeletonClockModel_proper_68 : decode b_SkeletonClockModel_proper 68 = .ok (.lconst 1, 1) := by decide +kernel
theorem d_SkeletonClockModel_proper_69 : decode b_SkeletonClockModel_proper 69 = .ok (.ladd, 1) := by decide +kernel
theorem d_SkeletonClockModel_proper_70 : decode b_SkeletonClockModel_proper 70 = .ok (.invokestatic 133, 3) := by decide +kernel
theorem d_SkeletonClockModel_proper_73 : decode b_SkeletonClockModel_proper 73 = .ok (.aload_n 0, 1) := by decide +kernel
theorem d_SkeletonClockModel_proper_74 : decode b_SkeletonClockModel_proper 74 = .ok (.getfield 59, 3) := by decide +kernel
theorem d_SkeletonClockModel_proper_77 : decode b_SkeletonClockModel_proper 77 = .ok (.iconst 0, 1) := by decide +kernel
theorem d_SkeletonClockModel_proper_78 : decode b_SkeletonClockModel_proper 78 = .ok (.laload, 1) := by decide +kernel
theorem d_SkeletonClockModel_proper_79 : decode b_SkeletonClockModel_proper 79 = .ok (.invokestatic 133, 3) := by decide +kernel
theorem d_SkeletonClockModel_proper_82 : decode b_SkeletonClockModel_proper 82 = .ok (.lsub, 1) := by decide +kernel
theorem d_SkeletonClockModel_proper_83 : decode b_SkeletonClockModel_proper 83 = .ok (.invokevirtual 326, 3) := by decide +kernel
theorem d_SkeletonClockModel_proper_86 : decode b_SkeletonClockModel_proper 86 = .ok (.ireturn, 1) := by decide +kernel
theorem d_SkeletonClockModel_proper_87 : decode b_SkeletonClockModel_proper 87 = .ok (.aload_n 0, 1) := by decide +kernel
theorem d_SkeletonClockModel_proper_88 : decode b_SkeletonClockModel_proper 88 = .ok (.iconst 5, 1) := by decide +kernel
theorem d_SkeletonClockModel_proper_89 : decode b_SkeletonClockModel_proper 89 = .ok (.lconst 1, 1) := by decide +kernel
theorem d_SkeletonClockModel_proper_90 : decode b_SkeletonClockModel_proper 90 = .ok (.aload_n 0, 1) := by decide +kernel
theorem d_SkeletonClockModel_proper_91 : decode b_SkeletonClockModel_proper 91 = .ok (.getfield 59, 3) := by decide +kernel
theorem d_SkeletonClockModel_proper_94 : decode b_SkeletonClockModel_proper 94 = .ok (.bipush 6, 2) := by decide +kernel
theorem d_SkeletonClockModel_proper_96 : decode b_SkeletonClockModel_proper 96 = .ok (.laload, 1) := by decide +kernel
theorem d_SkeletonClockModel_proper_97 : decode b_SkeletonClockModel_proper 97 = .ok (.lconst 1, 1) := by decide +kernel
theorem d_SkeletonClockModel_proper_98 : decode b_SkeletonClockModel_proper 98 = .ok (.ladd, 1) := by decide +kernel
theorem d_SkeletonClockModel_proper_99 : decode b_SkeletonClockModel_proper 99 = .ok (.invokestatic 332, 3) := by decide +kernel
theorem d_SkeletonClockModel_proper_102 : decode b_SkeletonClockModel_proper 102 = .ok (.aload_n 0, 1) := by decide +kernel
theorem d_SkeletonClockModel_proper_103 : decode b_SkeletonClockModel_proper 103 = .ok (.getfield 59, 3) := by decide +kernel
theorem d_SkeletonClockModel_proper_106 : decode b_SkeletonClockModel_proper 106 = .ok (.bipush 6, 2) := by decide +kernel
theorem d_SkeletonClockModel_proper_108 : decode b_SkeletonClockModel_proper 108 = .ok (.laload, 1) := by decide +kernel
theorem d_SkeletonClockModel_proper_109 : decode b_SkeletonClockModel_proper 109 = .ok (.invokestatic 332, 3) := by decide +kernel
theorem d_SkeletonClockModel_proper_112 : decode b_SkeletonClockModel_proper 112 = .ok (.lsub, 1) := by decide +kernel
theorem d_SkeletonClockModel_proper_113 : decode b_SkeletonClockModel_proper 113 = .ok (.ldc2_w 144, 3) := by decide +kernel
theorem d_SkeletonClockModel_proper_116 : decode b_SkeletonClockModel_proper 116 = .ok (.ldiv, 1) := by decide +kernel
theorem d_SkeletonClockModel_proper_117 : decode b_SkeletonClockModel_proper 117 = .ok (.invokevirtual 326, 3) := by decide +kernel
theorem d_SkeletonClockModel_proper_120 : decode b_SkeletonClockModel_proper 120 = .ok (.ireturn, 1) := by decide +kernel
theorem d_SkeletonClockModel_dayBy_0 : decode b_SkeletonClockModel_dayBy 0 = .ok (.iload_n 1, 1) := by decide +kernel
theorem d_SkeletonClockModel_dayBy_1 : decode b_SkeletonClockModel_dayBy 1 = .ok (.iconst 2, 1) := by decide +kernel
theorem d_SkeletonClockModel_dayBy_2 : decode b_SkeletonClockModel_dayBy 2 = .ok (.if_icmp .ne 22, 3) := by decide +kernel
theorem d_SkeletonClockModel_dayBy_5 : decode b_SkeletonClockModel_dayBy 5 = .ok (.aload_n 0, 1) := by decide +kernel
theorem d_SkeletonClockModel_dayBy_6 : decode b_SkeletonClockModel_dayBy 6 = .ok (.getfield 59, 3) := by decide +kernel
theorem d_SkeletonClockModel_dayBy_9 : decode b_SkeletonClockModel_dayBy 9 = .ok (.iconst 0, 1) := by decide +kernel
theorem d_SkeletonClockModel_dayBy_10 : decode b_SkeletonClockModel_dayBy 10 = .ok (.laload, 1) := by decide +kernel
theorem d_SkeletonClockModel_dayBy_11 : decode b_SkeletonClockModel_dayBy 11 = .ok (.invokestatic 133, 3) := by decide +kernel
theorem d_SkeletonClockModel_dayBy_14 : decode b_SkeletonClockModel_dayBy 14 = .ok (.aload_n 0, 1) := by decide +kernel
theorem d_SkeletonClockModel_dayBy_15 : decode b_SkeletonClockModel_dayBy 15 = .ok (.getfield 59, 3) := by decide +kernel
theorem d_SkeletonClockModel_dayBy_18 : decode b_SkeletonClockModel_dayBy 18 = .ok (.iconst 3, 1) := by decide +kernel
theorem d_SkeletonClockModel_dayBy_19 : decode b_SkeletonClockModel_dayBy 19 = .ok (.laload, 1) := by decide +kernel
theorem d_SkeletonClockModel_dayBy_20 : decode b_SkeletonClockModel_dayBy 20 = .ok (.ladd, 1) := by decide +kernel
theorem d_SkeletonClockModel_dayBy_21 : decode b_SkeletonClockModel_dayBy 21 = .ok (.lconst 1, 1) := by decide +kernel
theorem d_SkeletonClockModel_dayBy_22 : decode b_SkeletonClockModel_dayBy 22 = .ok (.lsub, 1) := by decide +kernel
theorem d_SkeletonClockModel_dayBy_23 : decode b_SkeletonClockModel_dayBy 23 = .ok (.lreturn, 1) := by decide +kernel
theorem d_SkeletonClockModel_dayBy_24 : decode b_SkeletonClockModel_dayBy 24 = .ok (.iload_n 1, 1) := by decide +kernel
theorem d_SkeletonClockModel_dayBy_25 : decode b_SkeletonClockModel_dayBy 25 = .ok (.iconst 3, 1) := by decide +kernel
theorem d_SkeletonClockModel_dayBy_26 : decode b_SkeletonClockModel_dayBy 26 = .ok (.if_icmp .ne 36, 3) := by decide +kernel
theorem d_SkeletonClockModel_dayBy_29 : decode b_SkeletonClockModel_dayBy 29 = .ok (.aload_n 0, 1) := by decide +kernel
theorem d_SkeletonClockModel_dayBy_30 : decode b_SkeletonClockModel_dayBy 30 = .ok (.getfield 59, 3) := by decide +kernel
theorem d_SkeletonClockModel_dayBy_33 : decode b_SkeletonClockModel_dayBy 33 = .ok (.bipush 6, 2) := by decide +kernel
theorem d_SkeletonClockModel_dayBy_35 : decode b_SkeletonClockModel_dayBy 35 = .ok (.laload, 1) := by decide +kernel
theorem d_SkeletonClockModel_dayBy_36 : decode b_SkeletonClockModel_dayBy 36 = .ok (.invokestatic 332, 3) := by decide +kernel
theorem d_SkeletonClockModel_dayBy_39 : decode b_SkeletonClockModel_dayBy 39 = .ok (.ldc2_w 144, 3) := by decide +kernel
theorem d_SkeletonClockModel_dayBy_42 : decode b_SkeletonClockModel_dayBy 42 = .ok (.aload_n 0, 1) := by decide +kernel
theorem d_SkeletonClockModel_dayBy_43 : decode b_SkeletonClockModel_dayBy 43 = .ok (.getfield 59, 3) := by decide +kernel
theorem d_SkeletonClockModel_dayBy_46 : decode b_SkeletonClockModel_dayBy 46 = .ok (.iconst 5, 1) := by decide +kernel
theorem d_SkeletonClockModel_dayBy_47 : decode b_SkeletonClockModel_dayBy 47 = .ok (.laload, 1) := by decide +kernel
theorem d_SkeletonClockModel_dayBy_48 : decode b_SkeletonClockModel_dayBy 48 = .ok (.lconst 1, 1) := by decide +kernel
theorem d_SkeletonClockModel_dayBy_49 : decode b_SkeletonClockModel_dayBy 49 = .ok (.lsub, 1) := by decide +kernel
theorem d_SkeletonClockModel_dayBy_50 : decode b_SkeletonClockModel_dayBy 50 = .ok (.lmul, 1) := by decide +kernel
theorem d_SkeletonClockModel_dayBy_51 : decode b_SkeletonClockModel_dayBy 51 = .ok (.ladd, 1) := by decide +kernel
theorem d_SkeletonClockModel_dayBy_52 : decode b_SkeletonClockModel_dayBy 52 = .ok (.aload_n 0, 1) := by decide +kernel
theorem d_SkeletonClockModel_dayBy_53 : decode b_SkeletonClockModel_dayBy 53 = .ok (.getfield 59, 3) := by decide +kernel
theorem d_SkeletonClockModel_dayBy_56 : decode b_SkeletonClockModel_dayBy 56 = .ok (.iconst 4, 1) := by decide +kernel
theorem d_SkeletonClockModel_dayBy_57 : decode b_SkeletonClockModel_dayBy 57 = .ok (.laload, 1) := by decide +kernel
theorem d_SkeletonClockModel_dayBy_58 : decode b_SkeletonClockModel_dayBy 58 = .ok (.ladd, 1) := by decide +kernel
theorem d_SkeletonClockModel_dayBy_59 : decode b_SkeletonClockModel_dayBy 59 = .ok (.lconst 1, 1) := by decide +kernel
theorem d_SkeletonClockModel_dayBy_60 : decode b_SkeletonClockModel_dayBy 60 = .ok (.lsub, 1) := by decide +kernel
theorem d_SkeletonClockModel_dayBy_61 : decode b_SkeletonClockModel_dayBy 61 = .ok (.lreturn, 1) := by decide +kernel
theorem d_SkeletonClockModel_dayBy_62 : decode b_SkeletonClockModel_dayBy 62 = .ok (.ldc2_w 324, 3) := by decide +kernel
theorem d_SkeletonClockModel_dayBy_65 : decode b_SkeletonClockModel_dayBy 65 = .ok (.aload_n 0, 1) := by decide +kernel
theorem d_SkeletonClockModel_dayBy_66 : decode b_SkeletonClockModel_dayBy 66 = .ok (.getfield 59, 3) := by decide +kernel
theorem d_SkeletonClockModel_dayBy_69 : decode b_SkeletonClockModel_dayBy 69 = .ok (.iconst 0, 1) := by decide +kernel
theorem d_SkeletonClockModel_dayBy_70 : decode b_SkeletonClockModel_dayBy 70 = .ok (.laload, 1) := by decide +kernel
theorem d_SkeletonClockModel_dayBy_71 : decode b_SkeletonClockModel_dayBy 71 = .ok (.lmul, 1) := by decide +kernel
theorem d_SkeletonClockModel_dayBy_72 : decode b_SkeletonClockModel_dayBy 72 = .ok (.aload_n 0, 1) := by decide +kernel
theorem d_SkeletonClockModel_dayBy_73 : decode b_SkeletonClockModel_dayBy 73 = .ok (.getfield 59, 3) := by decide +kernel
theorem d_SkeletonClockModel_dayBy_76 : decode b_SkeletonClockModel_dayBy 76 = .ok (.iconst 1, 1) := by decide +kernel
theorem d_SkeletonClockModel_dayBy_77 : decode b_SkeletonClockModel_dayBy 77 = .ok (.laload, 1) := by decide +kernel
theorem d_SkeletonClockModel_dayBy_78 : decode b_SkeletonClockModel_dayBy 78 = .ok (.ladd, 1) := by decide +kernel
theorem d_SkeletonClockModel_dayBy_79 : decode b_SkeletonClockModel_dayBy 79 = .ok (.lconst 1, 1) := by decide +kernel
theorem d_SkeletonClockModel_dayBy_80 : decode b_SkeletonClockModel_dayBy 80 = .ok (.lsub, 1) := by decide +kernel
theorem d_SkeletonClockModel_dayBy_81 : decode b_SkeletonClockModel_dayBy 81 = .ok (.lstore_n 3, 1) := by decide +kernel
theorem d_SkeletonClockModel_dayBy_82 : decode b_SkeletonClockModel_dayBy 82 = .ok (.lload_n 3, 1) := by decide +kernel
theorem d_SkeletonClockModel_dayBy_83 : decode b_SkeletonClockModel_dayBy 83 = .ok (.ldc2_w 324, 3) := by decide +kernel
theorem d_SkeletonClockModel_dayBy_86 : decode b_SkeletonClockModel_dayBy 86 = .ok (.invokestatic 115, 3) := by decide +kernel
theorem d_SkeletonClockModel_dayBy_89 : decode b_SkeletonClockModel_dayBy 89 = .ok (.lstore 5, 2) := by decide +kernel
theorem d_SkeletonClockModel_dayBy_91 : decode b_SkeletonClockModel_dayBy 91 = .ok (.lload_n 3, 1) := by decide +kernel
theorem d_SkeletonClockModel_dayBy_92 : decode b_SkeletonClockModel_dayBy 92 = .ok (.ldc2_w 324, 3) := by decide +kernel
theorem d_SkeletonClockModel_dayBy_95 : decode b_SkeletonClockModel_dayBy 95 = .ok (.lload 5, 2) := by decide +kernel
theorem d_SkeletonClockModel_dayBy_97 : decode b_SkeletonClockModel_dayBy 97 = .ok (.lmul, 1) := by decide +kernel
theorem d_SkeletonClockModel_dayBy_98 : decode b_SkeletonClockModel_dayBy 98 = .ok (.lsub, 1) := by decide +kernel
theorem d_SkeletonClockModel_dayBy_99 : decode b_SkeletonClockModel_dayBy 99 = .ok (.l2i, 1) := by decide +kernel
theorem d_SkeletonClockModel_dayBy_100 : decode b_SkeletonClockModel_dayBy 100 = .ok (.iconst 1, 1) := by decide +kernel
theorem d_SkeletonClockModel_dayBy_101 : decode b_SkeletonClockModel_dayBy 101 = .ok (.iadd, 1) := by decide +kernel
theorem d_SkeletonClockModel_dayBy_102 : decode b_SkeletonClockModel_dayBy 102 = .ok (.istore 7, 2) := by decide +kernel
theorem d_SkeletonClockModel_dayBy_104 : decode b_SkeletonClockModel_dayBy 104 = .ok (.aload_n 0, 1) := by decide +kernel
theorem d_SkeletonClockModel_dayBy_105 : decode b_SkeletonClockModel_dayBy 105 = .ok (.getfield 59, 3) := by decide +kernel
theorem d_SkeletonClockModel_dayBy_108 : decode b_SkeletonClockModel_dayBy 108 = .ok (.iconst 2, 1) := by decide +kernel
theorem d_SkeletonClockModel_dayBy_109 : decode b_SkeletonClockModel_dayBy 109 = .ok (.laload, 1) := by decide +kernel
theorem d_SkeletonClockModel_dayBy_110 : decode b_SkeletonClockModel_dayBy 110 = .ok (.lstore 8, 2) := by decide +kernel
theorem d_SkeletonClockModel_dayBy_112 : decode b_SkeletonClockModel_dayBy 112 = .ok (.iload_n 2, 1) := by decide +kernel
theorem d_SkeletonClockModel_dayBy_113 : decode b_SkeletonClockModel_dayBy 113 = .ok (.iconst 1, 1) := by decide +kernel
theorem d_SkeletonClockModel_dayBy_114 : decode b_SkeletonClockModel_dayBy 114 = .ok (.if_icmp .ne 27, 3) := by decide +kernel
theorem d_SkeletonClockModel_dayBy_117 : decode b_SkeletonClockModel_dayBy 117 = .ok (.lload 8, 2) := by decide +kernel
theorem d_SkeletonClockModel_dayBy_119 : decode b_SkeletonClockModel_dayBy 119 = .ok (.lload 5, 2) := by decide +kernel
theorem d_SkeletonClockModel_dayBy_121 : decode b_SkeletonClockModel_dayBy 121 = .ok (.iload 7, 2) := by decide +kernel
theorem d_SkeletonClockModel_dayBy_123 : decode b_SkeletonClockModel_dayBy 123 = .ok (.invokestatic 138, 3) := by decide +kernel
theorem d_SkeletonClockModel_dayBy_126 : decode b_SkeletonClockModel_dayBy 126 = .ok (.i2l, 1) := by decide +kernel
theorem d_SkeletonClockModel_dayBy_127 : decode b_SkeletonClockModel_dayBy 127 = .ok (.lcmp, 1) := by decide +kernel
theorem d_SkeletonClockModel_dayBy_128 : decode b_SkeletonClockModel_dayBy 128 = .ok (.ifCond .le 13, 3) := by decide +kernel
theorem d_SkeletonClockModel_dayBy_131 : decode b_SkeletonClockModel_dayBy 131 = .ok (.lload 5, 2) := by decide +kernel
theorem d_SkeletonClockModel_dayBy_133 : decode b_SkeletonClockModel_dayBy 133 = .ok (.iload 7, 2) := by decide +kernel
theorem d_SkeletonClockModel_dayBy_135 : decode b_SkeletonClockModel_dayBy 135 = .ok (.invokestatic 138, 3) := by decide +kernel
theorem d_SkeletonClockModel_dayBy_138 : decode b_SkeletonClockModel_dayBy 138 = .ok (.i2l, 1) := by decide +kernel
theorem d_SkeletonClockModel_dayBy_139 : decode b_SkeletonClockModel_dayBy 139 = .ok (.lstore 8, 2) := by decide +kernel
theorem d_SkeletonClockModel_dayBy_141 : decode b_SkeletonClockModel_dayBy 141 = .ok (.lload 5, 2) := by decide +kernel
theorem d_SkeletonClockModel_dayBy_143 : decode b_SkeletonClockModel_dayBy 143 = .ok (.iload 7, 2) := by decide +kernel
theorem d_SkeletonClockModel_dayBy_145 : decode b_SkeletonClockModel_dayBy 145 = .ok (.invokestatic 153, 3) := by decide +kernel
theorem d_SkeletonClockModel_dayBy_148 : decode b_SkeletonClockModel_dayBy 148 = .ok (.lload 8, 2) := by decide +kernel
theorem d_SkeletonClockModel_dayBy_150 : decode b_SkeletonClockModel_dayBy 150 = .ok (.ladd, 1) := by decide +kernel
theorem d_SkeletonClockModel_dayBy_151 : decode b_SkeletonClockModel_dayBy 151 = .ok (.lconst 1, 1) := by decide +kernel
theorem d_SkeletonClockModel_dayBy_152 : decode b_SkeletonClockModel_dayBy 152 = .ok (.lsub, 1) := by decide +kernel
theorem d_SkeletonClockModel_dayBy_153 : decode b_SkeletonClockModel_dayBy 153 = .ok (.lreturn, 1) := by decide +kernel
theorem d_SkeletonClockModel_hour_0 : decode b_SkeletonClockModel_hour 0 = .ok (.aload_n 0, 1) := by decide +kernel
theorem d_SkeletonClockModel_hour_1 : decode b_SkeletonClockModel_hour 1 = .ok (.getfield 56, 3) := by decide +kernel
theorem d_SkeletonClockModel_hour_4 : decode b_SkeletonClockModel_hour 4 = .ok (.bipush 7, 2) := by decide +kernel
theorem d_SkeletonClockModel_hour_6 : decode b_SkeletonClockModel_hour 6 = .ok (.baload, 1) := by decide +kernel
theorem d_SkeletonClockModel_hour_7 : decode b_SkeletonClockModel_hour 7 = .ok (.ifCond .eq 11, 3) := by decide +kernel
theorem d_SkeletonClockModel_hour_10 : decode b_SkeletonClockModel_hour 10 = .ok (.aload_n 0, 1) := by decide +kernel
theorem d_SkeletonClockModel_hour_11 : decode b_SkeletonClockModel_hour 11 = .ok (.getfield 59, 3) := by decide +kernel
theorem d_SkeletonClockModel_hour_14 : decode b_SkeletonClockModel_hour 14 = .ok (.bipush 7, 2) := by decide +kernel
theorem d_SkeletonClockModel_hour_16 : decode b_SkeletonClockModel_hour 16 = .ok (.laload, 1) := by decide +kernel
theorem d_SkeletonClockModel_hour_17 : decode b_SkeletonClockModel_hour 17 = .ok (.lreturn, 1) := by decide +kernel
theorem d_SkeletonClockModel_hour_18 : decode b_SkeletonClockModel_hour 18 = .ok (.aload_n 0, 1) := by decide +kernel
theorem d_SkeletonClockModel_hour_19 : decode b_SkeletonClockModel_hour 19 = .ok (.getfield 56, 3) := by decide +kernel
theorem d_SkeletonClockModel_hour_22 : decode b_SkeletonClockModel_hour 22 = .ok (.bipush 8, 2) := by decide +kernel
theorem d_SkeletonClockModel_hour_24 : decode b_SkeletonClockModel_hour 24 = .ok (.baload, 1) := by decide +kernel
theorem d_SkeletonClockModel_hour_25 : decode b_SkeletonClockModel_hour 25 = .ok (.ifCond .eq 53, 3) := by decide +kernel
theorem d_SkeletonClockModel_hour_28 : decode b_SkeletonClockModel_hour 28 = .ok (.aload_n 0, 1) := by decide +kernel
theorem d_SkeletonClockModel_hour_29 : decode b_SkeletonClockModel_hour 29 = .ok (.getfield 56, 3) := by decide +kernel
theorem d_SkeletonClockModel_hour_32 : decode b_SkeletonClockModel_hour 32 = .ok (.bipush 9, 2) := by decide +kernel
theorem d_SkeletonClockModel_hour_34 : decode b_SkeletonClockModel_hour 34 = .ok (.baload, 1) := by decide +kernel
theorem d_SkeletonClockModel_hour_35 : decode b_SkeletonClockModel_hour 35 = .ok (.ifCond .eq 43, 3) := by decide +kernel
theorem d_SkeletonClockModel_hour_38 : decode b_SkeletonClockModel_hour 38 = .ok (.ldc2_w 324, 3) := by decide +kernel
theorem d_SkeletonClockModel_hour_41 : decode b_SkeletonClockModel_hour 41 = .ok (.aload_n 0, 1) := by decide +kernel
theorem d_SkeletonClockModel_hour_42 : decode b_SkeletonClockModel_hour 42 = .ok (.getfield 59, 3) := by decide +kernel
theorem d_SkeletonClockModel_hour_45 : decode b_SkeletonClockModel_hour 45 = .ok (.bipush 9, 2) := by decide +kernel
theorem d_SkeletonClockModel_hour_47 : decode b_SkeletonClockModel_hour 47 = .ok (.laload, 1) := by decide +kernel
theorem d_SkeletonClockModel_hour_48 : decode b_SkeletonClockModel_hour 48 = .ok (.lmul, 1) := by decide +kernel
theorem d_SkeletonClockModel_hour_49 : decode b_SkeletonClockModel_hour 49 = .ok (.aload_n 0, 1) := by decide +kernel
theorem d_SkeletonClockModel_hour_50 : decode b_SkeletonClockModel_hour 50 = .ok (.getfield 59, 3) := by decide +kernel
theorem d_SkeletonClockModel_hour_53 : decode b_SkeletonClockModel_hour 53 = .ok (.bipush 8, 2) := by decide +kernel
theorem d_SkeletonClockModel_hour_55 : decode b_SkeletonClockModel_hour 55 = .ok (.laload, 1) := by decide +kernel
theorem d_SkeletonClockModel_hour_56 : decode b_SkeletonClockModel_hour 56 = .ok (.ldc2_w 324, 3) := by decide +kernel
theorem d_SkeletonClockModel_hour_59 : decode b_SkeletonClockModel_hour 59 = .ok (.lcmp, 1) := by decide +kernel
theorem d_SkeletonClockModel_hour_60 : decode b_SkeletonClockModel_hour 60 = .ok (.ifCond .ne 7, 3) := by decide +kernel
theorem d_SkeletonClockModel_hour_63 : decode b_SkeletonClockModel_hour 63 = .ok (.lconst 0, 1) := by decide +kernel
theorem d_SkeletonClockModel_hour_64 : decode b_SkeletonClockModel_hour 64 = .ok (.goto 10, 3) := by decide +kernel
theorem d_SkeletonClockModel_hour_67 : decode b_SkeletonClockModel_hour 67 = .ok (.aload_n 0, 1) := by decide +kernel
theorem d_SkeletonClockModel_hour_68 : decode b_SkeletonClockModel_hour 68 = .ok (.getfield 59, 3) := by decide +kernel
theorem d_SkeletonClockModel_hour_71 : decode b_SkeletonClockModel_hour 71 = .ok (.bipush 8, 2) := by decide +kernel
theorem d_SkeletonClockModel_hour_73 : decode b_SkeletonClockModel_hour 73 = .ok (.laload, 1) := by decide +kernel
theorem d_SkeletonClockModel_hour_74 : decode b_SkeletonClockModel_hour 74 = .ok (.ladd, 1) := by decide +kernel
theorem d_SkeletonClockModel_hour_75 : decode b_SkeletonClockModel_hour 75 = .ok (.goto 4, 3) := by decide +kernel
theorem d_SkeletonClockModel_hour_78 : decode b_SkeletonClockModel_hour 78 = .ok (.lconst 0, 1) := by decide +kernel
theorem d_SkeletonClockModel_hour_79 : decode b_SkeletonClockModel_hour 79 = .ok (.lreturn, 1) := by decide +kernel
theorem d_SkeletonClockModel_properTime_0 : decode b_SkeletonClockModel_properTime 0 = .ok (.aload_n 0, 1) := by decide +kernel
theorem d_SkeletonClockModel_properTime_1 : decode b_SkeletonClockModel_properTime 1 = .ok (.getfield 56, 3) := by decide +kernel
theorem d_SkeletonClockModel_properTime_4 : decode b_SkeletonClockModel_properTime 4 = .ok (.bipush 7, 2) := by decide +kernel
theorem d_SkeletonClockModel_properTime_6 : decode b_SkeletonClockModel_properTime 6 = .ok (.baload, 1) := by decide +kernel
theorem d_SkeletonClockModel_properTime_7 : decode b_SkeletonClockModel_properTime 7 = .ok (.ifCond .ne 27, 3) := by decide +kernel
theorem d_SkeletonClockModel_properTime_10 : decode b_SkeletonClockModel_properTime 10 = .ok (.aload_n 0, 1) := by decide +kernel
theorem d_SkeletonClockModel_properTime_11 : decode b_SkeletonClockModel_properTime 11 = .ok (.getfield 56, 3) := by decide +kernel
theorem d_SkeletonClockModel_properTime_14 : decode b_SkeletonClockModel_properTime 14 = .ok (.bipush 8, 2) := by decide +kernel
theorem d_SkeletonClockModel_properTime_16 : decode b_SkeletonClockModel_properTime 16 = .ok (.baload, 1) := by decide +kernel
theorem d_SkeletonClockModel_properTime_17 : decode b_SkeletonClockModel_properTime 17 = .ok (.ifCond .eq 17, 3) := by decide +kernel
theorem d_SkeletonClockModel_properTime_20 : decode b_SkeletonClockModel_properTime 20 = .ok (.aload_n 0, 1) := by decide +kernel
theorem d_SkeletonClockModel_properTime_21 : decode b_SkeletonClockModel_properTime 21 = .ok (.getfield 56, 3) := by decide +kernel
theorem d_SkeletonClockModel_properTime_24 : decode b_SkeletonClockModel_properTime 24 = .ok (.bipush 9, 2) := by decide +kernel
theorem d_SkeletonClockModel_properTime_26 : decode b_SkeletonClockModel_properTime 26 = .ok (.baload, 1) := by decide +kernel
theorem d_SkeletonClockModel_properTime_27 : decode b_SkeletonClockModel_properTime 27 = .ok (.ifCond .eq 7, 3) := by decide +kernel
theorem d_SkeletonClockModel_properTime_30 : decode b_SkeletonClockModel_properTime 30 = .ok (.iconst 1, 1) := by decide +kernel
theorem d_SkeletonClockModel_properTime_31 : decode b_SkeletonClockModel_properTime 31 = .ok (.goto 4, 3) := by decide +kernel
theorem d_SkeletonClockModel_properTime_34 : decode b_SkeletonClockModel_properTime 34 = .ok (.iconst 0, 1) := by decide +kernel
theorem d_SkeletonClockModel_properTime_35 : decode b_SkeletonClockModel_properTime 35 = .ok (.istore_n 1, 1) := by decide +kernel
theorem d_SkeletonClockModel_properTime_36 : decode b_SkeletonClockModel_properTime 36 = .ok (.aload_n 0, 1) := by decide +kernel
theorem d_SkeletonClockModel_properTime_37 : decode b_SkeletonClockModel_properTime 37 = .ok (.bipush 7, 2) := by decide +kernel
theorem d_SkeletonClockModel_properTime_39 : decode b_SkeletonClockModel_properTime 39 = .ok (.lconst 0, 1) := by decide +kernel
theorem d_SkeletonClockModel_properTime_40 : decode b_SkeletonClockModel_properTime 40 = .ok (.ldc2_w 335, 3) := by decide +kernel
theorem d_SkeletonClockModel_properTime_43 : decode b_SkeletonClockModel_properTime 43 = .ok (.invokevirtual 326, 3) := by decide +kernel
theorem d_SkeletonClockModel_properTime_46 : decode b_SkeletonClockModel_properTime 46 = .ok (.ifCond .eq 50, 3) := by decide +kernel
theorem d_SkeletonClockModel_properTime_49 : decode b_SkeletonClockModel_properTime 49 = .ok (.iload_n 1, 1) := by decide +kernel
theorem d_SkeletonClockModel_properTime_50 : decode b_SkeletonClockModel_properTime 50 = .ok (.ifCond .eq 16, 3) := by decide +kernel
theorem d_SkeletonClockModel_properTime_53 : decode b_SkeletonClockModel_properTime 53 = .ok (.aload_n 0, 1) := by decide +kernel
theorem d_SkeletonClockModel_properTime_54 : decode b_SkeletonClockModel_properTime 54 = .ok (.bipush 8, 2) := by decide +kernel
theorem d_SkeletonClockModel_properTime_56 : decode b_SkeletonClockModel_properTime 56 = .ok (.lconst 1, 1) := by decide +kernel
theorem d_SkeletonClockModel_properTime_57 : decode b_SkeletonClockModel_properTime 57 = .ok (.ldc2_w 324, 3) := by decide +kernel
theorem d_SkeletonClockModel_properTime_60 : decode b_SkeletonClockModel_properTime 60 = .ok (.invokevirtual 326, 3) := by decide +kernel
theorem d_SkeletonClockModel_properTime_63 : decode b_SkeletonClockModel_properTime 63 = .ok (.ifCond .eq 33, 3) := by decide +kernel
theorem d_SkeletonClockModel_properTime_66 : decode b_SkeletonClockModel_properTime 66 = .ok (.aload_n 0, 1) := by decide +kernel
theorem d_SkeletonClockModel_properTime_67 : decode b_SkeletonClockModel_properTime 67 = .ok (.bipush 10, 2) := by decide +kernel
theorem d_SkeletonClockModel_properTime_69 : decode b_SkeletonClockModel_properTime 69 = .ok (.lconst 0, 1) := by decide +kernel
theorem d_SkeletonClockModel_properTime_70 : decode b_SkeletonClockModel_properTime 70 = .ok (.ldc2_w 317, 3) := by decide +kernel
theorem d_SkeletonClockModel_properTime_73 : decode b_SkeletonClockModel_properTime 73 = .ok (.invokevirtual 326, 3) := by decide +kernel
theorem d_SkeletonClockModel_properTime_76 : decode b_SkeletonClockModel_properTime 76 = .ok (.ifCond .eq 20, 3) := by decide +kernel
theorem d_SkeletonClockModel_properTime_79 : decode b_SkeletonClockModel_properTime 79 = .ok (.aload_n 0, 1) := by decide +kernel
theorem d_SkeletonClockModel_properTime_80 : decode b_SkeletonClockModel_properTime 80 = .ok (.bipush 11, 2) := by decide +kernel
theorem d_SkeletonClockModel_properTime_82 : decode b_SkeletonClockModel_properTime 82 = .ok (.lconst 0, 1) := by decide +kernel
theorem d_SkeletonClockModel_properTime_83 : decode b_SkeletonClockModel_properTime 83 = .ok (.ldc2_w 317, 3) := by decide +kernel
theorem d_SkeletonClockModel_properTime_86 : decode b_SkeletonClockModel_properTime 86 = .ok (.invokevirtual 326, 3) := by decide +kernel
theorem d_SkeletonClockModel_properTime_89 : decode b_SkeletonClockModel_properTime 89 = .ok (.ifCond .eq 7, 3) := by decide +kernel
theorem d_SkeletonClockModel_properTime_92 : decode b_SkeletonClockModel_properTime 92 = .ok (.iconst 1, 1) := by decide +kernel
theorem d_SkeletonClockModel_properTime_93 : decode b_SkeletonClockModel_properTime 93 = .ok (.goto 4, 3) := by decide +kernel
theorem d_SkeletonClockModel_properTime_96 : decode b_SkeletonClockModel_properTime 96 = .ok (.iconst 0, 1) := by decide +kernel
theorem d_SkeletonClockModel_properTime_97 : decode b_SkeletonClockModel_properTime 97 = .ok (.ireturn, 1) := by decide +kernel
theorem d_SkeletonClockModel_usedBy_0 : decode b_SkeletonClockModel_usedBy 0 = .ok (.iload_n 0, 1) := by decide +kernel
theorem d_SkeletonClockModel_usedBy_1 : decode b_SkeletonClockModel_usedBy 1 = .ok (.iconst 3, 1) := by decide +kernel
theorem d_SkeletonClockModel_usedBy_2 : decode b_SkeletonClockModel_usedBy 2 = .ok (.if_icmp .ne 25, 3) := by decide +kernel
theorem d_SkeletonClockModel_usedBy_5 : decode b_SkeletonClockModel_usedBy 5 = .ok (.iload_n 1, 1) := by decide +kernel
theorem d_SkeletonClockModel_usedBy_6 : decode b_SkeletonClockModel_usedBy 6 = .ok (.bipush 6, 2) := by decide +kernel
theorem d_SkeletonClockModel_usedBy_8 : decode b_SkeletonClockModel_usedBy 8 = .ok (.if_icmp .eq 13, 3) := by decide +kernel
theorem d_SkeletonClockModel_usedBy_11 : decode b_SkeletonClockModel_usedBy 11 = .ok (.iload_n 1, 1) := by decide +kernel
theorem d_SkeletonClockModel_usedBy_12 : decode b_SkeletonClockModel_usedBy 12 = .ok (.iconst 5, 1) := by decide +kernel
theorem d_SkeletonClockModel_usedBy_13 : decode b_SkeletonClockModel_usedBy 13 = .ok (.if_icmp .eq 8, 3) := by decide +kernel
theorem d_SkeletonClockModel_usedBy_16 : decode b_SkeletonClockModel_usedBy 16 = .ok (.iload_n 1, 1) := by decide +kernel
theorem d_SkeletonClockModel_usedBy_17 : decode b_SkeletonClockModel_usedBy 17 = .ok (.iconst 4, 1) := by decide +kernel
theorem d_SkeletonClockModel_usedBy_18 : decode b_SkeletonClockModel_usedBy 18 = .ok (.if_icmp .ne 7, 3) := by decide +kernel
theorem d_SkeletonClockModel_usedBy_21 : decode b_SkeletonClockModel_usedBy 21 = .ok (.iconst 1, 1) := by decide +kernel
theorem d_SkeletonClockModel_usedBy_22 : decode b_SkeletonClockModel_usedBy 22 = .ok (.goto 4, 3) := by decide +kernel
theorem d_SkeletonClockModel_usedBy_25 : decode b_SkeletonClockModel_usedBy 25 = .ok (.iconst 0, 1) := by decide +kernel
theorem d_SkeletonClockModel_usedBy_26 : decode b_SkeletonClockModel_usedBy 26 = .ok (.ireturn, 1) := by decide +kernel
theorem d_SkeletonClockModel_usedBy_27 : decode b_SkeletonClockModel_usedBy 27 = .ok (.iload_n 1, 1) := by decide +kernel
theorem d_SkeletonClockModel_usedBy_28 : decode b_SkeletonClockModel_usedBy 28 = .ok (.ifCond .eq 26, 3) := by decide +kernel
theorem d_SkeletonClockModel_usedBy_31 : decode b_SkeletonClockModel_usedBy 31 = .ok (.iload_n 0, 1) := by decide +kernel
theorem d_SkeletonClockModel_usedBy_32 : decode b_SkeletonClockModel_usedBy 32 = .ok (.iconst 1, 1) := by decide +kernel
theorem d_SkeletonClockModel_usedBy_33 : decode b_SkeletonClockModel_usedBy 33 = .ok (.if_icmp .ne 16, 3) := by decide +kernel
theorem d_SkeletonClockModel_usedBy_36 : decode b_SkeletonClockModel_usedBy 36 = .ok (.iload_n 1, 1) := by decide +kernel
theorem d_SkeletonClockModel_usedBy_37 : decode b_SkeletonClockModel_usedBy 37 = .ok (.iconst 1, 1) := by decide +kernel
theorem d_SkeletonClockModel_usedBy_38 : decode b_SkeletonClockModel_usedBy 38 = .ok (.if_icmp .eq 16, 3) := by decide +kernel
theorem d_SkeletonClockModel_usedBy_41 : decode b_SkeletonClockModel_usedBy 41 = .ok (.iload_n 1, 1) := by decide +kernel
theorem d_SkeletonClockModel_usedBy_42 : decode b_SkeletonClockModel_usedBy 42 = .ok (.iconst 2, 1) := by decide +kernel
theorem d_SkeletonClockModel_usedBy_43 : decode b_SkeletonClockModel_usedBy 43 = .ok (.if_icmp .ne 15, 3) := by decide +kernel
theorem d_SkeletonClockModel_usedBy_46 : decode b_SkeletonClockModel_usedBy 46 = .ok (.goto 8, 3) := by decide +kernel
theorem d_SkeletonClockModel_usedBy_49 : decode b_SkeletonClockModel_usedBy 49 = .ok (.iload_n 1, 1) := by decide +kernel
theorem d_SkeletonClockModel_usedBy_50 : decode b_SkeletonClockModel_usedBy 50 = .ok (.iconst 3, 1) := by decide +kernel
theorem d_SkeletonClockModel_usedBy_51 : decode b_SkeletonClockModel_usedBy 51 = .ok (.if_icmp .ne 7, 3) := by decide +kernel
theorem d_SkeletonClockModel_usedBy_54 : decode b_SkeletonClockModel_usedBy 54 = .ok (.iconst 1, 1) := by decide +kernel
theorem d_SkeletonClockModel_usedBy_55 : decode b_SkeletonClockModel_usedBy 55 = .ok (.goto 4, 3) := by decide +kernel
theorem d_SkeletonClockModel_usedBy_58 : decode b_SkeletonClockModel_usedBy 58 = .ok (.iconst 0, 1) := by decide +kernel
theorem d_SkeletonClockModel_usedBy_59 : decode b_SkeletonClockModel_usedBy 59 = .ok (.ireturn, 1) := by decide +kernel
abbrev rm_SkeletonClockModel_proper : Room := { frames := 4, cells := 0, slots := 0, locals := 90 }
set_option maxHeartbeats 4000000 in
set_option maxRecDepth 100000 in
theorem c_SkeletonClockModel_proper (l : Launch) (D : va_G) (kk : Nat → ClassId) (st : Nat → Nat) (a_t a_t_known a_t_value a_t_text a_t_page a_t_names a_t_sort a_t_code a_t_count a_t_around a_t_end a_t_size a_t_there a_t_wish a_t_have a_t_before a_t_open a_t_from : Nat) (sz : Nat) (t_length : Int32) (t_used : Int32) (t_far : Int32) (t_momentParts : Int32) (t_momentDay : Int64) (t_momentSecond : Int32) (t_momentNano : Int32) (t_momentOffset : Int32) (t_readParts : Int32) (t_readDay : Int64) (t_readSecond : Int32) (t_readNano : Int32) (t_readOffset : Int32) (t_alike : Int32) (t_known : Nat → Int32) (t_value : Nat → Int64) (x1 : Int32) (x2 : Int32) (o : Int32) (he : f_SkeletonClockModel_proper t_known t_value x1 x2 = some o) : Met l y_SkeletonClockModel_proper (Cond.code y_SkeletonClockModel_proper b_SkeletonClockModel_proper 3 (some .boolean) :: GW) rm_SkeletonClockModel_proper (KPc D kk st [.ref a_t, .int x1, .int x2] [(a_t, .inr (10, [.int t_length, .ref a_t_text, .int t_used, .ref a_t_page, .ref a_t_names, .ref a_t_sort, .ref a_t_code, .ref a_t_count, .ref a_t_around, .ref a_t_end, .ref a_t_size, .ref a_t_there, .ref a_t_wish, .ref a_t_have, .int t_far, .int t_momentParts, .long t_momentDay, .int t_momentSecond, .int t_momentNano, .int t_momentOffset, .int t_readParts, .long t_readDay, .int t_readSecond, .int t_readNano, .int t_readOffset, .ref a_t_known, .ref a_t_value, .ref a_t_before, .ref a_t_open, .ref a_t_from, .int t_alike])), (a_t_known, .inl (kk 2, 14, .inl t_known)), (a_t_value, .inl (kk 3, 14, .inr (.inl t_value)))] sz) (KQi D kk o [(a_t, .inr (10, [.int t_length, .ref a_t_text, .int t_used, .ref a_t_page, .ref a_t_names, .ref a_t_sort, .ref a_t_code, .ref a_t_count, .ref a_t_around, .ref a_t_end, .ref a_t_size, .ref a_t_there, .ref a_t_wish, .ref a_t_have, .int t_far, .int t_momentParts, .long t_momentDay, .int t_momentSecond, .int t_momentNano, .int t_momentOffset, .int t_readParts, .long t_readDay, .int t_readSecond, .int t_readNano, .int t_readOffset, .ref a_t_known, .ref a_t_value, .ref a_t_before, .ref a_t_open, .ref a_t_from, .int t_alike])), (a_t_known, .inl (kk 2, 14, .inl t_known)), (a_t_value, .inl (kk 3, 14, .inr (.inl t_value)))] (va_A [(a_t, .inr (10, [.int t_length, .ref a_t_text, .int t_used, .ref a_t_page, .ref a_t_names, .ref a_t_sort, .ref a_t_code, .ref a_t_count, .ref a_t_around, .ref a_t_end, .ref a_t_size, .ref a_t_there, .ref a_t_wish, .ref a_t_have, .int t_far, .int t_momentParts, .long t_momentDay, .int t_momentSecond, .int t_momentNano, .int t_momentOffset, .int t_readParts, .long t_readDay, .int t_readSecond, .int t_readNano, .int t_readOffset, .ref a_t_known, .ref a_t_value, .ref a_t_before, .ref a_t_open, .ref a_t_from, .int t_alike])), (a_t_known, .inl (kk 2, 14, .inl t_known)), (a_t_value, .inl (kk 3, 14, .inr (.inl t_value)))] sz)) 0 0 (va_A [(a_t, .inr (10, [.int t_length, .ref a_t_text, .int t_used, .ref a_t_page, .ref a_t_names, .ref a_t_sort, .ref a_t_code, .ref a_t_count, .ref a_t_around, .ref a_t_end, .ref a_t_size, .ref a_t_there, .ref a_t_wish, .ref a_t_have, .int t_far, .int t_momentParts, .long t_momentDay, .int t_momentSecond, .int t_momentNano, .int t_momentOffset, .int t_readParts, .long t_readDay, .int t_readSecond, .int t_readNano, .int t_readOffset, .ref a_t_known, .ref a_t_value, .ref a_t_before, .ref a_t_open, .ref a_t_from, .int t_alike])), (a_t_known, .inl (kk 2, 14, .inl t_known)), (a_t_value, .inl (kk 3, 14, .inr (.inl t_value)))] sz) := by
  refine k_start (Qc := fun A => KQi D kk o [(a_t, .inr (10, [.int t_length, .ref a_t_text, .int t_used, .ref a_t_page, .ref a_t_names, .ref a_t_sort, .ref a_t_code, .ref a_t_count, .ref a_t_around, .ref a_t_end, .ref a_t_size, .ref a_t_there, .ref a_t_wish, .ref a_t_have, .int t_far, .int t_momentParts, .long t_momentDay, .int t_momentSecond, .int t_momentNano, .int t_momentOffset, .int t_readParts, .long t_readDay, .int t_readSecond, .int t_readNano, .int t_readOffset, .ref a_t_known, .ref a_t_value, .ref a_t_before, .ref a_t_open, .ref a_t_from, .int t_alike])), (a_t_known, .inl (kk 2, 14, .inl t_known)), (a_t_value, .inl (kk 3, 14, .inr (.inl t_value)))] A) (by decide) (Nat.le_of_ble_eq_true rfl) ?_
  intro p e s m below meth c A ls S hnm hr hlk hA X hP hD hS hl
  have hl : lv_has ls 3 [(0, .ref a_t), (1, .int x1), (2, .int x2)] := hl
  have hx := S.1
  have hb := S.2.1
  unfold f_SkeletonClockModel_proper at he
  refine lv_iload_n hx hb d_SkeletonClockModel_proper_0 rfl (lv_at hl 1 rfl) ?_
  refine lv_iconst (v := (1 : Int32)) hx hb d_SkeletonClockModel_proper_1 (by decide) ?_
  refine lv_icmp_ne (tgt := 54) hx hb d_SkeletonClockModel_proper_2 rfl (fun hc => ?_) (fun hc => ?_)
  · have he := ih_f hc he
    refine lv_iload_n hx hb d_SkeletonClockModel_proper_54 rfl (lv_at hl 1 rfl) ?_
    refine lv_iconst (v := (2 : Int32)) hx hb d_SkeletonClockModel_proper_55 (by decide) ?_
    refine lv_icmp_ne (tgt := 87) hx hb d_SkeletonClockModel_proper_56 rfl (fun hc => ?_) (fun hc => ?_)
    · have he := ih_f hc he
      refine lv_aload_n hx hb d_SkeletonClockModel_proper_87 rfl (lv_at hl 0 rfl) ?_
      refine lv_iconst (v := (5 : Int32)) hx hb d_SkeletonClockModel_proper_88 (by decide) ?_
      refine lv_lconst (v := (1 : Int64)) hx hb d_SkeletonClockModel_proper_89 (by decide) ?_
      refine lv_aload_n hx hb d_SkeletonClockModel_proper_90 rfl (lv_at hl 0 rfl) ?_
      refine k_get S X us_SkeletonClockModel hP 0 rfl rfl 26 (by decide) gm_4_177 rfl d_SkeletonClockModel_proper_91 ?_
      refine lv_bipush (v := (6 : Int32)) hx hb d_SkeletonClockModel_proper_94 (by decide) ?_
      refine va_lald hx hb X.1 hP 2 3 rfl rfl (show ¬ ((6 : Int32) < 0 ∨ 14 ≤ ((6 : Int32)).toNatClampNeg) by decide) d_SkeletonClockModel_proper_96 ?_
      refine lv_lconst (v := (1 : Int64)) hx hb d_SkeletonClockModel_proper_97 (by decide) ?_
      refine lv_ladd hx hb d_SkeletonClockModel_proper_98 ?_
      obtain ⟨u1, e2, he⟩ := ih_b he
      refine k_lo (r_S (As := [.long ((t_value ((6 : Int32)).toNatClampNeg) + (1 : Int64))]) S X hA hP hD hS (c_SkeletonClockModel_firstMonday l D kk st _ ((t_value ((6 : Int32)).toNatClampNeg) + (1 : Int64)) u1 e2) gm_6_3 gm_6_1 gm_6_2 gm_1_13 ⟨rfl, rfl, by decide, by decide⟩ kd_SkeletonClockModel_firstMonday [] rfl rfl rfl rfl hl.1 rfl (Nat.le_of_ble_eq_true rfl) d_SkeletonClockModel_proper_99 ⟨Nat.zero_le _, Nat.zero_le _⟩) hA hP hD hS [] rfl (fun H locs hP hS => ?_)
      refine lv_aload_n hx hb d_SkeletonClockModel_proper_102 rfl (lv_at hl 0 rfl) ?_
      refine k_get S X us_SkeletonClockModel hP 0 rfl rfl 26 (by decide) gm_4_177 rfl d_SkeletonClockModel_proper_103 ?_
      refine lv_bipush (v := (6 : Int32)) hx hb d_SkeletonClockModel_proper_106 (by decide) ?_
      refine va_lald hx hb X.1 hP 2 3 rfl rfl (show ¬ ((6 : Int32) < 0 ∨ 14 ≤ ((6 : Int32)).toNatClampNeg) by decide) d_SkeletonClockModel_proper_108 ?_
      obtain ⟨u3, e4, he⟩ := ih_b he
      refine k_lo (r_S (As := [.long (t_value ((6 : Int32)).toNatClampNeg)]) S X hA hP hD hS (c_SkeletonClockModel_firstMonday l D kk st _ (t_value ((6 : Int32)).toNatClampNeg) u3 e4) gm_6_3 gm_6_1 gm_6_2 gm_1_13 ⟨rfl, rfl, by decide, by decide⟩ kd_SkeletonClockModel_firstMonday [] rfl rfl rfl rfl hl.1 rfl (Nat.le_of_ble_eq_true rfl) d_SkeletonClockModel_proper_109 ⟨Nat.zero_le _, Nat.zero_le _⟩) hA hP hD hS [] rfl (fun H locs hP hS => ?_)
      refine lv_lsub hx hb d_SkeletonClockModel_proper_112 ?_
      refine lv_ldc2 (v := (7 : Int64)) hx hb S.2.2.2.1 (S.2.2.2.2 _ gm_5_114) d_SkeletonClockModel_proper_113 ?_
      refine lv_ldiv hx hb d_SkeletonClockModel_proper_116 (by decide) ?_
      obtain ⟨u5, e6, he⟩ := ih_b he
      refine k_io (r_V (As := [.int (5 : Int32), .long (1 : Int64), .long ((u1 - u3) / (7 : Int64))]) S X hA hP hD hS (c_SkeletonClockModel_within l D kk st a_t a_t_known a_t_value a_t_text a_t_page a_t_names a_t_sort a_t_code a_t_count a_t_around a_t_end a_t_size a_t_there a_t_wish a_t_have a_t_before a_t_open a_t_from _ t_length t_used t_far t_momentParts t_momentDay t_momentSecond t_momentNano t_momentOffset t_readParts t_readDay t_readSecond t_readNano t_readOffset t_alike t_known t_value (5 : Int32) (1 : Int64) ((u1 - u3) / (7 : Int64)) u5 e6) gm_5_239 gm_5_236 gm_5_238 gm_p4_14 gm_1_13 ⟨rfl, rfl, by decide, by decide⟩ kd_SkeletonClockModel_within [0, 1, 2] rfl rfl rfl 0 10 rfl rfl rfl rfl hl.1 rfl (Nat.le_of_ble_eq_true rfl) d_SkeletonClockModel_proper_117 ⟨Nat.zero_le _, Nat.zero_le _⟩) hA hP hD hS [0, 1, 2] rfl (fun H locs hP hS => ?_)
      obtain ⟨hv7, he⟩ := ih_g he
      cases he
      exact k_zre hx hb hr hlk X hP hD hS hv7 d_SkeletonClockModel_proper_120
    · have he := ih_t hc he
      refine lv_aload_n hx hb d_SkeletonClockModel_proper_59 rfl (lv_at hl 0 rfl) ?_
      refine lv_iconst (v := (3 : Int32)) hx hb d_SkeletonClockModel_proper_60 (by decide) ?_
      refine lv_lconst (v := (1 : Int64)) hx hb d_SkeletonClockModel_proper_61 (by decide) ?_
      refine lv_aload_n hx hb d_SkeletonClockModel_proper_62 rfl (lv_at hl 0 rfl) ?_
      refine k_get S X us_SkeletonClockModel hP 0 rfl rfl 26 (by decide) gm_4_177 rfl d_SkeletonClockModel_proper_63 ?_
      refine lv_iconst (v := (0 : Int32)) hx hb d_SkeletonClockModel_proper_66 (by decide) ?_
      refine va_lald hx hb X.1 hP 2 3 rfl rfl (show ¬ ((0 : Int32) < 0 ∨ 14 ≤ ((0 : Int32)).toNatClampNeg) by decide) d_SkeletonClockModel_proper_67 ?_
      refine lv_lconst (v := (1 : Int64)) hx hb d_SkeletonClockModel_proper_68 (by decide) ?_
      refine lv_ladd hx hb d_SkeletonClockModel_proper_69 ?_
      obtain ⟨u8, e9, he⟩ := ih_b he
      refine k_lo (r_S (As := [.long ((t_value ((0 : Int32)).toNatClampNeg) + (1 : Int64))]) S X hA hP hD hS (c_SkeletonClockModel_newYear l D kk st _ ((t_value ((0 : Int32)).toNatClampNeg) + (1 : Int64)) u8 e9) gm_5_83 gm_5_81 gm_5_82 gm_1_13 ⟨rfl, rfl, by decide, by decide⟩ kd_SkeletonClockModel_newYear [] rfl rfl rfl rfl hl.1 rfl (Nat.le_of_ble_eq_true rfl) d_SkeletonClockModel_proper_70 ⟨Nat.zero_le _, Nat.zero_le _⟩) hA hP hD hS [] rfl (fun H locs hP hS => ?_)
      refine lv_aload_n hx hb d_SkeletonClockModel_proper_73 rfl (lv_at hl 0 rfl) ?_
      refine k_get S X us_SkeletonClockModel hP 0 rfl rfl 26 (by decide) gm_4_177 rfl d_SkeletonClockModel_proper_74 ?_
      refine lv_iconst (v := (0 : Int32)) hx hb d_SkeletonClockModel_proper_77 (by decide) ?_
      refine va_lald hx hb X.1 hP 2 3 rfl rfl (show ¬ ((0 : Int32) < 0 ∨ 14 ≤ ((0 : Int32)).toNatClampNeg) by decide) d_SkeletonClockModel_proper_78 ?_
      obtain ⟨u10, e11, he⟩ := ih_b he
      refine k_lo (r_S (As := [.long (t_value ((0 : Int32)).toNatClampNeg)]) S X hA hP hD hS (c_SkeletonClockModel_newYear l D kk st _ (t_value ((0 : Int32)).toNatClampNeg) u10 e11) gm_5_83 gm_5_81 gm_5_82 gm_1_13 ⟨rfl, rfl, by decide, by decide⟩ kd_SkeletonClockModel_newYear [] rfl rfl rfl rfl hl.1 rfl (Nat.le_of_ble_eq_true rfl) d_SkeletonClockModel_proper_79 ⟨Nat.zero_le _, Nat.zero_le _⟩) hA hP hD hS [] rfl (fun H locs hP hS => ?_)
      refine lv_lsub hx hb d_SkeletonClockModel_proper_82 ?_
      obtain ⟨u12, e13, he⟩ := ih_b he
      refine k_io (r_V (As := [.int (3 : Int32), .long (1 : Int64), .long (u8 - u10)]) S X hA hP hD hS (c_SkeletonClockModel_within l D kk st a_t a_t_known a_t_value a_t_text a_t_page a_t_names a_t_sort a_t_code a_t_count a_t_around a_t_end a_t_size a_t_there a_t_wish a_t_have a_t_before a_t_open a_t_from _ t_length t_used t_far t_momentParts t_momentDay t_momentSecond t_momentNano t_momentOffset t_readParts t_readDay t_readSecond t_readNano t_readOffset t_alike t_known t_value (3 : Int32) (1 : Int64) (u8 - u10) u12 e13) gm_5_239 gm_5_236 gm_5_238 gm_p4_14 gm_1_13 ⟨rfl, rfl, by decide, by decide⟩ kd_SkeletonClockModel_within [0, 1, 2] rfl rfl rfl 0 10 rfl rfl rfl rfl hl.1 rfl (Nat.le_of_ble_eq_true rfl) d_SkeletonClockModel_proper_83 ⟨Nat.zero_le _, Nat.zero_le _⟩) hA hP hD hS [0, 1, 2] rfl (fun H locs hP hS => ?_)
      obtain ⟨hv14, he⟩ := ih_g he
      cases he
      exact k_zre hx hb hr hlk X hP hD hS hv14 d_SkeletonClockModel_proper_86
  · have he := ih_t hc he
    refine lv_aload_n hx hb d_SkeletonClockModel_proper_5 rfl (lv_at hl 0 rfl) ?_
    refine lv_iconst (v := (1 : Int32)) hx hb d_SkeletonClockModel_proper_6 (by decide) ?_
    refine lv_lconst (v := (1 : Int64)) hx hb d_SkeletonClockModel_proper_7 (by decide) ?_
    refine lv_ldc2 (v := (12 : Int64)) hx hb S.2.2.2.1 (S.2.2.2.2 _ gm_5_235) d_SkeletonClockModel_proper_8 ?_
    obtain ⟨u15, e16, he⟩ := ih_b he
    refine k_io (r_V (As := [.int (1 : Int32), .long (1 : Int64), .long (12 : Int64)]) S X hA hP hD hS (c_SkeletonClockModel_within l D kk st a_t a_t_known a_t_value a_t_text a_t_page a_t_names a_t_sort a_t_code a_t_count a_t_around a_t_end a_t_size a_t_there a_t_wish a_t_have a_t_before a_t_open a_t_from _ t_length t_used t_far t_momentParts t_momentDay t_momentSecond t_momentNano t_momentOffset t_readParts t_readDay t_readSecond t_readNano t_readOffset t_alike t_known t_value (1 : Int32) (1 : Int64) (12 : Int64) u15 e16) gm_5_239 gm_5_236 gm_5_238 gm_p4_14 gm_1_13 ⟨rfl, rfl, by decide, by decide⟩ kd_SkeletonClockModel_within [0, 1, 2] rfl rfl rfl 0 10 rfl rfl rfl rfl hl.1 rfl (Nat.le_of_ble_eq_true rfl) d_SkeletonClockModel_proper_11 ⟨Nat.zero_le _, Nat.zero_le _⟩) hA hP hD hS [0, 1, 2] rfl (fun H locs hP hS => ?_)
    refine lv_if_ne (tgt := 19) hx hb d_SkeletonClockModel_proper_14 rfl (fun hc => ?_) (fun hc => ?_)
    · have he := ih_f hc he
      refine lv_aload_n hx hb d_SkeletonClockModel_proper_19 rfl (lv_at hl 0 rfl) ?_
      refine lv_iconst (v := (2 : Int32)) hx hb d_SkeletonClockModel_proper_20 (by decide) ?_
      refine lv_lconst (v := (1 : Int64)) hx hb d_SkeletonClockModel_proper_21 (by decide) ?_
      refine lv_iload_n hx hb d_SkeletonClockModel_proper_22 rfl (lv_at hl 2 rfl) ?_
      refine lv_iconst (v := (1 : Int32)) hx hb d_SkeletonClockModel_proper_23 (by decide) ?_
      refine lv_icmp_ne (tgt := 33) hx hb d_SkeletonClockModel_proper_24 rfl (fun hc => ?_) (fun hc => ?_)
      · have he := ih_f hc he
        refine lv_aload_n hx hb d_SkeletonClockModel_proper_33 rfl (lv_at hl 0 rfl) ?_
        refine k_get S X us_SkeletonClockModel hP 0 rfl rfl 26 (by decide) gm_4_177 rfl d_SkeletonClockModel_proper_34 ?_
        refine lv_iconst (v := (0 : Int32)) hx hb d_SkeletonClockModel_proper_37 (by decide) ?_
        refine va_lald hx hb X.1 hP 2 3 rfl rfl (show ¬ ((0 : Int32) < 0 ∨ 14 ≤ ((0 : Int32)).toNatClampNeg) by decide) d_SkeletonClockModel_proper_38 ?_
        refine lv_aload_n hx hb d_SkeletonClockModel_proper_39 rfl (lv_at hl 0 rfl) ?_
        refine k_get S X us_SkeletonClockModel hP 0 rfl rfl 26 (by decide) gm_4_177 rfl d_SkeletonClockModel_proper_40 ?_
        refine lv_iconst (v := (1 : Int32)) hx hb d_SkeletonClockModel_proper_43 (by decide) ?_
        refine va_lald hx hb X.1 hP 2 3 rfl rfl (show ¬ ((1 : Int32) < 0 ∨ 14 ≤ ((1 : Int32)).toNatClampNeg) by decide) d_SkeletonClockModel_proper_44 ?_
        refine lv_l2i hx hb d_SkeletonClockModel_proper_45 rfl ?_
        obtain ⟨u17, e18, he⟩ := ih_b he
        refine k_io (r_S (As := [.long (t_value ((0 : Int32)).toNatClampNeg), .int (Int64.toInt32 (t_value ((1 : Int32)).toNatClampNeg))]) S X hA hP hD hS (c_SkeletonClockModel_monthLength l D kk st _ (t_value ((0 : Int32)).toNatClampNeg) (Int64.toInt32 (t_value ((1 : Int32)).toNatClampNeg)) u17 e18) gm_5_108 gm_5_106 gm_5_107 gm_1_13 ⟨rfl, rfl, by decide, by decide⟩ kd_SkeletonClockModel_monthLength [] rfl rfl rfl rfl hl.1 rfl (Nat.le_of_ble_eq_true rfl) d_SkeletonClockModel_proper_46 ⟨Nat.zero_le _, Nat.zero_le _⟩) hA hP hD hS [] rfl (fun H locs hP hS => ?_)
        refine lv_i2l hx hb d_SkeletonClockModel_proper_49 rfl ?_
        obtain ⟨u19, e20, he⟩ := ih_b he
        refine k_io (r_V (As := [.int (2 : Int32), .long (1 : Int64), .long (Int32.toInt64 u17)]) S X hA hP hD hS (c_SkeletonClockModel_within l D kk st a_t a_t_known a_t_value a_t_text a_t_page a_t_names a_t_sort a_t_code a_t_count a_t_around a_t_end a_t_size a_t_there a_t_wish a_t_have a_t_before a_t_open a_t_from _ t_length t_used t_far t_momentParts t_momentDay t_momentSecond t_momentNano t_momentOffset t_readParts t_readDay t_readSecond t_readNano t_readOffset t_alike t_known t_value (2 : Int32) (1 : Int64) (Int32.toInt64 u17) u19 e20) gm_5_239 gm_5_236 gm_5_238 gm_p4_14 gm_1_13 ⟨rfl, rfl, by decide, by decide⟩ kd_SkeletonClockModel_within [0, 1, 2] rfl rfl rfl 0 10 rfl rfl rfl rfl hl.1 rfl (Nat.le_of_ble_eq_true rfl) d_SkeletonClockModel_proper_50 ⟨Nat.zero_le _, Nat.zero_le _⟩) hA hP hD hS [0, 1, 2] rfl (fun H locs hP hS => ?_)
        obtain ⟨hv21, he⟩ := ih_g he
        cases he
        exact k_zre hx hb hr hlk X hP hD hS hv21 d_SkeletonClockModel_proper_53
      · have he := ih_t hc he
        refine lv_ldc2 (v := (31 : Int64)) hx hb S.2.2.2.1 (S.2.2.2.2 _ gm_6_0) d_SkeletonClockModel_proper_27 ?_
        refine lv_goto (tgt := 50) hx hb d_SkeletonClockModel_proper_30 rfl ?_
        obtain ⟨u22, e23, he⟩ := ih_b he
        refine k_io (r_V (As := [.int (2 : Int32), .long (1 : Int64), .long (31 : Int64)]) S X hA hP hD hS (c_SkeletonClockModel_within l D kk st a_t a_t_known a_t_value a_t_text a_t_page a_t_names a_t_sort a_t_code a_t_count a_t_around a_t_end a_t_size a_t_there a_t_wish a_t_have a_t_before a_t_open a_t_from _ t_length t_used t_far t_momentParts t_momentDay t_momentSecond t_momentNano t_momentOffset t_readParts t_readDay t_readSecond t_readNano t_readOffset t_alike t_known t_value (2 : Int32) (1 : Int64) (31 : Int64) u22 e23) gm_5_239 gm_5_236 gm_5_238 gm_p4_14 gm_1_13 ⟨rfl, rfl, by decide, by decide⟩ kd_SkeletonClockModel_within [0, 1, 2] rfl rfl rfl 0 10 rfl rfl rfl rfl hl.1 rfl (Nat.le_of_ble_eq_true rfl) d_SkeletonClockModel_proper_50 ⟨Nat.zero_le _, Nat.zero_le _⟩) hA hP hD hS [0, 1, 2] rfl (fun H locs hP hS => ?_)
        obtain ⟨hv24, he⟩ := ih_g he
        cases he
        exact k_zre hx hb hr hlk X hP hD hS hv24 d_SkeletonClockModel_proper_53
    · have he := ih_t hc he
      refine lv_iconst (v := (0 : Int32)) hx hb d_SkeletonClockModel_proper_17 (by decide) ?_
      cases he
      exact k_zre hx hb hr hlk X hP hD hS (Or.inl rfl) d_SkeletonClockModel_proper_18
abbrev rm_SkeletonClockModel_dayBy : Room := { frames := 5, cells := 0, slots := 0, locals := 114 }
set_option maxHeartbeats 4000000 in
set_option maxRecDepth 100000 in
theorem c_SkeletonClockModel_dayBy (l : Launch) (D : va_G) (kk : Nat → ClassId) (st : Nat → Nat) (a_t a_t_value a_t_text a_t_page a_t_names a_t_sort a_t_code a_t_count a_t_around a_t_end a_t_size a_t_there a_t_wish a_t_have a_t_known a_t_before a_t_open a_t_from : Nat) (sz : Nat) (t_length : Int32) (t_used : Int32) (t_far : Int32) (t_momentParts : Int32) (t_momentDay : Int64) (t_momentSecond : Int32) (t_momentNano : Int32) (t_momentOffset : Int32) (t_readParts : Int32) (t_readDay : Int64) (t_readSecond : Int32) (t_readNano : Int32) (t_readOffset : Int32) (t_alike : Int32) (t_value : Nat → Int64) (x1 : Int32) (x2 : Int32) (o : Int64) (he : f_SkeletonClockModel_dayBy t_value x1 x2 = some o) : Met l y_SkeletonClockModel_dayBy (Cond.code y_SkeletonClockModel_dayBy b_SkeletonClockModel_dayBy 10 (some .long) :: GW) rm_SkeletonClockModel_dayBy (KPc D kk st [.ref a_t, .int x1, .int x2] [(a_t, .inr (10, [.int t_length, .ref a_t_text, .int t_used, .ref a_t_page, .ref a_t_names, .ref a_t_sort, .ref a_t_code, .ref a_t_count, .ref a_t_around, .ref a_t_end, .ref a_t_size, .ref a_t_there, .ref a_t_wish, .ref a_t_have, .int t_far, .int t_momentParts, .long t_momentDay, .int t_momentSecond, .int t_momentNano, .int t_momentOffset, .int t_readParts, .long t_readDay, .int t_readSecond, .int t_readNano, .int t_readOffset, .ref a_t_known, .ref a_t_value, .ref a_t_before, .ref a_t_open, .ref a_t_from, .int t_alike])), (a_t_value, .inl (kk 3, 14, .inr (.inl t_value)))] sz) (KQl D kk o [(a_t, .inr (10, [.int t_length, .ref a_t_text, .int t_used, .ref a_t_page, .ref a_t_names, .ref a_t_sort, .ref a_t_code, .ref a_t_count, .ref a_t_around, .ref a_t_end, .ref a_t_size, .ref a_t_there, .ref a_t_wish, .ref a_t_have, .int t_far, .int t_momentParts, .long t_momentDay, .int t_momentSecond, .int t_momentNano, .int t_momentOffset, .int t_readParts, .long t_readDay, .int t_readSecond, .int t_readNano, .int t_readOffset, .ref a_t_known, .ref a_t_value, .ref a_t_before, .ref a_t_open, .ref a_t_from, .int t_alike])), (a_t_value, .inl (kk 3, 14, .inr (.inl t_value)))] (va_A [(a_t, .inr (10, [.int t_length, .ref a_t_text, .int t_used, .ref a_t_page, .ref a_t_names, .ref a_t_sort, .ref a_t_code, .ref a_t_count, .ref a_t_around, .ref a_t_end, .ref a_t_size, .ref a_t_there, .ref a_t_wish, .ref a_t_have, .int t_far, .int t_momentParts, .long t_momentDay, .int t_momentSecond, .int t_momentNano, .int t_momentOffset, .int t_readParts, .long t_readDay, .int t_readSecond, .int t_readNano, .int t_readOffset, .ref a_t_known, .ref a_t_value, .ref a_t_before, .ref a_t_open, .ref a_t_from, .int t_alike])), (a_t_value, .inl (kk 3, 14, .inr (.inl t_value)))] sz)) 0 0 (va_A [(a_t, .inr (10, [.int t_length, .ref a_t_text, .int t_used, .ref a_t_page, .ref a_t_names, .ref a_t_sort, .ref a_t_code, .ref a_t_count, .ref a_t_around, .ref a_t_end, .ref a_t_size, .ref a_t_there, .ref a_t_wish, .ref a_t_have, .int t_far, .int t_momentParts, .long t_momentDay, .int t_momentSecond, .int t_momentNano, .int t_momentOffset, .int t_readParts, .long t_readDay, .int t_readSecond, .int t_readNano, .int t_readOffset, .ref a_t_known, .ref a_t_value, .ref a_t_before, .ref a_t_open, .ref a_t_from, .int t_alike])), (a_t_value, .inl (kk 3, 14, .inr (.inl t_value)))] sz) := by
  refine k_start (Qc := fun A => KQl D kk o [(a_t, .inr (10, [.int t_length, .ref a_t_text, .int t_used, .ref a_t_page, .ref a_t_names, .ref a_t_sort, .ref a_t_code, .ref a_t_count, .ref a_t_around, .ref a_t_end, .ref a_t_size, .ref a_t_there, .ref a_t_wish, .ref a_t_have, .int t_far, .int t_momentParts, .long t_momentDay, .int t_momentSecond, .int t_momentNano, .int t_momentOffset, .int t_readParts, .long t_readDay, .int t_readSecond, .int t_readNano, .int t_readOffset, .ref a_t_known, .ref a_t_value, .ref a_t_before, .ref a_t_open, .ref a_t_from, .int t_alike])), (a_t_value, .inl (kk 3, 14, .inr (.inl t_value)))] A) (by decide) (Nat.le_of_ble_eq_true rfl) ?_
  intro p e s m below meth c A ls S hnm hr hlk hA X hP hD hS hl
  have hl : lv_has ls 10 [(0, .ref a_t), (1, .int x1), (2, .int x2)] := hl
  have hx := S.1
  have hb := S.2.1
  unfold f_SkeletonClockModel_dayBy at he
  refine lv_iload_n hx hb d_SkeletonClockModel_dayBy_0 rfl (lv_at hl 1 rfl) ?_
  refine lv_iconst (v := (2 : Int32)) hx hb d_SkeletonClockModel_dayBy_1 (by decide) ?_
  refine lv_icmp_ne (tgt := 24) hx hb d_SkeletonClockModel_dayBy_2 rfl (fun hc => ?_) (fun hc => ?_)
  · have he := ih_f hc he
    refine lv_iload_n hx hb d_SkeletonClockModel_dayBy_24 rfl (lv_at hl 1 rfl) ?_
    refine lv_iconst (v := (3 : Int32)) hx hb d_SkeletonClockModel_dayBy_25 (by decide) ?_
    refine lv_icmp_ne (tgt := 62) hx hb d_SkeletonClockModel_dayBy_26 rfl (fun hc => ?_) (fun hc => ?_)
    · have he := ih_f hc he
      refine lv_ldc2 (v := (12 : Int64)) hx hb S.2.2.2.1 (S.2.2.2.2 _ gm_5_235) d_SkeletonClockModel_dayBy_62 ?_
      refine lv_aload_n hx hb d_SkeletonClockModel_dayBy_65 rfl (lv_at hl 0 rfl) ?_
      refine k_get S X us_SkeletonClockModel hP 0 rfl rfl 26 (by decide) gm_4_177 rfl d_SkeletonClockModel_dayBy_66 ?_
      refine lv_iconst (v := (0 : Int32)) hx hb d_SkeletonClockModel_dayBy_69 (by decide) ?_
      refine va_lald hx hb X.1 hP 1 3 rfl rfl (show ¬ ((0 : Int32) < 0 ∨ 14 ≤ ((0 : Int32)).toNatClampNeg) by decide) d_SkeletonClockModel_dayBy_70 ?_
      refine lv_lmul hx hb d_SkeletonClockModel_dayBy_71 ?_
      refine lv_aload_n hx hb d_SkeletonClockModel_dayBy_72 rfl (lv_at hl 0 rfl) ?_
      refine k_get S X us_SkeletonClockModel hP 0 rfl rfl 26 (by decide) gm_4_177 rfl d_SkeletonClockModel_dayBy_73 ?_
      refine lv_iconst (v := (1 : Int32)) hx hb d_SkeletonClockModel_dayBy_76 (by decide) ?_
      refine va_lald hx hb X.1 hP 1 3 rfl rfl (show ¬ ((1 : Int32) < 0 ∨ 14 ≤ ((1 : Int32)).toNatClampNeg) by decide) d_SkeletonClockModel_dayBy_77 ?_
      refine lv_ladd hx hb d_SkeletonClockModel_dayBy_78 ?_
      refine lv_lconst (v := (1 : Int64)) hx hb d_SkeletonClockModel_dayBy_79 (by decide) ?_
      refine lv_lsub hx hb d_SkeletonClockModel_dayBy_80 ?_
      refine lv_lstore_n hx hb d_SkeletonClockModel_dayBy_81 rfl hl (by decide) rfl (fun ls hl => ?_)
      have hl : lv_has ls 10 [(3, .long ((((12 : Int64) * (t_value ((0 : Int32)).toNatClampNeg)) + (t_value ((1 : Int32)).toNatClampNeg)) - (1 : Int64))), (0, .ref a_t), (1, .int x1), (2, .int x2)] := hl
      refine lv_lload_n hx hb d_SkeletonClockModel_dayBy_82 rfl (lv_at hl 0 rfl) ?_
      refine lv_ldc2 (v := (12 : Int64)) hx hb S.2.2.2.1 (S.2.2.2.2 _ gm_5_235) d_SkeletonClockModel_dayBy_83 ?_
      obtain ⟨u1, e2, he⟩ := ih_b he
      refine k_lo (r_S (As := [.long ((((12 : Int64) * (t_value ((0 : Int32)).toNatClampNeg)) + (t_value ((1 : Int32)).toNatClampNeg)) - (1 : Int64)), .long (12 : Int64)]) S X hA hP hD hS (c_SkeletonClockModel_div l D kk st _ ((((12 : Int64) * (t_value ((0 : Int32)).toNatClampNeg)) + (t_value ((1 : Int32)).toNatClampNeg)) - (1 : Int64)) (12 : Int64) u1 e2) gm_5_71 gm_5_69 gm_5_70 gm_1_13 ⟨rfl, rfl, by decide, by decide⟩ kd_SkeletonClockModel_div [] rfl rfl rfl rfl hl.1 rfl (Nat.le_of_ble_eq_true rfl) d_SkeletonClockModel_dayBy_86 ⟨Nat.zero_le _, Nat.zero_le _⟩) hA hP hD hS [] rfl (fun H locs hP hS => ?_)
      refine lv_lstore hx hb d_SkeletonClockModel_dayBy_89 hl (by decide) rfl (fun ls hl => ?_)
      have hl : lv_has ls 10 [(5, .long u1), (3, .long ((((12 : Int64) * (t_value ((0 : Int32)).toNatClampNeg)) + (t_value ((1 : Int32)).toNatClampNeg)) - (1 : Int64))), (0, .ref a_t), (1, .int x1), (2, .int x2)] := hl
      refine lv_lload_n hx hb d_SkeletonClockModel_dayBy_91 rfl (lv_at hl 1 rfl) ?_
      refine lv_ldc2 (v := (12 : Int64)) hx hb S.2.2.2.1 (S.2.2.2.2 _ gm_5_235) d_SkeletonClockModel_dayBy_92 ?_
      refine lv_lload hx hb d_SkeletonClockModel_dayBy_95 (lv_at hl 0 rfl) ?_
      refine lv_lmul hx hb d_SkeletonClockModel_dayBy_97 ?_
      refine lv_lsub hx hb d_SkeletonClockModel_dayBy_98 ?_
      refine lv_l2i hx hb d_SkeletonClockModel_dayBy_99 rfl ?_
      refine lv_iconst (v := (1 : Int32)) hx hb d_SkeletonClockModel_dayBy_100 (by decide) ?_
      refine lv_iadd hx hb d_SkeletonClockModel_dayBy_101 ?_
      refine lv_istore hx hb d_SkeletonClockModel_dayBy_102 hl (by decide) rfl (fun ls hl => ?_)
      have hl : lv_has ls 10 [(7, .int ((Int64.toInt32 (((((12 : Int64) * (t_value ((0 : Int32)).toNatClampNeg)) + (t_value ((1 : Int32)).toNatClampNeg)) - (1 : Int64)) - ((12 : Int64) * u1))) + (1 : Int32))), (5, .long u1), (3, .long ((((12 : Int64) * (t_value ((0 : Int32)).toNatClampNeg)) + (t_value ((1 : Int32)).toNatClampNeg)) - (1 : Int64))), (0, .ref a_t), (1, .int x1), (2, .int x2)] := hl
      refine lv_aload_n hx hb d_SkeletonClockModel_dayBy_104 rfl (lv_at hl 3 rfl) ?_
      refine k_get S X us_SkeletonClockModel hP 0 rfl rfl 26 (by decide) gm_4_177 rfl d_SkeletonClockModel_dayBy_105 ?_
      refine lv_iconst (v := (2 : Int32)) hx hb d_SkeletonClockModel_dayBy_108 (by decide) ?_
      refine va_lald hx hb X.1 hP 1 3 rfl rfl (show ¬ ((2 : Int32) < 0 ∨ 14 ≤ ((2 : Int32)).toNatClampNeg) by decide) d_SkeletonClockModel_dayBy_109 ?_
      refine lv_lstore hx hb d_SkeletonClockModel_dayBy_110 hl (by decide) rfl (fun ls hl => ?_)
      have hl : lv_has ls 10 [(8, .long (t_value ((2 : Int32)).toNatClampNeg)), (7, .int ((Int64.toInt32 (((((12 : Int64) * (t_value ((0 : Int32)).toNatClampNeg)) + (t_value ((1 : Int32)).toNatClampNeg)) - (1 : Int64)) - ((12 : Int64) * u1))) + (1 : Int32))), (5, .long u1), (3, .long ((((12 : Int64) * (t_value ((0 : Int32)).toNatClampNeg)) + (t_value ((1 : Int32)).toNatClampNeg)) - (1 : Int64))), (0, .ref a_t), (1, .int x1), (2, .int x2)] := hl
      refine lv_iload_n hx hb d_SkeletonClockModel_dayBy_112 rfl (lv_at hl 6 rfl) ?_
      refine lv_iconst (v := (1 : Int32)) hx hb d_SkeletonClockModel_dayBy_113 (by decide) ?_
      refine lv_icmp_ne (tgt := 141) hx hb d_SkeletonClockModel_dayBy_114 rfl (fun hc => ?_) (fun hc => ?_)
      · have he := ih_f hc he
        refine lv_lload hx hb d_SkeletonClockModel_dayBy_141 (lv_at hl 2 rfl) ?_
        refine lv_iload hx hb d_SkeletonClockModel_dayBy_143 (lv_at hl 1 rfl) ?_
        obtain ⟨u3, e4, he⟩ := ih_b he
        refine k_lo (r_S (As := [.long u1, .int ((Int64.toInt32 (((((12 : Int64) * (t_value ((0 : Int32)).toNatClampNeg)) + (t_value ((1 : Int32)).toNatClampNeg)) - (1 : Int64)) - ((12 : Int64) * u1))) + (1 : Int32))]) S X hA hP hD hS (c_SkeletonClockModel_newMonth l D kk st _ u1 ((Int64.toInt32 (((((12 : Int64) * (t_value ((0 : Int32)).toNatClampNeg)) + (t_value ((1 : Int32)).toNatClampNeg)) - (1 : Int64)) - ((12 : Int64) * u1))) + (1 : Int32)) u3 e4) gm_5_105 gm_5_103 gm_5_104 gm_1_13 ⟨rfl, rfl, by decide, by decide⟩ kd_SkeletonClockModel_newMonth [] rfl rfl rfl rfl hl.1 rfl (Nat.le_of_ble_eq_true rfl) d_SkeletonClockModel_dayBy_145 ⟨Nat.zero_le _, Nat.zero_le _⟩) hA hP hD hS [] rfl (fun H locs hP hS => ?_)
        refine lv_lload hx hb d_SkeletonClockModel_dayBy_148 (lv_at hl 0 rfl) ?_
        refine lv_ladd hx hb d_SkeletonClockModel_dayBy_150 ?_
        refine lv_lconst (v := (1 : Int64)) hx hb d_SkeletonClockModel_dayBy_151 (by decide) ?_
        refine lv_lsub hx hb d_SkeletonClockModel_dayBy_152 ?_
        cases he
        exact k_lre hx hb hr hlk X hP hD hS d_SkeletonClockModel_dayBy_153
      · have he := ih_t hc he
        refine lv_lload hx hb d_SkeletonClockModel_dayBy_117 (lv_at hl 0 rfl) ?_
        refine lv_lload hx hb d_SkeletonClockModel_dayBy_119 (lv_at hl 2 rfl) ?_
        refine lv_iload hx hb d_SkeletonClockModel_dayBy_121 (lv_at hl 1 rfl) ?_
        obtain ⟨u5, e6, he⟩ := ih_b he
        refine k_io (r_S (As := [.long u1, .int ((Int64.toInt32 (((((12 : Int64) * (t_value ((0 : Int32)).toNatClampNeg)) + (t_value ((1 : Int32)).toNatClampNeg)) - (1 : Int64)) - ((12 : Int64) * u1))) + (1 : Int32))]) S X hA hP hD hS (c_SkeletonClockModel_monthLength l D kk st _ u1 ((Int64.toInt32 (((((12 : Int64) * (t_value ((0 : Int32)).toNatClampNeg)) + (t_value ((1 : Int32)).toNatClampNeg)) - (1 : Int64)) - ((12 : Int64) * u1))) + (1 : Int32)) u5 e6) gm_5_108 gm_5_106 gm_5_107 gm_1_13 ⟨rfl, rfl, by decide, by decide⟩ kd_SkeletonClockModel_monthLength [] rfl rfl rfl rfl hl.1 rfl (Nat.le_of_ble_eq_true rfl) d_SkeletonClockModel_dayBy_123 ⟨Nat.zero_le _, Nat.zero_le _⟩) hA hP hD hS [] rfl (fun H locs hP hS => ?_)
        refine lv_i2l hx hb d_SkeletonClockModel_dayBy_126 rfl ?_
        refine lq_le (tgt := 141) hx hb d_SkeletonClockModel_dayBy_127 d_SkeletonClockModel_dayBy_128 rfl (fun hc => ?_) (fun hc => ?_)
        · have he := ih_t hc he
          refine lv_lload hx hb d_SkeletonClockModel_dayBy_141 (lv_at hl 2 rfl) ?_
          refine lv_iload hx hb d_SkeletonClockModel_dayBy_143 (lv_at hl 1 rfl) ?_
          obtain ⟨u7, e8, he⟩ := ih_b he
          refine k_lo (r_S (As := [.long u1, .int ((Int64.toInt32 (((((12 : Int64) * (t_value ((0 : Int32)).toNatClampNeg)) + (t_value ((1 : Int32)).toNatClampNeg)) - (1 : Int64)) - ((12 : Int64) * u1))) + (1 : Int32))]) S X hA hP hD hS (c_SkeletonClockModel_newMonth l D kk st _ u1 ((Int64.toInt32 (((((12 : Int64) * (t_value ((0 : Int32)).toNatClampNeg)) + (t_value ((1 : Int32)).toNatClampNeg)) - (1 : Int64)) - ((12 : Int64) * u1))) + (1 : Int32)) u7 e8) gm_5_105 gm_5_103 gm_5_104 gm_1_13 ⟨rfl, rfl, by decide, by decide⟩ kd_SkeletonClockModel_newMonth [] rfl rfl rfl rfl hl.1 rfl (Nat.le_of_ble_eq_true rfl) d_SkeletonClockModel_dayBy_145 ⟨Nat.zero_le _, Nat.zero_le _⟩) hA hP hD hS [] rfl (fun H locs hP hS => ?_)
          refine lv_lload hx hb d_SkeletonClockModel_dayBy_148 (lv_at hl 0 rfl) ?_
          refine lv_ladd hx hb d_SkeletonClockModel_dayBy_150 ?_
          refine lv_lconst (v := (1 : Int64)) hx hb d_SkeletonClockModel_dayBy_151 (by decide) ?_
          refine lv_lsub hx hb d_SkeletonClockModel_dayBy_152 ?_
          cases he
          exact k_lre hx hb hr hlk X hP hD hS d_SkeletonClockModel_dayBy_153
        · have he := ih_f hc he
          refine lv_lload hx hb d_SkeletonClockModel_dayBy_131 (lv_at hl 2 rfl) ?_
          refine lv_iload hx hb d_SkeletonClockModel_dayBy_133 (lv_at hl 1 rfl) ?_
          obtain ⟨u9, e10, he⟩ := ih_b he
          refine k_io (r_S (As := [.long u1, .int ((Int64.toInt32 (((((12 : Int64) * (t_value ((0 : Int32)).toNatClampNeg)) + (t_value ((1 : Int32)).toNatClampNeg)) - (1 : Int64)) - ((12 : Int64) * u1))) + (1 : Int32))]) S X hA hP hD hS (c_SkeletonClockModel_monthLength l D kk st _ u1 ((Int64.toInt32 (((((12 : Int64) * (t_value ((0 : Int32)).toNatClampNeg)) + (t_value ((1 : Int32)).toNatClampNeg)) - (1 : Int64)) - ((12 : Int64) * u1))) + (1 : Int32)) u9 e10) gm_5_108 gm_5_106 gm_5_107 gm_1_13 ⟨rfl, rfl, by decide, by decide⟩ kd_SkeletonClockModel_monthLength [] rfl rfl rfl rfl hl.1 rfl (Nat.le_of_ble_eq_true rfl) d_SkeletonClockModel_dayBy_135 ⟨Nat.zero_le _, Nat.zero_le _⟩) hA hP hD hS [] rfl (fun H locs hP hS => ?_)
          refine lv_i2l hx hb d_SkeletonClockModel_dayBy_138 rfl ?_
          refine lv_lstore hx hb d_SkeletonClockModel_dayBy_139 hl (by decide) rfl (fun ls hl => ?_)
          have hl : lv_has ls 10 [(8, .long (Int32.toInt64 u9)), (7, .int ((Int64.toInt32 (((((12 : Int64) * (t_value ((0 : Int32)).toNatClampNeg)) + (t_value ((1 : Int32)).toNatClampNeg)) - (1 : Int64)) - ((12 : Int64) * u1))) + (1 : Int32))), (5, .long u1), (3, .long ((((12 : Int64) * (t_value ((0 : Int32)).toNatClampNeg)) + (t_value ((1 : Int32)).toNatClampNeg)) - (1 : Int64))), (0, .ref a_t), (1, .int x1), (2, .int x2)] := hl
          refine lv_lload hx hb d_SkeletonClockModel_dayBy_141 (lv_at hl 2 rfl) ?_
          refine lv_iload hx hb d_SkeletonClockModel_dayBy_143 (lv_at hl 1 rfl) ?_
          obtain ⟨u11, e12, he⟩ := ih_b he
          refine k_lo (r_S (As := [.long u1, .int ((Int64.toInt32 (((((12 : Int64) * (t_value ((0 : Int32)).toNatClampNeg)) + (t_value ((1 : Int32)).toNatClampNeg)) - (1 : Int64)) - ((12 : Int64) * u1))) + (1 : Int32))]) S X hA hP hD hS (c_SkeletonClockModel_newMonth l D kk st _ u1 ((Int64.toInt32 (((((12 : Int64) * (t_value ((0 : Int32)).toNatClampNeg)) + (t_value ((1 : Int32)).toNatClampNeg)) - (1 : Int64)) - ((12 : Int64) * u1))) + (1 : Int32)) u11 e12) gm_5_105 gm_5_103 gm_5_104 gm_1_13 ⟨rfl, rfl, by decide, by decide⟩ kd_SkeletonClockModel_newMonth [] rfl rfl rfl rfl hl.1 rfl (Nat.le_of_ble_eq_true rfl) d_SkeletonClockModel_dayBy_145 ⟨Nat.zero_le _, Nat.zero_le _⟩) hA hP hD hS [] rfl (fun H locs hP hS => ?_)
          refine lv_lload hx hb d_SkeletonClockModel_dayBy_148 (lv_at hl 0 rfl) ?_
          refine lv_ladd hx hb d_SkeletonClockModel_dayBy_150 ?_
          refine lv_lconst (v := (1 : Int64)) hx hb d_SkeletonClockModel_dayBy_151 (by decide) ?_
          refine lv_lsub hx hb d_SkeletonClockModel_dayBy_152 ?_
          cases he
          exact k_lre hx hb hr hlk X hP hD hS d_SkeletonClockModel_dayBy_153
    · have he := ih_t hc he
      refine lv_aload_n hx hb d_SkeletonClockModel_dayBy_29 rfl (lv_at hl 0 rfl) ?_
      refine k_get S X us_SkeletonClockModel hP 0 rfl rfl 26 (by decide) gm_4_177 rfl d_SkeletonClockModel_dayBy_30 ?_
      refine lv_bipush (v := (6 : Int32)) hx hb d_SkeletonClockModel_dayBy_33 (by decide) ?_
      refine va_lald hx hb X.1 hP 1 3 rfl rfl (show ¬ ((6 : Int32) < 0 ∨ 14 ≤ ((6 : Int32)).toNatClampNeg) by decide) d_SkeletonClockModel_dayBy_35 ?_
      obtain ⟨u13, e14, he⟩ := ih_b he
      refine k_lo (r_S (As := [.long (t_value ((6 : Int32)).toNatClampNeg)]) S X hA hP hD hS (c_SkeletonClockModel_firstMonday l D kk st _ (t_value ((6 : Int32)).toNatClampNeg) u13 e14) gm_6_3 gm_6_1 gm_6_2 gm_1_13 ⟨rfl, rfl, by decide, by decide⟩ kd_SkeletonClockModel_firstMonday [] rfl rfl rfl rfl hl.1 rfl (Nat.le_of_ble_eq_true rfl) d_SkeletonClockModel_dayBy_36 ⟨Nat.zero_le _, Nat.zero_le _⟩) hA hP hD hS [] rfl (fun H locs hP hS => ?_)
      refine lv_ldc2 (v := (7 : Int64)) hx hb S.2.2.2.1 (S.2.2.2.2 _ gm_5_114) d_SkeletonClockModel_dayBy_39 ?_
      refine lv_aload_n hx hb d_SkeletonClockModel_dayBy_42 rfl (lv_at hl 0 rfl) ?_
      refine k_get S X us_SkeletonClockModel hP 0 rfl rfl 26 (by decide) gm_4_177 rfl d_SkeletonClockModel_dayBy_43 ?_
      refine lv_iconst (v := (5 : Int32)) hx hb d_SkeletonClockModel_dayBy_46 (by decide) ?_
      refine va_lald hx hb X.1 hP 1 3 rfl rfl (show ¬ ((5 : Int32) < 0 ∨ 14 ≤ ((5 : Int32)).toNatClampNeg) by decide) d_SkeletonClockModel_dayBy_47 ?_
      refine lv_lconst (v := (1 : Int64)) hx hb d_SkeletonClockModel_dayBy_48 (by decide) ?_
      refine lv_lsub hx hb d_SkeletonClockModel_dayBy_49 ?_
      refine lv_lmul hx hb d_SkeletonClockModel_dayBy_50 ?_
      refine lv_ladd hx hb d_SkeletonClockModel_dayBy_51 ?_
      refine lv_aload_n hx hb d_SkeletonClockModel_dayBy_52 rfl (lv_at hl 0 rfl) ?_
      refine k_get S X us_SkeletonClockModel hP 0 rfl rfl 26 (by decide) gm_4_177 rfl d_SkeletonClockModel_dayBy_53 ?_
      refine lv_iconst (v := (4 : Int32)) hx hb d_SkeletonClockModel_dayBy_56 (by decide) ?_
      refine va_lald hx hb X.1 hP 1 3 rfl rfl (show ¬ ((4 : Int32) < 0 ∨ 14 ≤ ((4 : Int32)).toNatClampNeg) by decide) d_SkeletonClockModel_dayBy_57 ?_
      refine lv_ladd hx hb d_SkeletonClockModel_dayBy_58 ?_
      refine lv_lconst (v := (1 : Int64)) hx hb d_SkeletonClockModel_dayBy_59 (by decide) ?_
      refine lv_lsub hx hb d_SkeletonClockModel_dayBy_60 ?_
      cases he
      exact k_lre hx hb hr hlk X hP hD hS d_SkeletonClockModel_dayBy_61
  · have he := ih_t hc he
    refine lv_aload_n hx hb d_SkeletonClockModel_dayBy_5 rfl (lv_at hl 0 rfl) ?_
    refine k_get S X us_SkeletonClockModel hP 0 rfl rfl 26 (by decide) gm_4_177 rfl d_SkeletonClockModel_dayBy_6 ?_
    refine lv_iconst (v := (0 : Int32)) hx hb d_SkeletonClockModel_dayBy_9 (by decide) ?_
    refine va_lald hx hb X.1 hP 1 3 rfl rfl (show ¬ ((0 : Int32) < 0 ∨ 14 ≤ ((0 : Int32)).toNatClampNeg) by decide) d_SkeletonClockModel_dayBy_10 ?_
    obtain ⟨u15, e16, he⟩ := ih_b he
    refine k_lo (r_S (As := [.long (t_value ((0 : Int32)).toNatClampNeg)]) S X hA hP hD hS (c_SkeletonClockModel_newYear l D kk st _ (t_value ((0 : Int32)).toNatClampNeg) u15 e16) gm_5_83 gm_5_81 gm_5_82 gm_1_13 ⟨rfl, rfl, by decide, by decide⟩ kd_SkeletonClockModel_newYear [] rfl rfl rfl rfl hl.1 rfl (Nat.le_of_ble_eq_true rfl) d_SkeletonClockModel_dayBy_11 ⟨Nat.zero_le _, Nat.zero_le _⟩) hA hP hD hS [] rfl (fun H locs hP hS => ?_)
    refine lv_aload_n hx hb d_SkeletonClockModel_dayBy_14 rfl (lv_at hl 0 rfl) ?_
    refine k_get S X us_SkeletonClockModel hP 0 rfl rfl 26 (by decide) gm_4_177 rfl d_SkeletonClockModel_dayBy_15 ?_
    refine lv_iconst (v := (3 : Int32)) hx hb d_SkeletonClockModel_dayBy_18 (by decide) ?_
    refine va_lald hx hb X.1 hP 1 3 rfl rfl (show ¬ ((3 : Int32) < 0 ∨ 14 ≤ ((3 : Int32)).toNatClampNeg) by decide) d_SkeletonClockModel_dayBy_19 ?_
    refine lv_ladd hx hb d_SkeletonClockModel_dayBy_20 ?_
    refine lv_lconst (v := (1 : Int64)) hx hb d_SkeletonClockModel_dayBy_21 (by decide) ?_
    refine lv_lsub hx hb d_SkeletonClockModel_dayBy_22 ?_
    cases he
    exact k_lre hx hb hr hlk X hP hD hS d_SkeletonClockModel_dayBy_23
abbrev rm_SkeletonClockModel_hour : Room := { frames := 0, cells := 0, slots := 0, locals := 0 }
set_option maxHeartbeats 4000000 in
set_option maxRecDepth 100000 in
theorem c_SkeletonClockModel_hour (l : Launch) (D : va_G) (kk : Nat → ClassId) (st : Nat → Nat) (a_t a_t_known a_t_value a_t_text a_t_page a_t_names a_t_sort a_t_code a_t_count a_t_around a_t_end a_t_size a_t_there a_t_wish a_t_have a_t_before a_t_open a_t_from : Nat) (sz : Nat) (t_length : Int32) (t_used : Int32) (t_far : Int32) (t_momentParts : Int32) (t_momentDay : Int64) (t_momentSecond : Int32) (t_momentNano : Int32) (t_momentOffset : Int32) (t_readParts : Int32) (t_readDay : Int64) (t_readSecond : Int32) (t_readNano : Int32) (t_readOffset : Int32) (t_alike : Int32) (t_known : Nat → Int32) (t_value : Nat → Int64) (o : Int64) (he : f_SkeletonClockModel_hour t_known t_value = some o) : Met l y_SkeletonClockModel_hour (Cond.code y_SkeletonClockModel_hour b_SkeletonClockModel_hour 1 (some .long) :: GW) rm_SkeletonClockModel_hour (KPc D kk st [.ref a_t] [(a_t, .inr (10, [.int t_length, .ref a_t_text, .int t_used, .ref a_t_page, .ref a_t_names, .ref a_t_sort, .ref a_t_code, .ref a_t_count, .ref a_t_around, .ref a_t_end, .ref a_t_size, .ref a_t_there, .ref a_t_wish, .ref a_t_have, .int t_far, .int t_momentParts, .long t_momentDay, .int t_momentSecond, .int t_momentNano, .int t_momentOffset, .int t_readParts, .long t_readDay, .int t_readSecond, .int t_readNano, .int t_readOffset, .ref a_t_known, .ref a_t_value, .ref a_t_before, .ref a_t_open, .ref a_t_from, .int t_alike])), (a_t_known, .inl (kk 2, 14, .inl t_known)), (a_t_value, .inl (kk 3, 14, .inr (.inl t_value)))] sz) (KQl D kk o [(a_t, .inr (10, [.int t_length, .ref a_t_text, .int t_used, .ref a_t_page, .ref a_t_names, .ref a_t_sort, .ref a_t_code, .ref a_t_count, .ref a_t_around, .ref a_t_end, .ref a_t_size, .ref a_t_there, .ref a_t_wish, .ref a_t_have, .int t_far, .int t_momentParts, .long t_momentDay, .int t_momentSecond, .int t_momentNano, .int t_momentOffset, .int t_readParts, .long t_readDay, .int t_readSecond, .int t_readNano, .int t_readOffset, .ref a_t_known, .ref a_t_value, .ref a_t_before, .ref a_t_open, .ref a_t_from, .int t_alike])), (a_t_known, .inl (kk 2, 14, .inl t_known)), (a_t_value, .inl (kk 3, 14, .inr (.inl t_value)))] (va_A [(a_t, .inr (10, [.int t_length, .ref a_t_text, .int t_used, .ref a_t_page, .ref a_t_names, .ref a_t_sort, .ref a_t_code, .ref a_t_count, .ref a_t_around, .ref a_t_end, .ref a_t_size, .ref a_t_there, .ref a_t_wish, .ref a_t_have, .int t_far, .int t_momentParts, .long t_momentDay, .int t_momentSecond, .int t_momentNano, .int t_momentOffset, .int t_readParts, .long t_readDay, .int t_readSecond, .int t_readNano, .int t_readOffset, .ref a_t_known, .ref a_t_value, .ref a_t_before, .ref a_t_open, .ref a_t_from, .int t_alike])), (a_t_known, .inl (kk 2, 14, .inl t_known)), (a_t_value, .inl (kk 3, 14, .inr (.inl t_value)))] sz)) 0 0 (va_A [(a_t, .inr (10, [.int t_length, .ref a_t_text, .int t_used, .ref a_t_page, .ref a_t_names, .ref a_t_sort, .ref a_t_code, .ref a_t_count, .ref a_t_around, .ref a_t_end, .ref a_t_size, .ref a_t_there, .ref a_t_wish, .ref a_t_have, .int t_far, .int t_momentParts, .long t_momentDay, .int t_momentSecond, .int t_momentNano, .int t_momentOffset, .int t_readParts, .long t_readDay, .int t_readSecond, .int t_readNano, .int t_readOffset, .ref a_t_known, .ref a_t_value, .ref a_t_before, .ref a_t_open, .ref a_t_from, .int t_alike])), (a_t_known, .inl (kk 2, 14, .inl t_known)), (a_t_value, .inl (kk 3, 14, .inr (.inl t_value)))] sz) := by
  refine k_start (Qc := fun A => KQl D kk o [(a_t, .inr (10, [.int t_length, .ref a_t_text, .int t_used, .ref a_t_page, .ref a_t_names, .ref a_t_sort, .ref a_t_code, .ref a_t_count, .ref a_t_around, .ref a_t_end, .ref a_t_size, .ref a_t_there, .ref a_t_wish, .ref a_t_have, .int t_far, .int t_momentParts, .long t_momentDay, .int t_momentSecond, .int t_momentNano, .int t_momentOffset, .int t_readParts, .long t_readDay, .int t_readSecond, .int t_readNano, .int t_readOffset, .ref a_t_known, .ref a_t_value, .ref a_t_before, .ref a_t_open, .ref a_t_from, .int t_alike])), (a_t_known, .inl (kk 2, 14, .inl t_known)), (a_t_value, .inl (kk 3, 14, .inr (.inl t_value)))] A) (by decide) (Nat.le_of_ble_eq_true rfl) ?_
  intro p e s m below meth c A ls S hnm hr hlk hA X hP hD hS hl
  have hl : lv_has ls 1 [(0, .ref a_t)] := hl
  have hx := S.1
  have hb := S.2.1
  unfold f_SkeletonClockModel_hour at he
  refine lv_aload_n hx hb d_SkeletonClockModel_hour_0 rfl (lv_at hl 0 rfl) ?_
  refine k_get S X us_SkeletonClockModel hP 0 rfl rfl 25 (by decide) gm_4_176 rfl d_SkeletonClockModel_hour_1 ?_
  refine lv_bipush (v := (7 : Int32)) hx hb d_SkeletonClockModel_hour_4 (by decide) ?_
  refine va_zald hx hb X.1 hP 1 2 rfl rfl (show ¬ ((7 : Int32) < 0 ∨ 14 ≤ ((7 : Int32)).toNatClampNeg) by decide) d_SkeletonClockModel_hour_6 ?_
  refine lv_if_eq (tgt := 18) hx hb d_SkeletonClockModel_hour_7 rfl (fun hc => ?_) (fun hc => ?_)
  · have he := ih_t hc he
    refine lv_aload_n hx hb d_SkeletonClockModel_hour_18 rfl (lv_at hl 0 rfl) ?_
    refine k_get S X us_SkeletonClockModel hP 0 rfl rfl 25 (by decide) gm_4_176 rfl d_SkeletonClockModel_hour_19 ?_
    refine lv_bipush (v := (8 : Int32)) hx hb d_SkeletonClockModel_hour_22 (by decide) ?_
    refine va_zald hx hb X.1 hP 1 2 rfl rfl (show ¬ ((8 : Int32) < 0 ∨ 14 ≤ ((8 : Int32)).toNatClampNeg) by decide) d_SkeletonClockModel_hour_24 ?_
    refine lv_if_eq (tgt := 78) hx hb d_SkeletonClockModel_hour_25 rfl (fun hc => ?_) (fun hc => ?_)
    · have he := ih_t hc he
      refine lv_lconst (v := (0 : Int64)) hx hb d_SkeletonClockModel_hour_78 (by decide) ?_
      cases he
      exact k_lre hx hb hr hlk X hP hD hS d_SkeletonClockModel_hour_79
    · have he := ih_f hc he
      refine lv_aload_n hx hb d_SkeletonClockModel_hour_28 rfl (lv_at hl 0 rfl) ?_
      refine k_get S X us_SkeletonClockModel hP 0 rfl rfl 25 (by decide) gm_4_176 rfl d_SkeletonClockModel_hour_29 ?_
      refine lv_bipush (v := (9 : Int32)) hx hb d_SkeletonClockModel_hour_32 (by decide) ?_
      refine va_zald hx hb X.1 hP 1 2 rfl rfl (show ¬ ((9 : Int32) < 0 ∨ 14 ≤ ((9 : Int32)).toNatClampNeg) by decide) d_SkeletonClockModel_hour_34 ?_
      refine lv_if_eq (tgt := 78) hx hb d_SkeletonClockModel_hour_35 rfl (fun hc => ?_) (fun hc => ?_)
      · have he := ih_t hc he
        refine lv_lconst (v := (0 : Int64)) hx hb d_SkeletonClockModel_hour_78 (by decide) ?_
        cases he
        exact k_lre hx hb hr hlk X hP hD hS d_SkeletonClockModel_hour_79
      · have he := ih_f hc he
        refine lv_ldc2 (v := (12 : Int64)) hx hb S.2.2.2.1 (S.2.2.2.2 _ gm_5_235) d_SkeletonClockModel_hour_38 ?_
        refine lv_aload_n hx hb d_SkeletonClockModel_hour_41 rfl (lv_at hl 0 rfl) ?_
        refine k_get S X us_SkeletonClockModel hP 0 rfl rfl 26 (by decide) gm_4_177 rfl d_SkeletonClockModel_hour_42 ?_
        refine lv_bipush (v := (9 : Int32)) hx hb d_SkeletonClockModel_hour_45 (by decide) ?_
        refine va_lald hx hb X.1 hP 2 3 rfl rfl (show ¬ ((9 : Int32) < 0 ∨ 14 ≤ ((9 : Int32)).toNatClampNeg) by decide) d_SkeletonClockModel_hour_47 ?_
        refine lv_lmul hx hb d_SkeletonClockModel_hour_48 ?_
        refine lv_aload_n hx hb d_SkeletonClockModel_hour_49 rfl (lv_at hl 0 rfl) ?_
        refine k_get S X us_SkeletonClockModel hP 0 rfl rfl 26 (by decide) gm_4_177 rfl d_SkeletonClockModel_hour_50 ?_
        refine lv_bipush (v := (8 : Int32)) hx hb d_SkeletonClockModel_hour_53 (by decide) ?_
        refine va_lald hx hb X.1 hP 2 3 rfl rfl (show ¬ ((8 : Int32) < 0 ∨ 14 ≤ ((8 : Int32)).toNatClampNeg) by decide) d_SkeletonClockModel_hour_55 ?_
        refine lv_ldc2 (v := (12 : Int64)) hx hb S.2.2.2.1 (S.2.2.2.2 _ gm_5_235) d_SkeletonClockModel_hour_56 ?_
        refine lq_ne (tgt := 67) hx hb d_SkeletonClockModel_hour_59 d_SkeletonClockModel_hour_60 rfl (fun hc => ?_) (fun hc => ?_)
        · have he := ih_f hc he
          refine lv_aload_n hx hb d_SkeletonClockModel_hour_67 rfl (lv_at hl 0 rfl) ?_
          refine k_get S X us_SkeletonClockModel hP 0 rfl rfl 26 (by decide) gm_4_177 rfl d_SkeletonClockModel_hour_68 ?_
          refine lv_bipush (v := (8 : Int32)) hx hb d_SkeletonClockModel_hour_71 (by decide) ?_
          refine va_lald hx hb X.1 hP 2 3 rfl rfl (show ¬ ((8 : Int32) < 0 ∨ 14 ≤ ((8 : Int32)).toNatClampNeg) by decide) d_SkeletonClockModel_hour_73 ?_
          refine lv_ladd hx hb d_SkeletonClockModel_hour_74 ?_
          refine lv_goto (tgt := 79) hx hb d_SkeletonClockModel_hour_75 rfl ?_
          cases he
          exact k_lre hx hb hr hlk X hP hD hS d_SkeletonClockModel_hour_79
        · have he := ih_t hc he
          refine lv_lconst (v := (0 : Int64)) hx hb d_SkeletonClockModel_hour_63 (by decide) ?_
          refine lv_goto (tgt := 74) hx hb d_SkeletonClockModel_hour_64 rfl ?_
          refine lv_ladd hx hb d_SkeletonClockModel_hour_74 ?_
          refine lv_goto (tgt := 79) hx hb d_SkeletonClockModel_hour_75 rfl ?_
          cases he
          exact k_lre hx hb hr hlk X hP hD hS d_SkeletonClockModel_hour_79
  · have he := ih_f hc he
    refine lv_aload_n hx hb d_SkeletonClockModel_hour_10 rfl (lv_at hl 0 rfl) ?_
    refine k_get S X us_SkeletonClockModel hP 0 rfl rfl 26 (by decide) gm_4_177 rfl d_SkeletonClockModel_hour_11 ?_
    refine lv_bipush (v := (7 : Int32)) hx hb d_SkeletonClockModel_hour_14 (by decide) ?_
    refine va_lald hx hb X.1 hP 2 3 rfl rfl (show ¬ ((7 : Int32) < 0 ∨ 14 ≤ ((7 : Int32)).toNatClampNeg) by decide) d_SkeletonClockModel_hour_16 ?_
    cases he
    exact k_lre hx hb hr hlk X hP hD hS d_SkeletonClockModel_hour_17
abbrev rm_SkeletonClockModel_properTime : Room := { frames := 1, cells := 0, slots := 0, locals := 25 }
set_option maxHeartbeats 4000000 in
set_option maxRecDepth 100000 in
theorem w_SkeletonClockModel_properTime_66 {p : Program} {l : Launch} {e : Env} {s : State} {m : MethodId} {args : Array Value} {below : List Frame} {meth : Method} {c : Code} {A : Nat → Prop} {D : va_G} {kk : Nat → ClassId} {st : Nat → Nat} (a_t a_t_known a_t_value a_t_text a_t_page a_t_names a_t_sort a_t_code a_t_count a_t_around a_t_end a_t_size a_t_there a_t_wish a_t_have a_t_before a_t_open a_t_from : Nat) (t_length : Int32) (t_used : Int32) (t_far : Int32) (t_momentParts : Int32) (t_momentDay : Int64) (t_momentSecond : Int32) (t_momentNano : Int32) (t_momentOffset : Int32) (t_readParts : Int32) (t_readDay : Int64) (t_readSecond : Int32) (t_readNano : Int32) (t_readOffset : Int32) (t_alike : Int32) (t_known : Nat → Int32) (t_value : Nat → Int64) (o : Int32) (S : CallFix p m c b_SkeletonClockModel_properTime 2 s args GW y_SkeletonClockModel_properTime.cls) (hr : meth.sig.returnType = (some .boolean)) (hlk : meth.locks = false) (hA : ∀ q, s.heap.size ≤ q → A q) (X : KX D kk st A s) (H : Heap) (locs : List Loc) (ls : Array Slot) (he : jn_SkeletonClockModel_properTime_66 t_known t_value = some o) (hl : lv_has ls 2 [(0, .ref a_t)]) (hP : va_P D classes [(a_t, .inr (10, [.int t_length, .ref a_t_text, .int t_used, .ref a_t_page, .ref a_t_names, .ref a_t_sort, .ref a_t_code, .ref a_t_count, .ref a_t_around, .ref a_t_end, .ref a_t_size, .ref a_t_there, .ref a_t_wish, .ref a_t_have, .int t_far, .int t_momentParts, .long t_momentDay, .int t_momentSecond, .int t_momentNano, .int t_momentOffset, .int t_readParts, .long t_readDay, .int t_readSecond, .int t_readNano, .int t_readOffset, .ref a_t_known, .ref a_t_value, .ref a_t_before, .ref a_t_open, .ref a_t_from, .int t_alike])), (a_t_known, .inl (kk 2, 14, .inl t_known)), (a_t_value, .inl (kk 3, 14, .inr (.inl t_value)))] H) (hD : va_D A [(a_t, .inr (10, [.int t_length, .ref a_t_text, .int t_used, .ref a_t_page, .ref a_t_names, .ref a_t_sort, .ref a_t_code, .ref a_t_count, .ref a_t_around, .ref a_t_end, .ref a_t_size, .ref a_t_there, .ref a_t_wish, .ref a_t_have, .int t_far, .int t_momentParts, .long t_momentDay, .int t_momentSecond, .int t_momentNano, .int t_momentOffset, .int t_readParts, .long t_readDay, .int t_readSecond, .int t_readNano, .int t_readOffset, .ref a_t_known, .ref a_t_value, .ref a_t_before, .ref a_t_open, .ref a_t_from, .int t_alike])), (a_t_known, .inl (kk 2, 14, .inl t_known)), (a_t_value, .inl (kk 3, 14, .inr (.inl t_value)))]) (hS : va_S A s.heap H locs) : W p l e rm_SkeletonClockModel_properTime s m args below meth c H locs 0 0 (MQ below (KQi D kk o [(a_t, .inr (10, [.int t_length, .ref a_t_text, .int t_used, .ref a_t_page, .ref a_t_names, .ref a_t_sort, .ref a_t_code, .ref a_t_count, .ref a_t_around, .ref a_t_end, .ref a_t_size, .ref a_t_there, .ref a_t_wish, .ref a_t_have, .int t_far, .int t_momentParts, .long t_momentDay, .int t_momentSecond, .int t_momentNano, .int t_momentOffset, .int t_readParts, .long t_readDay, .int t_readSecond, .int t_readNano, .int t_readOffset, .ref a_t_known, .ref a_t_value, .ref a_t_before, .ref a_t_open, .ref a_t_from, .int t_alike])), (a_t_known, .inl (kk 2, 14, .inl t_known)), (a_t_value, .inl (kk 3, 14, .inr (.inl t_value)))] A) args s 0 0 A) (F0 m 66 ls []) := by
  have hx := S.1
  have hb := S.2.1
  unfold jn_SkeletonClockModel_properTime_66 at he
  refine lv_aload_n hx hb d_SkeletonClockModel_properTime_66 rfl (lv_at hl 0 rfl) ?_
  refine lv_bipush (v := (10 : Int32)) hx hb d_SkeletonClockModel_properTime_67 (by decide) ?_
  refine lv_lconst (v := (0 : Int64)) hx hb d_SkeletonClockModel_properTime_69 (by decide) ?_
  refine lv_ldc2 (v := (59 : Int64)) hx hb S.2.2.2.1 (S.2.2.2.2 _ gm_5_204) d_SkeletonClockModel_properTime_70 ?_
  obtain ⟨u3, e4, he⟩ := ih_b he
  refine k_io (r_V (As := [.int (10 : Int32), .long (0 : Int64), .long (59 : Int64)]) S X hA hP hD hS (c_SkeletonClockModel_within l D kk st a_t a_t_known a_t_value a_t_text a_t_page a_t_names a_t_sort a_t_code a_t_count a_t_around a_t_end a_t_size a_t_there a_t_wish a_t_have a_t_before a_t_open a_t_from _ t_length t_used t_far t_momentParts t_momentDay t_momentSecond t_momentNano t_momentOffset t_readParts t_readDay t_readSecond t_readNano t_readOffset t_alike t_known t_value (10 : Int32) (0 : Int64) (59 : Int64) u3 e4) gm_5_239 gm_5_236 gm_5_238 gm_p4_14 gm_1_13 ⟨rfl, rfl, by decide, by decide⟩ kd_SkeletonClockModel_within [0, 1, 2] rfl rfl rfl 0 10 rfl rfl rfl rfl hl.1 rfl (Nat.le_of_ble_eq_true rfl) d_SkeletonClockModel_properTime_73 ⟨Nat.zero_le _, Nat.zero_le _⟩) hA hP hD hS [0, 1, 2] rfl (fun H locs hP hS => ?_)
  refine lv_if_eq (tgt := 96) hx hb d_SkeletonClockModel_properTime_76 rfl (fun hc => ?_) (fun hc => ?_)
  · have he := ih_t hc he
    refine lv_iconst (v := (0 : Int32)) hx hb d_SkeletonClockModel_properTime_96 (by decide) ?_
    cases he
    exact k_zre hx hb hr hlk X hP hD hS (Or.inl rfl) d_SkeletonClockModel_properTime_97
  · have he := ih_f hc he
    refine lv_aload_n hx hb d_SkeletonClockModel_properTime_79 rfl (lv_at hl 0 rfl) ?_
    refine lv_bipush (v := (11 : Int32)) hx hb d_SkeletonClockModel_properTime_80 (by decide) ?_
    refine lv_lconst (v := (0 : Int64)) hx hb d_SkeletonClockModel_properTime_82 (by decide) ?_
    refine lv_ldc2 (v := (59 : Int64)) hx hb S.2.2.2.1 (S.2.2.2.2 _ gm_5_204) d_SkeletonClockModel_properTime_83 ?_
    obtain ⟨u5, e6, he⟩ := ih_b he
    refine k_io (r_V (As := [.int (11 : Int32), .long (0 : Int64), .long (59 : Int64)]) S X hA hP hD hS (c_SkeletonClockModel_within l D kk st a_t a_t_known a_t_value a_t_text a_t_page a_t_names a_t_sort a_t_code a_t_count a_t_around a_t_end a_t_size a_t_there a_t_wish a_t_have a_t_before a_t_open a_t_from _ t_length t_used t_far t_momentParts t_momentDay t_momentSecond t_momentNano t_momentOffset t_readParts t_readDay t_readSecond t_readNano t_readOffset t_alike t_known t_value (11 : Int32) (0 : Int64) (59 : Int64) u5 e6) gm_5_239 gm_5_236 gm_5_238 gm_p4_14 gm_1_13 ⟨rfl, rfl, by decide, by decide⟩ kd_SkeletonClockModel_within [0, 1, 2] rfl rfl rfl 0 10 rfl rfl rfl rfl hl.1 rfl (Nat.le_of_ble_eq_true rfl) d_SkeletonClockModel_properTime_86 ⟨Nat.zero_le _, Nat.zero_le _⟩) hA hP hD hS [0, 1, 2] rfl (fun H locs hP hS => ?_)
    refine lv_if_eq (tgt := 96) hx hb d_SkeletonClockModel_properTime_89 rfl (fun hc => ?_) (fun hc => ?_)
    · have he := ih_t hc he
      refine lv_iconst (v := (0 : Int32)) hx hb d_SkeletonClockModel_properTime_96 (by decide) ?_
      cases he
      exact k_zre hx hb hr hlk X hP hD hS (Or.inl rfl) d_SkeletonClockModel_properTime_97
    · have he := ih_f hc he
      refine lv_iconst (v := (1 : Int32)) hx hb d_SkeletonClockModel_properTime_92 (by decide) ?_
      refine lv_goto (tgt := 97) hx hb d_SkeletonClockModel_properTime_93 rfl ?_
      cases he
      exact k_zre hx hb hr hlk X hP hD hS (Or.inr rfl) d_SkeletonClockModel_properTime_97
set_option maxHeartbeats 4000000 in
set_option maxRecDepth 100000 in
theorem w_SkeletonClockModel_properTime_35 {p : Program} {l : Launch} {e : Env} {s : State} {m : MethodId} {args : Array Value} {below : List Frame} {meth : Method} {c : Code} {A : Nat → Prop} {D : va_G} {kk : Nat → ClassId} {st : Nat → Nat} (a_t a_t_known a_t_value a_t_text a_t_page a_t_names a_t_sort a_t_code a_t_count a_t_around a_t_end a_t_size a_t_there a_t_wish a_t_have a_t_before a_t_open a_t_from : Nat) (t_length : Int32) (t_used : Int32) (t_far : Int32) (t_momentParts : Int32) (t_momentDay : Int64) (t_momentSecond : Int32) (t_momentNano : Int32) (t_momentOffset : Int32) (t_readParts : Int32) (t_readDay : Int64) (t_readSecond : Int32) (t_readNano : Int32) (t_readOffset : Int32) (t_alike : Int32) (t_known : Nat → Int32) (t_value : Nat → Int64) (s0 : Int32) (o : Int32) (S : CallFix p m c b_SkeletonClockModel_properTime 2 s args GW y_SkeletonClockModel_properTime.cls) (hr : meth.sig.returnType = (some .boolean)) (hlk : meth.locks = false) (hA : ∀ q, s.heap.size ≤ q → A q) (X : KX D kk st A s) (H : Heap) (locs : List Loc) (ls : Array Slot) (he : jn_SkeletonClockModel_properTime_35 t_known t_value s0 = some o) (hl : lv_has ls 2 [(0, .ref a_t)]) (hP : va_P D classes [(a_t, .inr (10, [.int t_length, .ref a_t_text, .int t_used, .ref a_t_page, .ref a_t_names, .ref a_t_sort, .ref a_t_code, .ref a_t_count, .ref a_t_around, .ref a_t_end, .ref a_t_size, .ref a_t_there, .ref a_t_wish, .ref a_t_have, .int t_far, .int t_momentParts, .long t_momentDay, .int t_momentSecond, .int t_momentNano, .int t_momentOffset, .int t_readParts, .long t_readDay, .int t_readSecond, .int t_readNano, .int t_readOffset, .ref a_t_known, .ref a_t_value, .ref a_t_before, .ref a_t_open, .ref a_t_from, .int t_alike])), (a_t_known, .inl (kk 2, 14, .inl t_known)), (a_t_value, .inl (kk 3, 14, .inr (.inl t_value)))] H) (hD : va_D A [(a_t, .inr (10, [.int t_length, .ref a_t_text, .int t_used, .ref a_t_page, .ref a_t_names, .ref a_t_sort, .ref a_t_code, .ref a_t_count, .ref a_t_around, .ref a_t_end, .ref a_t_size, .ref a_t_there, .ref a_t_wish, .ref a_t_have, .int t_far, .int t_momentParts, .long t_momentDay, .int t_momentSecond, .int t_momentNano, .int t_momentOffset, .int t_readParts, .long t_readDay, .int t_readSecond, .int t_readNano, .int t_readOffset, .ref a_t_known, .ref a_t_value, .ref a_t_before, .ref a_t_open, .ref a_t_from, .int t_alike])), (a_t_known, .inl (kk 2, 14, .inl t_known)), (a_t_value, .inl (kk 3, 14, .inr (.inl t_value)))]) (hS : va_S A s.heap H locs) : W p l e rm_SkeletonClockModel_properTime s m args below meth c H locs 0 0 (MQ below (KQi D kk o [(a_t, .inr (10, [.int t_length, .ref a_t_text, .int t_used, .ref a_t_page, .ref a_t_names, .ref a_t_sort, .ref a_t_code, .ref a_t_count, .ref a_t_around, .ref a_t_end, .ref a_t_size, .ref a_t_there, .ref a_t_wish, .ref a_t_have, .int t_far, .int t_momentParts, .long t_momentDay, .int t_momentSecond, .int t_momentNano, .int t_momentOffset, .int t_readParts, .long t_readDay, .int t_readSecond, .int t_readNano, .int t_readOffset, .ref a_t_known, .ref a_t_value, .ref a_t_before, .ref a_t_open, .ref a_t_from, .int t_alike])), (a_t_known, .inl (kk 2, 14, .inl t_known)), (a_t_value, .inl (kk 3, 14, .inr (.inl t_value)))] A) args s 0 0 A) (F0 m 35 ls [.int s0]) := by
  have hx := S.1
  have hb := S.2.1
  unfold jn_SkeletonClockModel_properTime_35 at he
  refine lv_istore_n hx hb d_SkeletonClockModel_properTime_35 rfl hl (by decide) rfl (fun ls hl => ?_)
  have hl : lv_has ls 2 [(1, .int s0), (0, .ref a_t)] := hl
  refine lv_aload_n hx hb d_SkeletonClockModel_properTime_36 rfl (lv_at hl 1 rfl) ?_
  refine lv_bipush (v := (7 : Int32)) hx hb d_SkeletonClockModel_properTime_37 (by decide) ?_
  refine lv_lconst (v := (0 : Int64)) hx hb d_SkeletonClockModel_properTime_39 (by decide) ?_
  refine lv_ldc2 (v := (23 : Int64)) hx hb S.2.2.2.1 (S.2.2.2.2 _ gm_6_8) d_SkeletonClockModel_properTime_40 ?_
  obtain ⟨u1, e2, he⟩ := ih_b he
  refine k_io (r_V (As := [.int (7 : Int32), .long (0 : Int64), .long (23 : Int64)]) S X hA hP hD hS (c_SkeletonClockModel_within l D kk st a_t a_t_known a_t_value a_t_text a_t_page a_t_names a_t_sort a_t_code a_t_count a_t_around a_t_end a_t_size a_t_there a_t_wish a_t_have a_t_before a_t_open a_t_from _ t_length t_used t_far t_momentParts t_momentDay t_momentSecond t_momentNano t_momentOffset t_readParts t_readDay t_readSecond t_readNano t_readOffset t_alike t_known t_value (7 : Int32) (0 : Int64) (23 : Int64) u1 e2) gm_5_239 gm_5_236 gm_5_238 gm_p4_14 gm_1_13 ⟨rfl, rfl, by decide, by decide⟩ kd_SkeletonClockModel_within [0, 1, 2] rfl rfl rfl 0 10 rfl rfl rfl rfl hl.1 rfl (Nat.le_of_ble_eq_true rfl) d_SkeletonClockModel_properTime_43 ⟨Nat.zero_le _, Nat.zero_le _⟩) hA hP hD hS [0, 1, 2] rfl (fun H locs hP hS => ?_)
  refine lv_if_eq (tgt := 96) hx hb d_SkeletonClockModel_properTime_46 rfl (fun hc => ?_) (fun hc => ?_)
  · have he := ih_t hc he
    refine lv_iconst (v := (0 : Int32)) hx hb d_SkeletonClockModel_properTime_96 (by decide) ?_
    cases he
    exact k_zre hx hb hr hlk X hP hD hS (Or.inl rfl) d_SkeletonClockModel_properTime_97
  · have he := ih_f hc he
    refine lv_iload_n hx hb d_SkeletonClockModel_properTime_49 rfl (lv_at hl 0 rfl) ?_
    refine lv_if_eq (tgt := 66) hx hb d_SkeletonClockModel_properTime_50 rfl (fun hc => ?_) (fun hc => ?_)
    · have he := ih_t hc he
      have hl : lv_has ls 2 [(0, .ref a_t)] := lv_sub hl [1] rfl
      exact w_SkeletonClockModel_properTime_66 a_t a_t_known a_t_value a_t_text a_t_page a_t_names a_t_sort a_t_code a_t_count a_t_around a_t_end a_t_size a_t_there a_t_wish a_t_have a_t_before a_t_open a_t_from t_length t_used t_far t_momentParts t_momentDay t_momentSecond t_momentNano t_momentOffset t_readParts t_readDay t_readSecond t_readNano t_readOffset t_alike t_known t_value o S hr hlk hA X _ _ ls he hl hP hD hS
    · have he := ih_f hc he
      refine lv_aload_n hx hb d_SkeletonClockModel_properTime_53 rfl (lv_at hl 1 rfl) ?_
      refine lv_bipush (v := (8 : Int32)) hx hb d_SkeletonClockModel_properTime_54 (by decide) ?_
      refine lv_lconst (v := (1 : Int64)) hx hb d_SkeletonClockModel_properTime_56 (by decide) ?_
      refine lv_ldc2 (v := (12 : Int64)) hx hb S.2.2.2.1 (S.2.2.2.2 _ gm_5_235) d_SkeletonClockModel_properTime_57 ?_
      obtain ⟨u7, e8, he⟩ := ih_b he
      refine k_io (r_V (As := [.int (8 : Int32), .long (1 : Int64), .long (12 : Int64)]) S X hA hP hD hS (c_SkeletonClockModel_within l D kk st a_t a_t_known a_t_value a_t_text a_t_page a_t_names a_t_sort a_t_code a_t_count a_t_around a_t_end a_t_size a_t_there a_t_wish a_t_have a_t_before a_t_open a_t_from _ t_length t_used t_far t_momentParts t_momentDay t_momentSecond t_momentNano t_momentOffset t_readParts t_readDay t_readSecond t_readNano t_readOffset t_alike t_known t_value (8 : Int32) (1 : Int64) (12 : Int64) u7 e8) gm_5_239 gm_5_236 gm_5_238 gm_p4_14 gm_1_13 ⟨rfl, rfl, by decide, by decide⟩ kd_SkeletonClockModel_within [0, 1, 2] rfl rfl rfl 0 10 rfl rfl rfl rfl hl.1 rfl (Nat.le_of_ble_eq_true rfl) d_SkeletonClockModel_properTime_60 ⟨Nat.zero_le _, Nat.zero_le _⟩) hA hP hD hS [0, 1, 2] rfl (fun H locs hP hS => ?_)
      refine lv_if_eq (tgt := 96) hx hb d_SkeletonClockModel_properTime_63 rfl (fun hc => ?_) (fun hc => ?_)
      · have he := ih_t hc he
        refine lv_iconst (v := (0 : Int32)) hx hb d_SkeletonClockModel_properTime_96 (by decide) ?_
        cases he
        exact k_zre hx hb hr hlk X hP hD hS (Or.inl rfl) d_SkeletonClockModel_properTime_97
      · have he := ih_f hc he
        have hl : lv_has ls 2 [(0, .ref a_t)] := lv_sub hl [1] rfl
        exact w_SkeletonClockModel_properTime_66 a_t a_t_known a_t_value a_t_text a_t_page a_t_names a_t_sort a_t_code a_t_count a_t_around a_t_end a_t_size a_t_there a_t_wish a_t_have a_t_before a_t_open a_t_from t_length t_used t_far t_momentParts t_momentDay t_momentSecond t_momentNano t_momentOffset t_readParts t_readDay t_readSecond t_readNano t_readOffset t_alike t_known t_value o S hr hlk hA X _ _ ls he hl hP hD hS
set_option maxHeartbeats 4000000 in
set_option maxRecDepth 100000 in
theorem w_SkeletonClockModel_properTime_34 {p : Program} {l : Launch} {e : Env} {s : State} {m : MethodId} {args : Array Value} {below : List Frame} {meth : Method} {c : Code} {A : Nat → Prop} {D : va_G} {kk : Nat → ClassId} {st : Nat → Nat} (a_t a_t_known a_t_value a_t_text a_t_page a_t_names a_t_sort a_t_code a_t_count a_t_around a_t_end a_t_size a_t_there a_t_wish a_t_have a_t_before a_t_open a_t_from : Nat) (t_length : Int32) (t_used : Int32) (t_far : Int32) (t_momentParts : Int32) (t_momentDay : Int64) (t_momentSecond : Int32) (t_momentNano : Int32) (t_momentOffset : Int32) (t_readParts : Int32) (t_readDay : Int64) (t_readSecond : Int32) (t_readNano : Int32) (t_readOffset : Int32) (t_alike : Int32) (t_known : Nat → Int32) (t_value : Nat → Int64) (o : Int32) (S : CallFix p m c b_SkeletonClockModel_properTime 2 s args GW y_SkeletonClockModel_properTime.cls) (hr : meth.sig.returnType = (some .boolean)) (hlk : meth.locks = false) (hA : ∀ q, s.heap.size ≤ q → A q) (X : KX D kk st A s) (H : Heap) (locs : List Loc) (ls : Array Slot) (he : jn_SkeletonClockModel_properTime_34 t_known t_value = some o) (hl : lv_has ls 2 [(0, .ref a_t)]) (hP : va_P D classes [(a_t, .inr (10, [.int t_length, .ref a_t_text, .int t_used, .ref a_t_page, .ref a_t_names, .ref a_t_sort, .ref a_t_code, .ref a_t_count, .ref a_t_around, .ref a_t_end, .ref a_t_size, .ref a_t_there, .ref a_t_wish, .ref a_t_have, .int t_far, .int t_momentParts, .long t_momentDay, .int t_momentSecond, .int t_momentNano, .int t_momentOffset, .int t_readParts, .long t_readDay, .int t_readSecond, .int t_readNano, .int t_readOffset, .ref a_t_known, .ref a_t_value, .ref a_t_before, .ref a_t_open, .ref a_t_from, .int t_alike])), (a_t_known, .inl (kk 2, 14, .inl t_known)), (a_t_value, .inl (kk 3, 14, .inr (.inl t_value)))] H) (hD : va_D A [(a_t, .inr (10, [.int t_length, .ref a_t_text, .int t_used, .ref a_t_page, .ref a_t_names, .ref a_t_sort, .ref a_t_code, .ref a_t_count, .ref a_t_around, .ref a_t_end, .ref a_t_size, .ref a_t_there, .ref a_t_wish, .ref a_t_have, .int t_far, .int t_momentParts, .long t_momentDay, .int t_momentSecond, .int t_momentNano, .int t_momentOffset, .int t_readParts, .long t_readDay, .int t_readSecond, .int t_readNano, .int t_readOffset, .ref a_t_known, .ref a_t_value, .ref a_t_before, .ref a_t_open, .ref a_t_from, .int t_alike])), (a_t_known, .inl (kk 2, 14, .inl t_known)), (a_t_value, .inl (kk 3, 14, .inr (.inl t_value)))]) (hS : va_S A s.heap H locs) : W p l e rm_SkeletonClockModel_properTime s m args below meth c H locs 0 0 (MQ below (KQi D kk o [(a_t, .inr (10, [.int t_length, .ref a_t_text, .int t_used, .ref a_t_page, .ref a_t_names, .ref a_t_sort, .ref a_t_code, .ref a_t_count, .ref a_t_around, .ref a_t_end, .ref a_t_size, .ref a_t_there, .ref a_t_wish, .ref a_t_have, .int t_far, .int t_momentParts, .long t_momentDay, .int t_momentSecond, .int t_momentNano, .int t_momentOffset, .int t_readParts, .long t_readDay, .int t_readSecond, .int t_readNano, .int t_readOffset, .ref a_t_known, .ref a_t_value, .ref a_t_before, .ref a_t_open, .ref a_t_from, .int t_alike])), (a_t_known, .inl (kk 2, 14, .inl t_known)), (a_t_value, .inl (kk 3, 14, .inr (.inl t_value)))] A) args s 0 0 A) (F0 m 34 ls []) := by
  have hx := S.1
  have hb := S.2.1
  unfold jn_SkeletonClockModel_properTime_34 at he
  refine lv_iconst (v := (0 : Int32)) hx hb d_SkeletonClockModel_properTime_34 (by decide) ?_
  have hl : lv_has ls 2 [(0, .ref a_t)] := lv_sub hl [0] rfl
  exact w_SkeletonClockModel_properTime_35 a_t a_t_known a_t_value a_t_text a_t_page a_t_names a_t_sort a_t_code a_t_count a_t_around a_t_end a_t_size a_t_there a_t_wish a_t_have a_t_before a_t_open a_t_from t_length t_used t_far t_momentParts t_momentDay t_momentSecond t_momentNano t_momentOffset t_readParts t_readDay t_readSecond t_readNano t_readOffset t_alike t_known t_value (0 : Int32) o S hr hlk hA X _ _ ls he hl hP hD hS
set_option maxHeartbeats 4000000 in
set_option maxRecDepth 100000 in
theorem c_SkeletonClockModel_properTime (l : Launch) (D : va_G) (kk : Nat → ClassId) (st : Nat → Nat) (a_t a_t_known a_t_value a_t_text a_t_page a_t_names a_t_sort a_t_code a_t_count a_t_around a_t_end a_t_size a_t_there a_t_wish a_t_have a_t_before a_t_open a_t_from : Nat) (sz : Nat) (t_length : Int32) (t_used : Int32) (t_far : Int32) (t_momentParts : Int32) (t_momentDay : Int64) (t_momentSecond : Int32) (t_momentNano : Int32) (t_momentOffset : Int32) (t_readParts : Int32) (t_readDay : Int64) (t_readSecond : Int32) (t_readNano : Int32) (t_readOffset : Int32) (t_alike : Int32) (t_known : Nat → Int32) (t_value : Nat → Int64) (o : Int32) (he : f_SkeletonClockModel_properTime t_known t_value = some o) : Met l y_SkeletonClockModel_properTime (Cond.code y_SkeletonClockModel_properTime b_SkeletonClockModel_properTime 2 (some .boolean) :: GW) rm_SkeletonClockModel_properTime (KPc D kk st [.ref a_t] [(a_t, .inr (10, [.int t_length, .ref a_t_text, .int t_used, .ref a_t_page, .ref a_t_names, .ref a_t_sort, .ref a_t_code, .ref a_t_count, .ref a_t_around, .ref a_t_end, .ref a_t_size, .ref a_t_there, .ref a_t_wish, .ref a_t_have, .int t_far, .int t_momentParts, .long t_momentDay, .int t_momentSecond, .int t_momentNano, .int t_momentOffset, .int t_readParts, .long t_readDay, .int t_readSecond, .int t_readNano, .int t_readOffset, .ref a_t_known, .ref a_t_value, .ref a_t_before, .ref a_t_open, .ref a_t_from, .int t_alike])), (a_t_known, .inl (kk 2, 14, .inl t_known)), (a_t_value, .inl (kk 3, 14, .inr (.inl t_value)))] sz) (KQi D kk o [(a_t, .inr (10, [.int t_length, .ref a_t_text, .int t_used, .ref a_t_page, .ref a_t_names, .ref a_t_sort, .ref a_t_code, .ref a_t_count, .ref a_t_around, .ref a_t_end, .ref a_t_size, .ref a_t_there, .ref a_t_wish, .ref a_t_have, .int t_far, .int t_momentParts, .long t_momentDay, .int t_momentSecond, .int t_momentNano, .int t_momentOffset, .int t_readParts, .long t_readDay, .int t_readSecond, .int t_readNano, .int t_readOffset, .ref a_t_known, .ref a_t_value, .ref a_t_before, .ref a_t_open, .ref a_t_from, .int t_alike])), (a_t_known, .inl (kk 2, 14, .inl t_known)), (a_t_value, .inl (kk 3, 14, .inr (.inl t_value)))] (va_A [(a_t, .inr (10, [.int t_length, .ref a_t_text, .int t_used, .ref a_t_page, .ref a_t_names, .ref a_t_sort, .ref a_t_code, .ref a_t_count, .ref a_t_around, .ref a_t_end, .ref a_t_size, .ref a_t_there, .ref a_t_wish, .ref a_t_have, .int t_far, .int t_momentParts, .long t_momentDay, .int t_momentSecond, .int t_momentNano, .int t_momentOffset, .int t_readParts, .long t_readDay, .int t_readSecond, .int t_readNano, .int t_readOffset, .ref a_t_known, .ref a_t_value, .ref a_t_before, .ref a_t_open, .ref a_t_from, .int t_alike])), (a_t_known, .inl (kk 2, 14, .inl t_known)), (a_t_value, .inl (kk 3, 14, .inr (.inl t_value)))] sz)) 0 0 (va_A [(a_t, .inr (10, [.int t_length, .ref a_t_text, .int t_used, .ref a_t_page, .ref a_t_names, .ref a_t_sort, .ref a_t_code, .ref a_t_count, .ref a_t_around, .ref a_t_end, .ref a_t_size, .ref a_t_there, .ref a_t_wish, .ref a_t_have, .int t_far, .int t_momentParts, .long t_momentDay, .int t_momentSecond, .int t_momentNano, .int t_momentOffset, .int t_readParts, .long t_readDay, .int t_readSecond, .int t_readNano, .int t_readOffset, .ref a_t_known, .ref a_t_value, .ref a_t_before, .ref a_t_open, .ref a_t_from, .int t_alike])), (a_t_known, .inl (kk 2, 14, .inl t_known)), (a_t_value, .inl (kk 3, 14, .inr (.inl t_value)))] sz) := by
  refine k_start (Qc := fun A => KQi D kk o [(a_t, .inr (10, [.int t_length, .ref a_t_text, .int t_used, .ref a_t_page, .ref a_t_names, .ref a_t_sort, .ref a_t_code, .ref a_t_count, .ref a_t_around, .ref a_t_end, .ref a_t_size, .ref a_t_there, .ref a_t_wish, .ref a_t_have, .int t_far, .int t_momentParts, .long t_momentDay, .int t_momentSecond, .int t_momentNano, .int t_momentOffset, .int t_readParts, .long t_readDay, .int t_readSecond, .int t_readNano, .int t_readOffset, .ref a_t_known, .ref a_t_value, .ref a_t_before, .ref a_t_open, .ref a_t_from, .int t_alike])), (a_t_known, .inl (kk 2, 14, .inl t_known)), (a_t_value, .inl (kk 3, 14, .inr (.inl t_value)))] A) (by decide) (Nat.le_of_ble_eq_true rfl) ?_
  intro p e s m below meth c A ls S hnm hr hlk hA X hP hD hS hl
  have hl : lv_has ls 2 [(0, .ref a_t)] := hl
  have hx := S.1
  have hb := S.2.1
  unfold f_SkeletonClockModel_properTime at he
  refine lv_aload_n hx hb d_SkeletonClockModel_properTime_0 rfl (lv_at hl 0 rfl) ?_
  refine k_get S X us_SkeletonClockModel hP 0 rfl rfl 25 (by decide) gm_4_176 rfl d_SkeletonClockModel_properTime_1 ?_
  refine lv_bipush (v := (7 : Int32)) hx hb d_SkeletonClockModel_properTime_4 (by decide) ?_
  refine va_zald hx hb X.1 hP 1 2 rfl rfl (show ¬ ((7 : Int32) < 0 ∨ 14 ≤ ((7 : Int32)).toNatClampNeg) by decide) d_SkeletonClockModel_properTime_6 ?_
  refine lv_if_ne (tgt := 34) hx hb d_SkeletonClockModel_properTime_7 rfl (fun hc => ?_) (fun hc => ?_)
  · have he := ih_f hc he
    have hl : lv_has ls 2 [(0, .ref a_t)] := lv_sub hl [0] rfl
    exact w_SkeletonClockModel_properTime_34 a_t a_t_known a_t_value a_t_text a_t_page a_t_names a_t_sort a_t_code a_t_count a_t_around a_t_end a_t_size a_t_there a_t_wish a_t_have a_t_before a_t_open a_t_from t_length t_used t_far t_momentParts t_momentDay t_momentSecond t_momentNano t_momentOffset t_readParts t_readDay t_readSecond t_readNano t_readOffset t_alike t_known t_value o S hr hlk hA X _ _ ls he hl hP hD hS
  · have he := ih_t hc he
    refine lv_aload_n hx hb d_SkeletonClockModel_properTime_10 rfl (lv_at hl 0 rfl) ?_
    refine k_get S X us_SkeletonClockModel hP 0 rfl rfl 25 (by decide) gm_4_176 rfl d_SkeletonClockModel_properTime_11 ?_
    refine lv_bipush (v := (8 : Int32)) hx hb d_SkeletonClockModel_properTime_14 (by decide) ?_
    refine va_zald hx hb X.1 hP 1 2 rfl rfl (show ¬ ((8 : Int32) < 0 ∨ 14 ≤ ((8 : Int32)).toNatClampNeg) by decide) d_SkeletonClockModel_properTime_16 ?_
    refine lv_if_eq (tgt := 34) hx hb d_SkeletonClockModel_properTime_17 rfl (fun hc => ?_) (fun hc => ?_)
    · have he := ih_t hc he
      have hl : lv_has ls 2 [(0, .ref a_t)] := lv_sub hl [0] rfl
      exact w_SkeletonClockModel_properTime_34 a_t a_t_known a_t_value a_t_text a_t_page a_t_names a_t_sort a_t_code a_t_count a_t_around a_t_end a_t_size a_t_there a_t_wish a_t_have a_t_before a_t_open a_t_from t_length t_used t_far t_momentParts t_momentDay t_momentSecond t_momentNano t_momentOffset t_readParts t_readDay t_readSecond t_readNano t_readOffset t_alike t_known t_value o S hr hlk hA X _ _ ls he hl hP hD hS
    · have he := ih_f hc he
      refine lv_aload_n hx hb d_SkeletonClockModel_properTime_20 rfl (lv_at hl 0 rfl) ?_
      refine k_get S X us_SkeletonClockModel hP 0 rfl rfl 25 (by decide) gm_4_176 rfl d_SkeletonClockModel_properTime_21 ?_
      refine lv_bipush (v := (9 : Int32)) hx hb d_SkeletonClockModel_properTime_24 (by decide) ?_
      refine va_zald hx hb X.1 hP 1 2 rfl rfl (show ¬ ((9 : Int32) < 0 ∨ 14 ≤ ((9 : Int32)).toNatClampNeg) by decide) d_SkeletonClockModel_properTime_26 ?_
      refine lv_if_eq (tgt := 34) hx hb d_SkeletonClockModel_properTime_27 rfl (fun hc => ?_) (fun hc => ?_)
      · have he := ih_t hc he
        have hl : lv_has ls 2 [(0, .ref a_t)] := lv_sub hl [0] rfl
        exact w_SkeletonClockModel_properTime_34 a_t a_t_known a_t_value a_t_text a_t_page a_t_names a_t_sort a_t_code a_t_count a_t_around a_t_end a_t_size a_t_there a_t_wish a_t_have a_t_before a_t_open a_t_from t_length t_used t_far t_momentParts t_momentDay t_momentSecond t_momentNano t_momentOffset t_readParts t_readDay t_readSecond t_readNano t_readOffset t_alike t_known t_value o S hr hlk hA X _ _ ls he hl hP hD hS
      · have he := ih_f hc he
        refine lv_iconst (v := (1 : Int32)) hx hb d_SkeletonClockModel_properTime_30 (by decide) ?_
        refine lv_goto (tgt := 35) hx hb d_SkeletonClockModel_properTime_31 rfl ?_
        have hl : lv_has ls 2 [(0, .ref a_t)] := lv_sub hl [0] rfl
        exact w_SkeletonClockModel_properTime_35 a_t a_t_known a_t_value a_t_text a_t_page a_t_names a_t_sort a_t_code a_t_count a_t_around a_t_end a_t_size a_t_there a_t_wish a_t_have a_t_before a_t_open a_t_from t_length t_used t_far t_momentParts t_momentDay t_momentSecond t_momentNano t_momentOffset t_readParts t_readDay t_readSecond t_readNano t_readOffset t_alike t_known t_value (1 : Int32) o S hr hlk hA X _ _ ls he hl hP hD hS
abbrev rm_SkeletonClockModel_usedBy : Room := { frames := 0, cells := 0, slots := 0, locals := 0 }
set_option maxHeartbeats 4000000 in
set_option maxRecDepth 100000 in
theorem c_SkeletonClockModel_usedBy (l : Launch) (D : va_G) (kk : Nat → ClassId) (st : Nat → Nat) (sz : Nat) (x0 : Int32) (x1 : Int32) (o : Int32) (he : f_SkeletonClockModel_usedBy x0 x1 = some o) : Met l y_SkeletonClockModel_usedBy (Cond.code y_SkeletonClockModel_usedBy b_SkeletonClockModel_usedBy 2 (some .boolean) :: GW) rm_SkeletonClockModel_usedBy (KPc D kk st [.int x0, .int x1] [] sz) (KQi D kk o [] (va_A [] sz)) 0 0 (va_A [] sz) := by
  refine k_start (Qc := fun A => KQi D kk o [] A) (by decide) (Nat.le_of_ble_eq_true rfl) ?_
  intro p e s m below meth c A ls S hnm hr hlk hA X hP hD hS hl
  have hl : lv_has ls 2 [(0, .int x0), (1, .int x1)] := hl
  have hx := S.1
  have hb := S.2.1
  unfold f_SkeletonClockModel_usedBy at he
  refine lv_iload_n hx hb d_SkeletonClockModel_usedBy_0 rfl (lv_at hl 0 rfl) ?_
  refine lv_iconst (v := (3 : Int32)) hx hb d_SkeletonClockModel_usedBy_1 (by decide) ?_
  refine lv_icmp_ne (tgt := 27) hx hb d_SkeletonClockModel_usedBy_2 rfl (fun hc => ?_) (fun hc => ?_)
  · have he := ih_f hc he
    refine lv_iload_n hx hb d_SkeletonClockModel_usedBy_27 rfl (lv_at hl 1 rfl) ?_
    refine lv_if_eq (tgt := 54) hx hb d_SkeletonClockModel_usedBy_28 rfl (fun hc => ?_) (fun hc => ?_)
    · have he := ih_t hc he
      refine lv_iconst (v := (1 : Int32)) hx hb d_SkeletonClockModel_usedBy_54 (by decide) ?_
      refine lv_goto (tgt := 59) hx hb d_SkeletonClockModel_usedBy_55 rfl ?_
      cases he
      exact k_zre hx hb hr hlk X hP hD hS (Or.inr rfl) d_SkeletonClockModel_usedBy_59
    · have he := ih_f hc he
      refine lv_iload_n hx hb d_SkeletonClockModel_usedBy_31 rfl (lv_at hl 0 rfl) ?_
      refine lv_iconst (v := (1 : Int32)) hx hb d_SkeletonClockModel_usedBy_32 (by decide) ?_
      refine lv_icmp_ne (tgt := 49) hx hb d_SkeletonClockModel_usedBy_33 rfl (fun hc => ?_) (fun hc => ?_)
      · have he := ih_f hc he
        refine lv_iload_n hx hb d_SkeletonClockModel_usedBy_49 rfl (lv_at hl 1 rfl) ?_
        refine lv_iconst (v := (3 : Int32)) hx hb d_SkeletonClockModel_usedBy_50 (by decide) ?_
        refine lv_icmp_ne (tgt := 58) hx hb d_SkeletonClockModel_usedBy_51 rfl (fun hc => ?_) (fun hc => ?_)
        · have he := ih_f hc he
          refine lv_iconst (v := (0 : Int32)) hx hb d_SkeletonClockModel_usedBy_58 (by decide) ?_
          cases he
          exact k_zre hx hb hr hlk X hP hD hS (Or.inl rfl) d_SkeletonClockModel_usedBy_59
        · have he := ih_t hc he
          refine lv_iconst (v := (1 : Int32)) hx hb d_SkeletonClockModel_usedBy_54 (by decide) ?_
          refine lv_goto (tgt := 59) hx hb d_SkeletonClockModel_usedBy_55 rfl ?_
          cases he
          exact k_zre hx hb hr hlk X hP hD hS (Or.inr rfl) d_SkeletonClockModel_usedBy_59
      · have he := ih_t hc he
        refine lv_iload_n hx hb d_SkeletonClockModel_usedBy_36 rfl (lv_at hl 1 rfl) ?_
        refine lv_iconst (v := (1 : Int32)) hx hb d_SkeletonClockModel_usedBy_37 (by decide) ?_
        refine lv_icmp_eq (tgt := 54) hx hb d_SkeletonClockModel_usedBy_38 rfl (fun hc => ?_) (fun hc => ?_)
        · have he := ih_t hc he
          refine lv_iconst (v := (1 : Int32)) hx hb d_SkeletonClockModel_usedBy_54 (by decide) ?_
          refine lv_goto (tgt := 59) hx hb d_SkeletonClockModel_usedBy_55 rfl ?_
          cases he
          exact k_zre hx hb hr hlk X hP hD hS (Or.inr rfl) d_SkeletonClockModel_usedBy_59
        · have he := ih_f hc he
          refine lv_iload_n hx hb d_SkeletonClockModel_usedBy_41 rfl (lv_at hl 1 rfl) ?_
          refine lv_iconst (v := (2 : Int32)) hx hb d_SkeletonClockModel_usedBy_42 (by decide) ?_
          refine lv_icmp_ne (tgt := 58) hx hb d_SkeletonClockModel_usedBy_43 rfl (fun hc => ?_) (fun hc => ?_)
          · have he := ih_f hc he
            refine lv_iconst (v := (0 : Int32)) hx hb d_SkeletonClockModel_usedBy_58 (by decide) ?_
            cases he
            exact k_zre hx hb hr hlk X hP hD hS (Or.inl rfl) d_SkeletonClockModel_usedBy_59
          · have he := ih_t hc he
            refine lv_goto (tgt := 54) hx hb d_SkeletonClockModel_usedBy_46 rfl ?_
            refine lv_iconst (v := (1 : Int32)) hx hb d_SkeletonClockModel_usedBy_54 (by decide) ?_
            refine lv_goto (tgt := 59) hx hb d_SkeletonClockModel_usedBy_55 rfl ?_
            cases he
            exact k_zre hx hb hr hlk X hP hD hS (Or.inr rfl) d_SkeletonClockModel_usedBy_59
  · have he := ih_t hc he
    refine lv_iload_n hx hb d_SkeletonClockModel_usedBy_5 rfl (lv_at hl 1 rfl) ?_
    refine lv_bipush (v := (6 : Int32)) hx hb d_SkeletonClockModel_usedBy_6 (by decide) ?_
    refine lv_icmp_eq (tgt := 21) hx hb d_SkeletonClockModel_usedBy_8 rfl (fun hc => ?_) (fun hc => ?_)
    · have he := ih_t hc he
      refine lv_iconst (v := (1 : Int32)) hx hb d_SkeletonClockModel_usedBy_21 (by decide) ?_
      refine lv_goto (tgt := 26) hx hb d_SkeletonClockModel_usedBy_22 rfl ?_
      cases he
      exact k_zre hx hb hr hlk X hP hD hS (Or.inr rfl) d_SkeletonClockModel_usedBy_26
    · have he := ih_f hc he
      refine lv_iload_n hx hb d_SkeletonClockModel_usedBy_11 rfl (lv_at hl 1 rfl) ?_
      refine lv_iconst (v := (5 : Int32)) hx hb d_SkeletonClockModel_usedBy_12 (by decide) ?_
      refine lv_icmp_eq (tgt := 21) hx hb d_SkeletonClockModel_usedBy_13 rfl (fun hc => ?_) (fun hc => ?_)
      · have he := ih_t hc he
        refine lv_iconst (v := (1 : Int32)) hx hb d_SkeletonClockModel_usedBy_21 (by decide) ?_
        refine lv_goto (tgt := 26) hx hb d_SkeletonClockModel_usedBy_22 rfl ?_
        cases he
        exact k_zre hx hb hr hlk X hP hD hS (Or.inr rfl) d_SkeletonClockModel_usedBy_26
      · have he := ih_f hc he
        refine lv_iload_n hx hb d_SkeletonClockModel_usedBy_16 rfl (lv_at hl 1 rfl) ?_
        refine lv_iconst (v := (4 : Int32)) hx hb d_SkeletonClockModel_usedBy_17 (by decide) ?_
        refine lv_icmp_ne (tgt := 25) hx hb d_SkeletonClockModel_usedBy_18 rfl (fun hc => ?_) (fun hc => ?_)
        · have he := ih_f hc he
          refine lv_iconst (v := (0 : Int32)) hx hb d_SkeletonClockModel_usedBy_25 (by decide) ?_
          cases he
          exact k_zre hx hb hr hlk X hP hD hS (Or.inl rfl) d_SkeletonClockModel_usedBy_26
        · have he := ih_t hc he
          refine lv_iconst (v := (1 : Int32)) hx hb d_SkeletonClockModel_usedBy_21 (by decide) ?_
          refine lv_goto (tgt := 26) hx hb d_SkeletonClockModel_usedBy_22 rfl ?_
          cases he
          exact k_zre hx hb hr hlk X hP hD hS (Or.inr rfl) d_SkeletonClockModel_usedBy_26
