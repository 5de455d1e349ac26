abbrev b_Row_put : ByteArray := prog_11_method_2_code
def y_Row_put : MethodName := ⟨"SkeletonClock$Row", "put", "(C)Z"⟩
theorem kd_Row_put : kd_ok y_Row_put 1 := by decide +kernel
abbrev b_Row_putNumber : ByteArray := prog_11_method_3_code
def y_Row_putNumber : MethodName := ⟨"SkeletonClock$Row", "putNumber", "(II)V"⟩
theorem kd_Row_putNumber : kd_ok y_Row_putNumber 2 := by decide +kernel
abbrev b_Row_codeAt : ByteArray := prog_11_method_6_code
def y_Row_codeAt : MethodName := ⟨"SkeletonClock$Row", "codeAt", "(I)I"⟩
theorem kd_Row_codeAt : kd_ok y_Row_codeAt 1 := by decide +kernel
abbrev b_Row_become : ByteArray := prog_11_method_4_code
def y_Row_become : MethodName := ⟨"SkeletonClock$Row", "become", "(LSkeletonClock$Row;)V"⟩
theorem kd_Row_become : kd_ok y_Row_become 1 := by decide +kernel
abbrev b_Row_shorten : ByteArray := prog_11_method_5_code
def y_Row_shorten : MethodName := ⟨"SkeletonClock$Row", "shorten", "(I)V"⟩
theorem kd_Row_shorten : kd_ok y_Row_shorten 1 := by decide +kernel
abbrev b_Row_runLength : ByteArray := prog_11_method_7_code
def y_Row_runLength : MethodName := ⟨"SkeletonClock$Row", "runLength", "(I)I"⟩
theorem kd_Row_runLength : kd_ok y_Row_runLength 1 := by decide +kernel
abbrev b_Row_digits : ByteArray := prog_11_method_8_code
def y_Row_digits : MethodName := ⟨"SkeletonClock$Row", "digits", "(II)I"⟩
theorem kd_Row_digits : kd_ok y_Row_digits 2 := by decide +kernel
abbrev b_Row_number : ByteArray := prog_11_method_9_code
def y_Row_number : MethodName := ⟨"SkeletonClock$Row", "number", "(II)I"⟩
theorem kd_Row_number : kd_ok y_Row_number 2 := by decide +kernel
theorem gm_1_35 : Cond.fieldLink "SkeletonClock$Row" (9 : Nat) "SkeletonClock$Row" "size" "I" ∈ GW := gw_1 (i := 35) rfl rfl
theorem gm_1_34 : Cond.fieldLink "SkeletonClock$Row" (15 : Nat) "SkeletonClock$Row" "cells" "[C" ∈ GW := gw_1 (i := 34) rfl rfl
theorem gm_2_210 : Cond.methodLink "SkeletonClock$Row" (19 : Nat) ({ cls := "java/lang/Math", name := "max", desc := "(II)I" } : MethodName) ∈ GW := gw_2 (i := 210) rfl rfl
theorem gm_2_126 : Cond.static ({ cls := "java/lang/Math", name := "max", desc := "(II)I" } : MethodName) ∈ GW := gw_2 (i := 126) rfl rfl
theorem gm_1_11 : Cond.initialized "java/lang/Math" ∈ GW := gw_1 (i := 11) rfl rfl
theorem gm_2_127 : Cond.code ({ cls := "java/lang/Math", name := "max", desc := "(II)I" } : MethodName) prog_16_method_65_code (2 : Nat) (Option.some FieldType.int) ∈ GW := gw_2 (i := 127) rfl rfl
theorem gm_2_76 : Cond.code ({ cls := "SkeletonClock$Row", name := "codeAt", desc := "(I)I" } : MethodName) prog_11_method_6_code (2 : Nat) (Option.some FieldType.int) ∈ GW := gw_2 (i := 76) rfl rfl
theorem gm_2_187 : Cond.methodLink "SkeletonClock$Row" (25 : Nat) ({ cls := "SkeletonClock$Row", name := "codeAt", desc := "(I)I" } : MethodName) ∈ GW := gw_2 (i := 187) rfl rfl
theorem gm_1_2 : Cond.initialized "SkeletonClock$Row" ∈ GW := gw_1 (i := 2) rfl rfl
theorem gm_2_74 : Cond.instanceMethod ({ cls := "SkeletonClock$Row", name := "codeAt", desc := "(I)I" } : MethodName) ∈ GW := gw_2 (i := 74) rfl rfl
theorem gm_2_75 : Cond.selects "SkeletonClock$Row" ({ cls := "SkeletonClock$Row", name := "codeAt", desc := "(I)I" } : MethodName) ({ cls := "SkeletonClock$Row", name := "codeAt", desc := "(I)I" } : MethodName) ∈ GW := gw_2 (i := 75) rfl rfl
theorem gm_2_57 : Cond.code ({ cls := "SkeletonClock$Row", name := "put", desc := "(C)Z" } : MethodName) prog_11_method_2_code (2 : Nat) (Option.some FieldType.boolean) ∈ GW := gw_2 (i := 57) rfl rfl
theorem gm_3_162 : Cond.methodLink "SkeletonClock$Row" (29 : Nat) ({ cls := "SkeletonClock$Row", name := "put", desc := "(C)Z" } : MethodName) ∈ GW := gw_3 (i := 162) rfl rfl
theorem gm_2_55 : Cond.instanceMethod ({ cls := "SkeletonClock$Row", name := "put", desc := "(C)Z" } : MethodName) ∈ GW := gw_2 (i := 55) rfl rfl
theorem gm_2_56 : Cond.selects "SkeletonClock$Row" ({ cls := "SkeletonClock$Row", name := "put", desc := "(C)Z" } : MethodName) ({ cls := "SkeletonClock$Row", name := "put", desc := "(C)Z" } : MethodName) ∈ GW := gw_2 (i := 56) rfl rfl
theorem gm_2_209 : Cond.methodLink "SkeletonClock$Row" (33 : Nat) ({ cls := "java/lang/Math", name := "min", desc := "(II)I" } : MethodName) ∈ GW := gw_2 (i := 209) rfl rfl
theorem gm_2_129 : Cond.static ({ cls := "java/lang/Math", name := "min", desc := "(II)I" } : MethodName) ∈ GW := gw_2 (i := 129) rfl rfl
theorem gm_2_130 : Cond.code ({ cls := "java/lang/Math", name := "min", desc := "(II)I" } : MethodName) prog_16_method_69_code (2 : Nat) (Option.some FieldType.int) ∈ GW := gw_2 (i := 130) rfl rfl
theorem d_Row_put_0 : decode b_Row_put 0 = .ok (.aload_n 0, 1) := by decide +kernel
theorem d_Row_put_1 : decode b_Row_put 1 = .ok (.getfield 9, 3) := by decide +kernel
theorem d_Row_put_4 : decode b_Row_put 4 = .ok (.aload_n 0, 1) := by decide +kernel
theorem d_Row_put_5 : decode b_Row_put 5 = .ok (.getfield 15, 3) := by decide +kernel
theorem d_Row_put_8 : decode b_Row_put 8 = .ok (.arraylength, 1) := by decide +kernel
theorem d_Row_put_9 : decode b_Row_put 9 = .ok (.if_icmp .lt 5, 3) := by decide +kernel
theorem d_Row_put_12 : decode b_Row_put 12 = .ok (.iconst 0, 1) := by decide +kernel
theorem d_Row_put_13 : decode b_Row_put 13 = .ok (.ireturn, 1) := by decide +kernel
theorem d_Row_put_14 : decode b_Row_put 14 = .ok (.aload_n 0, 1) := by decide +kernel
theorem d_Row_put_15 : decode b_Row_put 15 = .ok (.getfield 15, 3) := by decide +kernel
theorem d_Row_put_18 : decode b_Row_put 18 = .ok (.aload_n 0, 1) := by decide +kernel
theorem d_Row_put_19 : decode b_Row_put 19 = .ok (.getfield 9, 3) := by decide +kernel
theorem d_Row_put_22 : decode b_Row_put 22 = .ok (.iload_n 1, 1) := by decide +kernel
theorem d_Row_put_23 : decode b_Row_put 23 = .ok (.castore, 1) := by decide +kernel
theorem d_Row_put_24 : decode b_Row_put 24 = .ok (.aload_n 0, 1) := by decide +kernel
theorem d_Row_put_25 : decode b_Row_put 25 = .ok (.dup, 1) := by decide +kernel
theorem d_Row_put_26 : decode b_Row_put 26 = .ok (.getfield 9, 3) := by decide +kernel
theorem d_Row_put_29 : decode b_Row_put 29 = .ok (.iconst 1, 1) := by decide +kernel
theorem d_Row_put_30 : decode b_Row_put 30 = .ok (.iadd, 1) := by decide +kernel
theorem d_Row_put_31 : decode b_Row_put 31 = .ok (.putfield 9, 3) := by decide +kernel
theorem d_Row_put_34 : decode b_Row_put 34 = .ok (.iconst 1, 1) := by decide +kernel
theorem d_Row_put_35 : decode b_Row_put 35 = .ok (.ireturn, 1) := by decide +kernel
theorem d_Row_putNumber_0 : decode b_Row_putNumber 0 = .ok (.iconst 1, 1) := by decide +kernel
theorem d_Row_putNumber_1 : decode b_Row_putNumber 1 = .ok (.istore_n 3, 1) := by decide +kernel
theorem d_Row_putNumber_2 : decode b_Row_putNumber 2 = .ok (.iload_n 1, 1) := by decide +kernel
theorem d_Row_putNumber_3 : decode b_Row_putNumber 3 = .ok (.bipush 10, 2) := by decide +kernel
theorem d_Row_putNumber_5 : decode b_Row_putNumber 5 = .ok (.idiv, 1) := by decide +kernel
theorem d_Row_putNumber_6 : decode b_Row_putNumber 6 = .ok (.istore 4, 2) := by decide +kernel
theorem d_Row_putNumber_8 : decode b_Row_putNumber 8 = .ok (.iload 4, 2) := by decide +kernel
theorem d_Row_putNumber_10 : decode b_Row_putNumber 10 = .ok (.ifCond .le 16, 3) := by decide +kernel
theorem d_Row_putNumber_13 : decode b_Row_putNumber 13 = .ok (.iinc 3 1, 3) := by decide +kernel
theorem d_Row_putNumber_16 : decode b_Row_putNumber 16 = .ok (.iload 4, 2) := by decide +kernel
theorem d_Row_putNumber_18 : decode b_Row_putNumber 18 = .ok (.bipush 10, 2) := by decide +kernel
theorem d_Row_putNumber_20 : decode b_Row_putNumber 20 = .ok (.idiv, 1) := by decide +kernel
theorem d_Row_putNumber_21 : decode b_Row_putNumber 21 = .ok (.istore 4, 2) := by decide +kernel
theorem d_Row_putNumber_23 : decode b_Row_putNumber 23 = .ok (.goto (-15), 3) := by decide +kernel
theorem d_Row_putNumber_26 : decode b_Row_putNumber 26 = .ok (.aload_n 0, 1) := by decide +kernel
theorem d_Row_putNumber_27 : decode b_Row_putNumber 27 = .ok (.getfield 9, 3) := by decide +kernel
theorem d_Row_putNumber_30 : decode b_Row_putNumber 30 = .ok (.istore 4, 2) := by decide +kernel
theorem d_Row_putNumber_32 : decode b_Row_putNumber 32 = .ok (.iload 4, 2) := by decide +kernel
theorem d_Row_putNumber_34 : decode b_Row_putNumber 34 = .ok (.iload_n 3, 1) := by decide +kernel
theorem d_Row_putNumber_35 : decode b_Row_putNumber 35 = .ok (.iload_n 2, 1) := by decide +kernel
theorem d_Row_putNumber_36 : decode b_Row_putNumber 36 = .ok (.invokestatic 19, 3) := by decide +kernel
theorem d_Row_putNumber_39 : decode b_Row_putNumber 39 = .ok (.iadd, 1) := by decide +kernel
theorem d_Row_putNumber_40 : decode b_Row_putNumber 40 = .ok (.istore 5, 2) := by decide +kernel
theorem d_Row_putNumber_42 : decode b_Row_putNumber 42 = .ok (.iload 5, 2) := by decide +kernel
theorem d_Row_putNumber_44 : decode b_Row_putNumber 44 = .ok (.aload_n 0, 1) := by decide +kernel
theorem d_Row_putNumber_45 : decode b_Row_putNumber 45 = .ok (.getfield 15, 3) := by decide +kernel
theorem d_Row_putNumber_48 : decode b_Row_putNumber 48 = .ok (.arraylength, 1) := by decide +kernel
theorem d_Row_putNumber_49 : decode b_Row_putNumber 49 = .ok (.if_icmp .le 4, 3) := by decide +kernel
theorem d_Row_putNumber_52 : decode b_Row_putNumber 52 = .ok (.return_, 1) := by decide +kernel
theorem d_Row_putNumber_53 : decode b_Row_putNumber 53 = .ok (.iload_n 1, 1) := by decide +kernel
theorem d_Row_putNumber_54 : decode b_Row_putNumber 54 = .ok (.istore 6, 2) := by decide +kernel
theorem d_Row_putNumber_56 : decode b_Row_putNumber 56 = .ok (.iload 5, 2) := by decide +kernel
theorem d_Row_putNumber_58 : decode b_Row_putNumber 58 = .ok (.iconst 1, 1) := by decide +kernel
theorem d_Row_putNumber_59 : decode b_Row_putNumber 59 = .ok (.isub, 1) := by decide +kernel
theorem d_Row_putNumber_60 : decode b_Row_putNumber 60 = .ok (.istore 7, 2) := by decide +kernel
theorem d_Row_putNumber_62 : decode b_Row_putNumber 62 = .ok (.iload 7, 2) := by decide +kernel
theorem d_Row_putNumber_64 : decode b_Row_putNumber 64 = .ok (.iload 4, 2) := by decide +kernel
theorem d_Row_putNumber_66 : decode b_Row_putNumber 66 = .ok (.if_icmp .lt 32, 3) := by decide +kernel
theorem d_Row_putNumber_69 : decode b_Row_putNumber 69 = .ok (.aload_n 0, 1) := by decide +kernel
theorem d_Row_putNumber_70 : decode b_Row_putNumber 70 = .ok (.getfield 15, 3) := by decide +kernel
theorem d_Row_putNumber_73 : decode b_Row_putNumber 73 = .ok (.iload 7, 2) := by decide +kernel
theorem d_Row_putNumber_75 : decode b_Row_putNumber 75 = .ok (.bipush 48, 2) := by decide +kernel
theorem d_Row_putNumber_77 : decode b_Row_putNumber 77 = .ok (.iload 6, 2) := by decide +kernel
theorem d_Row_putNumber_79 : decode b_Row_putNumber 79 = .ok (.bipush 10, 2) := by decide +kernel
theorem d_Row_putNumber_81 : decode b_Row_putNumber 81 = .ok (.irem, 1) := by decide +kernel
theorem d_Row_putNumber_82 : decode b_Row_putNumber 82 = .ok (.iadd, 1) := by decide +kernel
theorem d_Row_putNumber_83 : decode b_Row_putNumber 83 = .ok (.i2c, 1) := by decide +kernel
theorem d_Row_putNumber_84 : decode b_Row_putNumber 84 = .ok (.castore, 1) := by decide +kernel
theorem d_Row_putNumber_85 : decode b_Row_putNumber 85 = .ok (.iload 6, 2) := by decide +kernel
theorem d_Row_putNumber_87 : decode b_Row_putNumber 87 = .ok (.bipush 10, 2) := by decide +kernel
theorem d_Row_putNumber_89 : decode b_Row_putNumber 89 = .ok (.idiv, 1) := by decide +kernel
theorem d_Row_putNumber_90 : decode b_Row_putNumber 90 = .ok (.istore 6, 2) := by decide +kernel
theorem d_Row_putNumber_92 : decode b_Row_putNumber 92 = .ok (.iinc 7 (-1), 3) := by decide +kernel
theorem d_Row_putNumber_95 : decode b_Row_putNumber 95 = .ok (.goto (-33), 3) := by decide +kernel
theorem d_Row_putNumber_98 : decode b_Row_putNumber 98 = .ok (.aload_n 0, 1) := by decide +kernel
theorem d_Row_putNumber_99 : decode b_Row_putNumber 99 = .ok (.iload 5, 2) := by decide +kernel
theorem d_Row_putNumber_101 : decode b_Row_putNumber 101 = .ok (.putfield 9, 3) := by decide +kernel
theorem d_Row_putNumber_104 : decode b_Row_putNumber 104 = .ok (.return_, 1) := by decide +kernel
theorem d_Row_codeAt_0 : decode b_Row_codeAt 0 = .ok (.iload_n 1, 1) := by decide +kernel
theorem d_Row_codeAt_1 : decode b_Row_codeAt 1 = .ok (.ifCond .lt 20, 3) := by decide +kernel
theorem d_Row_codeAt_4 : decode b_Row_codeAt 4 = .ok (.iload_n 1, 1) := by decide +kernel
theorem d_Row_codeAt_5 : decode b_Row_codeAt 5 = .ok (.aload_n 0, 1) := by decide +kernel
theorem d_Row_codeAt_6 : decode b_Row_codeAt 6 = .ok (.getfield 9, 3) := by decide +kernel
theorem d_Row_codeAt_9 : decode b_Row_codeAt 9 = .ok (.if_icmp .ge 12, 3) := by decide +kernel
theorem d_Row_codeAt_12 : decode b_Row_codeAt 12 = .ok (.aload_n 0, 1) := by decide +kernel
theorem d_Row_codeAt_13 : decode b_Row_codeAt 13 = .ok (.getfield 15, 3) := by decide +kernel
theorem d_Row_codeAt_16 : decode b_Row_codeAt 16 = .ok (.iload_n 1, 1) := by decide +kernel
theorem d_Row_codeAt_17 : decode b_Row_codeAt 17 = .ok (.caload, 1) := by decide +kernel
theorem d_Row_codeAt_18 : decode b_Row_codeAt 18 = .ok (.goto 4, 3) := by decide +kernel
theorem d_Row_codeAt_21 : decode b_Row_codeAt 21 = .ok (.iconst (-1), 1) := by decide +kernel
theorem d_Row_codeAt_22 : decode b_Row_codeAt 22 = .ok (.ireturn, 1) := by decide +kernel
theorem d_Row_become_0 : decode b_Row_become 0 = .ok (.aload_n 0, 1) := by decide +kernel
theorem d_Row_become_1 : decode b_Row_become 1 = .ok (.iconst 0, 1) := by decide +kernel
theorem d_Row_become_2 : decode b_Row_become 2 = .ok (.putfield 9, 3) := by decide +kernel
theorem d_Row_become_5 : decode b_Row_become 5 = .ok (.iconst 0, 1) := by decide +kernel
theorem d_Row_become_6 : decode b_Row_become 6 = .ok (.istore_n 2, 1) := by decide +kernel
theorem d_Row_become_7 : decode b_Row_become 7 = .ok (.iload_n 2, 1) := by decide +kernel
theorem d_Row_become_8 : decode b_Row_become 8 = .ok (.aload_n 1, 1) := by decide +kernel
theorem d_Row_become_9 : decode b_Row_become 9 = .ok (.getfield 9, 3) := by decide +kernel
theorem d_Row_become_12 : decode b_Row_become 12 = .ok (.if_icmp .ge 20, 3) := by decide +kernel
theorem d_Row_become_15 : decode b_Row_become 15 = .ok (.aload_n 0, 1) := by decide +kernel
theorem d_Row_become_16 : decode b_Row_become 16 = .ok (.aload_n 1, 1) := by decide +kernel
theorem d_Row_become_17 : decode b_Row_become 17 = .ok (.iload_n 2, 1) := by decide +kernel
theorem d_Row_become_18 : decode b_Row_become 18 = .ok (.invokevirtual 25, 3) := by decide +kernel
theorem d_Row_become_21 : decode b_Row_become 21 = .ok (.i2c, 1) := by decide +kernel
theorem d_Row_become_22 : decode b_Row_become 22 = .ok (.invokevirtual 29, 3) := by decide +kernel
theorem d_Row_become_25 : decode b_Row_become 25 = .ok (.pop, 1) := by decide +kernel
theorem d_Row_become_26 : decode b_Row_become 26 = .ok (.iinc 2 1, 3) := by decide +kernel
theorem d_Row_become_29 : decode b_Row_become 29 = .ok (.goto (-22), 3) := by decide +kernel
theorem d_Row_become_32 : decode b_Row_become 32 = .ok (.return_, 1) := by decide +kernel
theorem d_Row_shorten_0 : decode b_Row_shorten 0 = .ok (.aload_n 0, 1) := by decide +kernel
theorem d_Row_shorten_1 : decode b_Row_shorten 1 = .ok (.iconst 0, 1) := by decide +kernel
theorem d_Row_shorten_2 : decode b_Row_shorten 2 = .ok (.aload_n 0, 1) := by decide +kernel
theorem d_Row_shorten_3 : decode b_Row_shorten 3 = .ok (.getfield 9, 3) := by decide +kernel
theorem d_Row_shorten_6 : decode b_Row_shorten 6 = .ok (.iload_n 1, 1) := by decide +kernel
theorem d_Row_shorten_7 : decode b_Row_shorten 7 = .ok (.invokestatic 33, 3) := by decide +kernel
theorem d_Row_shorten_10 : decode b_Row_shorten 10 = .ok (.invokestatic 19, 3) := by decide +kernel
theorem d_Row_shorten_13 : decode b_Row_shorten 13 = .ok (.putfield 9, 3) := by decide +kernel
theorem d_Row_shorten_16 : decode b_Row_shorten 16 = .ok (.return_, 1) := by decide +kernel
theorem d_Row_runLength_0 : decode b_Row_runLength 0 = .ok (.iload_n 1, 1) := by decide +kernel
theorem d_Row_runLength_1 : decode b_Row_runLength 1 = .ok (.istore_n 2, 1) := by decide +kernel
theorem d_Row_runLength_2 : decode b_Row_runLength 2 = .ok (.iload_n 2, 1) := by decide +kernel
theorem d_Row_runLength_3 : decode b_Row_runLength 3 = .ok (.aload_n 0, 1) := by decide +kernel
theorem d_Row_runLength_4 : decode b_Row_runLength 4 = .ok (.getfield 9, 3) := by decide +kernel
theorem d_Row_runLength_7 : decode b_Row_runLength 7 = .ok (.if_icmp .ge 22, 3) := by decide +kernel
theorem d_Row_runLength_10 : decode b_Row_runLength 10 = .ok (.aload_n 0, 1) := by decide +kernel
theorem d_Row_runLength_11 : decode b_Row_runLength 11 = .ok (.iload_n 2, 1) := by decide +kernel
theorem d_Row_runLength_12 : decode b_Row_runLength 12 = .ok (.invokevirtual 25, 3) := by decide +kernel
theorem d_Row_runLength_15 : decode b_Row_runLength 15 = .ok (.aload_n 0, 1) := by decide +kernel
theorem d_Row_runLength_16 : decode b_Row_runLength 16 = .ok (.iload_n 1, 1) := by decide +kernel
theorem d_Row_runLength_17 : decode b_Row_runLength 17 = .ok (.invokevirtual 25, 3) := by decide +kernel
theorem d_Row_runLength_20 : decode b_Row_runLength 20 = .ok (.if_icmp .ne 9, 3) := by decide +kernel
theorem d_Row_runLength_23 : decode b_Row_runLength 23 = .ok (.iinc 2 1, 3) := by decide +kernel
theorem d_Row_runLength_26 : decode b_Row_runLength 26 = .ok (.goto (-24), 3) := by decide +kernel
theorem d_Row_runLength_29 : decode b_Row_runLength 29 = .ok (.iload_n 2, 1) := by decide +kernel
theorem d_Row_runLength_30 : decode b_Row_runLength 30 = .ok (.iload_n 1, 1) := by decide +kernel
theorem d_Row_runLength_31 : decode b_Row_runLength 31 = .ok (.isub, 1) := by decide +kernel
theorem d_Row_runLength_32 : decode b_Row_runLength 32 = .ok (.ireturn, 1) := by decide +kernel
theorem d_Row_digits_0 : decode b_Row_digits 0 = .ok (.iconst 0, 1) := by decide +kernel
theorem d_Row_digits_1 : decode b_Row_digits 1 = .ok (.istore_n 3, 1) := by decide +kernel
theorem d_Row_digits_2 : decode b_Row_digits 2 = .ok (.iload_n 3, 1) := by decide +kernel
theorem d_Row_digits_3 : decode b_Row_digits 3 = .ok (.iload_n 2, 1) := by decide +kernel
theorem d_Row_digits_4 : decode b_Row_digits 4 = .ok (.if_icmp .ge 33, 3) := by decide +kernel
theorem d_Row_digits_7 : decode b_Row_digits 7 = .ok (.aload_n 0, 1) := by decide +kernel
theorem d_Row_digits_8 : decode b_Row_digits 8 = .ok (.iload_n 1, 1) := by decide +kernel
theorem d_Row_digits_9 : decode b_Row_digits 9 = .ok (.iload_n 3, 1) := by decide +kernel
theorem d_Row_digits_10 : decode b_Row_digits 10 = .ok (.iadd, 1) := by decide +kernel
theorem d_Row_digits_11 : decode b_Row_digits 11 = .ok (.invokevirtual 25, 3) := by decide +kernel
theorem d_Row_digits_14 : decode b_Row_digits 14 = .ok (.bipush 48, 2) := by decide +kernel
theorem d_Row_digits_16 : decode b_Row_digits 16 = .ok (.if_icmp .lt 21, 3) := by decide +kernel
theorem d_Row_digits_19 : decode b_Row_digits 19 = .ok (.aload_n 0, 1) := by decide +kernel
theorem d_Row_digits_20 : decode b_Row_digits 20 = .ok (.iload_n 1, 1) := by decide +kernel
theorem d_Row_digits_21 : decode b_Row_digits 21 = .ok (.iload_n 3, 1) := by decide +kernel
theorem d_Row_digits_22 : decode b_Row_digits 22 = .ok (.iadd, 1) := by decide +kernel
theorem d_Row_digits_23 : decode b_Row_digits 23 = .ok (.invokevirtual 25, 3) := by decide +kernel
theorem d_Row_digits_26 : decode b_Row_digits 26 = .ok (.bipush 57, 2) := by decide +kernel
theorem d_Row_digits_28 : decode b_Row_digits 28 = .ok (.if_icmp .gt 9, 3) := by decide +kernel
theorem d_Row_digits_31 : decode b_Row_digits 31 = .ok (.iinc 3 1, 3) := by decide +kernel
theorem d_Row_digits_34 : decode b_Row_digits 34 = .ok (.goto (-32), 3) := by decide +kernel
theorem d_Row_digits_37 : decode b_Row_digits 37 = .ok (.iload_n 3, 1) := by decide +kernel
theorem d_Row_digits_38 : decode b_Row_digits 38 = .ok (.ireturn, 1) := by decide +kernel
theorem d_Row_number_0 : decode b_Row_number 0 = .ok (.iconst 0, 1) := by decide +kernel
theorem d_Row_number_1 : decode b_Row_number 1 = .ok (.istore_n 3, 1) := by decide +kernel
theorem d_Row_number_2 : decode b_Row_number 2 = .ok (.iconst 0, 1) := by decide +kernel
theorem d_Row_number_3 : decode b_Row_number 3 = .ok (.istore 4, 2) := by decide +kernel
theorem d_Row_number_5 : decode b_Row_number 5 = .ok (.iload 4, 2) := by decide +kernel
theorem d_Row_number_7 : decode b_Row_number 7 = .ok (.iload_n 2, 1) := by decide +kernel
theorem d_Row_number_8 : decode b_Row_number 8 = .ok (.if_icmp .ge 26, 3) := by decide +kernel
theorem d_Row_number_11 : decode b_Row_number 11 = .ok (.iload_n 3, 1) := by decide +kernel
theorem d_Row_number_12 : decode b_Row_number 12 = .ok (.bipush 10, 2) := by decide +kernel
theorem d_Row_number_14 : decode b_Row_number 14 = .ok (.imul, 1) := by decide +kernel
theorem d_Row_number_15 : decode b_Row_number 15 = .ok (.aload_n 0, 1) := by decide +kernel
theorem d_Row_number_16 : decode b_Row_number 16 = .ok (.iload_n 1, 1) := by decide +kernel
theorem d_Row_number_17 : decode b_Row_number 17 = .ok (.iload 4, 2) := by decide +kernel
theorem d_Row_number_19 : decode b_Row_number 19 = .ok (.iadd, 1) := by decide +kernel
theorem d_Row_number_20 : decode b_Row_number 20 = .ok (.invokevirtual 25, 3) := by decide +kernel
theorem d_Row_number_23 : decode b_Row_number 23 = .ok (.iadd, 1) := by decide +kernel
theorem d_Row_number_24 : decode b_Row_number 24 = .ok (.bipush 48, 2) := by decide +kernel
theorem d_Row_number_26 : decode b_Row_number 26 = .ok (.isub, 1) := by decide +kernel
theorem d_Row_number_27 : decode b_Row_number 27 = .ok (.istore_n 3, 1) := by decide +kernel
theorem d_Row_number_28 : decode b_Row_number 28 = .ok (.iinc 4 1, 3) := by decide +kernel
theorem d_Row_number_31 : decode b_Row_number 31 = .ok (.goto (-26), 3) := by decide +kernel
theorem d_Row_number_34 : decode b_Row_number 34 = .ok (.iload_n 3, 1) := by decide +kernel
theorem d_Row_number_35 : decode b_Row_number 35 = .ok (.ireturn, 1) := by decide +kernel
abbrev rm_Row_put : Room := { frames := 0, cells := 0, slots := 0, locals := 0 }
set_option maxHeartbeats 4000000 in
set_option maxRecDepth 100000 in
theorem c_Row_put (l : Launch) (D : va_G) (kk : Nat → ClassId) (st : Nat → Nat) (a_t a_t_cells : Nat) (sz : Nat) (n_t_cells : Nat) (t_size : Int32) (t_cells : Nat → Int32) (x1 : Int32) (o : Int32 × Int32 × (Nat → Int32)) (he : f_Row_put n_t_cells t_size t_cells x1 = some o) : Met l y_Row_put (Cond.code y_Row_put b_Row_put 2 (some .boolean) :: GW) rm_Row_put (KPc D kk st [.ref a_t, .int x1] [(a_t, .inr (1, [.ref a_t_cells, .int t_size])), (a_t_cells, .inl (kk 1, n_t_cells, .inl t_cells))] sz) (KQi D kk o.1 [(a_t, .inr (1, [.ref a_t_cells, .int o.2.1])), (a_t_cells, .inl (kk 1, n_t_cells, .inl o.2.2))] (va_A [(a_t, .inr (1, [.ref a_t_cells, .int t_size])), (a_t_cells, .inl (kk 1, n_t_cells, .inl t_cells))] sz)) 0 0 (va_A [(a_t, .inr (1, [.ref a_t_cells, .int t_size])), (a_t_cells, .inl (kk 1, n_t_cells, .inl t_cells))] sz) := by
  refine k_start (Qc := fun A => KQi D kk o.1 [(a_t, .inr (1, [.ref a_t_cells, .int o.2.1])), (a_t_cells, .inl (kk 1, n_t_cells, .inl o.2.2))] A) (by decide) (Nat.le_of_ble_eq_true rfl) ?_
  intro p e s m below meth c A ls S hnm hr hlk hA X hP hD hS hl
  have hl : lv_has ls 2 [(0, .ref a_t), (1, .int x1)] := hl
  have hx := S.1
  have hb := S.2.1
  unfold f_Row_put at he
  refine lv_aload_n hx hb d_Row_put_0 rfl (lv_at hl 0 rfl) ?_
  refine k_get S X us_Row hP 0 rfl rfl 1 (by decide) gm_1_35 rfl d_Row_put_1 ?_
  refine lv_aload_n hx hb d_Row_put_4 rfl (lv_at hl 0 rfl) ?_
  refine k_get S X us_Row hP 0 rfl rfl 0 (by decide) gm_1_34 rfl d_Row_put_5 ?_
  refine va_alen (v := (Int32.ofNat n_t_cells)) hx hb X.1 hP 1 1 rfl rfl rfl d_Row_put_8 ?_
  refine lv_icmp_lt (tgt := 14) hx hb d_Row_put_9 rfl (fun hc => ?_) (fun hc => ?_)
  · have he := ih_t hc he
    refine lv_aload_n hx hb d_Row_put_14 rfl (lv_at hl 0 rfl) ?_
    refine k_get S X us_Row hP 0 rfl rfl 0 (by decide) gm_1_34 rfl d_Row_put_15 ?_
    refine lv_aload_n hx hb d_Row_put_18 rfl (lv_at hl 0 rfl) ?_
    refine k_get S X us_Row hP 0 rfl rfl 1 (by decide) gm_1_35 rfl d_Row_put_19 ?_
    refine lv_iload_n hx hb d_Row_put_22 rfl (lv_at hl 1 rfl) ?_
    obtain ⟨hi1, he⟩ := ih_g he
    refine va_cast hx hb X.1 hP hD hS 1 1 rfl rfl hi1 d_Row_put_23 (fun H locs hP hD hS => ?_)
    have hP : va_P D classes [(a_t, .inr (1, [.ref a_t_cells, .int t_size])), (a_t_cells, .inl (kk 1, n_t_cells, .inl (upd t_cells (t_size).toNatClampNeg (vp_nar .char x1))))] H := hP
    have hD : va_D A [(a_t, .inr (1, [.ref a_t_cells, .int t_size])), (a_t_cells, .inl (kk 1, n_t_cells, .inl (upd t_cells (t_size).toNatClampNeg (vp_nar .char x1))))] := hD
    refine lv_aload_n hx hb d_Row_put_24 rfl (lv_at hl 0 rfl) ?_
    refine lv_dup hx hb d_Row_put_25 rfl ?_
    refine k_get S X us_Row hP 0 rfl rfl 1 (by decide) gm_1_35 rfl d_Row_put_26 ?_
    refine lv_iconst (v := (1 : Int32)) hx hb d_Row_put_29 (by decide) ?_
    refine lv_iadd hx hb d_Row_put_30 ?_
    refine k_put S X us_Row t_Row t_Row_ok n_Row hP hD hS 0 rfl rfl 1 (by decide) gm_1_35 rfl rfl rfl (Nat.le_of_ble_eq_true rfl) d_Row_put_31 (fun H locs hP hD hS => ?_)
    have hP : va_P D classes [(a_t, .inr (1, [.ref a_t_cells, .int (t_size + (1 : Int32))])), (a_t_cells, .inl (kk 1, n_t_cells, .inl (upd t_cells (t_size).toNatClampNeg (vp_nar .char x1))))] H := hP
    have hD : va_D A [(a_t, .inr (1, [.ref a_t_cells, .int (t_size + (1 : Int32))])), (a_t_cells, .inl (kk 1, n_t_cells, .inl (upd t_cells (t_size).toNatClampNeg (vp_nar .char x1))))] := hD
    refine lv_iconst (v := (1 : Int32)) hx hb d_Row_put_34 (by decide) ?_
    cases he
    exact k_zre hx hb hr hlk X hP hD hS (Or.inr rfl) d_Row_put_35
  · have he := ih_f hc he
    refine lv_iconst (v := (0 : Int32)) hx hb d_Row_put_12 (by decide) ?_
    cases he
    exact k_zre hx hb hr hlk X hP hD hS (Or.inl rfl) d_Row_put_13
abbrev rm_Row_putNumber : Room := { frames := 1, cells := 0, slots := 0, locals := 21 }
set_option maxHeartbeats 4000000 in
set_option maxRecDepth 100000 in
theorem w_Row_putNumber_8 {p : Program} {l : Launch} {e : Env} {s : State} {m : MethodId} {args : Array Value} {below : List Frame} {meth : Method} {c : Code} {Q : State → Prop} {A : Nat → Prop} {D : va_G} {kk : Nat → ClassId} {st : Nat → Nat} (a_t a_t_cells : Nat) (n_t_cells : Nat) (t_size : Int32) (t_cells : Nat → Int32) (x1 : Int32) (x2 : Int32) (S : CallFix p m c b_Row_putNumber 8 s args GW y_Row_putNumber.cls) (hr : meth.sig.returnType = none) (hlk : meth.locks = false) (hA : ∀ q, s.heap.size ≤ q → A q) (X : KX D kk st A s) : ∀ (n : Nat) (x3 : Int32) (x4 : Int32) (v : Int32 × Int32) (H : Heap) (locs : List Loc) (ls : Array Slot), lp_Row_putNumber_8 n_t_cells x1 x2 n x3 x4 = some v → lv_has ls 8 [(0, .ref a_t), (1, .int x1), (2, .int x2), (3, .int x3), (4, .int x4)] → va_P D classes [(a_t, .inr (1, [.ref a_t_cells, .int t_size])), (a_t_cells, .inl (kk 1, n_t_cells, .inl t_cells))] H → va_D A [(a_t, .inr (1, [.ref a_t_cells, .int t_size])), (a_t_cells, .inl (kk 1, n_t_cells, .inl t_cells))] → va_S A s.heap H locs → (∀ (H : Heap) (locs : List Loc) (ls : Array Slot), lv_has ls 8 [(0, .ref a_t), (1, .int x1), (2, .int x2), (3, .int v.1), (4, .int v.2)] → va_P D classes [(a_t, .inr (1, [.ref a_t_cells, .int t_size])), (a_t_cells, .inl (kk 1, n_t_cells, .inl t_cells))] H → va_D A [(a_t, .inr (1, [.ref a_t_cells, .int t_size])), (a_t_cells, .inl (kk 1, n_t_cells, .inl t_cells))] → va_S A s.heap H locs → W p l e rm_Row_putNumber s m args below meth c H locs 0 0 Q (F0 m 26 ls [])) → W p l e rm_Row_putNumber s m args below meth c H locs 0 0 Q (F0 m 8 ls []) := by
  intro n
  induction n with
  | zero =>
    intro x3 x4 v H locs ls he hl hP hD hS K
    exact ih_n he
  | succ n ih =>
    intro x3 x4 v H locs ls he hl hP hD hS K
    have hx := S.1
    have hb := S.2.1
    have he : st_Row_putNumber_8 n_t_cells x1 x2 (lp_Row_putNumber_8 n_t_cells x1 x2 n) x3 x4 = some v := he
    unfold st_Row_putNumber_8 at he
    refine lv_iload hx hb d_Row_putNumber_8 (lv_at hl 4 rfl) ?_
    refine lv_if_le (tgt := 26) hx hb d_Row_putNumber_10 rfl (fun hc => ?_) (fun hc => ?_)
    · have he := ih_t hc he
      have hl : lv_has ls 8 [(0, .ref a_t), (1, .int x1), (2, .int x2), (3, .int x3), (4, .int x4)] := lv_sub hl [0, 1, 2, 3, 4] rfl
      cases he
      exact K _ _ _ hl hP hD hS
    · have he := ih_f hc he
      refine lv_iinc (k := 3) hx hb d_Row_putNumber_13 hl rfl (ii_ (v := (1 : Int32)) (by decide)) (by decide) rfl (fun ls hl => ?_)
      have hl : lv_has ls 8 [(3, .int (x3 + (1 : Int32))), (0, .ref a_t), (1, .int x1), (2, .int x2), (4, .int x4)] := hl
      refine lv_iload hx hb d_Row_putNumber_16 (lv_at hl 4 rfl) ?_
      refine lv_bipush (v := (10 : Int32)) hx hb d_Row_putNumber_18 (by decide) ?_
      refine lv_idiv hx hb d_Row_putNumber_20 (by decide) ?_
      refine lv_istore hx hb d_Row_putNumber_21 hl (by decide) rfl (fun ls hl => ?_)
      have hl : lv_has ls 8 [(4, .int (x4 / (10 : Int32))), (3, .int (x3 + (1 : Int32))), (0, .ref a_t), (1, .int x1), (2, .int x2)] := hl
      refine lv_goto (tgt := 8) hx hb d_Row_putNumber_23 rfl ?_
      have hl : lv_has ls 8 [(0, .ref a_t), (1, .int x1), (2, .int x2), (3, .int (x3 + (1 : Int32))), (4, .int (x4 / (10 : Int32)))] := lv_sub hl [2, 3, 4, 1, 0] rfl
      exact ih _ _ _ _ _ _ he hl hP hD hS K
set_option maxHeartbeats 4000000 in
set_option maxRecDepth 100000 in
theorem w_Row_putNumber_62 {p : Program} {l : Launch} {e : Env} {s : State} {m : MethodId} {args : Array Value} {below : List Frame} {meth : Method} {c : Code} {Q : State → Prop} {A : Nat → Prop} {D : va_G} {kk : Nat → ClassId} {st : Nat → Nat} (a_t a_t_cells : Nat) (n_t_cells : Nat) (t_size : Int32) (x4 : Int32) (x5 : Int32) (S : CallFix p m c b_Row_putNumber 8 s args GW y_Row_putNumber.cls) (hr : meth.sig.returnType = none) (hlk : meth.locks = false) (hA : ∀ q, s.heap.size ≤ q → A q) (X : KX D kk st A s) : ∀ (n : Nat) (x6 : Int32) (x7 : Int32) (t_cells : Nat → Int32) (v : Int32 × Int32 × (Nat → Int32)) (H : Heap) (locs : List Loc) (ls : Array Slot), lp_Row_putNumber_62 n_t_cells x4 x5 n x6 x7 t_cells = some v → lv_has ls 8 [(0, .ref a_t), (4, .int x4), (5, .int x5), (6, .int x6), (7, .int x7)] → va_P D classes [(a_t, .inr (1, [.ref a_t_cells, .int t_size])), (a_t_cells, .inl (kk 1, n_t_cells, .inl t_cells))] H → va_D A [(a_t, .inr (1, [.ref a_t_cells, .int t_size])), (a_t_cells, .inl (kk 1, n_t_cells, .inl t_cells))] → va_S A s.heap H locs → (∀ (H : Heap) (locs : List Loc) (ls : Array Slot), lv_has ls 8 [(0, .ref a_t), (4, .int x4), (5, .int x5), (6, .int v.1), (7, .int v.2.1)] → va_P D classes [(a_t, .inr (1, [.ref a_t_cells, .int t_size])), (a_t_cells, .inl (kk 1, n_t_cells, .inl v.2.2))] H → va_D A [(a_t, .inr (1, [.ref a_t_cells, .int t_size])), (a_t_cells, .inl (kk 1, n_t_cells, .inl v.2.2))] → va_S A s.heap H locs → W p l e rm_Row_putNumber s m args below meth c H locs 0 0 Q (F0 m 98 ls [])) → W p l e rm_Row_putNumber s m args below meth c H locs 0 0 Q (F0 m 62 ls []) := by
  intro n
  induction n with
  | zero =>
    intro x6 x7 t_cells v H locs ls he hl hP hD hS K
    exact ih_n he
  | succ n ih =>
    intro x6 x7 t_cells v H locs ls he hl hP hD hS K
    have hx := S.1
    have hb := S.2.1
    have he : st_Row_putNumber_62 n_t_cells x4 x5 (lp_Row_putNumber_62 n_t_cells x4 x5 n) x6 x7 t_cells = some v := he
    unfold st_Row_putNumber_62 at he
    refine lv_iload hx hb d_Row_putNumber_62 (lv_at hl 4 rfl) ?_
    refine lv_iload hx hb d_Row_putNumber_64 (lv_at hl 1 rfl) ?_
    refine lv_icmp_lt (tgt := 98) hx hb d_Row_putNumber_66 rfl (fun hc => ?_) (fun hc => ?_)
    · have he := ih_t hc he
      have hl : lv_has ls 8 [(0, .ref a_t), (4, .int x4), (5, .int x5), (6, .int x6), (7, .int x7)] := lv_sub hl [0, 1, 2, 3, 4] rfl
      cases he
      exact K _ _ _ hl hP hD hS
    · have he := ih_f hc he
      refine lv_aload_n hx hb d_Row_putNumber_69 rfl (lv_at hl 0 rfl) ?_
      refine k_get S X us_Row hP 0 rfl rfl 0 (by decide) gm_1_34 rfl d_Row_putNumber_70 ?_
      refine lv_iload hx hb d_Row_putNumber_73 (lv_at hl 4 rfl) ?_
      refine lv_bipush (v := (48 : Int32)) hx hb d_Row_putNumber_75 (by decide) ?_
      refine lv_iload hx hb d_Row_putNumber_77 (lv_at hl 3 rfl) ?_
      refine lv_bipush (v := (10 : Int32)) hx hb d_Row_putNumber_79 (by decide) ?_
      refine lv_irem hx hb d_Row_putNumber_81 (by decide) ?_
      refine lv_iadd hx hb d_Row_putNumber_82 ?_
      refine lv_i2c hx hb d_Row_putNumber_83 rfl ?_
      obtain ⟨hi3, he⟩ := ih_g he
      refine va_cast hx hb X.1 hP hD hS 1 1 rfl rfl hi3 d_Row_putNumber_84 (fun H locs hP hD hS => ?_)
      have hP : va_P D classes [(a_t, .inr (1, [.ref a_t_cells, .int t_size])), (a_t_cells, .inl (kk 1, n_t_cells, .inl (upd t_cells (x7).toNatClampNeg (vp_nar .char (((Int32.toUInt32 ((48 : Int32) + (x6 - x6 / (10 : Int32) * (10 : Int32)))) % 65536).toInt32)))))] H := hP
      have hD : va_D A [(a_t, .inr (1, [.ref a_t_cells, .int t_size])), (a_t_cells, .inl (kk 1, n_t_cells, .inl (upd t_cells (x7).toNatClampNeg (vp_nar .char (((Int32.toUInt32 ((48 : Int32) + (x6 - x6 / (10 : Int32) * (10 : Int32)))) % 65536).toInt32)))))] := hD
      refine lv_iload hx hb d_Row_putNumber_85 (lv_at hl 3 rfl) ?_
      refine lv_bipush (v := (10 : Int32)) hx hb d_Row_putNumber_87 (by decide) ?_
      refine lv_idiv hx hb d_Row_putNumber_89 (by decide) ?_
      refine lv_istore hx hb d_Row_putNumber_90 hl (by decide) rfl (fun ls hl => ?_)
      have hl : lv_has ls 8 [(6, .int (x6 / (10 : Int32))), (0, .ref a_t), (4, .int x4), (5, .int x5), (7, .int x7)] := hl
      refine lv_iinc (k := 4) hx hb d_Row_putNumber_92 hl rfl (ii_ (v := (-1 : Int32)) (by decide)) (by decide) rfl (fun ls hl => ?_)
      have hl : lv_has ls 8 [(7, .int (x7 + (-1 : Int32))), (6, .int (x6 / (10 : Int32))), (0, .ref a_t), (4, .int x4), (5, .int x5)] := hl
      refine lv_goto (tgt := 62) hx hb d_Row_putNumber_95 rfl ?_
      have hl : lv_has ls 8 [(0, .ref a_t), (4, .int x4), (5, .int x5), (6, .int (x6 / (10 : Int32))), (7, .int (x7 + (-1 : Int32)))] := lv_sub hl [2, 3, 4, 1, 0] rfl
      exact ih _ _ _ _ _ _ _ he hl hP hD hS K
set_option maxHeartbeats 4000000 in
set_option maxRecDepth 100000 in
theorem c_Row_putNumber (l : Launch) (D : va_G) (kk : Nat → ClassId) (st : Nat → Nat) (a_t a_t_cells : Nat) (sz : Nat) (n_t_cells : Nat) (t_size : Int32) (t_cells : Nat → Int32) (x1 : Int32) (x2 : Int32) (o : Int32 × (Nat → Int32)) (he : f_Row_putNumber n_t_cells t_size t_cells x1 x2 = some o) : Met l y_Row_putNumber (Cond.code y_Row_putNumber b_Row_putNumber 8 none :: GW) rm_Row_putNumber (KPc D kk st [.ref a_t, .int x1, .int x2] [(a_t, .inr (1, [.ref a_t_cells, .int t_size])), (a_t_cells, .inl (kk 1, n_t_cells, .inl t_cells))] sz) (KQv D kk [(a_t, .inr (1, [.ref a_t_cells, .int o.1])), (a_t_cells, .inl (kk 1, n_t_cells, .inl o.2))] (va_A [(a_t, .inr (1, [.ref a_t_cells, .int t_size])), (a_t_cells, .inl (kk 1, n_t_cells, .inl t_cells))] sz)) 0 0 (va_A [(a_t, .inr (1, [.ref a_t_cells, .int t_size])), (a_t_cells, .inl (kk 1, n_t_cells, .inl t_cells))] sz) := by
  refine k_start (Qc := fun A => KQv D kk [(a_t, .inr (1, [.ref a_t_cells, .int o.1])), (a_t_cells, .inl (kk 1, n_t_cells, .inl o.2))] A) (by decide) (Nat.le_of_ble_eq_true rfl) ?_
  intro p e s m below meth c A ls S hnm hr hlk hA X hP hD hS hl
  have hl : lv_has ls 8 [(0, .ref a_t), (1, .int x1), (2, .int x2)] := hl
  have hx := S.1
  have hb := S.2.1
  unfold f_Row_putNumber at he
  refine lv_iconst (v := (1 : Int32)) hx hb d_Row_putNumber_0 (by decide) ?_
  refine lv_istore_n hx hb d_Row_putNumber_1 rfl hl (by decide) rfl (fun ls hl => ?_)
  have hl : lv_has ls 8 [(3, .int (1 : Int32)), (0, .ref a_t), (1, .int x1), (2, .int x2)] := hl
  refine lv_iload_n hx hb d_Row_putNumber_2 rfl (lv_at hl 2 rfl) ?_
  refine lv_bipush (v := (10 : Int32)) hx hb d_Row_putNumber_3 (by decide) ?_
  refine lv_idiv hx hb d_Row_putNumber_5 (by decide) ?_
  refine lv_istore hx hb d_Row_putNumber_6 hl (by decide) rfl (fun ls hl => ?_)
  have hl : lv_has ls 8 [(4, .int (x1 / (10 : Int32))), (3, .int (1 : Int32)), (0, .ref a_t), (1, .int x1), (2, .int x2)] := hl
  obtain ⟨u1, e2, he⟩ := ih_b he
  have hl : lv_has ls 8 [(0, .ref a_t), (1, .int x1), (2, .int x2), (3, .int (1 : Int32)), (4, .int (x1 / (10 : Int32)))] := lv_sub hl [2, 3, 4, 1, 0] rfl
  refine w_Row_putNumber_8 a_t a_t_cells n_t_cells t_size t_cells x1 x2 S hr hlk hA X FU (1 : Int32) (x1 / (10 : Int32)) u1 _ _ ls e2 hl hP hD hS (fun H locs ls hl hP hD hS => ?_)
  refine lv_aload_n hx hb d_Row_putNumber_26 rfl (lv_at hl 0 rfl) ?_
  refine k_get S X us_Row hP 0 rfl rfl 1 (by decide) gm_1_35 rfl d_Row_putNumber_27 ?_
  refine lv_istore hx hb d_Row_putNumber_30 hl (by decide) rfl (fun ls hl => ?_)
  have hl : lv_has ls 8 [(4, .int t_size), (0, .ref a_t), (1, .int x1), (2, .int x2), (3, .int u1.1)] := hl
  refine lv_iload hx hb d_Row_putNumber_32 (lv_at hl 0 rfl) ?_
  refine lv_iload_n hx hb d_Row_putNumber_34 rfl (lv_at hl 4 rfl) ?_
  refine lv_iload_n hx hb d_Row_putNumber_35 rfl (lv_at hl 3 rfl) ?_
  refine va_mmax hx hb (by rw [S.2.2.1]; exact hl.1.symm) S.2.2.2.1 (S.2.2.2.2 _ gm_2_210) (S.2.2.2.2 _ gm_2_126) (S.2.2.2.2 _ gm_1_11) (S.2.2.2.2 _ gm_2_127) (by decide) (Nat.le_of_ble_eq_true rfl) (Nat.zero_le _) (Nat.zero_le _) d_Row_putNumber_36 ?_
  refine lv_iadd hx hb d_Row_putNumber_39 ?_
  refine lv_istore hx hb d_Row_putNumber_40 hl (by decide) rfl (fun ls hl => ?_)
  have hl : lv_has ls 8 [(5, .int (t_size + (if u1.1 < x2 then x2 else u1.1))), (4, .int t_size), (0, .ref a_t), (1, .int x1), (2, .int x2), (3, .int u1.1)] := hl
  refine lv_iload hx hb d_Row_putNumber_42 (lv_at hl 0 rfl) ?_
  refine lv_aload_n hx hb d_Row_putNumber_44 rfl (lv_at hl 2 rfl) ?_
  refine k_get S X us_Row hP 0 rfl rfl 0 (by decide) gm_1_34 rfl d_Row_putNumber_45 ?_
  refine va_alen (v := (Int32.ofNat n_t_cells)) hx hb X.1 hP 1 1 rfl rfl rfl d_Row_putNumber_48 ?_
  refine lv_icmp_le (tgt := 53) hx hb d_Row_putNumber_49 rfl (fun hc => ?_) (fun hc => ?_)
  · have he := ih_t hc he
    refine lv_iload_n hx hb d_Row_putNumber_53 rfl (lv_at hl 3 rfl) ?_
    refine lv_istore hx hb d_Row_putNumber_54 hl (by decide) rfl (fun ls hl => ?_)
    have hl : lv_has ls 8 [(6, .int x1), (5, .int (t_size + (if u1.1 < x2 then x2 else u1.1))), (4, .int t_size), (0, .ref a_t), (1, .int x1), (2, .int x2), (3, .int u1.1)] := hl
    refine lv_iload hx hb d_Row_putNumber_56 (lv_at hl 1 rfl) ?_
    refine lv_iconst (v := (1 : Int32)) hx hb d_Row_putNumber_58 (by decide) ?_
    refine lv_isub hx hb d_Row_putNumber_59 ?_
    refine lv_istore hx hb d_Row_putNumber_60 hl (by decide) rfl (fun ls hl => ?_)
    have hl : lv_has ls 8 [(7, .int ((t_size + (if u1.1 < x2 then x2 else u1.1)) - (1 : Int32))), (6, .int x1), (5, .int (t_size + (if u1.1 < x2 then x2 else u1.1))), (4, .int t_size), (0, .ref a_t), (1, .int x1), (2, .int x2), (3, .int u1.1)] := hl
    obtain ⟨u4, e5, he⟩ := ih_b he
    have hl : lv_has ls 8 [(0, .ref a_t), (4, .int t_size), (5, .int (t_size + (if u1.1 < x2 then x2 else u1.1))), (6, .int x1), (7, .int ((t_size + (if u1.1 < x2 then x2 else u1.1)) - (1 : Int32)))] := lv_sub hl [4, 3, 2, 1, 0] rfl
    refine w_Row_putNumber_62 a_t a_t_cells n_t_cells t_size t_size (t_size + (if u1.1 < x2 then x2 else u1.1)) S hr hlk hA X FU x1 ((t_size + (if u1.1 < x2 then x2 else u1.1)) - (1 : Int32)) t_cells u4 _ _ ls e5 hl hP hD hS (fun H locs ls hl hP hD hS => ?_)
    refine lv_aload_n hx hb d_Row_putNumber_98 rfl (lv_at hl 0 rfl) ?_
    refine lv_iload hx hb d_Row_putNumber_99 (lv_at hl 2 rfl) ?_
    refine k_put S X us_Row t_Row t_Row_ok n_Row hP hD hS 0 rfl rfl 1 (by decide) gm_1_35 rfl rfl rfl (Nat.le_of_ble_eq_true rfl) d_Row_putNumber_101 (fun H locs hP hD hS => ?_)
    have hP : va_P D classes [(a_t, .inr (1, [.ref a_t_cells, .int (t_size + (if u1.1 < x2 then x2 else u1.1))])), (a_t_cells, .inl (kk 1, n_t_cells, .inl u4.2.2))] H := hP
    have hD : va_D A [(a_t, .inr (1, [.ref a_t_cells, .int (t_size + (if u1.1 < x2 then x2 else u1.1))])), (a_t_cells, .inl (kk 1, n_t_cells, .inl u4.2.2))] := hD
    cases he
    exact k_vre hx hb hr hlk X hP hD hS d_Row_putNumber_104
  · have he := ih_f hc he
    cases he
    exact k_vre hx hb hr hlk X hP hD hS d_Row_putNumber_52
abbrev rm_Row_codeAt : Room := { frames := 0, cells := 0, slots := 0, locals := 0 }
set_option maxHeartbeats 4000000 in
set_option maxRecDepth 100000 in
theorem c_Row_codeAt (l : Launch) (D : va_G) (kk : Nat → ClassId) (st : Nat → Nat) (a_t a_t_cells : Nat) (sz : Nat) (n_t_cells : Nat) (t_size : Int32) (t_cells : Nat → Int32) (x1 : Int32) (o : Int32) (he : f_Row_codeAt n_t_cells t_size t_cells x1 = some o) : Met l y_Row_codeAt (Cond.code y_Row_codeAt b_Row_codeAt 2 (some .int) :: GW) rm_Row_codeAt (KPc D kk st [.ref a_t, .int x1] [(a_t, .inr (1, [.ref a_t_cells, .int t_size])), (a_t_cells, .inl (kk 1, n_t_cells, .inl t_cells))] sz) (KQi D kk o [(a_t, .inr (1, [.ref a_t_cells, .int t_size])), (a_t_cells, .inl (kk 1, n_t_cells, .inl t_cells))] (va_A [(a_t, .inr (1, [.ref a_t_cells, .int t_size])), (a_t_cells, .inl (kk 1, n_t_cells, .inl t_cells))] sz)) 0 0 (va_A [(a_t, .inr (1, [.ref a_t_cells, .int t_size])), (a_t_cells, .inl (kk 1, n_t_cells, .inl t_cells))] sz) := by
  refine k_start (Qc := fun A => KQi D kk o [(a_t, .inr (1, [.ref a_t_cells, .int t_size])), (a_t_cells, .inl (kk 1, n_t_cells, .inl t_cells))] A) (by decide) (Nat.le_of_ble_eq_true rfl) ?_
  intro p e s m below meth c A ls S hnm hr hlk hA X hP hD hS hl
  have hl : lv_has ls 2 [(0, .ref a_t), (1, .int x1)] := hl
  have hx := S.1
  have hb := S.2.1
  unfold f_Row_codeAt at he
  refine lv_iload_n hx hb d_Row_codeAt_0 rfl (lv_at hl 1 rfl) ?_
  refine lv_if_lt (tgt := 21) hx hb d_Row_codeAt_1 rfl (fun hc => ?_) (fun hc => ?_)
  · have he := ih_t hc he
    refine lv_iconst (v := (-1 : Int32)) hx hb d_Row_codeAt_21 (by decide) ?_
    cases he
    exact k_ire hx hb hr hlk X hP hD hS d_Row_codeAt_22
  · have he := ih_f hc he
    refine lv_iload_n hx hb d_Row_codeAt_4 rfl (lv_at hl 1 rfl) ?_
    refine lv_aload_n hx hb d_Row_codeAt_5 rfl (lv_at hl 0 rfl) ?_
    refine k_get S X us_Row hP 0 rfl rfl 1 (by decide) gm_1_35 rfl d_Row_codeAt_6 ?_
    refine lv_icmp_ge (tgt := 21) hx hb d_Row_codeAt_9 rfl (fun hc => ?_) (fun hc => ?_)
    · have he := ih_t hc he
      refine lv_iconst (v := (-1 : Int32)) hx hb d_Row_codeAt_21 (by decide) ?_
      cases he
      exact k_ire hx hb hr hlk X hP hD hS d_Row_codeAt_22
    · have he := ih_f hc he
      refine lv_aload_n hx hb d_Row_codeAt_12 rfl (lv_at hl 0 rfl) ?_
      refine k_get S X us_Row hP 0 rfl rfl 0 (by decide) gm_1_34 rfl d_Row_codeAt_13 ?_
      refine lv_iload_n hx hb d_Row_codeAt_16 rfl (lv_at hl 1 rfl) ?_
      obtain ⟨hi1, he⟩ := ih_g he
      refine va_cald hx hb X.1 hP 1 1 rfl rfl hi1 d_Row_codeAt_17 ?_
      refine lv_goto (tgt := 22) hx hb d_Row_codeAt_18 rfl ?_
      cases he
      exact k_ire hx hb hr hlk X hP hD hS d_Row_codeAt_22
abbrev rm_Row_become : Room := { frames := 1, cells := 0, slots := 0, locals := 21 }
set_option maxHeartbeats 4000000 in
set_option maxRecDepth 100000 in
theorem w_Row_become_7 {p : Program} {l : Launch} {e : Env} {s : State} {m : MethodId} {args : Array Value} {below : List Frame} {meth : Method} {c : Code} {Q : State → Prop} {A : Nat → Prop} {D : va_G} {kk : Nat → ClassId} {st : Nat → Nat} (a_t a_t_cells a_q1 a_q1_cells : Nat) (n_t_cells : Nat) (n_q1_cells : Nat) (q1_size : Int32) (q1_cells : Nat → Int32) (S : CallFix p m c b_Row_become 3 s args GW y_Row_become.cls) (hr : meth.sig.returnType = none) (hlk : meth.locks = false) (hA : ∀ q, s.heap.size ≤ q → A q) (X : KX D kk st A s) : ∀ (n : Nat) (x2 : Int32) (t_size : Int32) (t_cells : Nat → Int32) (v : Int32 × Int32 × (Nat → Int32)) (H : Heap) (locs : List Loc) (ls : Array Slot), lp_Row_become_7 n_t_cells n_q1_cells q1_size q1_cells n x2 t_size t_cells = some v → lv_has ls 3 [(0, .ref a_t), (1, .ref a_q1), (2, .int x2)] → va_P D classes [(a_t, .inr (1, [.ref a_t_cells, .int t_size])), (a_t_cells, .inl (kk 1, n_t_cells, .inl t_cells)), (a_q1, .inr (1, [.ref a_q1_cells, .int q1_size])), (a_q1_cells, .inl (kk 1, n_q1_cells, .inl q1_cells))] H → va_D A [(a_t, .inr (1, [.ref a_t_cells, .int t_size])), (a_t_cells, .inl (kk 1, n_t_cells, .inl t_cells)), (a_q1, .inr (1, [.ref a_q1_cells, .int q1_size])), (a_q1_cells, .inl (kk 1, n_q1_cells, .inl q1_cells))] → va_S A s.heap H locs → (∀ (H : Heap) (locs : List Loc) (ls : Array Slot), lv_has ls 3 [(0, .ref a_t), (1, .ref a_q1), (2, .int v.1)] → va_P D classes [(a_t, .inr (1, [.ref a_t_cells, .int v.2.1])), (a_t_cells, .inl (kk 1, n_t_cells, .inl v.2.2)), (a_q1, .inr (1, [.ref a_q1_cells, .int q1_size])), (a_q1_cells, .inl (kk 1, n_q1_cells, .inl q1_cells))] H → va_D A [(a_t, .inr (1, [.ref a_t_cells, .int v.2.1])), (a_t_cells, .inl (kk 1, n_t_cells, .inl v.2.2)), (a_q1, .inr (1, [.ref a_q1_cells, .int q1_size])), (a_q1_cells, .inl (kk 1, n_q1_cells, .inl q1_cells))] → va_S A s.heap H locs → W p l e rm_Row_become s m args below meth c H locs 0 0 Q (F0 m 32 ls [])) → W p l e rm_Row_become s m args below meth c H locs 0 0 Q (F0 m 7 ls []) := by
  intro n
  induction n with
  | zero =>
    intro x2 t_size t_cells v H locs ls he hl hP hD hS K
    exact ih_n he
  | succ n ih =>
    intro x2 t_size t_cells v H locs ls he hl hP hD hS K
    have hx := S.1
    have hb := S.2.1
    have he : st_Row_become_7 n_t_cells n_q1_cells q1_size q1_cells (lp_Row_become_7 n_t_cells n_q1_cells q1_size q1_cells n) x2 t_size t_cells = some v := he
    unfold st_Row_become_7 at he
    refine lv_iload_n hx hb d_Row_become_7 rfl (lv_at hl 2 rfl) ?_
    refine lv_aload_n hx hb d_Row_become_8 rfl (lv_at hl 1 rfl) ?_
    refine k_get S X us_Row hP 2 rfl rfl 1 (by decide) gm_1_35 rfl d_Row_become_9 ?_
    refine lv_icmp_ge (tgt := 32) hx hb d_Row_become_12 rfl (fun hc => ?_) (fun hc => ?_)
    · have he := ih_t hc he
      have hl : lv_has ls 3 [(0, .ref a_t), (1, .ref a_q1), (2, .int x2)] := lv_sub hl [0, 1, 2] rfl
      cases he
      exact K _ _ _ hl hP hD hS
    · have he := ih_f hc he
      refine lv_aload_n hx hb d_Row_become_15 rfl (lv_at hl 0 rfl) ?_
      refine lv_aload_n hx hb d_Row_become_16 rfl (lv_at hl 1 rfl) ?_
      refine lv_iload_n hx hb d_Row_become_17 rfl (lv_at hl 2 rfl) ?_
      obtain ⟨u1, e2, he⟩ := ih_b he
      refine k_io (r_V (As := [.int x2]) S X hA hP hD hS (c_Row_codeAt l D kk st a_q1 a_q1_cells _ n_q1_cells q1_size q1_cells x2 u1 e2) gm_2_76 gm_2_187 gm_2_74 gm_2_75 gm_1_2 ⟨rfl, rfl, by decide, by decide⟩ kd_Row_codeAt [2, 3] rfl rfl rfl 2 1 rfl rfl rfl rfl hl.1 rfl (Nat.le_of_ble_eq_true rfl) d_Row_become_18 ⟨Nat.zero_le _, Nat.zero_le _⟩) hA hP hD hS [2, 3] rfl (fun H locs hP hS => ?_)
      refine lv_i2c hx hb d_Row_become_21 rfl ?_
      obtain ⟨u3, e4, he⟩ := ih_b he
      refine k_i (wr := [(a_q1, .inr (1, [.ref a_q1_cells, .int q1_size])), (a_q1_cells, .inl (kk 1, n_q1_cells, .inl q1_cells))]) (w1 := [(a_t, .inr (1, [.ref a_t_cells, .int u3.2.1])), (a_t_cells, .inl (kk 1, n_t_cells, .inl u3.2.2))]) (w2 := [(a_t, .inr (1, [.ref a_t_cells, .int u3.2.1])), (a_t_cells, .inl (kk 1, n_t_cells, .inl u3.2.2)), (a_q1, .inr (1, [.ref a_q1_cells, .int q1_size])), (a_q1_cells, .inl (kk 1, n_q1_cells, .inl q1_cells))]) (r_V (As := [.int (((Int32.toUInt32 u1) % 65536).toInt32)]) S X hA hP hD hS (c_Row_put l D kk st a_t a_t_cells _ n_t_cells t_size t_cells (((Int32.toUInt32 u1) % 65536).toInt32) u3 e4) gm_2_57 gm_3_162 gm_2_55 gm_2_56 gm_1_2 ⟨rfl, rfl, by decide, by decide⟩ kd_Row_put [0, 1] rfl rfl rfl 0 1 rfl rfl rfl rfl hl.1 rfl (Nat.le_of_ble_eq_true rfl) d_Row_become_22 ⟨Nat.zero_le _, Nat.zero_le _⟩) hA hP hD hS [0, 1] [2, 3] [2, 3, 0, 1] rfl rfl rfl (by decide) rfl rfl rfl (fun H locs hP hD hS => ?_)
      refine lv_pop hx hb d_Row_become_25 rfl ?_
      refine lv_iinc (k := 2) hx hb d_Row_become_26 hl rfl (ii_ (v := (1 : Int32)) (by decide)) (by decide) rfl (fun ls hl => ?_)
      have hl : lv_has ls 3 [(2, .int (x2 + (1 : Int32))), (0, .ref a_t), (1, .ref a_q1)] := hl
      refine lv_goto (tgt := 7) hx hb d_Row_become_29 rfl ?_
      have hl : lv_has ls 3 [(0, .ref a_t), (1, .ref a_q1), (2, .int (x2 + (1 : Int32)))] := lv_sub hl [1, 2, 0] rfl
      exact ih _ _ _ _ _ _ _ he hl hP hD hS K
set_option maxHeartbeats 4000000 in
set_option maxRecDepth 100000 in
theorem c_Row_become (l : Launch) (D : va_G) (kk : Nat → ClassId) (st : Nat → Nat) (a_t a_t_cells a_q1 a_q1_cells : Nat) (sz : Nat) (n_t_cells : Nat) (n_q1_cells : Nat) (t_size : Int32) (t_cells : Nat → Int32) (q1_size : Int32) (q1_cells : Nat → Int32) (o : Int32 × (Nat → Int32)) (he : f_Row_become n_t_cells n_q1_cells t_size t_cells q1_size q1_cells = some o) : Met l y_Row_become (Cond.code y_Row_become b_Row_become 3 none :: GW) rm_Row_become (KPc D kk st [.ref a_t, .ref a_q1] [(a_t, .inr (1, [.ref a_t_cells, .int t_size])), (a_t_cells, .inl (kk 1, n_t_cells, .inl t_cells)), (a_q1, .inr (1, [.ref a_q1_cells, .int q1_size])), (a_q1_cells, .inl (kk 1, n_q1_cells, .inl q1_cells))] sz) (KQv D kk [(a_t, .inr (1, [.ref a_t_cells, .int o.1])), (a_t_cells, .inl (kk 1, n_t_cells, .inl o.2)), (a_q1, .inr (1, [.ref a_q1_cells, .int q1_size])), (a_q1_cells, .inl (kk 1, n_q1_cells, .inl q1_cells))] (va_A [(a_t, .inr (1, [.ref a_t_cells, .int t_size])), (a_t_cells, .inl (kk 1, n_t_cells, .inl t_cells)), (a_q1, .inr (1, [.ref a_q1_cells, .int q1_size])), (a_q1_cells, .inl (kk 1, n_q1_cells, .inl q1_cells))] sz)) 0 0 (va_A [(a_t, .inr (1, [.ref a_t_cells, .int t_size])), (a_t_cells, .inl (kk 1, n_t_cells, .inl t_cells)), (a_q1, .inr (1, [.ref a_q1_cells, .int q1_size])), (a_q1_cells, .inl (kk 1, n_q1_cells, .inl q1_cells))] sz) := by
  refine k_start (Qc := fun A => KQv D kk [(a_t, .inr (1, [.ref a_t_cells, .int o.1])), (a_t_cells, .inl (kk 1, n_t_cells, .inl o.2)), (a_q1, .inr (1, [.ref a_q1_cells, .int q1_size])), (a_q1_cells, .inl (kk 1, n_q1_cells, .inl q1_cells))] A) (by decide) (Nat.le_of_ble_eq_true rfl) ?_
  intro p e s m below meth c A ls S hnm hr hlk hA X hP hD hS hl
  have hl : lv_has ls 3 [(0, .ref a_t), (1, .ref a_q1)] := hl
  have hx := S.1
  have hb := S.2.1
  unfold f_Row_become at he
  refine lv_aload_n hx hb d_Row_become_0 rfl (lv_at hl 0 rfl) ?_
  refine lv_iconst (v := (0 : Int32)) hx hb d_Row_become_1 (by decide) ?_
  refine k_put S X us_Row t_Row t_Row_ok n_Row hP hD hS 0 rfl rfl 1 (by decide) gm_1_35 rfl rfl rfl (Nat.le_of_ble_eq_true rfl) d_Row_become_2 (fun H locs hP hD hS => ?_)
  have hP : va_P D classes [(a_t, .inr (1, [.ref a_t_cells, .int (0 : Int32)])), (a_t_cells, .inl (kk 1, n_t_cells, .inl t_cells)), (a_q1, .inr (1, [.ref a_q1_cells, .int q1_size])), (a_q1_cells, .inl (kk 1, n_q1_cells, .inl q1_cells))] H := hP
  have hD : va_D A [(a_t, .inr (1, [.ref a_t_cells, .int (0 : Int32)])), (a_t_cells, .inl (kk 1, n_t_cells, .inl t_cells)), (a_q1, .inr (1, [.ref a_q1_cells, .int q1_size])), (a_q1_cells, .inl (kk 1, n_q1_cells, .inl q1_cells))] := hD
  refine lv_iconst (v := (0 : Int32)) hx hb d_Row_become_5 (by decide) ?_
  refine lv_istore_n hx hb d_Row_become_6 rfl hl (by decide) rfl (fun ls hl => ?_)
  have hl : lv_has ls 3 [(2, .int (0 : Int32)), (0, .ref a_t), (1, .ref a_q1)] := hl
  obtain ⟨u5, e6, he⟩ := ih_b he
  have hl : lv_has ls 3 [(0, .ref a_t), (1, .ref a_q1), (2, .int (0 : Int32))] := lv_sub hl [1, 2, 0] rfl
  refine w_Row_become_7 a_t a_t_cells a_q1 a_q1_cells n_t_cells n_q1_cells q1_size q1_cells S hr hlk hA X FU (0 : Int32) (0 : Int32) t_cells u5 _ _ ls e6 hl hP hD hS (fun H locs ls hl hP hD hS => ?_)
  cases he
  exact k_vre hx hb hr hlk X hP hD hS d_Row_become_32
abbrev rm_Row_shorten : Room := { frames := 1, cells := 0, slots := 0, locals := 21 }
set_option maxHeartbeats 4000000 in
set_option maxRecDepth 100000 in
theorem c_Row_shorten (l : Launch) (D : va_G) (kk : Nat → ClassId) (st : Nat → Nat) (a_t a_t_cells : Nat) (sz : Nat) (t_size : Int32) (x1 : Int32) (o : Int32) (he : f_Row_shorten t_size x1 = some o) : Met l y_Row_shorten (Cond.code y_Row_shorten b_Row_shorten 2 none :: GW) rm_Row_shorten (KPc D kk st [.ref a_t, .int x1] [(a_t, .inr (1, [.ref a_t_cells, .int t_size]))] sz) (KQv D kk [(a_t, .inr (1, [.ref a_t_cells, .int o]))] (va_A [(a_t, .inr (1, [.ref a_t_cells, .int t_size]))] sz)) 0 0 (va_A [(a_t, .inr (1, [.ref a_t_cells, .int t_size]))] sz) := by
  refine k_start (Qc := fun A => KQv D kk [(a_t, .inr (1, [.ref a_t_cells, .int o]))] A) (by decide) (Nat.le_of_ble_eq_true rfl) ?_
  intro p e s m below meth c A ls S hnm hr hlk hA X hP hD hS hl
  have hl : lv_has ls 2 [(0, .ref a_t), (1, .int x1)] := hl
  have hx := S.1
  have hb := S.2.1
  unfold f_Row_shorten at he
  refine lv_aload_n hx hb d_Row_shorten_0 rfl (lv_at hl 0 rfl) ?_
  refine lv_iconst (v := (0 : Int32)) hx hb d_Row_shorten_1 (by decide) ?_
  refine lv_aload_n hx hb d_Row_shorten_2 rfl (lv_at hl 0 rfl) ?_
  refine k_get S X us_Row hP 0 rfl rfl 1 (by decide) gm_1_35 rfl d_Row_shorten_3 ?_
  refine lv_iload_n hx hb d_Row_shorten_6 rfl (lv_at hl 1 rfl) ?_
  refine va_mmin hx hb (by rw [S.2.2.1]; exact hl.1.symm) S.2.2.2.1 (S.2.2.2.2 _ gm_2_209) (S.2.2.2.2 _ gm_2_129) (S.2.2.2.2 _ gm_1_11) (S.2.2.2.2 _ gm_2_130) (by decide) (Nat.le_of_ble_eq_true rfl) (Nat.zero_le _) (Nat.zero_le _) d_Row_shorten_7 ?_
  refine va_mmax hx hb (by rw [S.2.2.1]; exact hl.1.symm) S.2.2.2.1 (S.2.2.2.2 _ gm_2_210) (S.2.2.2.2 _ gm_2_126) (S.2.2.2.2 _ gm_1_11) (S.2.2.2.2 _ gm_2_127) (by decide) (Nat.le_of_ble_eq_true rfl) (Nat.zero_le _) (Nat.zero_le _) d_Row_shorten_10 ?_
  refine k_put S X us_Row t_Row t_Row_ok n_Row hP hD hS 0 rfl rfl 1 (by decide) gm_1_35 rfl rfl rfl (Nat.le_of_ble_eq_true rfl) d_Row_shorten_13 (fun H locs hP hD hS => ?_)
  have hP : va_P D classes [(a_t, .inr (1, [.ref a_t_cells, .int (if (0 : Int32) < (if x1 < t_size then x1 else t_size) then (if x1 < t_size then x1 else t_size) else (0 : Int32))]))] H := hP
  have hD : va_D A [(a_t, .inr (1, [.ref a_t_cells, .int (if (0 : Int32) < (if x1 < t_size then x1 else t_size) then (if x1 < t_size then x1 else t_size) else (0 : Int32))]))] := hD
  cases he
  exact k_vre hx hb hr hlk X hP hD hS d_Row_shorten_16
abbrev rm_Row_runLength : Room := { frames := 1, cells := 0, slots := 0, locals := 21 }
set_option maxHeartbeats 4000000 in
set_option maxRecDepth 100000 in
theorem w_Row_runLength_2 {p : Program} {l : Launch} {e : Env} {s : State} {m : MethodId} {args : Array Value} {below : List Frame} {meth : Method} {c : Code} {Q : State → Prop} {A : Nat → Prop} {D : va_G} {kk : Nat → ClassId} {st : Nat → Nat} (a_t a_t_cells : Nat) (n_t_cells : Nat) (t_size : Int32) (t_cells : Nat → Int32) (x1 : Int32) (S : CallFix p m c b_Row_runLength 3 s args GW y_Row_runLength.cls) (hr : meth.sig.returnType = (some .int)) (hlk : meth.locks = false) (hA : ∀ q, s.heap.size ≤ q → A q) (X : KX D kk st A s) : ∀ (n : Nat) (x2 : Int32) (v : Int32) (H : Heap) (locs : List Loc) (ls : Array Slot), lp_Row_runLength_2 n_t_cells t_size t_cells x1 n x2 = some v → lv_has ls 3 [(0, .ref a_t), (1, .int x1), (2, .int x2)] → va_P D classes [(a_t, .inr (1, [.ref a_t_cells, .int t_size])), (a_t_cells, .inl (kk 1, n_t_cells, .inl t_cells))] H → va_D A [(a_t, .inr (1, [.ref a_t_cells, .int t_size])), (a_t_cells, .inl (kk 1, n_t_cells, .inl t_cells))] → va_S A s.heap H locs → (∀ (H : Heap) (locs : List Loc) (ls : Array Slot), lv_has ls 3 [(0, .ref a_t), (1, .int x1), (2, .int v)] → va_P D classes [(a_t, .inr (1, [.ref a_t_cells, .int t_size])), (a_t_cells, .inl (kk 1, n_t_cells, .inl t_cells))] H → va_D A [(a_t, .inr (1, [.ref a_t_cells, .int t_size])), (a_t_cells, .inl (kk 1, n_t_cells, .inl t_cells))] → va_S A s.heap H locs → W p l e rm_Row_runLength s m args below meth c H locs 0 0 Q (F0 m 29 ls [])) → W p l e rm_Row_runLength s m args below meth c H locs 0 0 Q (F0 m 2 ls []) := by
  intro n
  induction n with
  | zero =>
    intro x2 v H locs ls he hl hP hD hS K
    exact ih_n he
  | succ n ih =>
    intro x2 v H locs ls he hl hP hD hS K
    have hx := S.1
    have hb := S.2.1
    have he : st_Row_runLength_2 n_t_cells t_size t_cells x1 (lp_Row_runLength_2 n_t_cells t_size t_cells x1 n) x2 = some v := he
    unfold st_Row_runLength_2 at he
    refine lv_iload_n hx hb d_Row_runLength_2 rfl (lv_at hl 2 rfl) ?_
    refine lv_aload_n hx hb d_Row_runLength_3 rfl (lv_at hl 0 rfl) ?_
    refine k_get S X us_Row hP 0 rfl rfl 1 (by decide) gm_1_35 rfl d_Row_runLength_4 ?_
    refine lv_icmp_ge (tgt := 29) hx hb d_Row_runLength_7 rfl (fun hc => ?_) (fun hc => ?_)
    · have he := ih_t hc he
      have hl : lv_has ls 3 [(0, .ref a_t), (1, .int x1), (2, .int x2)] := lv_sub hl [0, 1, 2] rfl
      cases he
      exact K _ _ _ hl hP hD hS
    · have he := ih_f hc he
      refine lv_aload_n hx hb d_Row_runLength_10 rfl (lv_at hl 0 rfl) ?_
      refine lv_iload_n hx hb d_Row_runLength_11 rfl (lv_at hl 2 rfl) ?_
      obtain ⟨u1, e2, he⟩ := ih_b he
      refine k_io (r_V (As := [.int x2]) S X hA hP hD hS (c_Row_codeAt l D kk st a_t a_t_cells _ n_t_cells t_size t_cells x2 u1 e2) gm_2_76 gm_2_187 gm_2_74 gm_2_75 gm_1_2 ⟨rfl, rfl, by decide, by decide⟩ kd_Row_codeAt [0, 1] rfl rfl rfl 0 1 rfl rfl rfl rfl hl.1 rfl (Nat.le_of_ble_eq_true rfl) d_Row_runLength_12 ⟨Nat.zero_le _, Nat.zero_le _⟩) hA hP hD hS [0, 1] rfl (fun H locs hP hS => ?_)
      refine lv_aload_n hx hb d_Row_runLength_15 rfl (lv_at hl 0 rfl) ?_
      refine lv_iload_n hx hb d_Row_runLength_16 rfl (lv_at hl 1 rfl) ?_
      obtain ⟨u3, e4, he⟩ := ih_b he
      refine k_io (r_V (As := [.int x1]) S X hA hP hD hS (c_Row_codeAt l D kk st a_t a_t_cells _ n_t_cells t_size t_cells x1 u3 e4) gm_2_76 gm_2_187 gm_2_74 gm_2_75 gm_1_2 ⟨rfl, rfl, by decide, by decide⟩ kd_Row_codeAt [0, 1] rfl rfl rfl 0 1 rfl rfl rfl rfl hl.1 rfl (Nat.le_of_ble_eq_true rfl) d_Row_runLength_17 ⟨Nat.zero_le _, Nat.zero_le _⟩) hA hP hD hS [0, 1] rfl (fun H locs hP hS => ?_)
      refine lv_icmp_ne (tgt := 29) hx hb d_Row_runLength_20 rfl (fun hc => ?_) (fun hc => ?_)
      · have he := ih_f hc he
        have hl : lv_has ls 3 [(0, .ref a_t), (1, .int x1), (2, .int x2)] := lv_sub hl [0, 1, 2] rfl
        cases he
        exact K _ _ _ hl hP hD hS
      · have he := ih_t hc he
        refine lv_iinc (k := 2) hx hb d_Row_runLength_23 hl rfl (ii_ (v := (1 : Int32)) (by decide)) (by decide) rfl (fun ls hl => ?_)
        have hl : lv_has ls 3 [(2, .int (x2 + (1 : Int32))), (0, .ref a_t), (1, .int x1)] := hl
        refine lv_goto (tgt := 2) hx hb d_Row_runLength_26 rfl ?_
        have hl : lv_has ls 3 [(0, .ref a_t), (1, .int x1), (2, .int (x2 + (1 : Int32)))] := lv_sub hl [1, 2, 0] rfl
        exact ih _ _ _ _ _ he hl hP hD hS K
set_option maxHeartbeats 4000000 in
set_option maxRecDepth 100000 in
theorem c_Row_runLength (l : Launch) (D : va_G) (kk : Nat → ClassId) (st : Nat → Nat) (a_t a_t_cells : Nat) (sz : Nat) (n_t_cells : Nat) (t_size : Int32) (t_cells : Nat → Int32) (x1 : Int32) (o : Int32) (he : f_Row_runLength n_t_cells t_size t_cells x1 = some o) : Met l y_Row_runLength (Cond.code y_Row_runLength b_Row_runLength 3 (some .int) :: GW) rm_Row_runLength (KPc D kk st [.ref a_t, .int x1] [(a_t, .inr (1, [.ref a_t_cells, .int t_size])), (a_t_cells, .inl (kk 1, n_t_cells, .inl t_cells))] sz) (KQi D kk o [(a_t, .inr (1, [.ref a_t_cells, .int t_size])), (a_t_cells, .inl (kk 1, n_t_cells, .inl t_cells))] (va_A [(a_t, .inr (1, [.ref a_t_cells, .int t_size])), (a_t_cells, .inl (kk 1, n_t_cells, .inl t_cells))] sz)) 0 0 (va_A [(a_t, .inr (1, [.ref a_t_cells, .int t_size])), (a_t_cells, .inl (kk 1, n_t_cells, .inl t_cells))] sz) := by
  refine k_start (Qc := fun A => KQi D kk o [(a_t, .inr (1, [.ref a_t_cells, .int t_size])), (a_t_cells, .inl (kk 1, n_t_cells, .inl t_cells))] A) (by decide) (Nat.le_of_ble_eq_true rfl) ?_
  intro p e s m below meth c A ls S hnm hr hlk hA X hP hD hS hl
  have hl : lv_has ls 3 [(0, .ref a_t), (1, .int x1)] := hl
  have hx := S.1
  have hb := S.2.1
  unfold f_Row_runLength at he
  refine lv_iload_n hx hb d_Row_runLength_0 rfl (lv_at hl 1 rfl) ?_
  refine lv_istore_n hx hb d_Row_runLength_1 rfl hl (by decide) rfl (fun ls hl => ?_)
  have hl : lv_has ls 3 [(2, .int x1), (0, .ref a_t), (1, .int x1)] := hl
  obtain ⟨u5, e6, he⟩ := ih_b he
  have hl : lv_has ls 3 [(0, .ref a_t), (1, .int x1), (2, .int x1)] := lv_sub hl [1, 2, 0] rfl
  refine w_Row_runLength_2 a_t a_t_cells n_t_cells t_size t_cells x1 S hr hlk hA X FU x1 u5 _ _ ls e6 hl hP hD hS (fun H locs ls hl hP hD hS => ?_)
  refine lv_iload_n hx hb d_Row_runLength_29 rfl (lv_at hl 2 rfl) ?_
  refine lv_iload_n hx hb d_Row_runLength_30 rfl (lv_at hl 1 rfl) ?_
  refine lv_isub hx hb d_Row_runLength_31 ?_
  cases he
  exact k_ire hx hb hr hlk X hP hD hS d_Row_runLength_32
abbrev rm_Row_digits : Room := { frames := 1, cells := 0, slots := 0, locals := 21 }
set_option maxHeartbeats 4000000 in
set_option maxRecDepth 100000 in
theorem w_Row_digits_2 {p : Program} {l : Launch} {e : Env} {s : State} {m : MethodId} {args : Array Value} {below : List Frame} {meth : Method} {c : Code} {Q : State → Prop} {A : Nat → Prop} {D : va_G} {kk : Nat → ClassId} {st : Nat → Nat} (a_t a_t_cells : Nat) (n_t_cells : Nat) (t_size : Int32) (t_cells : Nat → Int32) (x1 : Int32) (x2 : Int32) (S : CallFix p m c b_Row_digits 4 s args GW y_Row_digits.cls) (hr : meth.sig.returnType = (some .int)) (hlk : meth.locks = false) (hA : ∀ q, s.heap.size ≤ q → A q) (X : KX D kk st A s) : ∀ (n : Nat) (x3 : Int32) (v : Int32) (H : Heap) (locs : List Loc) (ls : Array Slot), lp_Row_digits_2 n_t_cells t_size t_cells x1 x2 n x3 = some v → lv_has ls 4 [(0, .ref a_t), (1, .int x1), (2, .int x2), (3, .int x3)] → va_P D classes [(a_t, .inr (1, [.ref a_t_cells, .int t_size])), (a_t_cells, .inl (kk 1, n_t_cells, .inl t_cells))] H → va_D A [(a_t, .inr (1, [.ref a_t_cells, .int t_size])), (a_t_cells, .inl (kk 1, n_t_cells, .inl t_cells))] → va_S A s.heap H locs → (∀ (H : Heap) (locs : List Loc) (ls : Array Slot), lv_has ls 4 [(0, .ref a_t), (1, .int x1), (2, .int x2), (3, .int v)] → va_P D classes [(a_t, .inr (1, [.ref a_t_cells, .int t_size])), (a_t_cells, .inl (kk 1, n_t_cells, .inl t_cells))] H → va_D A [(a_t, .inr (1, [.ref a_t_cells, .int t_size])), (a_t_cells, .inl (kk 1, n_t_cells, .inl t_cells))] → va_S A s.heap H locs → W p l e rm_Row_digits s m args below meth c H locs 0 0 Q (F0 m 37 ls [])) → W p l e rm_Row_digits s m args below meth c H locs 0 0 Q (F0 m 2 ls []) := by
  intro n
  induction n with
  | zero =>
    intro x3 v H locs ls he hl hP hD hS K
    exact ih_n he
  | succ n ih =>
    intro x3 v H locs ls he hl hP hD hS K
    have hx := S.1
    have hb := S.2.1
    have he : st_Row_digits_2 n_t_cells t_size t_cells x1 x2 (lp_Row_digits_2 n_t_cells t_size t_cells x1 x2 n) x3 = some v := he
    unfold st_Row_digits_2 at he
    refine lv_iload_n hx hb d_Row_digits_2 rfl (lv_at hl 3 rfl) ?_
    refine lv_iload_n hx hb d_Row_digits_3 rfl (lv_at hl 2 rfl) ?_
    refine lv_icmp_ge (tgt := 37) hx hb d_Row_digits_4 rfl (fun hc => ?_) (fun hc => ?_)
    · have he := ih_t hc he
      have hl : lv_has ls 4 [(0, .ref a_t), (1, .int x1), (2, .int x2), (3, .int x3)] := lv_sub hl [0, 1, 2, 3] rfl
      cases he
      exact K _ _ _ hl hP hD hS
    · have he := ih_f hc he
      refine lv_aload_n hx hb d_Row_digits_7 rfl (lv_at hl 0 rfl) ?_
      refine lv_iload_n hx hb d_Row_digits_8 rfl (lv_at hl 1 rfl) ?_
      refine lv_iload_n hx hb d_Row_digits_9 rfl (lv_at hl 3 rfl) ?_
      refine lv_iadd hx hb d_Row_digits_10 ?_
      obtain ⟨u1, e2, he⟩ := ih_b he
      refine k_io (r_V (As := [.int (x1 + x3)]) S X hA hP hD hS (c_Row_codeAt l D kk st a_t a_t_cells _ n_t_cells t_size t_cells (x1 + x3) u1 e2) gm_2_76 gm_2_187 gm_2_74 gm_2_75 gm_1_2 ⟨rfl, rfl, by decide, by decide⟩ kd_Row_codeAt [0, 1] rfl rfl rfl 0 1 rfl rfl rfl rfl hl.1 rfl (Nat.le_of_ble_eq_true rfl) d_Row_digits_11 ⟨Nat.zero_le _, Nat.zero_le _⟩) hA hP hD hS [0, 1] rfl (fun H locs hP hS => ?_)
      refine lv_bipush (v := (48 : Int32)) hx hb d_Row_digits_14 (by decide) ?_
      refine lv_icmp_lt (tgt := 37) hx hb d_Row_digits_16 rfl (fun hc => ?_) (fun hc => ?_)
      · have he := ih_t hc he
        have hl : lv_has ls 4 [(0, .ref a_t), (1, .int x1), (2, .int x2), (3, .int x3)] := lv_sub hl [0, 1, 2, 3] rfl
        cases he
        exact K _ _ _ hl hP hD hS
      · have he := ih_f hc he
        refine lv_aload_n hx hb d_Row_digits_19 rfl (lv_at hl 0 rfl) ?_
        refine lv_iload_n hx hb d_Row_digits_20 rfl (lv_at hl 1 rfl) ?_
        refine lv_iload_n hx hb d_Row_digits_21 rfl (lv_at hl 3 rfl) ?_
        refine lv_iadd hx hb d_Row_digits_22 ?_
        obtain ⟨u3, e4, he⟩ := ih_b he
        refine k_io (r_V (As := [.int (x1 + x3)]) S X hA hP hD hS (c_Row_codeAt l D kk st a_t a_t_cells _ n_t_cells t_size t_cells (x1 + x3) u3 e4) gm_2_76 gm_2_187 gm_2_74 gm_2_75 gm_1_2 ⟨rfl, rfl, by decide, by decide⟩ kd_Row_codeAt [0, 1] rfl rfl rfl 0 1 rfl rfl rfl rfl hl.1 rfl (Nat.le_of_ble_eq_true rfl) d_Row_digits_23 ⟨Nat.zero_le _, Nat.zero_le _⟩) hA hP hD hS [0, 1] rfl (fun H locs hP hS => ?_)
        refine lv_bipush (v := (57 : Int32)) hx hb d_Row_digits_26 (by decide) ?_
        refine lv_icmp_gt (tgt := 37) hx hb d_Row_digits_28 rfl (fun hc => ?_) (fun hc => ?_)
        · have he := ih_t hc he
          have hl : lv_has ls 4 [(0, .ref a_t), (1, .int x1), (2, .int x2), (3, .int x3)] := lv_sub hl [0, 1, 2, 3] rfl
          cases he
          exact K _ _ _ hl hP hD hS
        · have he := ih_f hc he
          refine lv_iinc (k := 3) hx hb d_Row_digits_31 hl rfl (ii_ (v := (1 : Int32)) (by decide)) (by decide) rfl (fun ls hl => ?_)
          have hl : lv_has ls 4 [(3, .int (x3 + (1 : Int32))), (0, .ref a_t), (1, .int x1), (2, .int x2)] := hl
          refine lv_goto (tgt := 2) hx hb d_Row_digits_34 rfl ?_
          have hl : lv_has ls 4 [(0, .ref a_t), (1, .int x1), (2, .int x2), (3, .int (x3 + (1 : Int32)))] := lv_sub hl [1, 2, 3, 0] rfl
          exact ih _ _ _ _ _ he hl hP hD hS K
set_option maxHeartbeats 4000000 in
set_option maxRecDepth 100000 in
theorem c_Row_digits (l : Launch) (D : va_G) (kk : Nat → ClassId) (st : Nat → Nat) (a_t a_t_cells : Nat) (sz : Nat) (n_t_cells : Nat) (t_size : Int32) (t_cells : Nat → Int32) (x1 : Int32) (x2 : Int32) (o : Int32) (he : f_Row_digits n_t_cells t_size t_cells x1 x2 = some o) : Met l y_Row_digits (Cond.code y_Row_digits b_Row_digits 4 (some .int) :: GW) rm_Row_digits (KPc D kk st [.ref a_t, .int x1, .int x2] [(a_t, .inr (1, [.ref a_t_cells, .int t_size])), (a_t_cells, .inl (kk 1, n_t_cells, .inl t_cells))] sz) (KQi D kk o [(a_t, .inr (1, [.ref a_t_cells, .int t_size])), (a_t_cells, .inl (kk 1, n_t_cells, .inl t_cells))] (va_A [(a_t, .inr (1, [.ref a_t_cells, .int t_size])), (a_t_cells, .inl (kk 1, n_t_cells, .inl t_cells))] sz)) 0 0 (va_A [(a_t, .inr (1, [.ref a_t_cells, .int t_size])), (a_t_cells, .inl (kk 1, n_t_cells, .inl t_cells))] sz) := by
  refine k_start (Qc := fun A => KQi D kk o [(a_t, .inr (1, [.ref a_t_cells, .int t_size])), (a_t_cells, .inl (kk 1, n_t_cells, .inl t_cells))] A) (by decide) (Nat.le_of_ble_eq_true rfl) ?_
  intro p e s m below meth c A ls S hnm hr hlk hA X hP hD hS hl
  have hl : lv_has ls 4 [(0, .ref a_t), (1, .int x1), (2, .int x2)] := hl
  have hx := S.1
  have hb := S.2.1
  unfold f_Row_digits at he
  refine lv_iconst (v := (0 : Int32)) hx hb d_Row_digits_0 (by decide) ?_
  refine lv_istore_n hx hb d_Row_digits_1 rfl hl (by decide) rfl (fun ls hl => ?_)
  have hl : lv_has ls 4 [(3, .int (0 : Int32)), (0, .ref a_t), (1, .int x1), (2, .int x2)] := hl
  obtain ⟨u5, e6, he⟩ := ih_b he
  have hl : lv_has ls 4 [(0, .ref a_t), (1, .int x1), (2, .int x2), (3, .int (0 : Int32))] := lv_sub hl [1, 2, 3, 0] rfl
  refine w_Row_digits_2 a_t a_t_cells n_t_cells t_size t_cells x1 x2 S hr hlk hA X FU (0 : Int32) u5 _ _ ls e6 hl hP hD hS (fun H locs ls hl hP hD hS => ?_)
  refine lv_iload_n hx hb d_Row_digits_37 rfl (lv_at hl 3 rfl) ?_
  cases he
  exact k_ire hx hb hr hlk X hP hD hS d_Row_digits_38
abbrev rm_Row_number : Room := { frames := 1, cells := 0, slots := 0, locals := 21 }
set_option maxHeartbeats 4000000 in
set_option maxRecDepth 100000 in
theorem w_Row_number_5 {p : Program} {l : Launch} {e : Env} {s : State} {m : MethodId} {args : Array Value} {below : List Frame} {meth : Method} {c : Code} {Q : State → Prop} {A : Nat → Prop} {D : va_G} {kk : Nat → ClassId} {st : Nat → Nat} (a_t a_t_cells : Nat) (n_t_cells : Nat) (t_size : Int32) (t_cells : Nat → Int32) (x1 : Int32) (x2 : Int32) (S : CallFix p m c b_Row_number 5 s args GW y_Row_number.cls) (hr : meth.sig.returnType = (some .int)) (hlk : meth.locks = false) (hA : ∀ q, s.heap.size ≤ q → A q) (X : KX D kk st A s) : ∀ (n : Nat) (x3 : Int32) (x4 : Int32) (v : Int32 × Int32) (H : Heap) (locs : List Loc) (ls : Array Slot), lp_Row_number_5 n_t_cells t_size t_cells x1 x2 n x3 x4 = some v → lv_has ls 5 [(0, .ref a_t), (1, .int x1), (2, .int x2), (3, .int x3), (4, .int x4)] → va_P D classes [(a_t, .inr (1, [.ref a_t_cells, .int t_size])), (a_t_cells, .inl (kk 1, n_t_cells, .inl t_cells))] H → va_D A [(a_t, .inr (1, [.ref a_t_cells, .int t_size])), (a_t_cells, .inl (kk 1, n_t_cells, .inl t_cells))] → va_S A s.heap H locs → (∀ (H : Heap) (locs : List Loc) (ls : Array Slot), lv_has ls 5 [(0, .ref a_t), (1, .int x1), (2, .int x2), (3, .int v.1), (4, .int v.2)] → va_P D classes [(a_t, .inr (1, [.ref a_t_cells, .int t_size])), (a_t_cells, .inl (kk 1, n_t_cells, .inl t_cells))] H → va_D A [(a_t, .inr (1, [.ref a_t_cells, .int t_size])), (a_t_cells, .inl (kk 1, n_t_cells, .inl t_cells))] → va_S A s.heap H locs → W p l e rm_Row_number s m args below meth c H locs 0 0 Q (F0 m 34 ls [])) → W p l e rm_Row_number s m args below meth c H locs 0 0 Q (F0 m 5 ls []) := by
  intro n
  induction n with
  | zero =>
    intro x3 x4 v H locs ls he hl hP hD hS K
    exact ih_n he
  | succ n ih =>
    intro x3 x4 v H locs ls he hl hP hD hS K
    have hx := S.1
    have hb := S.2.1
    have he : st_Row_number_5 n_t_cells t_size t_cells x1 x2 (lp_Row_number_5 n_t_cells t_size t_cells x1 x2 n) x3 x4 = some v := he
    unfold st_Row_number_5 at he
    refine lv_iload hx hb d_Row_number_5 (lv_at hl 4 rfl) ?_
    refine lv_iload_n hx hb d_Row_number_7 rfl (lv_at hl 2 rfl) ?_
    refine lv_icmp_ge (tgt := 34) hx hb d_Row_number_8 rfl (fun hc => ?_) (fun hc => ?_)
    · have he := ih_t hc he
      have hl : lv_has ls 5 [(0, .ref a_t), (1, .int x1), (2, .int x2), (3, .int x3), (4, .int x4)] := lv_sub hl [0, 1, 2, 3, 4] rfl
      cases he
      exact K _ _ _ hl hP hD hS
    · have he := ih_f hc he
      refine lv_iload_n hx hb d_Row_number_11 rfl (lv_at hl 3 rfl) ?_
      refine lv_bipush (v := (10 : Int32)) hx hb d_Row_number_12 (by decide) ?_
      refine lv_imul hx hb d_Row_number_14 ?_
      refine lv_aload_n hx hb d_Row_number_15 rfl (lv_at hl 0 rfl) ?_
      refine lv_iload_n hx hb d_Row_number_16 rfl (lv_at hl 1 rfl) ?_
      refine lv_iload hx hb d_Row_number_17 (lv_at hl 4 rfl) ?_
      refine lv_iadd hx hb d_Row_number_19 ?_
      obtain ⟨u1, e2, he⟩ := ih_b he
      refine k_io (r_V (As := [.int (x1 + x4)]) S X hA hP hD hS (c_Row_codeAt l D kk st a_t a_t_cells _ n_t_cells t_size t_cells (x1 + x4) u1 e2) gm_2_76 gm_2_187 gm_2_74 gm_2_75 gm_1_2 ⟨rfl, rfl, by decide, by decide⟩ kd_Row_codeAt [0, 1] rfl rfl rfl 0 1 rfl rfl rfl rfl hl.1 rfl (Nat.le_of_ble_eq_true rfl) d_Row_number_20 ⟨Nat.zero_le _, Nat.zero_le _⟩) hA hP hD hS [0, 1] rfl (fun H locs hP hS => ?_)
      refine lv_iadd hx hb d_Row_number_23 ?_
      refine lv_bipush (v := (48 : Int32)) hx hb d_Row_number_24 (by decide) ?_
      refine lv_isub hx hb d_Row_number_26 ?_
      refine lv_istore_n hx hb d_Row_number_27 rfl hl (by decide) rfl (fun ls hl => ?_)
      have hl : lv_has ls 5 [(3, .int (((x3 * (10 : Int32)) + u1) - (48 : Int32))), (0, .ref a_t), (1, .int x1), (2, .int x2), (4, .int x4)] := hl
      refine lv_iinc (k := 4) hx hb d_Row_number_28 hl rfl (ii_ (v := (1 : Int32)) (by decide)) (by decide) rfl (fun ls hl => ?_)
      have hl : lv_has ls 5 [(4, .int (x4 + (1 : Int32))), (3, .int (((x3 * (10 : Int32)) + u1) - (48 : Int32))), (0, .ref a_t), (1, .int x1), (2, .int x2)] := hl
      refine lv_goto (tgt := 5) hx hb d_Row_number_31 rfl ?_
      have hl : lv_has ls 5 [(0, .ref a_t), (1, .int x1), (2, .int x2), (3, .int (((x3 * (10 : Int32)) + u1) - (48 : Int32))), (4, .int (x4 + (1 : Int32)))] := lv_sub hl [2, 3, 4, 1, 0] rfl
      exact ih _ _ _ _ _ _ he hl hP hD hS K
set_option maxHeartbeats 4000000 in
set_option maxRecDepth 100000 in
theorem c_Row_number (l : Launch) (D : va_G) (kk : Nat → ClassId) (st : Nat → Nat) (a_t a_t_cells : Nat) (sz : Nat) (n_t_cells : Nat) (t_size : Int32) (t_cells : Nat → Int32) (x1 : Int32) (x2 : Int32) (o : Int32) (he : f_Row_number n_t_cells t_size t_cells x1 x2 = some o) : Met l y_Row_number (Cond.code y_Row_number b_Row_number 5 (some .int) :: GW) rm_Row_number (KPc D kk st [.ref a_t, .int x1, .int x2] [(a_t, .inr (1, [.ref a_t_cells, .int t_size])), (a_t_cells, .inl (kk 1, n_t_cells, .inl t_cells))] sz) (KQi D kk o [(a_t, .inr (1, [.ref a_t_cells, .int t_size])), (a_t_cells, .inl (kk 1, n_t_cells, .inl t_cells))] (va_A [(a_t, .inr (1, [.ref a_t_cells, .int t_size])), (a_t_cells, .inl (kk 1, n_t_cells, .inl t_cells))] sz)) 0 0 (va_A [(a_t, .inr (1, [.ref a_t_cells, .int t_size])), (a_t_cells, .inl (kk 1, n_t_cells, .inl t_cells))] sz) := by
  refine k_start (Qc := fun A => KQi D kk o [(a_t, .inr (1, [.ref a_t_cells, .int t_size])), (a_t_cells, .inl (kk 1, n_t_cells, .inl t_cells))] A) (by decide) (Nat.le_of_ble_eq_true rfl) ?_
  intro p e s m below meth c A ls S hnm hr hlk hA X hP hD hS hl
  have hl : lv_has ls 5 [(0, .ref a_t), (1, .int x1), (2, .int x2)] := hl
  have hx := S.1
  have hb := S.2.1
  unfold f_Row_number at he
  refine lv_iconst (v := (0 : Int32)) hx hb d_Row_number_0 (by decide) ?_
  refine lv_istore_n hx hb d_Row_number_1 rfl hl (by decide) rfl (fun ls hl => ?_)
  have hl : lv_has ls 5 [(3, .int (0 : Int32)), (0, .ref a_t), (1, .int x1), (2, .int x2)] := hl
  refine lv_iconst (v := (0 : Int32)) hx hb d_Row_number_2 (by decide) ?_
  refine lv_istore hx hb d_Row_number_3 hl (by decide) rfl (fun ls hl => ?_)
  have hl : lv_has ls 5 [(4, .int (0 : Int32)), (3, .int (0 : Int32)), (0, .ref a_t), (1, .int x1), (2, .int x2)] := hl
  obtain ⟨u3, e4, he⟩ := ih_b he
  have hl : lv_has ls 5 [(0, .ref a_t), (1, .int x1), (2, .int x2), (3, .int (0 : Int32)), (4, .int (0 : Int32))] := lv_sub hl [2, 3, 4, 1, 0] rfl
  refine w_Row_number_5 a_t a_t_cells n_t_cells t_size t_cells x1 x2 S hr hlk hA X FU (0 : Int32) (0 : Int32) u3 _ _ ls e4 hl hP hD hS (fun H locs ls hl hP hD hS => ?_)
  refine lv_iload_n hx hb d_Row_number_34 rfl (lv_at hl 3 rfl) ?_
  cases he
  exact k_ire hx hb hr hlk X hP hD hS d_Row_number_35
