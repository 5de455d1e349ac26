abbrev b_SkeletonClockModel_print : ByteArray := prog_14_method_36_code
def y_SkeletonClockModel_print : MethodName := ⟨"SkeletonClockModel", "print", "(I)I"⟩
theorem kd_SkeletonClockModel_print : kd_ok y_SkeletonClockModel_print 1 := by decide +kernel
abbrev b_SkeletonClockModel_charAt : ByteArray := prog_14_method_40_code
def y_SkeletonClockModel_charAt : MethodName := ⟨"SkeletonClockModel", "charAt", "(I)I"⟩
theorem kd_SkeletonClockModel_charAt : kd_ok y_SkeletonClockModel_charAt 1 := by decide +kernel
abbrev b_SkeletonClockModel_copy : ByteArray := prog_14_method_41_code
def y_SkeletonClockModel_copy : MethodName := ⟨"SkeletonClockModel", "copy", "()Z"⟩
theorem kd_SkeletonClockModel_copy : kd_ok y_SkeletonClockModel_copy 0 := by decide +kernel
abbrev b_SkeletonClockModel_small : ByteArray := prog_14_method_42_code
def y_SkeletonClockModel_small : MethodName := ⟨"SkeletonClockModel", "small", "(I)I"⟩
theorem kd_SkeletonClockModel_small : kd_ok y_SkeletonClockModel_small 1 := by decide +kernel
abbrev b_SkeletonClockModel_stands : ByteArray := prog_14_method_43_code
def y_SkeletonClockModel_stands : MethodName := ⟨"SkeletonClockModel", "stands", "(II)Z"⟩
theorem kd_SkeletonClockModel_stands : kd_ok y_SkeletonClockModel_stands 2 := by decide +kernel
abbrev b_SkeletonClockModel_digitsAt : ByteArray := prog_14_method_44_code
def y_SkeletonClockModel_digitsAt : MethodName := ⟨"SkeletonClockModel", "digitsAt", "(II)I"⟩
theorem kd_SkeletonClockModel_digitsAt : kd_ok y_SkeletonClockModel_digitsAt 2 := by decide +kernel
abbrev b_SkeletonClockModel_numberAt : ByteArray := prog_14_method_45_code
def y_SkeletonClockModel_numberAt : MethodName := ⟨"SkeletonClockModel", "numberAt", "(II)J"⟩
theorem kd_SkeletonClockModel_numberAt : kd_ok y_SkeletonClockModel_numberAt 2 := by decide +kernel
abbrev b_SkeletonClockModel_learn : ByteArray := prog_14_method_46_code
def y_SkeletonClockModel_learn : MethodName := ⟨"SkeletonClockModel", "learn", "(IJI)I"⟩
theorem kd_SkeletonClockModel_learn : kd_ok y_SkeletonClockModel_learn 3 := by decide +kernel
abbrev b_SkeletonClockModel_fixed : ByteArray := prog_14_method_47_code
def y_SkeletonClockModel_fixed : MethodName := ⟨"SkeletonClockModel", "fixed", "(I)I"⟩
theorem kd_SkeletonClockModel_fixed : kd_ok y_SkeletonClockModel_fixed 1 := by decide +kernel
theorem gm_5_125 : Cond.code ({ cls := "SkeletonClockModel", name := "lacks", desc := "(II)Z" } : MethodName) prog_14_method_35_code (5 : Nat) (Option.some FieldType.boolean) ∈ GW := gw_5 (i := 125) rfl rfl
theorem gm_5_122 : Cond.methodLink "SkeletonClockModel" (254 : Nat) ({ cls := "SkeletonClockModel", name := "lacks", desc := "(II)Z" } : MethodName) ∈ GW := gw_5 (i := 122) rfl rfl
theorem gm_5_124 : Cond.instanceMethod ({ cls := "SkeletonClockModel", name := "lacks", desc := "(II)Z" } : MethodName) ∈ GW := gw_5 (i := 124) rfl rfl
theorem gm_p3_8 : Cond.selects "SkeletonClockModel" ⟨"SkeletonClockModel", "lacks", "(II)Z"⟩ ⟨"SkeletonClockModel", "lacks", "(II)Z"⟩ ∈ GW := gs_3 (i := 8) rfl
theorem gm_5_140 : Cond.code ({ cls := "SkeletonClockModel", name := "show", desc := "(III)V" } : MethodName) prog_14_method_37_code (9 : Nat) (Option.none : Option FieldType) ∈ GW := gw_5 (i := 140) rfl rfl
theorem gm_5_137 : Cond.methodLink "SkeletonClockModel" (257 : Nat) ({ cls := "SkeletonClockModel", name := "show", desc := "(III)V" } : MethodName) ∈ GW := gw_5 (i := 137) rfl rfl
theorem gm_5_139 : Cond.instanceMethod ({ cls := "SkeletonClockModel", name := "show", desc := "(III)V" } : MethodName) ∈ GW := gw_5 (i := 139) rfl rfl
theorem gm_p3_11 : Cond.selects "SkeletonClockModel" ⟨"SkeletonClockModel", "show", "(III)V"⟩ ⟨"SkeletonClockModel", "show", "(III)V"⟩ ∈ GW := gs_3 (i := 11) rfl
theorem gm_4_181 : Cond.fieldLink "SkeletonClockModel" (280 : Nat) "SkeletonClockModel" "alike" "Z" ∈ GW := gw_4 (i := 181) rfl rfl
theorem gm_5_187 : Cond.code ({ cls := "SkeletonClockModel", name := "small", desc := "(I)I" } : MethodName) prog_14_method_42_code (1 : Nat) (Option.some FieldType.int) ∈ GW := gw_5 (i := 187) rfl rfl
theorem gm_5_185 : Cond.methodLink "SkeletonClockModel" (284 : Nat) ({ cls := "SkeletonClockModel", name := "small", desc := "(I)I" } : MethodName) ∈ GW := gw_5 (i := 185) rfl rfl
theorem gm_5_186 : Cond.static ({ cls := "SkeletonClockModel", name := "small", desc := "(I)I" } : MethodName) ∈ GW := gw_5 (i := 186) rfl rfl
theorem gm_4_176 : Cond.fieldLink "SkeletonClockModel" (56 : Nat) "SkeletonClockModel" "known" "[Z" ∈ GW := gw_4 (i := 176) rfl rfl
theorem gm_4_177 : Cond.fieldLink "SkeletonClockModel" (59 : Nat) "SkeletonClockModel" "value" "[J" ∈ GW := gw_4 (i := 177) rfl rfl
theorem d_SkeletonClockModel_print_0 : decode b_SkeletonClockModel_print 0 = .ok (.iload_n 1, 1) := by decide +kernel
theorem d_SkeletonClockModel_print_1 : decode b_SkeletonClockModel_print 1 = .ok (.ifCond .lt 17, 3) := by decide +kernel
theorem d_SkeletonClockModel_print_4 : decode b_SkeletonClockModel_print 4 = .ok (.iload_n 1, 1) := by decide +kernel
theorem d_SkeletonClockModel_print_5 : decode b_SkeletonClockModel_print 5 = .ok (.iconst 5, 1) := by decide +kernel
theorem d_SkeletonClockModel_print_6 : decode b_SkeletonClockModel_print 6 = .ok (.if_icmp .gt 12, 3) := by decide +kernel
theorem d_SkeletonClockModel_print_9 : decode b_SkeletonClockModel_print 9 = .ok (.aload_n 0, 1) := by decide +kernel
theorem d_SkeletonClockModel_print_10 : decode b_SkeletonClockModel_print 10 = .ok (.getfield 39, 3) := by decide +kernel
theorem d_SkeletonClockModel_print_13 : decode b_SkeletonClockModel_print 13 = .ok (.iload_n 1, 1) := by decide +kernel
theorem d_SkeletonClockModel_print_14 : decode b_SkeletonClockModel_print 14 = .ok (.baload, 1) := by decide +kernel
theorem d_SkeletonClockModel_print_15 : decode b_SkeletonClockModel_print 15 = .ok (.ifCond .ne 6, 3) := by decide +kernel
theorem d_SkeletonClockModel_print_18 : decode b_SkeletonClockModel_print 18 = .ok (.bipush (-2), 2) := by decide +kernel
theorem d_SkeletonClockModel_print_20 : decode b_SkeletonClockModel_print 20 = .ok (.ireturn, 1) := by decide +kernel
theorem d_SkeletonClockModel_print_21 : decode b_SkeletonClockModel_print 21 = .ok (.aload_n 0, 1) := by decide +kernel
theorem d_SkeletonClockModel_print_22 : decode b_SkeletonClockModel_print 22 = .ok (.iload_n 1, 1) := by decide +kernel
theorem d_SkeletonClockModel_print_23 : decode b_SkeletonClockModel_print 23 = .ok (.iconst (-1), 1) := by decide +kernel
theorem d_SkeletonClockModel_print_24 : decode b_SkeletonClockModel_print 24 = .ok (.invokevirtual 254, 3) := by decide +kernel
theorem d_SkeletonClockModel_print_27 : decode b_SkeletonClockModel_print 27 = .ok (.ifCond .eq 5, 3) := by decide +kernel
theorem d_SkeletonClockModel_print_30 : decode b_SkeletonClockModel_print 30 = .ok (.iconst (-1), 1) := by decide +kernel
theorem d_SkeletonClockModel_print_31 : decode b_SkeletonClockModel_print 31 = .ok (.ireturn, 1) := by decide +kernel
theorem d_SkeletonClockModel_print_32 : decode b_SkeletonClockModel_print 32 = .ok (.aload_n 0, 1) := by decide +kernel
theorem d_SkeletonClockModel_print_33 : decode b_SkeletonClockModel_print 33 = .ok (.iconst 0, 1) := by decide +kernel
theorem d_SkeletonClockModel_print_34 : decode b_SkeletonClockModel_print 34 = .ok (.putfield 237, 3) := by decide +kernel
theorem d_SkeletonClockModel_print_37 : decode b_SkeletonClockModel_print 37 = .ok (.bipush 20, 2) := by decide +kernel
theorem d_SkeletonClockModel_print_39 : decode b_SkeletonClockModel_print 39 = .ok (.iload_n 1, 1) := by decide +kernel
theorem d_SkeletonClockModel_print_40 : decode b_SkeletonClockModel_print 40 = .ok (.imul, 1) := by decide +kernel
theorem d_SkeletonClockModel_print_41 : decode b_SkeletonClockModel_print 41 = .ok (.istore_n 2, 1) := by decide +kernel
theorem d_SkeletonClockModel_print_42 : decode b_SkeletonClockModel_print 42 = .ok (.iload_n 2, 1) := by decide +kernel
theorem d_SkeletonClockModel_print_43 : decode b_SkeletonClockModel_print 43 = .ok (.bipush 20, 2) := by decide +kernel
theorem d_SkeletonClockModel_print_45 : decode b_SkeletonClockModel_print 45 = .ok (.iload_n 1, 1) := by decide +kernel
theorem d_SkeletonClockModel_print_46 : decode b_SkeletonClockModel_print 46 = .ok (.imul, 1) := by decide +kernel
theorem d_SkeletonClockModel_print_47 : decode b_SkeletonClockModel_print 47 = .ok (.aload_n 0, 1) := by decide +kernel
theorem d_SkeletonClockModel_print_48 : decode b_SkeletonClockModel_print 48 = .ok (.getfield 36, 3) := by decide +kernel
theorem d_SkeletonClockModel_print_51 : decode b_SkeletonClockModel_print 51 = .ok (.iload_n 1, 1) := by decide +kernel
theorem d_SkeletonClockModel_print_52 : decode b_SkeletonClockModel_print 52 = .ok (.iaload, 1) := by decide +kernel
theorem d_SkeletonClockModel_print_53 : decode b_SkeletonClockModel_print 53 = .ok (.iadd, 1) := by decide +kernel
theorem d_SkeletonClockModel_print_54 : decode b_SkeletonClockModel_print 54 = .ok (.if_icmp .ge 123, 3) := by decide +kernel
theorem d_SkeletonClockModel_print_57 : decode b_SkeletonClockModel_print 57 = .ok (.iconst 1, 1) := by decide +kernel
theorem d_SkeletonClockModel_print_58 : decode b_SkeletonClockModel_print 58 = .ok (.istore_n 3, 1) := by decide +kernel
theorem d_SkeletonClockModel_print_59 : decode b_SkeletonClockModel_print 59 = .ok (.aload_n 0, 1) := by decide +kernel
theorem d_SkeletonClockModel_print_60 : decode b_SkeletonClockModel_print 60 = .ok (.getfield 30, 3) := by decide +kernel
theorem d_SkeletonClockModel_print_63 : decode b_SkeletonClockModel_print 63 = .ok (.iload_n 2, 1) := by decide +kernel
theorem d_SkeletonClockModel_print_64 : decode b_SkeletonClockModel_print 64 = .ok (.iaload, 1) := by decide +kernel
theorem d_SkeletonClockModel_print_65 : decode b_SkeletonClockModel_print 65 = .ok (.istore 4, 2) := by decide +kernel
theorem d_SkeletonClockModel_print_67 : decode b_SkeletonClockModel_print 67 = .ok (.iload 4, 2) := by decide +kernel
theorem d_SkeletonClockModel_print_69 : decode b_SkeletonClockModel_print 69 = .ok (.ifCond .lt 40, 3) := by decide +kernel
theorem d_SkeletonClockModel_print_72 : decode b_SkeletonClockModel_print 72 = .ok (.iload_n 3, 1) := by decide +kernel
theorem d_SkeletonClockModel_print_73 : decode b_SkeletonClockModel_print 73 = .ok (.ifCond .eq 17, 3) := by decide +kernel
theorem d_SkeletonClockModel_print_76 : decode b_SkeletonClockModel_print 76 = .ok (.aload_n 0, 1) := by decide +kernel
theorem d_SkeletonClockModel_print_77 : decode b_SkeletonClockModel_print 77 = .ok (.iload_n 1, 1) := by decide +kernel
theorem d_SkeletonClockModel_print_78 : decode b_SkeletonClockModel_print 78 = .ok (.iload 4, 2) := by decide +kernel
theorem d_SkeletonClockModel_print_80 : decode b_SkeletonClockModel_print 80 = .ok (.invokevirtual 254, 3) := by decide +kernel
theorem d_SkeletonClockModel_print_83 : decode b_SkeletonClockModel_print 83 = .ok (.ifCond .ne 7, 3) := by decide +kernel
theorem d_SkeletonClockModel_print_86 : decode b_SkeletonClockModel_print 86 = .ok (.iconst 1, 1) := by decide +kernel
theorem d_SkeletonClockModel_print_87 : decode b_SkeletonClockModel_print 87 = .ok (.goto 4, 3) := by decide +kernel
theorem d_SkeletonClockModel_print_90 : decode b_SkeletonClockModel_print 90 = .ok (.iconst 0, 1) := by decide +kernel
theorem d_SkeletonClockModel_print_91 : decode b_SkeletonClockModel_print 91 = .ok (.istore_n 3, 1) := by decide +kernel
theorem d_SkeletonClockModel_print_92 : decode b_SkeletonClockModel_print 92 = .ok (.aload_n 0, 1) := by decide +kernel
theorem d_SkeletonClockModel_print_93 : decode b_SkeletonClockModel_print 93 = .ok (.getfield 30, 3) := by decide +kernel
theorem d_SkeletonClockModel_print_96 : decode b_SkeletonClockModel_print 96 = .ok (.bipush 20, 2) := by decide +kernel
theorem d_SkeletonClockModel_print_98 : decode b_SkeletonClockModel_print 98 = .ok (.iload_n 1, 1) := by decide +kernel
theorem d_SkeletonClockModel_print_99 : decode b_SkeletonClockModel_print 99 = .ok (.imul, 1) := by decide +kernel
theorem d_SkeletonClockModel_print_100 : decode b_SkeletonClockModel_print 100 = .ok (.iload 4, 2) := by decide +kernel
theorem d_SkeletonClockModel_print_102 : decode b_SkeletonClockModel_print 102 = .ok (.iadd, 1) := by decide +kernel
theorem d_SkeletonClockModel_print_103 : decode b_SkeletonClockModel_print 103 = .ok (.iaload, 1) := by decide +kernel
theorem d_SkeletonClockModel_print_104 : decode b_SkeletonClockModel_print 104 = .ok (.istore 4, 2) := by decide +kernel
theorem d_SkeletonClockModel_print_106 : decode b_SkeletonClockModel_print 106 = .ok (.goto (-39), 3) := by decide +kernel
theorem d_SkeletonClockModel_print_109 : decode b_SkeletonClockModel_print 109 = .ok (.iload_n 3, 1) := by decide +kernel
theorem d_SkeletonClockModel_print_110 : decode b_SkeletonClockModel_print 110 = .ok (.ifCond .eq 22, 3) := by decide +kernel
theorem d_SkeletonClockModel_print_113 : decode b_SkeletonClockModel_print 113 = .ok (.aload_n 0, 1) := by decide +kernel
theorem d_SkeletonClockModel_print_114 : decode b_SkeletonClockModel_print 114 = .ok (.getfield 20, 3) := by decide +kernel
theorem d_SkeletonClockModel_print_117 : decode b_SkeletonClockModel_print 117 = .ok (.iload_n 2, 1) := by decide +kernel
theorem d_SkeletonClockModel_print_118 : decode b_SkeletonClockModel_print 118 = .ok (.iaload, 1) := by decide +kernel
theorem d_SkeletonClockModel_print_119 : decode b_SkeletonClockModel_print 119 = .ok (.ifCond .ne 13, 3) := by decide +kernel
theorem d_SkeletonClockModel_print_122 : decode b_SkeletonClockModel_print 122 = .ok (.aload_n 0, 1) := by decide +kernel
theorem d_SkeletonClockModel_print_123 : decode b_SkeletonClockModel_print 123 = .ok (.aload_n 0, 1) := by decide +kernel
theorem d_SkeletonClockModel_print_124 : decode b_SkeletonClockModel_print 124 = .ok (.getfield 24, 3) := by decide +kernel
theorem d_SkeletonClockModel_print_127 : decode b_SkeletonClockModel_print 127 = .ok (.iload_n 2, 1) := by decide +kernel
theorem d_SkeletonClockModel_print_128 : decode b_SkeletonClockModel_print 128 = .ok (.iaload, 1) := by decide +kernel
theorem d_SkeletonClockModel_print_129 : decode b_SkeletonClockModel_print 129 = .ok (.invokevirtual 244, 3) := by decide +kernel
theorem d_SkeletonClockModel_print_132 : decode b_SkeletonClockModel_print 132 = .ok (.iload_n 3, 1) := by decide +kernel
theorem d_SkeletonClockModel_print_133 : decode b_SkeletonClockModel_print 133 = .ok (.ifCond .eq 38, 3) := by decide +kernel
theorem d_SkeletonClockModel_print_136 : decode b_SkeletonClockModel_print 136 = .ok (.aload_n 0, 1) := by decide +kernel
theorem d_SkeletonClockModel_print_137 : decode b_SkeletonClockModel_print 137 = .ok (.getfield 20, 3) := by decide +kernel
theorem d_SkeletonClockModel_print_140 : decode b_SkeletonClockModel_print 140 = .ok (.iload_n 2, 1) := by decide +kernel
theorem d_SkeletonClockModel_print_141 : decode b_SkeletonClockModel_print 141 = .ok (.iaload, 1) := by decide +kernel
theorem d_SkeletonClockModel_print_142 : decode b_SkeletonClockModel_print 142 = .ok (.iconst 1, 1) := by decide +kernel
theorem d_SkeletonClockModel_print_143 : decode b_SkeletonClockModel_print 143 = .ok (.if_icmp .ne 28, 3) := by decide +kernel
theorem d_SkeletonClockModel_print_146 : decode b_SkeletonClockModel_print 146 = .ok (.aload_n 0, 1) := by decide +kernel
theorem d_SkeletonClockModel_print_147 : decode b_SkeletonClockModel_print 147 = .ok (.aload_n 0, 1) := by decide +kernel
theorem d_SkeletonClockModel_print_148 : decode b_SkeletonClockModel_print 148 = .ok (.getfield 24, 3) := by decide +kernel
theorem d_SkeletonClockModel_print_151 : decode b_SkeletonClockModel_print 151 = .ok (.iload_n 2, 1) := by decide +kernel
theorem d_SkeletonClockModel_print_152 : decode b_SkeletonClockModel_print 152 = .ok (.iaload, 1) := by decide +kernel
theorem d_SkeletonClockModel_print_153 : decode b_SkeletonClockModel_print 153 = .ok (.invokestatic 177, 3) := by decide +kernel
theorem d_SkeletonClockModel_print_156 : decode b_SkeletonClockModel_print 156 = .ok (.aload_n 0, 1) := by decide +kernel
theorem d_SkeletonClockModel_print_157 : decode b_SkeletonClockModel_print 157 = .ok (.getfield 24, 3) := by decide +kernel
theorem d_SkeletonClockModel_print_160 : decode b_SkeletonClockModel_print 160 = .ok (.iload_n 2, 1) := by decide +kernel
theorem d_SkeletonClockModel_print_161 : decode b_SkeletonClockModel_print 161 = .ok (.iaload, 1) := by decide +kernel
theorem d_SkeletonClockModel_print_162 : decode b_SkeletonClockModel_print 162 = .ok (.aload_n 0, 1) := by decide +kernel
theorem d_SkeletonClockModel_print_163 : decode b_SkeletonClockModel_print 163 = .ok (.getfield 27, 3) := by decide +kernel
theorem d_SkeletonClockModel_print_166 : decode b_SkeletonClockModel_print 166 = .ok (.iload_n 2, 1) := by decide +kernel
theorem d_SkeletonClockModel_print_167 : decode b_SkeletonClockModel_print 167 = .ok (.iaload, 1) := by decide +kernel
theorem d_SkeletonClockModel_print_168 : decode b_SkeletonClockModel_print 168 = .ok (.invokevirtual 257, 3) := by decide +kernel
theorem d_SkeletonClockModel_print_171 : decode b_SkeletonClockModel_print 171 = .ok (.iinc 2 1, 3) := by decide +kernel
theorem d_SkeletonClockModel_print_174 : decode b_SkeletonClockModel_print 174 = .ok (.goto (-132), 3) := by decide +kernel
theorem d_SkeletonClockModel_print_177 : decode b_SkeletonClockModel_print 177 = .ok (.aload_n 0, 1) := by decide +kernel
theorem d_SkeletonClockModel_print_178 : decode b_SkeletonClockModel_print 178 = .ok (.getfield 237, 3) := by decide +kernel
theorem d_SkeletonClockModel_print_181 : decode b_SkeletonClockModel_print 181 = .ok (.ireturn, 1) := by decide +kernel
theorem d_SkeletonClockModel_charAt_0 : decode b_SkeletonClockModel_charAt 0 = .ok (.iload_n 1, 1) := by decide +kernel
theorem d_SkeletonClockModel_charAt_1 : decode b_SkeletonClockModel_charAt 1 = .ok (.ifCond .lt 20, 3) := by decide +kernel
theorem d_SkeletonClockModel_charAt_4 : decode b_SkeletonClockModel_charAt 4 = .ok (.iload_n 1, 1) := by decide +kernel
theorem d_SkeletonClockModel_charAt_5 : decode b_SkeletonClockModel_charAt 5 = .ok (.aload_n 0, 1) := by decide +kernel
theorem d_SkeletonClockModel_charAt_6 : decode b_SkeletonClockModel_charAt 6 = .ok (.getfield 237, 3) := by decide +kernel
theorem d_SkeletonClockModel_charAt_9 : decode b_SkeletonClockModel_charAt 9 = .ok (.if_icmp .ge 12, 3) := by decide +kernel
theorem d_SkeletonClockModel_charAt_12 : decode b_SkeletonClockModel_charAt 12 = .ok (.aload_n 0, 1) := by decide +kernel
theorem d_SkeletonClockModel_charAt_13 : decode b_SkeletonClockModel_charAt 13 = .ok (.getfield 13, 3) := by decide +kernel
theorem d_SkeletonClockModel_charAt_16 : decode b_SkeletonClockModel_charAt 16 = .ok (.iload_n 1, 1) := by decide +kernel
theorem d_SkeletonClockModel_charAt_17 : decode b_SkeletonClockModel_charAt 17 = .ok (.caload, 1) := by decide +kernel
theorem d_SkeletonClockModel_charAt_18 : decode b_SkeletonClockModel_charAt 18 = .ok (.goto 4, 3) := by decide +kernel
theorem d_SkeletonClockModel_charAt_21 : decode b_SkeletonClockModel_charAt 21 = .ok (.iconst (-1), 1) := by decide +kernel
theorem d_SkeletonClockModel_charAt_22 : decode b_SkeletonClockModel_charAt 22 = .ok (.ireturn, 1) := by decide +kernel
theorem d_SkeletonClockModel_copy_0 : decode b_SkeletonClockModel_copy 0 = .ok (.aload_n 0, 1) := by decide +kernel
theorem d_SkeletonClockModel_copy_1 : decode b_SkeletonClockModel_copy 1 = .ok (.getfield 237, 3) := by decide +kernel
theorem d_SkeletonClockModel_copy_4 : decode b_SkeletonClockModel_copy 4 = .ok (.bipush 60, 2) := by decide +kernel
theorem d_SkeletonClockModel_copy_6 : decode b_SkeletonClockModel_copy 6 = .ok (.if_icmp .le 5, 3) := by decide +kernel
theorem d_SkeletonClockModel_copy_9 : decode b_SkeletonClockModel_copy 9 = .ok (.iconst 0, 1) := by decide +kernel
theorem d_SkeletonClockModel_copy_10 : decode b_SkeletonClockModel_copy 10 = .ok (.ireturn, 1) := by decide +kernel
theorem d_SkeletonClockModel_copy_11 : decode b_SkeletonClockModel_copy 11 = .ok (.iconst 0, 1) := by decide +kernel
theorem d_SkeletonClockModel_copy_12 : decode b_SkeletonClockModel_copy 12 = .ok (.istore_n 1, 1) := by decide +kernel
theorem d_SkeletonClockModel_copy_13 : decode b_SkeletonClockModel_copy 13 = .ok (.iload_n 1, 1) := by decide +kernel
theorem d_SkeletonClockModel_copy_14 : decode b_SkeletonClockModel_copy 14 = .ok (.aload_n 0, 1) := by decide +kernel
theorem d_SkeletonClockModel_copy_15 : decode b_SkeletonClockModel_copy 15 = .ok (.getfield 237, 3) := by decide +kernel
theorem d_SkeletonClockModel_copy_18 : decode b_SkeletonClockModel_copy 18 = .ok (.if_icmp .ge 21, 3) := by decide +kernel
theorem d_SkeletonClockModel_copy_21 : decode b_SkeletonClockModel_copy 21 = .ok (.aload_n 0, 1) := by decide +kernel
theorem d_SkeletonClockModel_copy_22 : decode b_SkeletonClockModel_copy 22 = .ok (.getfield 7, 3) := by decide +kernel
theorem d_SkeletonClockModel_copy_25 : decode b_SkeletonClockModel_copy 25 = .ok (.iload_n 1, 1) := by decide +kernel
theorem d_SkeletonClockModel_copy_26 : decode b_SkeletonClockModel_copy 26 = .ok (.aload_n 0, 1) := by decide +kernel
theorem d_SkeletonClockModel_copy_27 : decode b_SkeletonClockModel_copy 27 = .ok (.getfield 13, 3) := by decide +kernel
theorem d_SkeletonClockModel_copy_30 : decode b_SkeletonClockModel_copy 30 = .ok (.iload_n 1, 1) := by decide +kernel
theorem d_SkeletonClockModel_copy_31 : decode b_SkeletonClockModel_copy 31 = .ok (.caload, 1) := by decide +kernel
theorem d_SkeletonClockModel_copy_32 : decode b_SkeletonClockModel_copy 32 = .ok (.castore, 1) := by decide +kernel
theorem d_SkeletonClockModel_copy_33 : decode b_SkeletonClockModel_copy 33 = .ok (.iinc 1 1, 3) := by decide +kernel
theorem d_SkeletonClockModel_copy_36 : decode b_SkeletonClockModel_copy 36 = .ok (.goto (-23), 3) := by decide +kernel
theorem d_SkeletonClockModel_copy_39 : decode b_SkeletonClockModel_copy 39 = .ok (.aload_n 0, 1) := by decide +kernel
theorem d_SkeletonClockModel_copy_40 : decode b_SkeletonClockModel_copy 40 = .ok (.aload_n 0, 1) := by decide +kernel
theorem d_SkeletonClockModel_copy_41 : decode b_SkeletonClockModel_copy 41 = .ok (.getfield 237, 3) := by decide +kernel
theorem d_SkeletonClockModel_copy_44 : decode b_SkeletonClockModel_copy 44 = .ok (.putfield 181, 3) := by decide +kernel
theorem d_SkeletonClockModel_copy_47 : decode b_SkeletonClockModel_copy 47 = .ok (.iconst 1, 1) := by decide +kernel
theorem d_SkeletonClockModel_copy_48 : decode b_SkeletonClockModel_copy 48 = .ok (.ireturn, 1) := by decide +kernel
theorem d_SkeletonClockModel_small_0 : decode b_SkeletonClockModel_small 0 = .ok (.iload_n 0, 1) := by decide +kernel
theorem d_SkeletonClockModel_small_1 : decode b_SkeletonClockModel_small 1 = .ok (.bipush 65, 2) := by decide +kernel
theorem d_SkeletonClockModel_small_3 : decode b_SkeletonClockModel_small 3 = .ok (.if_icmp .lt 16, 3) := by decide +kernel
theorem d_SkeletonClockModel_small_6 : decode b_SkeletonClockModel_small 6 = .ok (.iload_n 0, 1) := by decide +kernel
theorem d_SkeletonClockModel_small_7 : decode b_SkeletonClockModel_small 7 = .ok (.bipush 90, 2) := by decide +kernel
theorem d_SkeletonClockModel_small_9 : decode b_SkeletonClockModel_small 9 = .ok (.if_icmp .gt 10, 3) := by decide +kernel
theorem d_SkeletonClockModel_small_12 : decode b_SkeletonClockModel_small 12 = .ok (.iload_n 0, 1) := by decide +kernel
theorem d_SkeletonClockModel_small_13 : decode b_SkeletonClockModel_small 13 = .ok (.bipush 32, 2) := by decide +kernel
theorem d_SkeletonClockModel_small_15 : decode b_SkeletonClockModel_small 15 = .ok (.iadd, 1) := by decide +kernel
theorem d_SkeletonClockModel_small_16 : decode b_SkeletonClockModel_small 16 = .ok (.goto 4, 3) := by decide +kernel
theorem d_SkeletonClockModel_small_19 : decode b_SkeletonClockModel_small 19 = .ok (.iload_n 0, 1) := by decide +kernel
theorem d_SkeletonClockModel_small_20 : decode b_SkeletonClockModel_small 20 = .ok (.ireturn, 1) := by decide +kernel
theorem d_SkeletonClockModel_stands_0 : decode b_SkeletonClockModel_stands 0 = .ok (.iload_n 1, 1) := by decide +kernel
theorem d_SkeletonClockModel_stands_1 : decode b_SkeletonClockModel_stands 1 = .ok (.aload_n 0, 1) := by decide +kernel
theorem d_SkeletonClockModel_stands_2 : decode b_SkeletonClockModel_stands 2 = .ok (.getfield 181, 3) := by decide +kernel
theorem d_SkeletonClockModel_stands_5 : decode b_SkeletonClockModel_stands 5 = .ok (.if_icmp .ge 38, 3) := by decide +kernel
theorem d_SkeletonClockModel_stands_8 : decode b_SkeletonClockModel_stands 8 = .ok (.aload_n 0, 1) := by decide +kernel
theorem d_SkeletonClockModel_stands_9 : decode b_SkeletonClockModel_stands 9 = .ok (.iload_n 1, 1) := by decide +kernel
theorem d_SkeletonClockModel_stands_10 : decode b_SkeletonClockModel_stands 10 = .ok (.invokevirtual 184, 3) := by decide +kernel
theorem d_SkeletonClockModel_stands_13 : decode b_SkeletonClockModel_stands 13 = .ok (.iload_n 2, 1) := by decide +kernel
theorem d_SkeletonClockModel_stands_14 : decode b_SkeletonClockModel_stands 14 = .ok (.if_icmp .eq 25, 3) := by decide +kernel
theorem d_SkeletonClockModel_stands_17 : decode b_SkeletonClockModel_stands 17 = .ok (.aload_n 0, 1) := by decide +kernel
theorem d_SkeletonClockModel_stands_18 : decode b_SkeletonClockModel_stands 18 = .ok (.getfield 280, 3) := by decide +kernel
theorem d_SkeletonClockModel_stands_21 : decode b_SkeletonClockModel_stands 21 = .ok (.ifCond .eq 22, 3) := by decide +kernel
theorem d_SkeletonClockModel_stands_24 : decode b_SkeletonClockModel_stands 24 = .ok (.aload_n 0, 1) := by decide +kernel
theorem d_SkeletonClockModel_stands_25 : decode b_SkeletonClockModel_stands 25 = .ok (.iload_n 1, 1) := by decide +kernel
theorem d_SkeletonClockModel_stands_26 : decode b_SkeletonClockModel_stands 26 = .ok (.invokevirtual 184, 3) := by decide +kernel
theorem d_SkeletonClockModel_stands_29 : decode b_SkeletonClockModel_stands 29 = .ok (.invokestatic 284, 3) := by decide +kernel
theorem d_SkeletonClockModel_stands_32 : decode b_SkeletonClockModel_stands 32 = .ok (.iload_n 2, 1) := by decide +kernel
theorem d_SkeletonClockModel_stands_33 : decode b_SkeletonClockModel_stands 33 = .ok (.invokestatic 284, 3) := by decide +kernel
theorem d_SkeletonClockModel_stands_36 : decode b_SkeletonClockModel_stands 36 = .ok (.if_icmp .ne 7, 3) := by decide +kernel
theorem d_SkeletonClockModel_stands_39 : decode b_SkeletonClockModel_stands 39 = .ok (.iconst 1, 1) := by decide +kernel
theorem d_SkeletonClockModel_stands_40 : decode b_SkeletonClockModel_stands 40 = .ok (.goto 4, 3) := by decide +kernel
theorem d_SkeletonClockModel_stands_43 : decode b_SkeletonClockModel_stands 43 = .ok (.iconst 0, 1) := by decide +kernel
theorem d_SkeletonClockModel_stands_44 : decode b_SkeletonClockModel_stands 44 = .ok (.ireturn, 1) := by decide +kernel
theorem d_SkeletonClockModel_digitsAt_0 : decode b_SkeletonClockModel_digitsAt 0 = .ok (.iconst 0, 1) := by decide +kernel
theorem d_SkeletonClockModel_digitsAt_1 : decode b_SkeletonClockModel_digitsAt 1 = .ok (.istore_n 3, 1) := by decide +kernel
theorem d_SkeletonClockModel_digitsAt_2 : decode b_SkeletonClockModel_digitsAt 2 = .ok (.iload_n 3, 1) := by decide +kernel
theorem d_SkeletonClockModel_digitsAt_3 : decode b_SkeletonClockModel_digitsAt 3 = .ok (.iload_n 2, 1) := by decide +kernel
theorem d_SkeletonClockModel_digitsAt_4 : decode b_SkeletonClockModel_digitsAt 4 = .ok (.if_icmp .ge 33, 3) := by decide +kernel
theorem d_SkeletonClockModel_digitsAt_7 : decode b_SkeletonClockModel_digitsAt 7 = .ok (.aload_n 0, 1) := by decide +kernel
theorem d_SkeletonClockModel_digitsAt_8 : decode b_SkeletonClockModel_digitsAt 8 = .ok (.iload_n 1, 1) := by decide +kernel
theorem d_SkeletonClockModel_digitsAt_9 : decode b_SkeletonClockModel_digitsAt 9 = .ok (.iload_n 3, 1) := by decide +kernel
theorem d_SkeletonClockModel_digitsAt_10 : decode b_SkeletonClockModel_digitsAt 10 = .ok (.iadd, 1) := by decide +kernel
theorem d_SkeletonClockModel_digitsAt_11 : decode b_SkeletonClockModel_digitsAt 11 = .ok (.invokevirtual 184, 3) := by decide +kernel
theorem d_SkeletonClockModel_digitsAt_14 : decode b_SkeletonClockModel_digitsAt 14 = .ok (.bipush 48, 2) := by decide +kernel
theorem d_SkeletonClockModel_digitsAt_16 : decode b_SkeletonClockModel_digitsAt 16 = .ok (.if_icmp .lt 21, 3) := by decide +kernel
theorem d_SkeletonClockModel_digitsAt_19 : decode b_SkeletonClockModel_digitsAt 19 = .ok (.aload_n 0, 1) := by decide +kernel
theorem d_SkeletonClockModel_digitsAt_20 : decode b_SkeletonClockModel_digitsAt 20 = .ok (.iload_n 1, 1) := by decide +kernel
theorem d_SkeletonClockModel_digitsAt_21 : decode b_SkeletonClockModel_digitsAt 21 = .ok (.iload_n 3, 1) := by decide +kernel
theorem d_SkeletonClockModel_digitsAt_22 : decode b_SkeletonClockModel_digitsAt 22 = .ok (.iadd, 1) := by decide +kernel
theorem d_SkeletonClockModel_digitsAt_23 : decode b_SkeletonClockModel_digitsAt 23 = .ok (.invokevirtual 184, 3) := by decide +kernel
theorem d_SkeletonClockModel_digitsAt_26 : decode b_SkeletonClockModel_digitsAt 26 = .ok (.bipush 57, 2) := by decide +kernel
theorem d_SkeletonClockModel_digitsAt_28 : decode b_SkeletonClockModel_digitsAt 28 = .ok (.if_icmp .gt 9, 3) := by decide +kernel
theorem d_SkeletonClockModel_digitsAt_31 : decode b_SkeletonClockModel_digitsAt 31 = .ok (.iinc 3 1, 3) := by decide +kernel
theorem d_SkeletonClockModel_digitsAt_34 : decode b_SkeletonClockModel_digitsAt 34 = .ok (.goto (-32), 3) := by decide +kernel
theorem d_SkeletonClockModel_digitsAt_37 : decode b_SkeletonClockModel_digitsAt 37 = .ok (.iload_n 3, 1) := by decide +kernel
theorem d_SkeletonClockModel_digitsAt_38 : decode b_SkeletonClockModel_digitsAt 38 = .ok (.ireturn, 1) := by decide +kernel
theorem d_SkeletonClockModel_numberAt_0 : decode b_SkeletonClockModel_numberAt 0 = .ok (.lconst 0, 1) := by decide +kernel
theorem d_SkeletonClockModel_numberAt_1 : decode b_SkeletonClockModel_numberAt 1 = .ok (.lstore_n 3, 1) := by decide +kernel
theorem d_SkeletonClockModel_numberAt_2 : decode b_SkeletonClockModel_numberAt 2 = .ok (.iconst 0, 1) := by decide +kernel
theorem d_SkeletonClockModel_numberAt_3 : decode b_SkeletonClockModel_numberAt 3 = .ok (.istore 5, 2) := by decide +kernel
theorem d_SkeletonClockModel_numberAt_5 : decode b_SkeletonClockModel_numberAt 5 = .ok (.iload 5, 2) := by decide +kernel
theorem d_SkeletonClockModel_numberAt_7 : decode b_SkeletonClockModel_numberAt 7 = .ok (.iload_n 2, 1) := by decide +kernel
theorem d_SkeletonClockModel_numberAt_8 : decode b_SkeletonClockModel_numberAt 8 = .ok (.if_icmp .ge 29, 3) := by decide +kernel
theorem d_SkeletonClockModel_numberAt_11 : decode b_SkeletonClockModel_numberAt 11 = .ok (.ldc2_w 240, 3) := by decide +kernel
theorem d_SkeletonClockModel_numberAt_14 : decode b_SkeletonClockModel_numberAt 14 = .ok (.lload_n 3, 1) := by decide +kernel
theorem d_SkeletonClockModel_numberAt_15 : decode b_SkeletonClockModel_numberAt 15 = .ok (.lmul, 1) := by decide +kernel
theorem d_SkeletonClockModel_numberAt_16 : decode b_SkeletonClockModel_numberAt 16 = .ok (.aload_n 0, 1) := by decide +kernel
theorem d_SkeletonClockModel_numberAt_17 : decode b_SkeletonClockModel_numberAt 17 = .ok (.iload_n 1, 1) := by decide +kernel
theorem d_SkeletonClockModel_numberAt_18 : decode b_SkeletonClockModel_numberAt 18 = .ok (.iload 5, 2) := by decide +kernel
theorem d_SkeletonClockModel_numberAt_20 : decode b_SkeletonClockModel_numberAt 20 = .ok (.iadd, 1) := by decide +kernel
theorem d_SkeletonClockModel_numberAt_21 : decode b_SkeletonClockModel_numberAt 21 = .ok (.invokevirtual 184, 3) := by decide +kernel
theorem d_SkeletonClockModel_numberAt_24 : decode b_SkeletonClockModel_numberAt 24 = .ok (.i2l, 1) := by decide +kernel
theorem d_SkeletonClockModel_numberAt_25 : decode b_SkeletonClockModel_numberAt 25 = .ok (.ladd, 1) := by decide +kernel
theorem d_SkeletonClockModel_numberAt_26 : decode b_SkeletonClockModel_numberAt 26 = .ok (.ldc2_w 242, 3) := by decide +kernel
theorem d_SkeletonClockModel_numberAt_29 : decode b_SkeletonClockModel_numberAt 29 = .ok (.lsub, 1) := by decide +kernel
theorem d_SkeletonClockModel_numberAt_30 : decode b_SkeletonClockModel_numberAt 30 = .ok (.lstore_n 3, 1) := by decide +kernel
theorem d_SkeletonClockModel_numberAt_31 : decode b_SkeletonClockModel_numberAt 31 = .ok (.iinc 5 1, 3) := by decide +kernel
theorem d_SkeletonClockModel_numberAt_34 : decode b_SkeletonClockModel_numberAt 34 = .ok (.goto (-29), 3) := by decide +kernel
theorem d_SkeletonClockModel_numberAt_37 : decode b_SkeletonClockModel_numberAt 37 = .ok (.lload_n 3, 1) := by decide +kernel
theorem d_SkeletonClockModel_numberAt_38 : decode b_SkeletonClockModel_numberAt 38 = .ok (.lreturn, 1) := by decide +kernel
theorem d_SkeletonClockModel_learn_0 : decode b_SkeletonClockModel_learn 0 = .ok (.aload_n 0, 1) := by decide +kernel
theorem d_SkeletonClockModel_learn_1 : decode b_SkeletonClockModel_learn 1 = .ok (.getfield 56, 3) := by decide +kernel
theorem d_SkeletonClockModel_learn_4 : decode b_SkeletonClockModel_learn 4 = .ok (.iload_n 1, 1) := by decide +kernel
theorem d_SkeletonClockModel_learn_5 : decode b_SkeletonClockModel_learn 5 = .ok (.baload, 1) := by decide +kernel
theorem d_SkeletonClockModel_learn_6 : decode b_SkeletonClockModel_learn 6 = .ok (.ifCond .eq 16, 3) := by decide +kernel
theorem d_SkeletonClockModel_learn_9 : decode b_SkeletonClockModel_learn 9 = .ok (.aload_n 0, 1) := by decide +kernel
theorem d_SkeletonClockModel_learn_10 : decode b_SkeletonClockModel_learn 10 = .ok (.getfield 59, 3) := by decide +kernel
theorem d_SkeletonClockModel_learn_13 : decode b_SkeletonClockModel_learn 13 = .ok (.iload_n 1, 1) := by decide +kernel
theorem d_SkeletonClockModel_learn_14 : decode b_SkeletonClockModel_learn 14 = .ok (.laload, 1) := by decide +kernel
theorem d_SkeletonClockModel_learn_15 : decode b_SkeletonClockModel_learn 15 = .ok (.lload_n 2, 1) := by decide +kernel
theorem d_SkeletonClockModel_learn_16 : decode b_SkeletonClockModel_learn 16 = .ok (.lcmp, 1) := by decide +kernel
theorem d_SkeletonClockModel_learn_17 : decode b_SkeletonClockModel_learn 17 = .ok (.ifCond .eq 5, 3) := by decide +kernel
theorem d_SkeletonClockModel_learn_20 : decode b_SkeletonClockModel_learn 20 = .ok (.iconst (-1), 1) := by decide +kernel
theorem d_SkeletonClockModel_learn_21 : decode b_SkeletonClockModel_learn 21 = .ok (.ireturn, 1) := by decide +kernel
theorem d_SkeletonClockModel_learn_22 : decode b_SkeletonClockModel_learn 22 = .ok (.aload_n 0, 1) := by decide +kernel
theorem d_SkeletonClockModel_learn_23 : decode b_SkeletonClockModel_learn 23 = .ok (.getfield 56, 3) := by decide +kernel
theorem d_SkeletonClockModel_learn_26 : decode b_SkeletonClockModel_learn 26 = .ok (.iload_n 1, 1) := by decide +kernel
theorem d_SkeletonClockModel_learn_27 : decode b_SkeletonClockModel_learn 27 = .ok (.iconst 1, 1) := by decide +kernel
theorem d_SkeletonClockModel_learn_28 : decode b_SkeletonClockModel_learn 28 = .ok (.bastore, 1) := by decide +kernel
theorem d_SkeletonClockModel_learn_29 : decode b_SkeletonClockModel_learn 29 = .ok (.aload_n 0, 1) := by decide +kernel
theorem d_SkeletonClockModel_learn_30 : decode b_SkeletonClockModel_learn 30 = .ok (.getfield 59, 3) := by decide +kernel
theorem d_SkeletonClockModel_learn_33 : decode b_SkeletonClockModel_learn 33 = .ok (.iload_n 1, 1) := by decide +kernel
theorem d_SkeletonClockModel_learn_34 : decode b_SkeletonClockModel_learn 34 = .ok (.lload_n 2, 1) := by decide +kernel
theorem d_SkeletonClockModel_learn_35 : decode b_SkeletonClockModel_learn 35 = .ok (.lastore, 1) := by decide +kernel
theorem d_SkeletonClockModel_learn_36 : decode b_SkeletonClockModel_learn 36 = .ok (.iload 4, 2) := by decide +kernel
theorem d_SkeletonClockModel_learn_38 : decode b_SkeletonClockModel_learn 38 = .ok (.ireturn, 1) := by decide +kernel
theorem d_SkeletonClockModel_fixed_0 : decode b_SkeletonClockModel_fixed 0 = .ok (.aload_n 0, 1) := by decide +kernel
theorem d_SkeletonClockModel_fixed_1 : decode b_SkeletonClockModel_fixed 1 = .ok (.getfield 20, 3) := by decide +kernel
theorem d_SkeletonClockModel_fixed_4 : decode b_SkeletonClockModel_fixed 4 = .ok (.iload_n 1, 1) := by decide +kernel
theorem d_SkeletonClockModel_fixed_5 : decode b_SkeletonClockModel_fixed 5 = .ok (.iaload, 1) := by decide +kernel
theorem d_SkeletonClockModel_fixed_6 : decode b_SkeletonClockModel_fixed 6 = .ok (.iconst 1, 1) := by decide +kernel
theorem d_SkeletonClockModel_fixed_7 : decode b_SkeletonClockModel_fixed 7 = .ok (.if_icmp .eq 5, 3) := by decide +kernel
theorem d_SkeletonClockModel_fixed_10 : decode b_SkeletonClockModel_fixed 10 = .ok (.iconst 0, 1) := by decide +kernel
theorem d_SkeletonClockModel_fixed_11 : decode b_SkeletonClockModel_fixed 11 = .ok (.ireturn, 1) := by decide +kernel
theorem d_SkeletonClockModel_fixed_12 : decode b_SkeletonClockModel_fixed 12 = .ok (.aload_n 0, 1) := by decide +kernel
theorem d_SkeletonClockModel_fixed_13 : decode b_SkeletonClockModel_fixed 13 = .ok (.getfield 24, 3) := by decide +kernel
theorem d_SkeletonClockModel_fixed_16 : decode b_SkeletonClockModel_fixed 16 = .ok (.iload_n 1, 1) := by decide +kernel
theorem d_SkeletonClockModel_fixed_17 : decode b_SkeletonClockModel_fixed 17 = .ok (.iaload, 1) := by decide +kernel
theorem d_SkeletonClockModel_fixed_18 : decode b_SkeletonClockModel_fixed 18 = .ok (.invokestatic 177, 3) := by decide +kernel
theorem d_SkeletonClockModel_fixed_21 : decode b_SkeletonClockModel_fixed 21 = .ok (.istore_n 2, 1) := by decide +kernel
theorem d_SkeletonClockModel_fixed_22 : decode b_SkeletonClockModel_fixed 22 = .ok (.aload_n 0, 1) := by decide +kernel
theorem d_SkeletonClockModel_fixed_23 : decode b_SkeletonClockModel_fixed 23 = .ok (.getfield 27, 3) := by decide +kernel
theorem d_SkeletonClockModel_fixed_26 : decode b_SkeletonClockModel_fixed 26 = .ok (.iload_n 1, 1) := by decide +kernel
theorem d_SkeletonClockModel_fixed_27 : decode b_SkeletonClockModel_fixed 27 = .ok (.iaload, 1) := by decide +kernel
theorem d_SkeletonClockModel_fixed_28 : decode b_SkeletonClockModel_fixed 28 = .ok (.istore_n 3, 1) := by decide +kernel
theorem d_SkeletonClockModel_fixed_29 : decode b_SkeletonClockModel_fixed 29 = .ok (.iload_n 2, 1) := by decide +kernel
theorem d_SkeletonClockModel_fixed_30 : decode b_SkeletonClockModel_fixed 30 = .ok (.bipush 12, 2) := by decide +kernel
theorem d_SkeletonClockModel_fixed_32 : decode b_SkeletonClockModel_fixed 32 = .ok (.if_icmp .ne 5, 3) := by decide +kernel
theorem d_SkeletonClockModel_fixed_35 : decode b_SkeletonClockModel_fixed 35 = .ok (.iload_n 3, 1) := by decide +kernel
theorem d_SkeletonClockModel_fixed_36 : decode b_SkeletonClockModel_fixed 36 = .ok (.ireturn, 1) := by decide +kernel
theorem d_SkeletonClockModel_fixed_37 : decode b_SkeletonClockModel_fixed 37 = .ok (.iload_n 2, 1) := by decide +kernel
theorem d_SkeletonClockModel_fixed_38 : decode b_SkeletonClockModel_fixed 38 = .ok (.iconst 3, 1) := by decide +kernel
theorem d_SkeletonClockModel_fixed_39 : decode b_SkeletonClockModel_fixed 39 = .ok (.if_icmp .ne 14, 3) := by decide +kernel
theorem d_SkeletonClockModel_fixed_42 : decode b_SkeletonClockModel_fixed 42 = .ok (.iload_n 3, 1) := by decide +kernel
theorem d_SkeletonClockModel_fixed_43 : decode b_SkeletonClockModel_fixed 43 = .ok (.iconst 3, 1) := by decide +kernel
theorem d_SkeletonClockModel_fixed_44 : decode b_SkeletonClockModel_fixed 44 = .ok (.if_icmp .ne 7, 3) := by decide +kernel
theorem d_SkeletonClockModel_fixed_47 : decode b_SkeletonClockModel_fixed 47 = .ok (.iconst 3, 1) := by decide +kernel
theorem d_SkeletonClockModel_fixed_48 : decode b_SkeletonClockModel_fixed 48 = .ok (.goto 4, 3) := by decide +kernel
theorem d_SkeletonClockModel_fixed_51 : decode b_SkeletonClockModel_fixed 51 = .ok (.iconst 0, 1) := by decide +kernel
theorem d_SkeletonClockModel_fixed_52 : decode b_SkeletonClockModel_fixed 52 = .ok (.ireturn, 1) := by decide +kernel
theorem d_SkeletonClockModel_fixed_53 : decode b_SkeletonClockModel_fixed 53 = .ok (.iload_n 2, 1) := by decide +kernel
theorem d_SkeletonClockModel_fixed_54 : decode b_SkeletonClockModel_fixed 54 = .ok (.iconst 4, 1) := by decide +kernel
theorem d_SkeletonClockModel_fixed_55 : decode b_SkeletonClockModel_fixed 55 = .ok (.if_icmp .eq 24, 3) := by decide +kernel
theorem d_SkeletonClockModel_fixed_58 : decode b_SkeletonClockModel_fixed 58 = .ok (.iload_n 2, 1) := by decide +kernel
theorem d_SkeletonClockModel_fixed_59 : decode b_SkeletonClockModel_fixed 59 = .ok (.bipush 9, 2) := by decide +kernel
theorem d_SkeletonClockModel_fixed_61 : decode b_SkeletonClockModel_fixed 61 = .ok (.if_icmp .eq 18, 3) := by decide +kernel
theorem d_SkeletonClockModel_fixed_64 : decode b_SkeletonClockModel_fixed 64 = .ok (.iload_n 2, 1) := by decide +kernel
theorem d_SkeletonClockModel_fixed_65 : decode b_SkeletonClockModel_fixed 65 = .ok (.bipush 13, 2) := by decide +kernel
theorem d_SkeletonClockModel_fixed_67 : decode b_SkeletonClockModel_fixed 67 = .ok (.if_icmp .eq 12, 3) := by decide +kernel
theorem d_SkeletonClockModel_fixed_70 : decode b_SkeletonClockModel_fixed 70 = .ok (.iload_n 3, 1) := by decide +kernel
theorem d_SkeletonClockModel_fixed_71 : decode b_SkeletonClockModel_fixed 71 = .ok (.iconst 2, 1) := by decide +kernel
theorem d_SkeletonClockModel_fixed_72 : decode b_SkeletonClockModel_fixed 72 = .ok (.if_icmp .ne 7, 3) := by decide +kernel
theorem d_SkeletonClockModel_fixed_75 : decode b_SkeletonClockModel_fixed 75 = .ok (.iconst 2, 1) := by decide +kernel
theorem d_SkeletonClockModel_fixed_76 : decode b_SkeletonClockModel_fixed 76 = .ok (.goto 4, 3) := by decide +kernel
theorem d_SkeletonClockModel_fixed_79 : decode b_SkeletonClockModel_fixed 79 = .ok (.iconst 0, 1) := by decide +kernel
theorem d_SkeletonClockModel_fixed_80 : decode b_SkeletonClockModel_fixed 80 = .ok (.ireturn, 1) := by decide +kernel
abbrev rm_SkeletonClockModel_print : Room := { frames := 8, cells := 0, slots := 0, locals := 192 }
set_option maxHeartbeats 4000000 in
set_option maxRecDepth 100000 in
theorem w_SkeletonClockModel_print_67 {p : Program} {l : Launch} {e : Env} {s : State} {m : MethodId} {args : Array Value} {below : List Frame} {meth : Method} {c : Code} {Q : State → Prop} {A : Nat → Prop} {D : va_G} {kk : Nat → ClassId} {st : Nat → Nat} (a_t a_t_page a_t_names a_t_sort a_t_code a_t_count a_t_around a_t_size a_t_there a_t_text a_t_end a_t_wish a_t_have a_t_known a_t_value a_t_before a_t_open a_t_from : Nat) (t_length : Int32) (t_used : Int32) (t_far : Int32) (t_momentParts : Int32) (t_momentDay : Int64) (t_momentSecond : Int32) (t_momentNano : Int32) (t_momentOffset : Int32) (t_readParts : Int32) (t_readDay : Int64) (t_readSecond : Int32) (t_readNano : Int32) (t_readOffset : Int32) (t_alike : Int32) (t_page : Nat → Int32) (t_names : Nat → Int64) (t_sort : Nat → Int32) (t_code : Nat → Int32) (t_count : Nat → Int32) (t_around : Nat → Int32) (t_size : Nat → Int32) (t_there : Nat → Int32) (x1 : Int32) (x2 : Int32) (S : CallFix p m c b_SkeletonClockModel_print 5 s args GW y_SkeletonClockModel_print.cls) (hr : meth.sig.returnType = (some .int)) (hlk : meth.locks = false) (hA : ∀ q, s.heap.size ≤ q → A q) (X : KX D kk st A s) : ∀ (n : Nat) (x3 : Int32) (x4 : Int32) (v : Int32 × Int32) (H : Heap) (locs : List Loc) (ls : Array Slot), lp_SkeletonClockModel_print_67 t_momentParts t_sort t_code t_around t_size x1 x2 n x3 x4 = some v → lv_has ls 5 [(0, .ref a_t), (1, .int x1), (2, .int x2), (3, .int x3), (4, .int x4)] → va_P D classes [(a_t, .inr (10, [.int t_length, .ref a_t_text, .int t_used, .ref a_t_page, .ref a_t_names, .ref a_t_sort, .ref a_t_code, .ref a_t_count, .ref a_t_around, .ref a_t_end, .ref a_t_size, .ref a_t_there, .ref a_t_wish, .ref a_t_have, .int t_far, .int t_momentParts, .long t_momentDay, .int t_momentSecond, .int t_momentNano, .int t_momentOffset, .int t_readParts, .long t_readDay, .int t_readSecond, .int t_readNano, .int t_readOffset, .ref a_t_known, .ref a_t_value, .ref a_t_before, .ref a_t_open, .ref a_t_from, .int t_alike])), (a_t_page, .inl (kk 1, 256, .inl t_page)), (a_t_names, .inl (kk 3, 21, .inr (.inl t_names))), (a_t_sort, .inl (kk 0, 140, .inl t_sort)), (a_t_code, .inl (kk 0, 140, .inl t_code)), (a_t_count, .inl (kk 0, 140, .inl t_count)), (a_t_around, .inl (kk 0, 140, .inl t_around)), (a_t_size, .inl (kk 0, 7, .inl t_size)), (a_t_there, .inl (kk 2, 7, .inl t_there))] H → va_D A [(a_t, .inr (10, [.int t_length, .ref a_t_text, .int t_used, .ref a_t_page, .ref a_t_names, .ref a_t_sort, .ref a_t_code, .ref a_t_count, .ref a_t_around, .ref a_t_end, .ref a_t_size, .ref a_t_there, .ref a_t_wish, .ref a_t_have, .int t_far, .int t_momentParts, .long t_momentDay, .int t_momentSecond, .int t_momentNano, .int t_momentOffset, .int t_readParts, .long t_readDay, .int t_readSecond, .int t_readNano, .int t_readOffset, .ref a_t_known, .ref a_t_value, .ref a_t_before, .ref a_t_open, .ref a_t_from, .int t_alike])), (a_t_page, .inl (kk 1, 256, .inl t_page)), (a_t_names, .inl (kk 3, 21, .inr (.inl t_names))), (a_t_sort, .inl (kk 0, 140, .inl t_sort)), (a_t_code, .inl (kk 0, 140, .inl t_code)), (a_t_count, .inl (kk 0, 140, .inl t_count)), (a_t_around, .inl (kk 0, 140, .inl t_around)), (a_t_size, .inl (kk 0, 7, .inl t_size)), (a_t_there, .inl (kk 2, 7, .inl t_there))] → va_S A s.heap H locs → (∀ (H : Heap) (locs : List Loc) (ls : Array Slot), lv_has ls 5 [(0, .ref a_t), (1, .int x1), (2, .int x2), (3, .int v.1), (4, .int v.2)] → va_P D classes [(a_t, .inr (10, [.int t_length, .ref a_t_text, .int t_used, .ref a_t_page, .ref a_t_names, .ref a_t_sort, .ref a_t_code, .ref a_t_count, .ref a_t_around, .ref a_t_end, .ref a_t_size, .ref a_t_there, .ref a_t_wish, .ref a_t_have, .int t_far, .int t_momentParts, .long t_momentDay, .int t_momentSecond, .int t_momentNano, .int t_momentOffset, .int t_readParts, .long t_readDay, .int t_readSecond, .int t_readNano, .int t_readOffset, .ref a_t_known, .ref a_t_value, .ref a_t_before, .ref a_t_open, .ref a_t_from, .int t_alike])), (a_t_page, .inl (kk 1, 256, .inl t_page)), (a_t_names, .inl (kk 3, 21, .inr (.inl t_names))), (a_t_sort, .inl (kk 0, 140, .inl t_sort)), (a_t_code, .inl (kk 0, 140, .inl t_code)), (a_t_count, .inl (kk 0, 140, .inl t_count)), (a_t_around, .inl (kk 0, 140, .inl t_around)), (a_t_size, .inl (kk 0, 7, .inl t_size)), (a_t_there, .inl (kk 2, 7, .inl t_there))] H → va_D A [(a_t, .inr (10, [.int t_length, .ref a_t_text, .int t_used, .ref a_t_page, .ref a_t_names, .ref a_t_sort, .ref a_t_code, .ref a_t_count, .ref a_t_around, .ref a_t_end, .ref a_t_size, .ref a_t_there, .ref a_t_wish, .ref a_t_have, .int t_far, .int t_momentParts, .long t_momentDay, .int t_momentSecond, .int t_momentNano, .int t_momentOffset, .int t_readParts, .long t_readDay, .int t_readSecond, .int t_readNano, .int t_readOffset, .ref a_t_known, .ref a_t_value, .ref a_t_before, .ref a_t_open, .ref a_t_from, .int t_alike])), (a_t_page, .inl (kk 1, 256, .inl t_page)), (a_t_names, .inl (kk 3, 21, .inr (.inl t_names))), (a_t_sort, .inl (kk 0, 140, .inl t_sort)), (a_t_code, .inl (kk 0, 140, .inl t_code)), (a_t_count, .inl (kk 0, 140, .inl t_count)), (a_t_around, .inl (kk 0, 140, .inl t_around)), (a_t_size, .inl (kk 0, 7, .inl t_size)), (a_t_there, .inl (kk 2, 7, .inl t_there))] → va_S A s.heap H locs → W p l e rm_SkeletonClockModel_print s m args below meth c H locs 0 0 Q (F0 m 109 ls [])) → W p l e rm_SkeletonClockModel_print s m args below meth c H locs 0 0 Q (F0 m 67 ls []) := by
  intro n
  induction n with
  | zero =>
    intro x3 x4 v H locs ls he hl hP hD hS K
    exact ih_n he
  | succ n ih =>
    intro x3 x4 v H locs ls he hl hP hD hS K
    have hx := S.1
    have hb := S.2.1
    have he : st_SkeletonClockModel_print_67 t_momentParts t_sort t_code t_around t_size x1 x2 (lp_SkeletonClockModel_print_67 t_momentParts t_sort t_code t_around t_size x1 x2 n) x3 x4 = some v := he
    unfold st_SkeletonClockModel_print_67 at he
    refine lv_iload hx hb d_SkeletonClockModel_print_67 (lv_at hl 4 rfl) ?_
    refine lv_if_lt (tgt := 109) hx hb d_SkeletonClockModel_print_69 rfl (fun hc => ?_) (fun hc => ?_)
    · have he := ih_t hc he
      have hl : lv_has ls 5 [(0, .ref a_t), (1, .int x1), (2, .int x2), (3, .int x3), (4, .int x4)] := lv_sub hl [0, 1, 2, 3, 4] rfl
      cases he
      exact K _ _ _ hl hP hD hS
    · have he := ih_f hc he
      refine lv_iload_n hx hb d_SkeletonClockModel_print_72 rfl (lv_at hl 3 rfl) ?_
      refine lv_if_eq (tgt := 90) hx hb d_SkeletonClockModel_print_73 rfl (fun hc => ?_) (fun hc => ?_)
      · have he := ih_t hc he
        refine lv_iconst (v := (0 : Int32)) hx hb d_SkeletonClockModel_print_90 (by decide) ?_
        refine lv_istore_n hx hb d_SkeletonClockModel_print_91 rfl hl (by decide) rfl (fun ls hl => ?_)
        have hl : lv_has ls 5 [(3, .int (0 : Int32)), (0, .ref a_t), (1, .int x1), (2, .int x2), (4, .int x4)] := hl
        refine lv_aload_n hx hb d_SkeletonClockModel_print_92 rfl (lv_at hl 1 rfl) ?_
        refine k_get S X us_SkeletonClockModel hP 0 rfl rfl 8 (by decide) gm_4_159 rfl d_SkeletonClockModel_print_93 ?_
        refine lv_bipush (v := (20 : Int32)) hx hb d_SkeletonClockModel_print_96 (by decide) ?_
        refine lv_iload_n hx hb d_SkeletonClockModel_print_98 rfl (lv_at hl 2 rfl) ?_
        refine lv_imul hx hb d_SkeletonClockModel_print_99 ?_
        refine lv_iload hx hb d_SkeletonClockModel_print_100 (lv_at hl 4 rfl) ?_
        refine lv_iadd hx hb d_SkeletonClockModel_print_102 ?_
        obtain ⟨hi6, he⟩ := ih_g he
        refine va_iald hx hb X.1 hP 6 0 rfl rfl hi6 d_SkeletonClockModel_print_103 ?_
        refine lv_istore hx hb d_SkeletonClockModel_print_104 hl (by decide) rfl (fun ls hl => ?_)
        have hl : lv_has ls 5 [(4, .int (t_around ((((20 : Int32) * x1) + x4)).toNatClampNeg)), (3, .int (0 : Int32)), (0, .ref a_t), (1, .int x1), (2, .int x2)] := hl
        refine lv_goto (tgt := 67) hx hb d_SkeletonClockModel_print_106 rfl ?_
        have hl : lv_has ls 5 [(0, .ref a_t), (1, .int x1), (2, .int x2), (3, .int (0 : Int32)), (4, .int (t_around ((((20 : Int32) * x1) + x4)).toNatClampNeg))] := lv_sub hl [2, 3, 4, 1, 0] rfl
        exact ih _ _ _ _ _ _ he hl hP hD hS K
      · have he := ih_f hc he
        refine lv_aload_n hx hb d_SkeletonClockModel_print_76 rfl (lv_at hl 0 rfl) ?_
        refine lv_iload_n hx hb d_SkeletonClockModel_print_77 rfl (lv_at hl 1 rfl) ?_
        refine lv_iload hx hb d_SkeletonClockModel_print_78 (lv_at hl 4 rfl) ?_
        obtain ⟨u7, e8, he⟩ := ih_b he
        refine k_io (r_V (As := [.int x1, .int x4]) S X hA hP hD hS (c_SkeletonClockModel_lacks l D kk st a_t a_t_sort a_t_code a_t_around a_t_size a_t_text a_t_page a_t_names a_t_count a_t_end a_t_there a_t_wish a_t_have a_t_known a_t_value a_t_before a_t_open a_t_from _ t_length t_used t_far t_momentParts t_momentDay t_momentSecond t_momentNano t_momentOffset t_readParts t_readDay t_readSecond t_readNano t_readOffset t_alike t_sort t_code t_around t_size x1 x4 u7 e8) gm_5_125 gm_5_122 gm_5_124 gm_p3_8 gm_1_13 ⟨rfl, rfl, by decide, by decide⟩ kd_SkeletonClockModel_lacks [0, 3, 4, 6, 7] rfl rfl rfl 0 10 rfl rfl rfl rfl hl.1 rfl (Nat.le_of_ble_eq_true rfl) d_SkeletonClockModel_print_80 ⟨Nat.zero_le _, Nat.zero_le _⟩) hA hP hD hS [0, 3, 4, 6, 7] rfl (fun H locs hP hS => ?_)
        refine lv_if_ne (tgt := 90) hx hb d_SkeletonClockModel_print_83 rfl (fun hc => ?_) (fun hc => ?_)
        · have he := ih_f hc he
          refine lv_iconst (v := (0 : Int32)) hx hb d_SkeletonClockModel_print_90 (by decide) ?_
          refine lv_istore_n hx hb d_SkeletonClockModel_print_91 rfl hl (by decide) rfl (fun ls hl => ?_)
          have hl : lv_has ls 5 [(3, .int (0 : Int32)), (0, .ref a_t), (1, .int x1), (2, .int x2), (4, .int x4)] := hl
          refine lv_aload_n hx hb d_SkeletonClockModel_print_92 rfl (lv_at hl 1 rfl) ?_
          refine k_get S X us_SkeletonClockModel hP 0 rfl rfl 8 (by decide) gm_4_159 rfl d_SkeletonClockModel_print_93 ?_
          refine lv_bipush (v := (20 : Int32)) hx hb d_SkeletonClockModel_print_96 (by decide) ?_
          refine lv_iload_n hx hb d_SkeletonClockModel_print_98 rfl (lv_at hl 2 rfl) ?_
          refine lv_imul hx hb d_SkeletonClockModel_print_99 ?_
          refine lv_iload hx hb d_SkeletonClockModel_print_100 (lv_at hl 4 rfl) ?_
          refine lv_iadd hx hb d_SkeletonClockModel_print_102 ?_
          obtain ⟨hi9, he⟩ := ih_g he
          refine va_iald hx hb X.1 hP 6 0 rfl rfl hi9 d_SkeletonClockModel_print_103 ?_
          refine lv_istore hx hb d_SkeletonClockModel_print_104 hl (by decide) rfl (fun ls hl => ?_)
          have hl : lv_has ls 5 [(4, .int (t_around ((((20 : Int32) * x1) + x4)).toNatClampNeg)), (3, .int (0 : Int32)), (0, .ref a_t), (1, .int x1), (2, .int x2)] := hl
          refine lv_goto (tgt := 67) hx hb d_SkeletonClockModel_print_106 rfl ?_
          have hl : lv_has ls 5 [(0, .ref a_t), (1, .int x1), (2, .int x2), (3, .int (0 : Int32)), (4, .int (t_around ((((20 : Int32) * x1) + x4)).toNatClampNeg))] := lv_sub hl [2, 3, 4, 1, 0] rfl
          exact ih _ _ _ _ _ _ he hl hP hD hS K
        · have he := ih_t hc he
          refine lv_iconst (v := (1 : Int32)) hx hb d_SkeletonClockModel_print_86 (by decide) ?_
          refine lv_goto (tgt := 91) hx hb d_SkeletonClockModel_print_87 rfl ?_
          refine lv_istore_n hx hb d_SkeletonClockModel_print_91 rfl hl (by decide) rfl (fun ls hl => ?_)
          have hl : lv_has ls 5 [(3, .int (1 : Int32)), (0, .ref a_t), (1, .int x1), (2, .int x2), (4, .int x4)] := hl
          refine lv_aload_n hx hb d_SkeletonClockModel_print_92 rfl (lv_at hl 1 rfl) ?_
          refine k_get S X us_SkeletonClockModel hP 0 rfl rfl 8 (by decide) gm_4_159 rfl d_SkeletonClockModel_print_93 ?_
          refine lv_bipush (v := (20 : Int32)) hx hb d_SkeletonClockModel_print_96 (by decide) ?_
          refine lv_iload_n hx hb d_SkeletonClockModel_print_98 rfl (lv_at hl 2 rfl) ?_
          refine lv_imul hx hb d_SkeletonClockModel_print_99 ?_
          refine lv_iload hx hb d_SkeletonClockModel_print_100 (lv_at hl 4 rfl) ?_
          refine lv_iadd hx hb d_SkeletonClockModel_print_102 ?_
          obtain ⟨hi10, he⟩ := ih_g he
          refine va_iald hx hb X.1 hP 6 0 rfl rfl hi10 d_SkeletonClockModel_print_103 ?_
          refine lv_istore hx hb d_SkeletonClockModel_print_104 hl (by decide) rfl (fun ls hl => ?_)
          have hl : lv_has ls 5 [(4, .int (t_around ((((20 : Int32) * x1) + x4)).toNatClampNeg)), (3, .int (1 : Int32)), (0, .ref a_t), (1, .int x1), (2, .int x2)] := hl
          refine lv_goto (tgt := 67) hx hb d_SkeletonClockModel_print_106 rfl ?_
          have hl : lv_has ls 5 [(0, .ref a_t), (1, .int x1), (2, .int x2), (3, .int (1 : Int32)), (4, .int (t_around ((((20 : Int32) * x1) + x4)).toNatClampNeg))] := lv_sub hl [2, 3, 4, 1, 0] rfl
          exact ih _ _ _ _ _ _ he hl hP hD hS K
set_option maxHeartbeats 4000000 in
set_option maxRecDepth 100000 in
theorem w_SkeletonClockModel_print_42 {p : Program} {l : Launch} {e : Env} {s : State} {m : MethodId} {args : Array Value} {below : List Frame} {meth : Method} {c : Code} {Q : State → Prop} {A : Nat → Prop} {D : va_G} {kk : Nat → ClassId} {st : Nat → Nat} (a_t a_t_page a_t_names a_t_sort a_t_code a_t_count a_t_around a_t_size a_t_there a_t_text a_t_end a_t_wish a_t_have a_t_known a_t_value a_t_before a_t_open a_t_from : Nat) (t_length : Int32) (t_far : Int32) (t_momentParts : Int32) (t_momentDay : Int64) (t_momentSecond : Int32) (t_momentNano : Int32) (t_momentOffset : Int32) (t_readParts : Int32) (t_readDay : Int64) (t_readSecond : Int32) (t_readNano : Int32) (t_readOffset : Int32) (t_alike : Int32) (t_names : Nat → Int64) (t_sort : Nat → Int32) (t_code : Nat → Int32) (t_count : Nat → Int32) (t_around : Nat → Int32) (t_size : Nat → Int32) (t_there : Nat → Int32) (x1 : Int32) (S : CallFix p m c b_SkeletonClockModel_print 5 s args GW y_SkeletonClockModel_print.cls) (hr : meth.sig.returnType = (some .int)) (hlk : meth.locks = false) (hA : ∀ q, s.heap.size ≤ q → A q) (X : KX D kk st A s) : ∀ (n : Nat) (x2 : Int32) (t_used : Int32) (t_page : Nat → Int32) (v : Int32 × Int32 × (Nat → Int32)) (H : Heap) (locs : List Loc) (ls : Array Slot), lp_SkeletonClockModel_print_42 t_momentParts t_momentDay t_momentSecond t_momentNano t_momentOffset t_names t_sort t_code t_count t_around t_size x1 n x2 t_used t_page = some v → lv_has ls 5 [(0, .ref a_t), (1, .int x1), (2, .int x2)] → va_P D classes [(a_t, .inr (10, [.int t_length, .ref a_t_text, .int t_used, .ref a_t_page, .ref a_t_names, .ref a_t_sort, .ref a_t_code, .ref a_t_count, .ref a_t_around, .ref a_t_end, .ref a_t_size, .ref a_t_there, .ref a_t_wish, .ref a_t_have, .int t_far, .int t_momentParts, .long t_momentDay, .int t_momentSecond, .int t_momentNano, .int t_momentOffset, .int t_readParts, .long t_readDay, .int t_readSecond, .int t_readNano, .int t_readOffset, .ref a_t_known, .ref a_t_value, .ref a_t_before, .ref a_t_open, .ref a_t_from, .int t_alike])), (a_t_page, .inl (kk 1, 256, .inl t_page)), (a_t_names, .inl (kk 3, 21, .inr (.inl t_names))), (a_t_sort, .inl (kk 0, 140, .inl t_sort)), (a_t_code, .inl (kk 0, 140, .inl t_code)), (a_t_count, .inl (kk 0, 140, .inl t_count)), (a_t_around, .inl (kk 0, 140, .inl t_around)), (a_t_size, .inl (kk 0, 7, .inl t_size)), (a_t_there, .inl (kk 2, 7, .inl t_there))] H → va_D A [(a_t, .inr (10, [.int t_length, .ref a_t_text, .int t_used, .ref a_t_page, .ref a_t_names, .ref a_t_sort, .ref a_t_code, .ref a_t_count, .ref a_t_around, .ref a_t_end, .ref a_t_size, .ref a_t_there, .ref a_t_wish, .ref a_t_have, .int t_far, .int t_momentParts, .long t_momentDay, .int t_momentSecond, .int t_momentNano, .int t_momentOffset, .int t_readParts, .long t_readDay, .int t_readSecond, .int t_readNano, .int t_readOffset, .ref a_t_known, .ref a_t_value, .ref a_t_before, .ref a_t_open, .ref a_t_from, .int t_alike])), (a_t_page, .inl (kk 1, 256, .inl t_page)), (a_t_names, .inl (kk 3, 21, .inr (.inl t_names))), (a_t_sort, .inl (kk 0, 140, .inl t_sort)), (a_t_code, .inl (kk 0, 140, .inl t_code)), (a_t_count, .inl (kk 0, 140, .inl t_count)), (a_t_around, .inl (kk 0, 140, .inl t_around)), (a_t_size, .inl (kk 0, 7, .inl t_size)), (a_t_there, .inl (kk 2, 7, .inl t_there))] → va_S A s.heap H locs → (∀ (H : Heap) (locs : List Loc) (ls : Array Slot), lv_has ls 5 [(0, .ref a_t), (1, .int x1), (2, .int v.1)] → va_P D classes [(a_t, .inr (10, [.int t_length, .ref a_t_text, .int v.2.1, .ref a_t_page, .ref a_t_names, .ref a_t_sort, .ref a_t_code, .ref a_t_count, .ref a_t_around, .ref a_t_end, .ref a_t_size, .ref a_t_there, .ref a_t_wish, .ref a_t_have, .int t_far, .int t_momentParts, .long t_momentDay, .int t_momentSecond, .int t_momentNano, .int t_momentOffset, .int t_readParts, .long t_readDay, .int t_readSecond, .int t_readNano, .int t_readOffset, .ref a_t_known, .ref a_t_value, .ref a_t_before, .ref a_t_open, .ref a_t_from, .int t_alike])), (a_t_page, .inl (kk 1, 256, .inl v.2.2)), (a_t_names, .inl (kk 3, 21, .inr (.inl t_names))), (a_t_sort, .inl (kk 0, 140, .inl t_sort)), (a_t_code, .inl (kk 0, 140, .inl t_code)), (a_t_count, .inl (kk 0, 140, .inl t_count)), (a_t_around, .inl (kk 0, 140, .inl t_around)), (a_t_size, .inl (kk 0, 7, .inl t_size)), (a_t_there, .inl (kk 2, 7, .inl t_there))] H → va_D A [(a_t, .inr (10, [.int t_length, .ref a_t_text, .int v.2.1, .ref a_t_page, .ref a_t_names, .ref a_t_sort, .ref a_t_code, .ref a_t_count, .ref a_t_around, .ref a_t_end, .ref a_t_size, .ref a_t_there, .ref a_t_wish, .ref a_t_have, .int t_far, .int t_momentParts, .long t_momentDay, .int t_momentSecond, .int t_momentNano, .int t_momentOffset, .int t_readParts, .long t_readDay, .int t_readSecond, .int t_readNano, .int t_readOffset, .ref a_t_known, .ref a_t_value, .ref a_t_before, .ref a_t_open, .ref a_t_from, .int t_alike])), (a_t_page, .inl (kk 1, 256, .inl v.2.2)), (a_t_names, .inl (kk 3, 21, .inr (.inl t_names))), (a_t_sort, .inl (kk 0, 140, .inl t_sort)), (a_t_code, .inl (kk 0, 140, .inl t_code)), (a_t_count, .inl (kk 0, 140, .inl t_count)), (a_t_around, .inl (kk 0, 140, .inl t_around)), (a_t_size, .inl (kk 0, 7, .inl t_size)), (a_t_there, .inl (kk 2, 7, .inl t_there))] → va_S A s.heap H locs → W p l e rm_SkeletonClockModel_print s m args below meth c H locs 0 0 Q (F0 m 177 ls [])) → W p l e rm_SkeletonClockModel_print s m args below meth c H locs 0 0 Q (F0 m 42 ls []) := by
  intro n
  induction n with
  | zero =>
    intro x2 t_used t_page v H locs ls he hl hP hD hS K
    exact ih_n he
  | succ n ih =>
    intro x2 t_used t_page v H locs ls he hl hP hD hS K
    have hx := S.1
    have hb := S.2.1
    have he : st_SkeletonClockModel_print_42 t_momentParts t_momentDay t_momentSecond t_momentNano t_momentOffset t_names t_sort t_code t_count t_around t_size x1 (lp_SkeletonClockModel_print_42 t_momentParts t_momentDay t_momentSecond t_momentNano t_momentOffset t_names t_sort t_code t_count t_around t_size x1 n) x2 t_used t_page = some v := he
    unfold st_SkeletonClockModel_print_42 at he
    refine lv_iload_n hx hb d_SkeletonClockModel_print_42 rfl (lv_at hl 2 rfl) ?_
    refine lv_bipush (v := (20 : Int32)) hx hb d_SkeletonClockModel_print_43 (by decide) ?_
    refine lv_iload_n hx hb d_SkeletonClockModel_print_45 rfl (lv_at hl 1 rfl) ?_
    refine lv_imul hx hb d_SkeletonClockModel_print_46 ?_
    refine lv_aload_n hx hb d_SkeletonClockModel_print_47 rfl (lv_at hl 0 rfl) ?_
    refine k_get S X us_SkeletonClockModel hP 0 rfl rfl 10 (by decide) gm_4_161 rfl d_SkeletonClockModel_print_48 ?_
    refine lv_iload_n hx hb d_SkeletonClockModel_print_51 rfl (lv_at hl 1 rfl) ?_
    obtain ⟨hi4, he⟩ := ih_g he
    refine va_iald hx hb X.1 hP 7 0 rfl rfl hi4 d_SkeletonClockModel_print_52 ?_
    refine lv_iadd hx hb d_SkeletonClockModel_print_53 ?_
    refine lv_icmp_ge (tgt := 177) hx hb d_SkeletonClockModel_print_54 rfl (fun hc => ?_) (fun hc => ?_)
    · have he := ih_t hc he
      have hl : lv_has ls 5 [(0, .ref a_t), (1, .int x1), (2, .int x2)] := lv_sub hl [0, 1, 2] rfl
      cases he
      exact K _ _ _ hl hP hD hS
    · have he := ih_f hc he
      refine lv_iconst (v := (1 : Int32)) hx hb d_SkeletonClockModel_print_57 (by decide) ?_
      refine lv_istore_n hx hb d_SkeletonClockModel_print_58 rfl hl (by decide) rfl (fun ls hl => ?_)
      have hl : lv_has ls 5 [(3, .int (1 : Int32)), (0, .ref a_t), (1, .int x1), (2, .int x2)] := hl
      refine lv_aload_n hx hb d_SkeletonClockModel_print_59 rfl (lv_at hl 1 rfl) ?_
      refine k_get S X us_SkeletonClockModel hP 0 rfl rfl 8 (by decide) gm_4_159 rfl d_SkeletonClockModel_print_60 ?_
      refine lv_iload_n hx hb d_SkeletonClockModel_print_63 rfl (lv_at hl 3 rfl) ?_
      obtain ⟨hi5, he⟩ := ih_g he
      refine va_iald hx hb X.1 hP 6 0 rfl rfl hi5 d_SkeletonClockModel_print_64 ?_
      refine lv_istore hx hb d_SkeletonClockModel_print_65 hl (by decide) rfl (fun ls hl => ?_)
      have hl : lv_has ls 5 [(4, .int (t_around (x2).toNatClampNeg)), (3, .int (1 : Int32)), (0, .ref a_t), (1, .int x1), (2, .int x2)] := hl
      obtain ⟨u11, e12, he⟩ := ih_b he
      have hl : lv_has ls 5 [(0, .ref a_t), (1, .int x1), (2, .int x2), (3, .int (1 : Int32)), (4, .int (t_around (x2).toNatClampNeg))] := lv_sub hl [2, 3, 4, 1, 0] rfl
      refine w_SkeletonClockModel_print_67 a_t a_t_page a_t_names a_t_sort a_t_code a_t_count a_t_around a_t_size a_t_there a_t_text a_t_end a_t_wish a_t_have a_t_known a_t_value a_t_before a_t_open a_t_from t_length t_used t_far t_momentParts t_momentDay t_momentSecond t_momentNano t_momentOffset t_readParts t_readDay t_readSecond t_readNano t_readOffset t_alike t_page t_names t_sort t_code t_count t_around t_size t_there x1 x2 S hr hlk hA X FU (1 : Int32) (t_around (x2).toNatClampNeg) u11 _ _ ls e12 hl hP hD hS (fun H locs ls hl hP hD hS => ?_)
      refine lv_iload_n hx hb d_SkeletonClockModel_print_109 rfl (lv_at hl 3 rfl) ?_
      refine lv_if_eq (tgt := 132) hx hb d_SkeletonClockModel_print_110 rfl (fun hc => ?_) (fun hc => ?_)
      · have he := ih_t hc he
        refine lv_iload_n hx hb d_SkeletonClockModel_print_132 rfl (lv_at hl 3 rfl) ?_
        refine lv_if_eq (tgt := 171) hx hb d_SkeletonClockModel_print_133 rfl (fun hc => ?_) (fun hc => ?_)
        · have he := ih_t hc he
          refine lv_iinc (k := 2) hx hb d_SkeletonClockModel_print_171 hl rfl (ii_ (v := (1 : Int32)) (by decide)) (by decide) rfl (fun ls hl => ?_)
          have hl : lv_has ls 5 [(2, .int (x2 + (1 : Int32))), (0, .ref a_t), (1, .int x1), (3, .int u11.1), (4, .int u11.2)] := hl
          refine lv_goto (tgt := 42) hx hb d_SkeletonClockModel_print_174 rfl ?_
          have hl : lv_has ls 5 [(0, .ref a_t), (1, .int x1), (2, .int (x2 + (1 : Int32)))] := lv_sub hl [1, 2, 0] rfl
          exact ih _ _ _ _ _ _ _ he hl hP hD hS K
        · have he := ih_f hc he
          refine lv_aload_n hx hb d_SkeletonClockModel_print_136 rfl (lv_at hl 0 rfl) ?_
          refine k_get S X us_SkeletonClockModel hP 0 rfl rfl 5 (by decide) gm_4_156 rfl d_SkeletonClockModel_print_137 ?_
          refine lv_iload_n hx hb d_SkeletonClockModel_print_140 rfl (lv_at hl 2 rfl) ?_
          obtain ⟨hi13, he⟩ := ih_g he
          refine va_iald hx hb X.1 hP 3 0 rfl rfl hi13 d_SkeletonClockModel_print_141 ?_
          refine lv_iconst (v := (1 : Int32)) hx hb d_SkeletonClockModel_print_142 (by decide) ?_
          refine lv_icmp_ne (tgt := 171) hx hb d_SkeletonClockModel_print_143 rfl (fun hc => ?_) (fun hc => ?_)
          · have he := ih_f hc he
            refine lv_iinc (k := 2) hx hb d_SkeletonClockModel_print_171 hl rfl (ii_ (v := (1 : Int32)) (by decide)) (by decide) rfl (fun ls hl => ?_)
            have hl : lv_has ls 5 [(2, .int (x2 + (1 : Int32))), (0, .ref a_t), (1, .int x1), (3, .int u11.1), (4, .int u11.2)] := hl
            refine lv_goto (tgt := 42) hx hb d_SkeletonClockModel_print_174 rfl ?_
            have hl : lv_has ls 5 [(0, .ref a_t), (1, .int x1), (2, .int (x2 + (1 : Int32)))] := lv_sub hl [1, 2, 0] rfl
            exact ih _ _ _ _ _ _ _ he hl hP hD hS K
          · have he := ih_t hc he
            refine lv_aload_n hx hb d_SkeletonClockModel_print_146 rfl (lv_at hl 0 rfl) ?_
            refine lv_aload_n hx hb d_SkeletonClockModel_print_147 rfl (lv_at hl 0 rfl) ?_
            refine k_get S X us_SkeletonClockModel hP 0 rfl rfl 6 (by decide) gm_4_157 rfl d_SkeletonClockModel_print_148 ?_
            refine lv_iload_n hx hb d_SkeletonClockModel_print_151 rfl (lv_at hl 2 rfl) ?_
            obtain ⟨hi14, he⟩ := ih_g he
            refine va_iald hx hb X.1 hP 4 0 rfl rfl hi14 d_SkeletonClockModel_print_152 ?_
            obtain ⟨u15, e16, he⟩ := ih_b he
            refine k_io (r_S (As := [.int (t_code (x2).toNatClampNeg)]) S X hA hP hD hS (c_SkeletonClockModel_fieldOf l D kk st _ (t_code (x2).toNatClampNeg) u15 e16) gm_5_35 gm_5_33 gm_5_34 gm_1_13 ⟨rfl, rfl, by decide, by decide⟩ kd_SkeletonClockModel_fieldOf [] rfl rfl rfl rfl hl.1 rfl (Nat.le_of_ble_eq_true rfl) d_SkeletonClockModel_print_153 ⟨Nat.zero_le _, Nat.zero_le _⟩) hA hP hD hS [] rfl (fun H locs hP hS => ?_)
            refine lv_aload_n hx hb d_SkeletonClockModel_print_156 rfl (lv_at hl 0 rfl) ?_
            refine k_get S X us_SkeletonClockModel hP 0 rfl rfl 6 (by decide) gm_4_157 rfl d_SkeletonClockModel_print_157 ?_
            refine lv_iload_n hx hb d_SkeletonClockModel_print_160 rfl (lv_at hl 2 rfl) ?_
            obtain ⟨hi17, he⟩ := ih_g he
            refine va_iald hx hb X.1 hP 4 0 rfl rfl hi17 d_SkeletonClockModel_print_161 ?_
            refine lv_aload_n hx hb d_SkeletonClockModel_print_162 rfl (lv_at hl 0 rfl) ?_
            refine k_get S X us_SkeletonClockModel hP 0 rfl rfl 7 (by decide) gm_4_158 rfl d_SkeletonClockModel_print_163 ?_
            refine lv_iload_n hx hb d_SkeletonClockModel_print_166 rfl (lv_at hl 2 rfl) ?_
            obtain ⟨hi18, he⟩ := ih_g he
            refine va_iald hx hb X.1 hP 5 0 rfl rfl hi18 d_SkeletonClockModel_print_167 ?_
            obtain ⟨u19, e20, he⟩ := ih_b he
            refine k_v (wr := [(a_t_sort, .inl (kk 0, 140, .inl t_sort)), (a_t_code, .inl (kk 0, 140, .inl t_code)), (a_t_count, .inl (kk 0, 140, .inl t_count)), (a_t_around, .inl (kk 0, 140, .inl t_around)), (a_t_size, .inl (kk 0, 7, .inl t_size)), (a_t_there, .inl (kk 2, 7, .inl t_there))]) (w1 := [(a_t, .inr (10, [.int t_length, .ref a_t_text, .int u19.1, .ref a_t_page, .ref a_t_names, .ref a_t_sort, .ref a_t_code, .ref a_t_count, .ref a_t_around, .ref a_t_end, .ref a_t_size, .ref a_t_there, .ref a_t_wish, .ref a_t_have, .int t_far, .int t_momentParts, .long t_momentDay, .int t_momentSecond, .int t_momentNano, .int t_momentOffset, .int t_readParts, .long t_readDay, .int t_readSecond, .int t_readNano, .int t_readOffset, .ref a_t_known, .ref a_t_value, .ref a_t_before, .ref a_t_open, .ref a_t_from, .int t_alike])), (a_t_page, .inl (kk 1, 256, .inl u19.2)), (a_t_names, .inl (kk 3, 21, .inr (.inl t_names)))]) (w2 := [(a_t, .inr (10, [.int t_length, .ref a_t_text, .int u19.1, .ref a_t_page, .ref a_t_names, .ref a_t_sort, .ref a_t_code, .ref a_t_count, .ref a_t_around, .ref a_t_end, .ref a_t_size, .ref a_t_there, .ref a_t_wish, .ref a_t_have, .int t_far, .int t_momentParts, .long t_momentDay, .int t_momentSecond, .int t_momentNano, .int t_momentOffset, .int t_readParts, .long t_readDay, .int t_readSecond, .int t_readNano, .int t_readOffset, .ref a_t_known, .ref a_t_value, .ref a_t_before, .ref a_t_open, .ref a_t_from, .int t_alike])), (a_t_page, .inl (kk 1, 256, .inl u19.2)), (a_t_names, .inl (kk 3, 21, .inr (.inl t_names))), (a_t_sort, .inl (kk 0, 140, .inl t_sort)), (a_t_code, .inl (kk 0, 140, .inl t_code)), (a_t_count, .inl (kk 0, 140, .inl t_count)), (a_t_around, .inl (kk 0, 140, .inl t_around)), (a_t_size, .inl (kk 0, 7, .inl t_size)), (a_t_there, .inl (kk 2, 7, .inl t_there))]) (r_V (As := [.int u15, .int (t_code (x2).toNatClampNeg), .int (t_count (x2).toNatClampNeg)]) S X hA hP hD hS (c_SkeletonClockModel_show l D kk st a_t a_t_page a_t_names a_t_text a_t_sort a_t_code a_t_count a_t_around a_t_end a_t_size a_t_there a_t_wish a_t_have a_t_known a_t_value a_t_before a_t_open a_t_from _ t_length t_used t_far t_momentParts t_momentDay t_momentSecond t_momentNano t_momentOffset t_readParts t_readDay t_readSecond t_readNano t_readOffset t_alike t_page t_names u15 (t_code (x2).toNatClampNeg) (t_count (x2).toNatClampNeg) u19 e20) gm_5_140 gm_5_137 gm_5_139 gm_p3_11 gm_1_13 ⟨rfl, rfl, by decide, by decide⟩ kd_SkeletonClockModel_show [0, 1, 2] rfl rfl rfl 0 10 rfl rfl rfl rfl hl.1 rfl (Nat.le_of_ble_eq_true rfl) d_SkeletonClockModel_print_168 ⟨Nat.zero_le _, Nat.zero_le _⟩) hA hP hD hS [0, 1, 2] [3, 4, 5, 6, 7, 8] [6, 7, 8, 0, 1, 2, 3, 4, 5] rfl rfl rfl (by decide) rfl rfl rfl (fun H locs hP hD hS => ?_)
            refine lv_iinc (k := 2) hx hb d_SkeletonClockModel_print_171 hl rfl (ii_ (v := (1 : Int32)) (by decide)) (by decide) rfl (fun ls hl => ?_)
            have hl : lv_has ls 5 [(2, .int (x2 + (1 : Int32))), (0, .ref a_t), (1, .int x1), (3, .int u11.1), (4, .int u11.2)] := hl
            refine lv_goto (tgt := 42) hx hb d_SkeletonClockModel_print_174 rfl ?_
            have hl : lv_has ls 5 [(0, .ref a_t), (1, .int x1), (2, .int (x2 + (1 : Int32)))] := lv_sub hl [1, 2, 0] rfl
            exact ih _ _ _ _ _ _ _ he hl hP hD hS K
      · have he := ih_f hc he
        refine lv_aload_n hx hb d_SkeletonClockModel_print_113 rfl (lv_at hl 0 rfl) ?_
        refine k_get S X us_SkeletonClockModel hP 0 rfl rfl 5 (by decide) gm_4_156 rfl d_SkeletonClockModel_print_114 ?_
        refine lv_iload_n hx hb d_SkeletonClockModel_print_117 rfl (lv_at hl 2 rfl) ?_
        obtain ⟨hi21, he⟩ := ih_g he
        refine va_iald hx hb X.1 hP 3 0 rfl rfl hi21 d_SkeletonClockModel_print_118 ?_
        refine lv_if_ne (tgt := 132) hx hb d_SkeletonClockModel_print_119 rfl (fun hc => ?_) (fun hc => ?_)
        · have he := ih_f hc he
          refine lv_iload_n hx hb d_SkeletonClockModel_print_132 rfl (lv_at hl 3 rfl) ?_
          refine lv_if_eq (tgt := 171) hx hb d_SkeletonClockModel_print_133 rfl (fun hc => ?_) (fun hc => ?_)
          · have he := ih_t hc he
            refine lv_iinc (k := 2) hx hb d_SkeletonClockModel_print_171 hl rfl (ii_ (v := (1 : Int32)) (by decide)) (by decide) rfl (fun ls hl => ?_)
            have hl : lv_has ls 5 [(2, .int (x2 + (1 : Int32))), (0, .ref a_t), (1, .int x1), (3, .int u11.1), (4, .int u11.2)] := hl
            refine lv_goto (tgt := 42) hx hb d_SkeletonClockModel_print_174 rfl ?_
            have hl : lv_has ls 5 [(0, .ref a_t), (1, .int x1), (2, .int (x2 + (1 : Int32)))] := lv_sub hl [1, 2, 0] rfl
            exact ih _ _ _ _ _ _ _ he hl hP hD hS K
          · have he := ih_f hc he
            refine lv_aload_n hx hb d_SkeletonClockModel_print_136 rfl (lv_at hl 0 rfl) ?_
            refine k_get S X us_SkeletonClockModel hP 0 rfl rfl 5 (by decide) gm_4_156 rfl d_SkeletonClockModel_print_137 ?_
            refine lv_iload_n hx hb d_SkeletonClockModel_print_140 rfl (lv_at hl 2 rfl) ?_
            obtain ⟨hi22, he⟩ := ih_g he
            refine va_iald hx hb X.1 hP 3 0 rfl rfl hi22 d_SkeletonClockModel_print_141 ?_
            refine lv_iconst (v := (1 : Int32)) hx hb d_SkeletonClockModel_print_142 (by decide) ?_
            refine lv_icmp_ne (tgt := 171) hx hb d_SkeletonClockModel_print_143 rfl (fun hc => ?_) (fun hc => ?_)
            · have he := ih_f hc he
              refine lv_iinc (k := 2) hx hb d_SkeletonClockModel_print_171 hl rfl (ii_ (v := (1 : Int32)) (by decide)) (by decide) rfl (fun ls hl => ?_)
              have hl : lv_has ls 5 [(2, .int (x2 + (1 : Int32))), (0, .ref a_t), (1, .int x1), (3, .int u11.1), (4, .int u11.2)] := hl
              refine lv_goto (tgt := 42) hx hb d_SkeletonClockModel_print_174 rfl ?_
              have hl : lv_has ls 5 [(0, .ref a_t), (1, .int x1), (2, .int (x2 + (1 : Int32)))] := lv_sub hl [1, 2, 0] rfl
              exact ih _ _ _ _ _ _ _ he hl hP hD hS K
            · have he := ih_t hc he
              refine lv_aload_n hx hb d_SkeletonClockModel_print_146 rfl (lv_at hl 0 rfl) ?_
              refine lv_aload_n hx hb d_SkeletonClockModel_print_147 rfl (lv_at hl 0 rfl) ?_
              refine k_get S X us_SkeletonClockModel hP 0 rfl rfl 6 (by decide) gm_4_157 rfl d_SkeletonClockModel_print_148 ?_
              refine lv_iload_n hx hb d_SkeletonClockModel_print_151 rfl (lv_at hl 2 rfl) ?_
              obtain ⟨hi23, he⟩ := ih_g he
              refine va_iald hx hb X.1 hP 4 0 rfl rfl hi23 d_SkeletonClockModel_print_152 ?_
              obtain ⟨u24, e25, he⟩ := ih_b he
              refine k_io (r_S (As := [.int (t_code (x2).toNatClampNeg)]) S X hA hP hD hS (c_SkeletonClockModel_fieldOf l D kk st _ (t_code (x2).toNatClampNeg) u24 e25) gm_5_35 gm_5_33 gm_5_34 gm_1_13 ⟨rfl, rfl, by decide, by decide⟩ kd_SkeletonClockModel_fieldOf [] rfl rfl rfl rfl hl.1 rfl (Nat.le_of_ble_eq_true rfl) d_SkeletonClockModel_print_153 ⟨Nat.zero_le _, Nat.zero_le _⟩) hA hP hD hS [] rfl (fun H locs hP hS => ?_)
              refine lv_aload_n hx hb d_SkeletonClockModel_print_156 rfl (lv_at hl 0 rfl) ?_
              refine k_get S X us_SkeletonClockModel hP 0 rfl rfl 6 (by decide) gm_4_157 rfl d_SkeletonClockModel_print_157 ?_
              refine lv_iload_n hx hb d_SkeletonClockModel_print_160 rfl (lv_at hl 2 rfl) ?_
              obtain ⟨hi26, he⟩ := ih_g he
              refine va_iald hx hb X.1 hP 4 0 rfl rfl hi26 d_SkeletonClockModel_print_161 ?_
              refine lv_aload_n hx hb d_SkeletonClockModel_print_162 rfl (lv_at hl 0 rfl) ?_
              refine k_get S X us_SkeletonClockModel hP 0 rfl rfl 7 (by decide) gm_4_158 rfl d_SkeletonClockModel_print_163 ?_
              refine lv_iload_n hx hb d_SkeletonClockModel_print_166 rfl (lv_at hl 2 rfl) ?_
              obtain ⟨hi27, he⟩ := ih_g he
              refine va_iald hx hb X.1 hP 5 0 rfl rfl hi27 d_SkeletonClockModel_print_167 ?_
              obtain ⟨u28, e29, he⟩ := ih_b he
              refine k_v (wr := [(a_t_sort, .inl (kk 0, 140, .inl t_sort)), (a_t_code, .inl (kk 0, 140, .inl t_code)), (a_t_count, .inl (kk 0, 140, .inl t_count)), (a_t_around, .inl (kk 0, 140, .inl t_around)), (a_t_size, .inl (kk 0, 7, .inl t_size)), (a_t_there, .inl (kk 2, 7, .inl t_there))]) (w1 := [(a_t, .inr (10, [.int t_length, .ref a_t_text, .int u28.1, .ref a_t_page, .ref a_t_names, .ref a_t_sort, .ref a_t_code, .ref a_t_count, .ref a_t_around, .ref a_t_end, .ref a_t_size, .ref a_t_there, .ref a_t_wish, .ref a_t_have, .int t_far, .int t_momentParts, .long t_momentDay, .int t_momentSecond, .int t_momentNano, .int t_momentOffset, .int t_readParts, .long t_readDay, .int t_readSecond, .int t_readNano, .int t_readOffset, .ref a_t_known, .ref a_t_value, .ref a_t_before, .ref a_t_open, .ref a_t_from, .int t_alike])), (a_t_page, .inl (kk 1, 256, .inl u28.2)), (a_t_names, .inl (kk 3, 21, .inr (.inl t_names)))]) (w2 := [(a_t, .inr (10, [.int t_length, .ref a_t_text, .int u28.1, .ref a_t_page, .ref a_t_names, .ref a_t_sort, .ref a_t_code, .ref a_t_count, .ref a_t_around, .ref a_t_end, .ref a_t_size, .ref a_t_there, .ref a_t_wish, .ref a_t_have, .int t_far, .int t_momentParts, .long t_momentDay, .int t_momentSecond, .int t_momentNano, .int t_momentOffset, .int t_readParts, .long t_readDay, .int t_readSecond, .int t_readNano, .int t_readOffset, .ref a_t_known, .ref a_t_value, .ref a_t_before, .ref a_t_open, .ref a_t_from, .int t_alike])), (a_t_page, .inl (kk 1, 256, .inl u28.2)), (a_t_names, .inl (kk 3, 21, .inr (.inl t_names))), (a_t_sort, .inl (kk 0, 140, .inl t_sort)), (a_t_code, .inl (kk 0, 140, .inl t_code)), (a_t_count, .inl (kk 0, 140, .inl t_count)), (a_t_around, .inl (kk 0, 140, .inl t_around)), (a_t_size, .inl (kk 0, 7, .inl t_size)), (a_t_there, .inl (kk 2, 7, .inl t_there))]) (r_V (As := [.int u24, .int (t_code (x2).toNatClampNeg), .int (t_count (x2).toNatClampNeg)]) S X hA hP hD hS (c_SkeletonClockModel_show l D kk st a_t a_t_page a_t_names a_t_text a_t_sort a_t_code a_t_count a_t_around a_t_end a_t_size a_t_there a_t_wish a_t_have a_t_known a_t_value a_t_before a_t_open a_t_from _ t_length t_used t_far t_momentParts t_momentDay t_momentSecond t_momentNano t_momentOffset t_readParts t_readDay t_readSecond t_readNano t_readOffset t_alike t_page t_names u24 (t_code (x2).toNatClampNeg) (t_count (x2).toNatClampNeg) u28 e29) gm_5_140 gm_5_137 gm_5_139 gm_p3_11 gm_1_13 ⟨rfl, rfl, by decide, by decide⟩ kd_SkeletonClockModel_show [0, 1, 2] rfl rfl rfl 0 10 rfl rfl rfl rfl hl.1 rfl (Nat.le_of_ble_eq_true rfl) d_SkeletonClockModel_print_168 ⟨Nat.zero_le _, Nat.zero_le _⟩) hA hP hD hS [0, 1, 2] [3, 4, 5, 6, 7, 8] [6, 7, 8, 0, 1, 2, 3, 4, 5] rfl rfl rfl (by decide) rfl rfl rfl (fun H locs hP hD hS => ?_)
              refine lv_iinc (k := 2) hx hb d_SkeletonClockModel_print_171 hl rfl (ii_ (v := (1 : Int32)) (by decide)) (by decide) rfl (fun ls hl => ?_)
              have hl : lv_has ls 5 [(2, .int (x2 + (1 : Int32))), (0, .ref a_t), (1, .int x1), (3, .int u11.1), (4, .int u11.2)] := hl
              refine lv_goto (tgt := 42) hx hb d_SkeletonClockModel_print_174 rfl ?_
              have hl : lv_has ls 5 [(0, .ref a_t), (1, .int x1), (2, .int (x2 + (1 : Int32)))] := lv_sub hl [1, 2, 0] rfl
              exact ih _ _ _ _ _ _ _ he hl hP hD hS K
        · have he := ih_t hc he
          refine lv_aload_n hx hb d_SkeletonClockModel_print_122 rfl (lv_at hl 0 rfl) ?_
          refine lv_aload_n hx hb d_SkeletonClockModel_print_123 rfl (lv_at hl 0 rfl) ?_
          refine k_get S X us_SkeletonClockModel hP 0 rfl rfl 6 (by decide) gm_4_157 rfl d_SkeletonClockModel_print_124 ?_
          refine lv_iload_n hx hb d_SkeletonClockModel_print_127 rfl (lv_at hl 2 rfl) ?_
          obtain ⟨hi30, he⟩ := ih_g he
          refine va_iald hx hb X.1 hP 4 0 rfl rfl hi30 d_SkeletonClockModel_print_128 ?_
          obtain ⟨u31, e32, he⟩ := ih_b he
          refine k_v (wr := [(a_t_names, .inl (kk 3, 21, .inr (.inl t_names))), (a_t_sort, .inl (kk 0, 140, .inl t_sort)), (a_t_code, .inl (kk 0, 140, .inl t_code)), (a_t_count, .inl (kk 0, 140, .inl t_count)), (a_t_around, .inl (kk 0, 140, .inl t_around)), (a_t_size, .inl (kk 0, 7, .inl t_size)), (a_t_there, .inl (kk 2, 7, .inl t_there))]) (w1 := [(a_t, .inr (10, [.int t_length, .ref a_t_text, .int u31.1, .ref a_t_page, .ref a_t_names, .ref a_t_sort, .ref a_t_code, .ref a_t_count, .ref a_t_around, .ref a_t_end, .ref a_t_size, .ref a_t_there, .ref a_t_wish, .ref a_t_have, .int t_far, .int t_momentParts, .long t_momentDay, .int t_momentSecond, .int t_momentNano, .int t_momentOffset, .int t_readParts, .long t_readDay, .int t_readSecond, .int t_readNano, .int t_readOffset, .ref a_t_known, .ref a_t_value, .ref a_t_before, .ref a_t_open, .ref a_t_from, .int t_alike])), (a_t_page, .inl (kk 1, 256, .inl u31.2))]) (w2 := [(a_t, .inr (10, [.int t_length, .ref a_t_text, .int u31.1, .ref a_t_page, .ref a_t_names, .ref a_t_sort, .ref a_t_code, .ref a_t_count, .ref a_t_around, .ref a_t_end, .ref a_t_size, .ref a_t_there, .ref a_t_wish, .ref a_t_have, .int t_far, .int t_momentParts, .long t_momentDay, .int t_momentSecond, .int t_momentNano, .int t_momentOffset, .int t_readParts, .long t_readDay, .int t_readSecond, .int t_readNano, .int t_readOffset, .ref a_t_known, .ref a_t_value, .ref a_t_before, .ref a_t_open, .ref a_t_from, .int t_alike])), (a_t_page, .inl (kk 1, 256, .inl u31.2)), (a_t_names, .inl (kk 3, 21, .inr (.inl t_names))), (a_t_sort, .inl (kk 0, 140, .inl t_sort)), (a_t_code, .inl (kk 0, 140, .inl t_code)), (a_t_count, .inl (kk 0, 140, .inl t_count)), (a_t_around, .inl (kk 0, 140, .inl t_around)), (a_t_size, .inl (kk 0, 7, .inl t_size)), (a_t_there, .inl (kk 2, 7, .inl t_there))]) (r_V (As := [.int (t_code (x2).toNatClampNeg)]) S X hA hP hD hS (c_SkeletonClockModel_out l D kk st a_t a_t_page a_t_text a_t_names a_t_sort a_t_code a_t_count a_t_around a_t_end a_t_size a_t_there a_t_wish a_t_have a_t_known a_t_value a_t_before a_t_open a_t_from _ t_length t_used t_far t_momentParts t_momentDay t_momentSecond t_momentNano t_momentOffset t_readParts t_readDay t_readSecond t_readNano t_readOffset t_alike t_page (t_code (x2).toNatClampNeg) u31 e32) gm_5_136 gm_5_133 gm_5_135 gm_p3_10 gm_1_13 ⟨rfl, rfl, by decide, by decide⟩ kd_SkeletonClockModel_out [0, 1] rfl rfl rfl 0 10 rfl rfl rfl rfl hl.1 rfl (Nat.le_of_ble_eq_true rfl) d_SkeletonClockModel_print_129 ⟨Nat.zero_le _, Nat.zero_le _⟩) hA hP hD hS [0, 1] [2, 3, 4, 5, 6, 7, 8] [7, 8, 0, 1, 2, 3, 4, 5, 6] rfl rfl rfl (by decide) rfl rfl rfl (fun H locs hP hD hS => ?_)
          refine lv_iload_n hx hb d_SkeletonClockModel_print_132 rfl (lv_at hl 3 rfl) ?_
          refine lv_if_eq (tgt := 171) hx hb d_SkeletonClockModel_print_133 rfl (fun hc => ?_) (fun hc => ?_)
          · have he := ih_t hc he
            refine lv_iinc (k := 2) hx hb d_SkeletonClockModel_print_171 hl rfl (ii_ (v := (1 : Int32)) (by decide)) (by decide) rfl (fun ls hl => ?_)
            have hl : lv_has ls 5 [(2, .int (x2 + (1 : Int32))), (0, .ref a_t), (1, .int x1), (3, .int u11.1), (4, .int u11.2)] := hl
            refine lv_goto (tgt := 42) hx hb d_SkeletonClockModel_print_174 rfl ?_
            have hl : lv_has ls 5 [(0, .ref a_t), (1, .int x1), (2, .int (x2 + (1 : Int32)))] := lv_sub hl [1, 2, 0] rfl
            exact ih _ _ _ _ _ _ _ he hl hP hD hS K
          · have he := ih_f hc he
            refine lv_aload_n hx hb d_SkeletonClockModel_print_136 rfl (lv_at hl 0 rfl) ?_
            refine k_get S X us_SkeletonClockModel hP 0 rfl rfl 5 (by decide) gm_4_156 rfl d_SkeletonClockModel_print_137 ?_
            refine lv_iload_n hx hb d_SkeletonClockModel_print_140 rfl (lv_at hl 2 rfl) ?_
            obtain ⟨hi33, he⟩ := ih_g he
            refine va_iald hx hb X.1 hP 3 0 rfl rfl hi33 d_SkeletonClockModel_print_141 ?_
            refine lv_iconst (v := (1 : Int32)) hx hb d_SkeletonClockModel_print_142 (by decide) ?_
            refine lv_icmp_ne (tgt := 171) hx hb d_SkeletonClockModel_print_143 rfl (fun hc => ?_) (fun hc => ?_)
            · have he := ih_f hc he
              refine lv_iinc (k := 2) hx hb d_SkeletonClockModel_print_171 hl rfl (ii_ (v := (1 : Int32)) (by decide)) (by decide) rfl (fun ls hl => ?_)
              have hl : lv_has ls 5 [(2, .int (x2 + (1 : Int32))), (0, .ref a_t), (1, .int x1), (3, .int u11.1), (4, .int u11.2)] := hl
              refine lv_goto (tgt := 42) hx hb d_SkeletonClockModel_print_174 rfl ?_
              have hl : lv_has ls 5 [(0, .ref a_t), (1, .int x1), (2, .int (x2 + (1 : Int32)))] := lv_sub hl [1, 2, 0] rfl
              exact ih _ _ _ _ _ _ _ he hl hP hD hS K
            · have he := ih_t hc he
              refine lv_aload_n hx hb d_SkeletonClockModel_print_146 rfl (lv_at hl 0 rfl) ?_
              refine lv_aload_n hx hb d_SkeletonClockModel_print_147 rfl (lv_at hl 0 rfl) ?_
              refine k_get S X us_SkeletonClockModel hP 0 rfl rfl 6 (by decide) gm_4_157 rfl d_SkeletonClockModel_print_148 ?_
              refine lv_iload_n hx hb d_SkeletonClockModel_print_151 rfl (lv_at hl 2 rfl) ?_
              obtain ⟨hi34, he⟩ := ih_g he
              refine va_iald hx hb X.1 hP 4 0 rfl rfl hi34 d_SkeletonClockModel_print_152 ?_
              obtain ⟨u35, e36, he⟩ := ih_b he
              refine k_io (r_S (As := [.int (t_code (x2).toNatClampNeg)]) S X hA hP hD hS (c_SkeletonClockModel_fieldOf l D kk st _ (t_code (x2).toNatClampNeg) u35 e36) gm_5_35 gm_5_33 gm_5_34 gm_1_13 ⟨rfl, rfl, by decide, by decide⟩ kd_SkeletonClockModel_fieldOf [] rfl rfl rfl rfl hl.1 rfl (Nat.le_of_ble_eq_true rfl) d_SkeletonClockModel_print_153 ⟨Nat.zero_le _, Nat.zero_le _⟩) hA hP hD hS [] rfl (fun H locs hP hS => ?_)
              refine lv_aload_n hx hb d_SkeletonClockModel_print_156 rfl (lv_at hl 0 rfl) ?_
              refine k_get S X us_SkeletonClockModel hP 0 rfl rfl 6 (by decide) gm_4_157 rfl d_SkeletonClockModel_print_157 ?_
              refine lv_iload_n hx hb d_SkeletonClockModel_print_160 rfl (lv_at hl 2 rfl) ?_
              obtain ⟨hi37, he⟩ := ih_g he
              refine va_iald hx hb X.1 hP 4 0 rfl rfl hi37 d_SkeletonClockModel_print_161 ?_
              refine lv_aload_n hx hb d_SkeletonClockModel_print_162 rfl (lv_at hl 0 rfl) ?_
              refine k_get S X us_SkeletonClockModel hP 0 rfl rfl 7 (by decide) gm_4_158 rfl d_SkeletonClockModel_print_163 ?_
              refine lv_iload_n hx hb d_SkeletonClockModel_print_166 rfl (lv_at hl 2 rfl) ?_
              obtain ⟨hi38, he⟩ := ih_g he
              refine va_iald hx hb X.1 hP 5 0 rfl rfl hi38 d_SkeletonClockModel_print_167 ?_
              obtain ⟨u39, e40, he⟩ := ih_b he
              refine k_v (wr := [(a_t_sort, .inl (kk 0, 140, .inl t_sort)), (a_t_code, .inl (kk 0, 140, .inl t_code)), (a_t_count, .inl (kk 0, 140, .inl t_count)), (a_t_around, .inl (kk 0, 140, .inl t_around)), (a_t_size, .inl (kk 0, 7, .inl t_size)), (a_t_there, .inl (kk 2, 7, .inl t_there))]) (w1 := [(a_t, .inr (10, [.int t_length, .ref a_t_text, .int u39.1, .ref a_t_page, .ref a_t_names, .ref a_t_sort, .ref a_t_code, .ref a_t_count, .ref a_t_around, .ref a_t_end, .ref a_t_size, .ref a_t_there, .ref a_t_wish, .ref a_t_have, .int t_far, .int t_momentParts, .long t_momentDay, .int t_momentSecond, .int t_momentNano, .int t_momentOffset, .int t_readParts, .long t_readDay, .int t_readSecond, .int t_readNano, .int t_readOffset, .ref a_t_known, .ref a_t_value, .ref a_t_before, .ref a_t_open, .ref a_t_from, .int t_alike])), (a_t_page, .inl (kk 1, 256, .inl u39.2)), (a_t_names, .inl (kk 3, 21, .inr (.inl t_names)))]) (w2 := [(a_t, .inr (10, [.int t_length, .ref a_t_text, .int u39.1, .ref a_t_page, .ref a_t_names, .ref a_t_sort, .ref a_t_code, .ref a_t_count, .ref a_t_around, .ref a_t_end, .ref a_t_size, .ref a_t_there, .ref a_t_wish, .ref a_t_have, .int t_far, .int t_momentParts, .long t_momentDay, .int t_momentSecond, .int t_momentNano, .int t_momentOffset, .int t_readParts, .long t_readDay, .int t_readSecond, .int t_readNano, .int t_readOffset, .ref a_t_known, .ref a_t_value, .ref a_t_before, .ref a_t_open, .ref a_t_from, .int t_alike])), (a_t_page, .inl (kk 1, 256, .inl u39.2)), (a_t_names, .inl (kk 3, 21, .inr (.inl t_names))), (a_t_sort, .inl (kk 0, 140, .inl t_sort)), (a_t_code, .inl (kk 0, 140, .inl t_code)), (a_t_count, .inl (kk 0, 140, .inl t_count)), (a_t_around, .inl (kk 0, 140, .inl t_around)), (a_t_size, .inl (kk 0, 7, .inl t_size)), (a_t_there, .inl (kk 2, 7, .inl t_there))]) (r_V (As := [.int u35, .int (t_code (x2).toNatClampNeg), .int (t_count (x2).toNatClampNeg)]) S X hA hP hD hS (c_SkeletonClockModel_show l D kk st a_t a_t_page a_t_names a_t_text a_t_sort a_t_code a_t_count a_t_around a_t_end a_t_size a_t_there a_t_wish a_t_have a_t_known a_t_value a_t_before a_t_open a_t_from _ t_length u31.1 t_far t_momentParts t_momentDay t_momentSecond t_momentNano t_momentOffset t_readParts t_readDay t_readSecond t_readNano t_readOffset t_alike u31.2 t_names u35 (t_code (x2).toNatClampNeg) (t_count (x2).toNatClampNeg) u39 e40) gm_5_140 gm_5_137 gm_5_139 gm_p3_11 gm_1_13 ⟨rfl, rfl, by decide, by decide⟩ kd_SkeletonClockModel_show [0, 1, 2] rfl rfl rfl 0 10 rfl rfl rfl rfl hl.1 rfl (Nat.le_of_ble_eq_true rfl) d_SkeletonClockModel_print_168 ⟨Nat.zero_le _, Nat.zero_le _⟩) hA hP hD hS [0, 1, 2] [3, 4, 5, 6, 7, 8] [6, 7, 8, 0, 1, 2, 3, 4, 5] rfl rfl rfl (by decide) rfl rfl rfl (fun H locs hP hD hS => ?_)
              refine lv_iinc (k := 2) hx hb d_SkeletonClockModel_print_171 hl rfl (ii_ (v := (1 : Int32)) (by decide)) (by decide) rfl (fun ls hl => ?_)
              have hl : lv_has ls 5 [(2, .int (x2 + (1 : Int32))), (0, .ref a_t), (1, .int x1), (3, .int u11.1), (4, .int u11.2)] := hl
              refine lv_goto (tgt := 42) hx hb d_SkeletonClockModel_print_174 rfl ?_
              have hl : lv_has ls 5 [(0, .ref a_t), (1, .int x1), (2, .int (x2 + (1 : Int32)))] := lv_sub hl [1, 2, 0] rfl
              exact ih _ _ _ _ _ _ _ he hl hP hD hS K
set_option maxHeartbeats 4000000 in
set_option maxRecDepth 100000 in
theorem c_SkeletonClockModel_print (l : Launch) (D : va_G) (kk : Nat → ClassId) (st : Nat → Nat) (a_t a_t_page a_t_names a_t_sort a_t_code a_t_count a_t_around a_t_size a_t_there a_t_text a_t_end a_t_wish a_t_have a_t_known a_t_value a_t_before a_t_open a_t_from : Nat) (sz : Nat) (t_length : Int32) (t_used : Int32) (t_far : Int32) (t_momentParts : Int32) (t_momentDay : Int64) (t_momentSecond : Int32) (t_momentNano : Int32) (t_momentOffset : Int32) (t_readParts : Int32) (t_readDay : Int64) (t_readSecond : Int32) (t_readNano : Int32) (t_readOffset : Int32) (t_alike : Int32) (t_page : Nat → Int32) (t_names : Nat → Int64) (t_sort : Nat → Int32) (t_code : Nat → Int32) (t_count : Nat → Int32) (t_around : Nat → Int32) (t_size : Nat → Int32) (t_there : Nat → Int32) (x1 : Int32) (o : Int32 × Int32 × (Nat → Int32)) (he : f_SkeletonClockModel_print t_used t_momentParts t_momentDay t_momentSecond t_momentNano t_momentOffset t_page t_names t_sort t_code t_count t_around t_size t_there x1 = some o) : Met l y_SkeletonClockModel_print (Cond.code y_SkeletonClockModel_print b_SkeletonClockModel_print 5 (some .int) :: GW) rm_SkeletonClockModel_print (KPc D kk st [.ref a_t, .int x1] [(a_t, .inr (10, [.int t_length, .ref a_t_text, .int t_used, .ref a_t_page, .ref a_t_names, .ref a_t_sort, .ref a_t_code, .ref a_t_count, .ref a_t_around, .ref a_t_end, .ref a_t_size, .ref a_t_there, .ref a_t_wish, .ref a_t_have, .int t_far, .int t_momentParts, .long t_momentDay, .int t_momentSecond, .int t_momentNano, .int t_momentOffset, .int t_readParts, .long t_readDay, .int t_readSecond, .int t_readNano, .int t_readOffset, .ref a_t_known, .ref a_t_value, .ref a_t_before, .ref a_t_open, .ref a_t_from, .int t_alike])), (a_t_page, .inl (kk 1, 256, .inl t_page)), (a_t_names, .inl (kk 3, 21, .inr (.inl t_names))), (a_t_sort, .inl (kk 0, 140, .inl t_sort)), (a_t_code, .inl (kk 0, 140, .inl t_code)), (a_t_count, .inl (kk 0, 140, .inl t_count)), (a_t_around, .inl (kk 0, 140, .inl t_around)), (a_t_size, .inl (kk 0, 7, .inl t_size)), (a_t_there, .inl (kk 2, 7, .inl t_there))] sz) (KQi D kk o.1 [(a_t, .inr (10, [.int t_length, .ref a_t_text, .int o.2.1, .ref a_t_page, .ref a_t_names, .ref a_t_sort, .ref a_t_code, .ref a_t_count, .ref a_t_around, .ref a_t_end, .ref a_t_size, .ref a_t_there, .ref a_t_wish, .ref a_t_have, .int t_far, .int t_momentParts, .long t_momentDay, .int t_momentSecond, .int t_momentNano, .int t_momentOffset, .int t_readParts, .long t_readDay, .int t_readSecond, .int t_readNano, .int t_readOffset, .ref a_t_known, .ref a_t_value, .ref a_t_before, .ref a_t_open, .ref a_t_from, .int t_alike])), (a_t_page, .inl (kk 1, 256, .inl o.2.2)), (a_t_names, .inl (kk 3, 21, .inr (.inl t_names))), (a_t_sort, .inl (kk 0, 140, .inl t_sort)), (a_t_code, .inl (kk 0, 140, .inl t_code)), (a_t_count, .inl (kk 0, 140, .inl t_count)), (a_t_around, .inl (kk 0, 140, .inl t_around)), (a_t_size, .inl (kk 0, 7, .inl t_size)), (a_t_there, .inl (kk 2, 7, .inl t_there))] (va_A [(a_t, .inr (10, [.int t_length, .ref a_t_text, .int t_used, .ref a_t_page, .ref a_t_names, .ref a_t_sort, .ref a_t_code, .ref a_t_count, .ref a_t_around, .ref a_t_end, .ref a_t_size, .ref a_t_there, .ref a_t_wish, .ref a_t_have, .int t_far, .int t_momentParts, .long t_momentDay, .int t_momentSecond, .int t_momentNano, .int t_momentOffset, .int t_readParts, .long t_readDay, .int t_readSecond, .int t_readNano, .int t_readOffset, .ref a_t_known, .ref a_t_value, .ref a_t_before, .ref a_t_open, .ref a_t_from, .int t_alike])), (a_t_page, .inl (kk 1, 256, .inl t_page)), (a_t_names, .inl (kk 3, 21, .inr (.inl t_names))), (a_t_sort, .inl (kk 0, 140, .inl t_sort)), (a_t_code, .inl (kk 0, 140, .inl t_code)), (a_t_count, .inl (kk 0, 140, .inl t_count)), (a_t_around, .inl (kk 0, 140, .inl t_around)), (a_t_size, .inl (kk 0, 7, .inl t_size)), (a_t_there, .inl (kk 2, 7, .inl t_there))] sz)) 0 0 (va_A [(a_t, .inr (10, [.int t_length, .ref a_t_text, .int t_used, .ref a_t_page, .ref a_t_names, .ref a_t_sort, .ref a_t_code, .ref a_t_count, .ref a_t_around, .ref a_t_end, .ref a_t_size, .ref a_t_there, .ref a_t_wish, .ref a_t_have, .int t_far, .int t_momentParts, .long t_momentDay, .int t_momentSecond, .int t_momentNano, .int t_momentOffset, .int t_readParts, .long t_readDay, .int t_readSecond, .int t_readNano, .int t_readOffset, .ref a_t_known, .ref a_t_value, .ref a_t_before, .ref a_t_open, .ref a_t_from, .int t_alike])), (a_t_page, .inl (kk 1, 256, .inl t_page)), (a_t_names, .inl (kk 3, 21, .inr (.inl t_names))), (a_t_sort, .inl (kk 0, 140, .inl t_sort)), (a_t_code, .inl (kk 0, 140, .inl t_code)), (a_t_count, .inl (kk 0, 140, .inl t_count)), (a_t_around, .inl (kk 0, 140, .inl t_around)), (a_t_size, .inl (kk 0, 7, .inl t_size)), (a_t_there, .inl (kk 2, 7, .inl t_there))] sz) := by
  refine k_start (Qc := fun A => KQi D kk o.1 [(a_t, .inr (10, [.int t_length, .ref a_t_text, .int o.2.1, .ref a_t_page, .ref a_t_names, .ref a_t_sort, .ref a_t_code, .ref a_t_count, .ref a_t_around, .ref a_t_end, .ref a_t_size, .ref a_t_there, .ref a_t_wish, .ref a_t_have, .int t_far, .int t_momentParts, .long t_momentDay, .int t_momentSecond, .int t_momentNano, .int t_momentOffset, .int t_readParts, .long t_readDay, .int t_readSecond, .int t_readNano, .int t_readOffset, .ref a_t_known, .ref a_t_value, .ref a_t_before, .ref a_t_open, .ref a_t_from, .int t_alike])), (a_t_page, .inl (kk 1, 256, .inl o.2.2)), (a_t_names, .inl (kk 3, 21, .inr (.inl t_names))), (a_t_sort, .inl (kk 0, 140, .inl t_sort)), (a_t_code, .inl (kk 0, 140, .inl t_code)), (a_t_count, .inl (kk 0, 140, .inl t_count)), (a_t_around, .inl (kk 0, 140, .inl t_around)), (a_t_size, .inl (kk 0, 7, .inl t_size)), (a_t_there, .inl (kk 2, 7, .inl t_there))] A) (by decide) (Nat.le_of_ble_eq_true rfl) ?_
  intro p e s m below meth c A ls S hnm hr hlk hA X hP hD hS hl
  have hl : lv_has ls 5 [(0, .ref a_t), (1, .int x1)] := hl
  have hx := S.1
  have hb := S.2.1
  unfold f_SkeletonClockModel_print at he
  refine lv_iload_n hx hb d_SkeletonClockModel_print_0 rfl (lv_at hl 1 rfl) ?_
  refine lv_if_lt (tgt := 18) hx hb d_SkeletonClockModel_print_1 rfl (fun hc => ?_) (fun hc => ?_)
  · have he := ih_t hc he
    refine lv_bipush (v := (-2 : Int32)) hx hb d_SkeletonClockModel_print_18 (by decide) ?_
    cases he
    exact k_ire hx hb hr hlk X hP hD hS d_SkeletonClockModel_print_20
  · have he := ih_f hc he
    refine lv_iload_n hx hb d_SkeletonClockModel_print_4 rfl (lv_at hl 1 rfl) ?_
    refine lv_iconst (v := (5 : Int32)) hx hb d_SkeletonClockModel_print_5 (by decide) ?_
    refine lv_icmp_gt (tgt := 18) hx hb d_SkeletonClockModel_print_6 rfl (fun hc => ?_) (fun hc => ?_)
    · have he := ih_t hc he
      refine lv_bipush (v := (-2 : Int32)) hx hb d_SkeletonClockModel_print_18 (by decide) ?_
      cases he
      exact k_ire hx hb hr hlk X hP hD hS d_SkeletonClockModel_print_20
    · have he := ih_f hc he
      refine lv_aload_n hx hb d_SkeletonClockModel_print_9 rfl (lv_at hl 0 rfl) ?_
      refine k_get S X us_SkeletonClockModel hP 0 rfl rfl 11 (by decide) gm_4_162 rfl d_SkeletonClockModel_print_10 ?_
      refine lv_iload_n hx hb d_SkeletonClockModel_print_13 rfl (lv_at hl 1 rfl) ?_
      obtain ⟨hi1, he⟩ := ih_g he
      refine va_zald hx hb X.1 hP 8 2 rfl rfl hi1 d_SkeletonClockModel_print_14 ?_
      refine lv_if_ne (tgt := 21) hx hb d_SkeletonClockModel_print_15 rfl (fun hc => ?_) (fun hc => ?_)
      · have he := ih_f hc he
        refine lv_aload_n hx hb d_SkeletonClockModel_print_21 rfl (lv_at hl 0 rfl) ?_
        refine lv_iload_n hx hb d_SkeletonClockModel_print_22 rfl (lv_at hl 1 rfl) ?_
        refine lv_iconst (v := (-1 : Int32)) hx hb d_SkeletonClockModel_print_23 (by decide) ?_
        obtain ⟨u2, e3, he⟩ := ih_b he
        refine k_io (r_V (As := [.int x1, .int (-1 : Int32)]) S X hA hP hD hS (c_SkeletonClockModel_lacks l D kk st a_t a_t_sort a_t_code a_t_around a_t_size a_t_text a_t_page a_t_names a_t_count a_t_end a_t_there a_t_wish a_t_have a_t_known a_t_value a_t_before a_t_open a_t_from _ t_length t_used t_far t_momentParts t_momentDay t_momentSecond t_momentNano t_momentOffset t_readParts t_readDay t_readSecond t_readNano t_readOffset t_alike t_sort t_code t_around t_size x1 (-1 : Int32) u2 e3) gm_5_125 gm_5_122 gm_5_124 gm_p3_8 gm_1_13 ⟨rfl, rfl, by decide, by decide⟩ kd_SkeletonClockModel_lacks [0, 3, 4, 6, 7] rfl rfl rfl 0 10 rfl rfl rfl rfl hl.1 rfl (Nat.le_of_ble_eq_true rfl) d_SkeletonClockModel_print_24 ⟨Nat.zero_le _, Nat.zero_le _⟩) hA hP hD hS [0, 3, 4, 6, 7] rfl (fun H locs hP hS => ?_)
        refine lv_if_eq (tgt := 32) hx hb d_SkeletonClockModel_print_27 rfl (fun hc => ?_) (fun hc => ?_)
        · have he := ih_t hc he
          refine lv_aload_n hx hb d_SkeletonClockModel_print_32 rfl (lv_at hl 0 rfl) ?_
          refine lv_iconst (v := (0 : Int32)) hx hb d_SkeletonClockModel_print_33 (by decide) ?_
          refine k_put S X us_SkeletonClockModel t_SkeletonClockModel t_SkeletonClockModel_ok n_SkeletonClockModel hP hD hS 0 rfl rfl 2 (by decide) gm_4_153 rfl rfl rfl (Nat.le_of_ble_eq_true rfl) d_SkeletonClockModel_print_34 (fun H locs hP hD hS => ?_)
          have hP : va_P D classes [(a_t, .inr (10, [.int t_length, .ref a_t_text, .int (0 : Int32), .ref a_t_page, .ref a_t_names, .ref a_t_sort, .ref a_t_code, .ref a_t_count, .ref a_t_around, .ref a_t_end, .ref a_t_size, .ref a_t_there, .ref a_t_wish, .ref a_t_have, .int t_far, .int t_momentParts, .long t_momentDay, .int t_momentSecond, .int t_momentNano, .int t_momentOffset, .int t_readParts, .long t_readDay, .int t_readSecond, .int t_readNano, .int t_readOffset, .ref a_t_known, .ref a_t_value, .ref a_t_before, .ref a_t_open, .ref a_t_from, .int t_alike])), (a_t_page, .inl (kk 1, 256, .inl t_page)), (a_t_names, .inl (kk 3, 21, .inr (.inl t_names))), (a_t_sort, .inl (kk 0, 140, .inl t_sort)), (a_t_code, .inl (kk 0, 140, .inl t_code)), (a_t_count, .inl (kk 0, 140, .inl t_count)), (a_t_around, .inl (kk 0, 140, .inl t_around)), (a_t_size, .inl (kk 0, 7, .inl t_size)), (a_t_there, .inl (kk 2, 7, .inl t_there))] H := hP
          have hD : va_D A [(a_t, .inr (10, [.int t_length, .ref a_t_text, .int (0 : Int32), .ref a_t_page, .ref a_t_names, .ref a_t_sort, .ref a_t_code, .ref a_t_count, .ref a_t_around, .ref a_t_end, .ref a_t_size, .ref a_t_there, .ref a_t_wish, .ref a_t_have, .int t_far, .int t_momentParts, .long t_momentDay, .int t_momentSecond, .int t_momentNano, .int t_momentOffset, .int t_readParts, .long t_readDay, .int t_readSecond, .int t_readNano, .int t_readOffset, .ref a_t_known, .ref a_t_value, .ref a_t_before, .ref a_t_open, .ref a_t_from, .int t_alike])), (a_t_page, .inl (kk 1, 256, .inl t_page)), (a_t_names, .inl (kk 3, 21, .inr (.inl t_names))), (a_t_sort, .inl (kk 0, 140, .inl t_sort)), (a_t_code, .inl (kk 0, 140, .inl t_code)), (a_t_count, .inl (kk 0, 140, .inl t_count)), (a_t_around, .inl (kk 0, 140, .inl t_around)), (a_t_size, .inl (kk 0, 7, .inl t_size)), (a_t_there, .inl (kk 2, 7, .inl t_there))] := hD
          refine lv_bipush (v := (20 : Int32)) hx hb d_SkeletonClockModel_print_37 (by decide) ?_
          refine lv_iload_n hx hb d_SkeletonClockModel_print_39 rfl (lv_at hl 1 rfl) ?_
          refine lv_imul hx hb d_SkeletonClockModel_print_40 ?_
          refine lv_istore_n hx hb d_SkeletonClockModel_print_41 rfl hl (by decide) rfl (fun ls hl => ?_)
          have hl : lv_has ls 5 [(2, .int ((20 : Int32) * x1)), (0, .ref a_t), (1, .int x1)] := hl
          obtain ⟨u41, e42, he⟩ := ih_b he
          have hl : lv_has ls 5 [(0, .ref a_t), (1, .int x1), (2, .int ((20 : Int32) * x1))] := lv_sub hl [1, 2, 0] rfl
          refine w_SkeletonClockModel_print_42 a_t a_t_page a_t_names a_t_sort a_t_code a_t_count a_t_around a_t_size a_t_there a_t_text a_t_end a_t_wish a_t_have a_t_known a_t_value a_t_before a_t_open a_t_from t_length t_far t_momentParts t_momentDay t_momentSecond t_momentNano t_momentOffset t_readParts t_readDay t_readSecond t_readNano t_readOffset t_alike t_names t_sort t_code t_count t_around t_size t_there x1 S hr hlk hA X FU ((20 : Int32) * x1) (0 : Int32) t_page u41 _ _ ls e42 hl hP hD hS (fun H locs ls hl hP hD hS => ?_)
          refine lv_aload_n hx hb d_SkeletonClockModel_print_177 rfl (lv_at hl 0 rfl) ?_
          refine k_get S X us_SkeletonClockModel hP 0 rfl rfl 2 (by decide) gm_4_153 rfl d_SkeletonClockModel_print_178 ?_
          cases he
          exact k_ire hx hb hr hlk X hP hD hS d_SkeletonClockModel_print_181
        · have he := ih_f hc he
          refine lv_iconst (v := (-1 : Int32)) hx hb d_SkeletonClockModel_print_30 (by decide) ?_
          cases he
          exact k_ire hx hb hr hlk X hP hD hS d_SkeletonClockModel_print_31
      · have he := ih_t hc he
        refine lv_bipush (v := (-2 : Int32)) hx hb d_SkeletonClockModel_print_18 (by decide) ?_
        cases he
        exact k_ire hx hb hr hlk X hP hD hS d_SkeletonClockModel_print_20
abbrev rm_SkeletonClockModel_charAt : Room := { frames := 0, cells := 0, slots := 0, locals := 0 }
set_option maxHeartbeats 4000000 in
set_option maxRecDepth 100000 in
theorem c_SkeletonClockModel_charAt (l : Launch) (D : va_G) (kk : Nat → ClassId) (st : Nat → Nat) (a_t a_t_page a_t_text a_t_names a_t_sort a_t_code a_t_count a_t_around a_t_end a_t_size a_t_there a_t_wish a_t_have a_t_known a_t_value a_t_before a_t_open a_t_from : Nat) (sz : Nat) (t_length : Int32) (t_used : Int32) (t_far : Int32) (t_momentParts : Int32) (t_momentDay : Int64) (t_momentSecond : Int32) (t_momentNano : Int32) (t_momentOffset : Int32) (t_readParts : Int32) (t_readDay : Int64) (t_readSecond : Int32) (t_readNano : Int32) (t_readOffset : Int32) (t_alike : Int32) (t_page : Nat → Int32) (x1 : Int32) (o : Int32) (he : f_SkeletonClockModel_charAt t_used t_page x1 = some o) : Met l y_SkeletonClockModel_charAt (Cond.code y_SkeletonClockModel_charAt b_SkeletonClockModel_charAt 2 (some .int) :: GW) rm_SkeletonClockModel_charAt (KPc D kk st [.ref a_t, .int x1] [(a_t, .inr (10, [.int t_length, .ref a_t_text, .int t_used, .ref a_t_page, .ref a_t_names, .ref a_t_sort, .ref a_t_code, .ref a_t_count, .ref a_t_around, .ref a_t_end, .ref a_t_size, .ref a_t_there, .ref a_t_wish, .ref a_t_have, .int t_far, .int t_momentParts, .long t_momentDay, .int t_momentSecond, .int t_momentNano, .int t_momentOffset, .int t_readParts, .long t_readDay, .int t_readSecond, .int t_readNano, .int t_readOffset, .ref a_t_known, .ref a_t_value, .ref a_t_before, .ref a_t_open, .ref a_t_from, .int t_alike])), (a_t_page, .inl (kk 1, 256, .inl t_page))] sz) (KQi D kk o [(a_t, .inr (10, [.int t_length, .ref a_t_text, .int t_used, .ref a_t_page, .ref a_t_names, .ref a_t_sort, .ref a_t_code, .ref a_t_count, .ref a_t_around, .ref a_t_end, .ref a_t_size, .ref a_t_there, .ref a_t_wish, .ref a_t_have, .int t_far, .int t_momentParts, .long t_momentDay, .int t_momentSecond, .int t_momentNano, .int t_momentOffset, .int t_readParts, .long t_readDay, .int t_readSecond, .int t_readNano, .int t_readOffset, .ref a_t_known, .ref a_t_value, .ref a_t_before, .ref a_t_open, .ref a_t_from, .int t_alike])), (a_t_page, .inl (kk 1, 256, .inl t_page))] (va_A [(a_t, .inr (10, [.int t_length, .ref a_t_text, .int t_used, .ref a_t_page, .ref a_t_names, .ref a_t_sort, .ref a_t_code, .ref a_t_count, .ref a_t_around, .ref a_t_end, .ref a_t_size, .ref a_t_there, .ref a_t_wish, .ref a_t_have, .int t_far, .int t_momentParts, .long t_momentDay, .int t_momentSecond, .int t_momentNano, .int t_momentOffset, .int t_readParts, .long t_readDay, .int t_readSecond, .int t_readNano, .int t_readOffset, .ref a_t_known, .ref a_t_value, .ref a_t_before, .ref a_t_open, .ref a_t_from, .int t_alike])), (a_t_page, .inl (kk 1, 256, .inl t_page))] sz)) 0 0 (va_A [(a_t, .inr (10, [.int t_length, .ref a_t_text, .int t_used, .ref a_t_page, .ref a_t_names, .ref a_t_sort, .ref a_t_code, .ref a_t_count, .ref a_t_around, .ref a_t_end, .ref a_t_size, .ref a_t_there, .ref a_t_wish, .ref a_t_have, .int t_far, .int t_momentParts, .long t_momentDay, .int t_momentSecond, .int t_momentNano, .int t_momentOffset, .int t_readParts, .long t_readDay, .int t_readSecond, .int t_readNano, .int t_readOffset, .ref a_t_known, .ref a_t_value, .ref a_t_before, .ref a_t_open, .ref a_t_from, .int t_alike])), (a_t_page, .inl (kk 1, 256, .inl t_page))] sz) := by
  refine k_start (Qc := fun A => KQi D kk o [(a_t, .inr (10, [.int t_length, .ref a_t_text, .int t_used, .ref a_t_page, .ref a_t_names, .ref a_t_sort, .ref a_t_code, .ref a_t_count, .ref a_t_around, .ref a_t_end, .ref a_t_size, .ref a_t_there, .ref a_t_wish, .ref a_t_have, .int t_far, .int t_momentParts, .long t_momentDay, .int t_momentSecond, .int t_momentNano, .int t_momentOffset, .int t_readParts, .long t_readDay, .int t_readSecond, .int t_readNano, .int t_readOffset, .ref a_t_known, .ref a_t_value, .ref a_t_before, .ref a_t_open, .ref a_t_from, .int t_alike])), (a_t_page, .inl (kk 1, 256, .inl t_page))] A) (by decide) (Nat.le_of_ble_eq_true rfl) ?_
  intro p e s m below meth c A ls S hnm hr hlk hA X hP hD hS hl
  have hl : lv_has ls 2 [(0, .ref a_t), (1, .int x1)] := hl
  have hx := S.1
  have hb := S.2.1
  unfold f_SkeletonClockModel_charAt at he
  refine lv_iload_n hx hb d_SkeletonClockModel_charAt_0 rfl (lv_at hl 1 rfl) ?_
  refine lv_if_lt (tgt := 21) hx hb d_SkeletonClockModel_charAt_1 rfl (fun hc => ?_) (fun hc => ?_)
  · have he := ih_t hc he
    refine lv_iconst (v := (-1 : Int32)) hx hb d_SkeletonClockModel_charAt_21 (by decide) ?_
    cases he
    exact k_ire hx hb hr hlk X hP hD hS d_SkeletonClockModel_charAt_22
  · have he := ih_f hc he
    refine lv_iload_n hx hb d_SkeletonClockModel_charAt_4 rfl (lv_at hl 1 rfl) ?_
    refine lv_aload_n hx hb d_SkeletonClockModel_charAt_5 rfl (lv_at hl 0 rfl) ?_
    refine k_get S X us_SkeletonClockModel hP 0 rfl rfl 2 (by decide) gm_4_153 rfl d_SkeletonClockModel_charAt_6 ?_
    refine lv_icmp_ge (tgt := 21) hx hb d_SkeletonClockModel_charAt_9 rfl (fun hc => ?_) (fun hc => ?_)
    · have he := ih_t hc he
      refine lv_iconst (v := (-1 : Int32)) hx hb d_SkeletonClockModel_charAt_21 (by decide) ?_
      cases he
      exact k_ire hx hb hr hlk X hP hD hS d_SkeletonClockModel_charAt_22
    · have he := ih_f hc he
      refine lv_aload_n hx hb d_SkeletonClockModel_charAt_12 rfl (lv_at hl 0 rfl) ?_
      refine k_get S X us_SkeletonClockModel hP 0 rfl rfl 3 (by decide) gm_4_154 rfl d_SkeletonClockModel_charAt_13 ?_
      refine lv_iload_n hx hb d_SkeletonClockModel_charAt_16 rfl (lv_at hl 1 rfl) ?_
      obtain ⟨hi1, he⟩ := ih_g he
      refine va_cald hx hb X.1 hP 1 1 rfl rfl hi1 d_SkeletonClockModel_charAt_17 ?_
      refine lv_goto (tgt := 22) hx hb d_SkeletonClockModel_charAt_18 rfl ?_
      cases he
      exact k_ire hx hb hr hlk X hP hD hS d_SkeletonClockModel_charAt_22
abbrev rm_SkeletonClockModel_copy : Room := { frames := 0, cells := 0, slots := 0, locals := 0 }
set_option maxHeartbeats 4000000 in
set_option maxRecDepth 100000 in
theorem w_SkeletonClockModel_copy_13 {p : Program} {l : Launch} {e : Env} {s : State} {m : MethodId} {args : Array Value} {below : List Frame} {meth : Method} {c : Code} {Q : State → Prop} {A : Nat → Prop} {D : va_G} {kk : Nat → ClassId} {st : Nat → Nat} (a_t a_t_text a_t_page a_t_names a_t_sort a_t_code a_t_count a_t_around a_t_end a_t_size a_t_there a_t_wish a_t_have a_t_known a_t_value a_t_before a_t_open a_t_from : Nat) (t_length : Int32) (t_used : Int32) (t_far : Int32) (t_momentParts : Int32) (t_momentDay : Int64) (t_momentSecond : Int32) (t_momentNano : Int32) (t_momentOffset : Int32) (t_readParts : Int32) (t_readDay : Int64) (t_readSecond : Int32) (t_readNano : Int32) (t_readOffset : Int32) (t_alike : Int32) (t_page : Nat → Int32) (S : CallFix p m c b_SkeletonClockModel_copy 2 s args GW y_SkeletonClockModel_copy.cls) (hr : meth.sig.returnType = (some .boolean)) (hlk : meth.locks = false) (hA : ∀ q, s.heap.size ≤ q → A q) (X : KX D kk st A s) : ∀ (n : Nat) (x1 : Int32) (t_text : Nat → Int32) (v : Int32 × (Nat → Int32)) (H : Heap) (locs : List Loc) (ls : Array Slot), lp_SkeletonClockModel_copy_13 t_used t_page n x1 t_text = some v → lv_has ls 2 [(0, .ref a_t), (1, .int x1)] → va_P D classes [(a_t, .inr (10, [.int t_length, .ref a_t_text, .int t_used, .ref a_t_page, .ref a_t_names, .ref a_t_sort, .ref a_t_code, .ref a_t_count, .ref a_t_around, .ref a_t_end, .ref a_t_size, .ref a_t_there, .ref a_t_wish, .ref a_t_have, .int t_far, .int t_momentParts, .long t_momentDay, .int t_momentSecond, .int t_momentNano, .int t_momentOffset, .int t_readParts, .long t_readDay, .int t_readSecond, .int t_readNano, .int t_readOffset, .ref a_t_known, .ref a_t_value, .ref a_t_before, .ref a_t_open, .ref a_t_from, .int t_alike])), (a_t_text, .inl (kk 1, 60, .inl t_text)), (a_t_page, .inl (kk 1, 256, .inl t_page))] H → va_D A [(a_t, .inr (10, [.int t_length, .ref a_t_text, .int t_used, .ref a_t_page, .ref a_t_names, .ref a_t_sort, .ref a_t_code, .ref a_t_count, .ref a_t_around, .ref a_t_end, .ref a_t_size, .ref a_t_there, .ref a_t_wish, .ref a_t_have, .int t_far, .int t_momentParts, .long t_momentDay, .int t_momentSecond, .int t_momentNano, .int t_momentOffset, .int t_readParts, .long t_readDay, .int t_readSecond, .int t_readNano, .int t_readOffset, .ref a_t_known, .ref a_t_value, .ref a_t_before, .ref a_t_open, .ref a_t_from, .int t_alike])), (a_t_text, .inl (kk 1, 60, .inl t_text)), (a_t_page, .inl (kk 1, 256, .inl t_page))] → va_S A s.heap H locs → (∀ (H : Heap) (locs : List Loc) (ls : Array Slot), lv_has ls 2 [(0, .ref a_t), (1, .int v.1)] → va_P D classes [(a_t, .inr (10, [.int t_length, .ref a_t_text, .int t_used, .ref a_t_page, .ref a_t_names, .ref a_t_sort, .ref a_t_code, .ref a_t_count, .ref a_t_around, .ref a_t_end, .ref a_t_size, .ref a_t_there, .ref a_t_wish, .ref a_t_have, .int t_far, .int t_momentParts, .long t_momentDay, .int t_momentSecond, .int t_momentNano, .int t_momentOffset, .int t_readParts, .long t_readDay, .int t_readSecond, .int t_readNano, .int t_readOffset, .ref a_t_known, .ref a_t_value, .ref a_t_before, .ref a_t_open, .ref a_t_from, .int t_alike])), (a_t_text, .inl (kk 1, 60, .inl v.2)), (a_t_page, .inl (kk 1, 256, .inl t_page))] H → va_D A [(a_t, .inr (10, [.int t_length, .ref a_t_text, .int t_used, .ref a_t_page, .ref a_t_names, .ref a_t_sort, .ref a_t_code, .ref a_t_count, .ref a_t_around, .ref a_t_end, .ref a_t_size, .ref a_t_there, .ref a_t_wish, .ref a_t_have, .int t_far, .int t_momentParts, .long t_momentDay, .int t_momentSecond, .int t_momentNano, .int t_momentOffset, .int t_readParts, .long t_readDay, .int t_readSecond, .int t_readNano, .int t_readOffset, .ref a_t_known, .ref a_t_value, .ref a_t_before, .ref a_t_open, .ref a_t_from, .int t_alike])), (a_t_text, .inl (kk 1, 60, .inl v.2)), (a_t_page, .inl (kk 1, 256, .inl t_page))] → va_S A s.heap H locs → W p l e rm_SkeletonClockModel_copy s m args below meth c H locs 0 0 Q (F0 m 39 ls [])) → W p l e rm_SkeletonClockModel_copy s m args below meth c H locs 0 0 Q (F0 m 13 ls []) := by
  intro n
  induction n with
  | zero =>
    intro x1 t_text v H locs ls he hl hP hD hS K
    exact ih_n he
  | succ n ih =>
    intro x1 t_text v H locs ls he hl hP hD hS K
    have hx := S.1
    have hb := S.2.1
    have he : st_SkeletonClockModel_copy_13 t_used t_page (lp_SkeletonClockModel_copy_13 t_used t_page n) x1 t_text = some v := he
    unfold st_SkeletonClockModel_copy_13 at he
    refine lv_iload_n hx hb d_SkeletonClockModel_copy_13 rfl (lv_at hl 1 rfl) ?_
    refine lv_aload_n hx hb d_SkeletonClockModel_copy_14 rfl (lv_at hl 0 rfl) ?_
    refine k_get S X us_SkeletonClockModel hP 0 rfl rfl 2 (by decide) gm_4_153 rfl d_SkeletonClockModel_copy_15 ?_
    refine lv_icmp_ge (tgt := 39) hx hb d_SkeletonClockModel_copy_18 rfl (fun hc => ?_) (fun hc => ?_)
    · have he := ih_t hc he
      have hl : lv_has ls 2 [(0, .ref a_t), (1, .int x1)] := lv_sub hl [0, 1] rfl
      cases he
      exact K _ _ _ hl hP hD hS
    · have he := ih_f hc he
      refine lv_aload_n hx hb d_SkeletonClockModel_copy_21 rfl (lv_at hl 0 rfl) ?_
      refine k_get S X us_SkeletonClockModel hP 0 rfl rfl 1 (by decide) gm_4_152 rfl d_SkeletonClockModel_copy_22 ?_
      refine lv_iload_n hx hb d_SkeletonClockModel_copy_25 rfl (lv_at hl 1 rfl) ?_
      refine lv_aload_n hx hb d_SkeletonClockModel_copy_26 rfl (lv_at hl 0 rfl) ?_
      refine k_get S X us_SkeletonClockModel hP 0 rfl rfl 3 (by decide) gm_4_154 rfl d_SkeletonClockModel_copy_27 ?_
      refine lv_iload_n hx hb d_SkeletonClockModel_copy_30 rfl (lv_at hl 1 rfl) ?_
      obtain ⟨hi1, he⟩ := ih_g he
      refine va_cald hx hb X.1 hP 2 1 rfl rfl hi1 d_SkeletonClockModel_copy_31 ?_
      obtain ⟨hi2, he⟩ := ih_g he
      refine va_cast hx hb X.1 hP hD hS 1 1 rfl rfl hi2 d_SkeletonClockModel_copy_32 (fun H locs hP hD hS => ?_)
      have hP : va_P D classes [(a_t, .inr (10, [.int t_length, .ref a_t_text, .int t_used, .ref a_t_page, .ref a_t_names, .ref a_t_sort, .ref a_t_code, .ref a_t_count, .ref a_t_around, .ref a_t_end, .ref a_t_size, .ref a_t_there, .ref a_t_wish, .ref a_t_have, .int t_far, .int t_momentParts, .long t_momentDay, .int t_momentSecond, .int t_momentNano, .int t_momentOffset, .int t_readParts, .long t_readDay, .int t_readSecond, .int t_readNano, .int t_readOffset, .ref a_t_known, .ref a_t_value, .ref a_t_before, .ref a_t_open, .ref a_t_from, .int t_alike])), (a_t_text, .inl (kk 1, 60, .inl (upd t_text (x1).toNatClampNeg (vp_nar .char (t_page (x1).toNatClampNeg))))), (a_t_page, .inl (kk 1, 256, .inl t_page))] H := hP
      have hD : va_D A [(a_t, .inr (10, [.int t_length, .ref a_t_text, .int t_used, .ref a_t_page, .ref a_t_names, .ref a_t_sort, .ref a_t_code, .ref a_t_count, .ref a_t_around, .ref a_t_end, .ref a_t_size, .ref a_t_there, .ref a_t_wish, .ref a_t_have, .int t_far, .int t_momentParts, .long t_momentDay, .int t_momentSecond, .int t_momentNano, .int t_momentOffset, .int t_readParts, .long t_readDay, .int t_readSecond, .int t_readNano, .int t_readOffset, .ref a_t_known, .ref a_t_value, .ref a_t_before, .ref a_t_open, .ref a_t_from, .int t_alike])), (a_t_text, .inl (kk 1, 60, .inl (upd t_text (x1).toNatClampNeg (vp_nar .char (t_page (x1).toNatClampNeg))))), (a_t_page, .inl (kk 1, 256, .inl t_page))] := hD
      refine lv_iinc (k := 1) hx hb d_SkeletonClockModel_copy_33 hl rfl (ii_ (v := (1 : Int32)) (by decide)) (by decide) rfl (fun ls hl => ?_)
      have hl : lv_has ls 2 [(1, .int (x1 + (1 : Int32))), (0, .ref a_t)] := hl
      refine lv_goto (tgt := 13) hx hb d_SkeletonClockModel_copy_36 rfl ?_
      have hl : lv_has ls 2 [(0, .ref a_t), (1, .int (x1 + (1 : Int32)))] := lv_sub hl [1, 0] rfl
      exact ih _ _ _ _ _ _ he hl hP hD hS K
set_option maxHeartbeats 4000000 in
set_option maxRecDepth 100000 in
theorem c_SkeletonClockModel_copy (l : Launch) (D : va_G) (kk : Nat → ClassId) (st : Nat → Nat) (a_t a_t_text a_t_page a_t_names a_t_sort a_t_code a_t_count a_t_around a_t_end a_t_size a_t_there a_t_wish a_t_have a_t_known a_t_value a_t_before a_t_open a_t_from : Nat) (sz : Nat) (t_length : Int32) (t_used : Int32) (t_far : Int32) (t_momentParts : Int32) (t_momentDay : Int64) (t_momentSecond : Int32) (t_momentNano : Int32) (t_momentOffset : Int32) (t_readParts : Int32) (t_readDay : Int64) (t_readSecond : Int32) (t_readNano : Int32) (t_readOffset : Int32) (t_alike : Int32) (t_text : Nat → Int32) (t_page : Nat → Int32) (o : Int32 × Int32 × (Nat → Int32)) (he : f_SkeletonClockModel_copy t_length t_used t_text t_page = some o) : Met l y_SkeletonClockModel_copy (Cond.code y_SkeletonClockModel_copy b_SkeletonClockModel_copy 2 (some .boolean) :: GW) rm_SkeletonClockModel_copy (KPc D kk st [.ref a_t] [(a_t, .inr (10, [.int t_length, .ref a_t_text, .int t_used, .ref a_t_page, .ref a_t_names, .ref a_t_sort, .ref a_t_code, .ref a_t_count, .ref a_t_around, .ref a_t_end, .ref a_t_size, .ref a_t_there, .ref a_t_wish, .ref a_t_have, .int t_far, .int t_momentParts, .long t_momentDay, .int t_momentSecond, .int t_momentNano, .int t_momentOffset, .int t_readParts, .long t_readDay, .int t_readSecond, .int t_readNano, .int t_readOffset, .ref a_t_known, .ref a_t_value, .ref a_t_before, .ref a_t_open, .ref a_t_from, .int t_alike])), (a_t_text, .inl (kk 1, 60, .inl t_text)), (a_t_page, .inl (kk 1, 256, .inl t_page))] sz) (KQi D kk o.1 [(a_t, .inr (10, [.int o.2.1, .ref a_t_text, .int t_used, .ref a_t_page, .ref a_t_names, .ref a_t_sort, .ref a_t_code, .ref a_t_count, .ref a_t_around, .ref a_t_end, .ref a_t_size, .ref a_t_there, .ref a_t_wish, .ref a_t_have, .int t_far, .int t_momentParts, .long t_momentDay, .int t_momentSecond, .int t_momentNano, .int t_momentOffset, .int t_readParts, .long t_readDay, .int t_readSecond, .int t_readNano, .int t_readOffset, .ref a_t_known, .ref a_t_value, .ref a_t_before, .ref a_t_open, .ref a_t_from, .int t_alike])), (a_t_text, .inl (kk 1, 60, .inl o.2.2)), (a_t_page, .inl (kk 1, 256, .inl t_page))] (va_A [(a_t, .inr (10, [.int t_length, .ref a_t_text, .int t_used, .ref a_t_page, .ref a_t_names, .ref a_t_sort, .ref a_t_code, .ref a_t_count, .ref a_t_around, .ref a_t_end, .ref a_t_size, .ref a_t_there, .ref a_t_wish, .ref a_t_have, .int t_far, .int t_momentParts, .long t_momentDay, .int t_momentSecond, .int t_momentNano, .int t_momentOffset, .int t_readParts, .long t_readDay, .int t_readSecond, .int t_readNano, .int t_readOffset, .ref a_t_known, .ref a_t_value, .ref a_t_before, .ref a_t_open, .ref a_t_from, .int t_alike])), (a_t_text, .inl (kk 1, 60, .inl t_text)), (a_t_page, .inl (kk 1, 256, .inl t_page))] sz)) 0 0 (va_A [(a_t, .inr (10, [.int t_length, .ref a_t_text, .int t_used, .ref a_t_page, .ref a_t_names, .ref a_t_sort, .ref a_t_code, .ref a_t_count, .ref a_t_around, .ref a_t_end, .ref a_t_size, .ref a_t_there, .ref a_t_wish, .ref a_t_have, .int t_far, .int t_momentParts, .long t_momentDay, .int t_momentSecond, .int t_momentNano, .int t_momentOffset, .int t_readParts, .long t_readDay, .int t_readSecond, .int t_readNano, .int t_readOffset, .ref a_t_known, .ref a_t_value, .ref a_t_before, .ref a_t_open, .ref a_t_from, .int t_alike])), (a_t_text, .inl (kk 1, 60, .inl t_text)), (a_t_page, .inl (kk 1, 256, .inl t_page))] sz) := by
  refine k_start (Qc := fun A => KQi D kk o.1 [(a_t, .inr (10, [.int o.2.1, .ref a_t_text, .int t_used, .ref a_t_page, .ref a_t_names, .ref a_t_sort, .ref a_t_code, .ref a_t_count, .ref a_t_around, .ref a_t_end, .ref a_t_size, .ref a_t_there, .ref a_t_wish, .ref a_t_have, .int t_far, .int t_momentParts, .long t_momentDay, .int t_momentSecond, .int t_momentNano, .int t_momentOffset, .int t_readParts, .long t_readDay, .int t_readSecond, .int t_readNano, .int t_readOffset, .ref a_t_known, .ref a_t_value, .ref a_t_before, .ref a_t_open, .ref a_t_from, .int t_alike])), (a_t_text, .inl (kk 1, 60, .inl o.2.2)), (a_t_page, .inl (kk 1, 256, .inl t_page))] A) (by decide) (Nat.le_of_ble_eq_true rfl) ?_
  intro p e s m below meth c A ls S hnm hr hlk hA X hP hD hS hl
  have hl : lv_has ls 2 [(0, .ref a_t)] := hl
  have hx := S.1
  have hb := S.2.1
  unfold f_SkeletonClockModel_copy at he
  refine lv_aload_n hx hb d_SkeletonClockModel_copy_0 rfl (lv_at hl 0 rfl) ?_
  refine k_get S X us_SkeletonClockModel hP 0 rfl rfl 2 (by decide) gm_4_153 rfl d_SkeletonClockModel_copy_1 ?_
  refine lv_bipush (v := (60 : Int32)) hx hb d_SkeletonClockModel_copy_4 (by decide) ?_
  refine lv_icmp_le (tgt := 11) hx hb d_SkeletonClockModel_copy_6 rfl (fun hc => ?_) (fun hc => ?_)
  · have he := ih_t hc he
    refine lv_iconst (v := (0 : Int32)) hx hb d_SkeletonClockModel_copy_11 (by decide) ?_
    refine lv_istore_n hx hb d_SkeletonClockModel_copy_12 rfl hl (by decide) rfl (fun ls hl => ?_)
    have hl : lv_has ls 2 [(1, .int (0 : Int32)), (0, .ref a_t)] := hl
    obtain ⟨u3, e4, he⟩ := ih_b he
    have hl : lv_has ls 2 [(0, .ref a_t), (1, .int (0 : Int32))] := lv_sub hl [1, 0] rfl
    refine w_SkeletonClockModel_copy_13 a_t a_t_text a_t_page a_t_names a_t_sort a_t_code a_t_count a_t_around a_t_end a_t_size a_t_there a_t_wish a_t_have a_t_known a_t_value a_t_before a_t_open a_t_from t_length t_used t_far t_momentParts t_momentDay t_momentSecond t_momentNano t_momentOffset t_readParts t_readDay t_readSecond t_readNano t_readOffset t_alike t_page S hr hlk hA X FU (0 : Int32) t_text u3 _ _ ls e4 hl hP hD hS (fun H locs ls hl hP hD hS => ?_)
    refine lv_aload_n hx hb d_SkeletonClockModel_copy_39 rfl (lv_at hl 0 rfl) ?_
    refine lv_aload_n hx hb d_SkeletonClockModel_copy_40 rfl (lv_at hl 0 rfl) ?_
    refine k_get S X us_SkeletonClockModel hP 0 rfl rfl 2 (by decide) gm_4_153 rfl d_SkeletonClockModel_copy_41 ?_
    refine k_put S X us_SkeletonClockModel t_SkeletonClockModel t_SkeletonClockModel_ok n_SkeletonClockModel hP hD hS 0 rfl rfl 0 (by decide) gm_4_151 rfl rfl rfl (Nat.le_of_ble_eq_true rfl) d_SkeletonClockModel_copy_44 (fun H locs hP hD hS => ?_)
    have hP : va_P D classes [(a_t, .inr (10, [.int t_used, .ref a_t_text, .int t_used, .ref a_t_page, .ref a_t_names, .ref a_t_sort, .ref a_t_code, .ref a_t_count, .ref a_t_around, .ref a_t_end, .ref a_t_size, .ref a_t_there, .ref a_t_wish, .ref a_t_have, .int t_far, .int t_momentParts, .long t_momentDay, .int t_momentSecond, .int t_momentNano, .int t_momentOffset, .int t_readParts, .long t_readDay, .int t_readSecond, .int t_readNano, .int t_readOffset, .ref a_t_known, .ref a_t_value, .ref a_t_before, .ref a_t_open, .ref a_t_from, .int t_alike])), (a_t_text, .inl (kk 1, 60, .inl u3.2)), (a_t_page, .inl (kk 1, 256, .inl t_page))] H := hP
    have hD : va_D A [(a_t, .inr (10, [.int t_used, .ref a_t_text, .int t_used, .ref a_t_page, .ref a_t_names, .ref a_t_sort, .ref a_t_code, .ref a_t_count, .ref a_t_around, .ref a_t_end, .ref a_t_size, .ref a_t_there, .ref a_t_wish, .ref a_t_have, .int t_far, .int t_momentParts, .long t_momentDay, .int t_momentSecond, .int t_momentNano, .int t_momentOffset, .int t_readParts, .long t_readDay, .int t_readSecond, .int t_readNano, .int t_readOffset, .ref a_t_known, .ref a_t_value, .ref a_t_before, .ref a_t_open, .ref a_t_from, .int t_alike])), (a_t_text, .inl (kk 1, 60, .inl u3.2)), (a_t_page, .inl (kk 1, 256, .inl t_page))] := hD
    refine lv_iconst (v := (1 : Int32)) hx hb d_SkeletonClockModel_copy_47 (by decide) ?_
    cases he
    exact k_zre hx hb hr hlk X hP hD hS (Or.inr rfl) d_SkeletonClockModel_copy_48
  · have he := ih_f hc he
    refine lv_iconst (v := (0 : Int32)) hx hb d_SkeletonClockModel_copy_9 (by decide) ?_
    cases he
    exact k_zre hx hb hr hlk X hP hD hS (Or.inl rfl) d_SkeletonClockModel_copy_10
abbrev rm_SkeletonClockModel_small : Room := { frames := 0, cells := 0, slots := 0, locals := 0 }
set_option maxHeartbeats 4000000 in
set_option maxRecDepth 100000 in
theorem c_SkeletonClockModel_small (l : Launch) (D : va_G) (kk : Nat → ClassId) (st : Nat → Nat) (sz : Nat) (x0 : Int32) (o : Int32) (he : f_SkeletonClockModel_small x0 = some o) : Met l y_SkeletonClockModel_small (Cond.code y_SkeletonClockModel_small b_SkeletonClockModel_small 1 (some .int) :: GW) rm_SkeletonClockModel_small (KPc D kk st [.int x0] [] sz) (KQi D kk o [] (va_A [] sz)) 0 0 (va_A [] sz) := by
  refine k_start (Qc := fun A => KQi D kk o [] A) (by decide) (Nat.le_of_ble_eq_true rfl) ?_
  intro p e s m below meth c A ls S hnm hr hlk hA X hP hD hS hl
  have hl : lv_has ls 1 [(0, .int x0)] := hl
  have hx := S.1
  have hb := S.2.1
  unfold f_SkeletonClockModel_small at he
  refine lv_iload_n hx hb d_SkeletonClockModel_small_0 rfl (lv_at hl 0 rfl) ?_
  refine lv_bipush (v := (65 : Int32)) hx hb d_SkeletonClockModel_small_1 (by decide) ?_
  refine lv_icmp_lt (tgt := 19) hx hb d_SkeletonClockModel_small_3 rfl (fun hc => ?_) (fun hc => ?_)
  · have he := ih_t hc he
    refine lv_iload_n hx hb d_SkeletonClockModel_small_19 rfl (lv_at hl 0 rfl) ?_
    cases he
    exact k_ire hx hb hr hlk X hP hD hS d_SkeletonClockModel_small_20
  · have he := ih_f hc he
    refine lv_iload_n hx hb d_SkeletonClockModel_small_6 rfl (lv_at hl 0 rfl) ?_
    refine lv_bipush (v := (90 : Int32)) hx hb d_SkeletonClockModel_small_7 (by decide) ?_
    refine lv_icmp_gt (tgt := 19) hx hb d_SkeletonClockModel_small_9 rfl (fun hc => ?_) (fun hc => ?_)
    · have he := ih_t hc he
      refine lv_iload_n hx hb d_SkeletonClockModel_small_19 rfl (lv_at hl 0 rfl) ?_
      cases he
      exact k_ire hx hb hr hlk X hP hD hS d_SkeletonClockModel_small_20
    · have he := ih_f hc he
      refine lv_iload_n hx hb d_SkeletonClockModel_small_12 rfl (lv_at hl 0 rfl) ?_
      refine lv_bipush (v := (32 : Int32)) hx hb d_SkeletonClockModel_small_13 (by decide) ?_
      refine lv_iadd hx hb d_SkeletonClockModel_small_15 ?_
      refine lv_goto (tgt := 20) hx hb d_SkeletonClockModel_small_16 rfl ?_
      cases he
      exact k_ire hx hb hr hlk X hP hD hS d_SkeletonClockModel_small_20
abbrev rm_SkeletonClockModel_stands : Room := { frames := 1, cells := 0, slots := 0, locals := 21 }
set_option maxHeartbeats 4000000 in
set_option maxRecDepth 100000 in
theorem c_SkeletonClockModel_stands (l : Launch) (D : va_G) (kk : Nat → ClassId) (st : Nat → Nat) (a_t a_t_text a_t_page a_t_names a_t_sort a_t_code a_t_count a_t_around a_t_end a_t_size a_t_there a_t_wish a_t_have a_t_known a_t_value a_t_before a_t_open a_t_from : Nat) (sz : Nat) (t_length : Int32) (t_used : Int32) (t_far : Int32) (t_momentParts : Int32) (t_momentDay : Int64) (t_momentSecond : Int32) (t_momentNano : Int32) (t_momentOffset : Int32) (t_readParts : Int32) (t_readDay : Int64) (t_readSecond : Int32) (t_readNano : Int32) (t_readOffset : Int32) (t_alike : Int32) (t_text : Nat → Int32) (x1 : Int32) (x2 : Int32) (o : Int32) (he : f_SkeletonClockModel_stands t_length t_alike t_text x1 x2 = some o) : Met l y_SkeletonClockModel_stands (Cond.code y_SkeletonClockModel_stands b_SkeletonClockModel_stands 3 (some .boolean) :: GW) rm_SkeletonClockModel_stands (KPc D kk st [.ref a_t, .int x1, .int x2] [(a_t, .inr (10, [.int t_length, .ref a_t_text, .int t_used, .ref a_t_page, .ref a_t_names, .ref a_t_sort, .ref a_t_code, .ref a_t_count, .ref a_t_around, .ref a_t_end, .ref a_t_size, .ref a_t_there, .ref a_t_wish, .ref a_t_have, .int t_far, .int t_momentParts, .long t_momentDay, .int t_momentSecond, .int t_momentNano, .int t_momentOffset, .int t_readParts, .long t_readDay, .int t_readSecond, .int t_readNano, .int t_readOffset, .ref a_t_known, .ref a_t_value, .ref a_t_before, .ref a_t_open, .ref a_t_from, .int t_alike])), (a_t_text, .inl (kk 1, 60, .inl t_text))] sz) (KQi D kk o [(a_t, .inr (10, [.int t_length, .ref a_t_text, .int t_used, .ref a_t_page, .ref a_t_names, .ref a_t_sort, .ref a_t_code, .ref a_t_count, .ref a_t_around, .ref a_t_end, .ref a_t_size, .ref a_t_there, .ref a_t_wish, .ref a_t_have, .int t_far, .int t_momentParts, .long t_momentDay, .int t_momentSecond, .int t_momentNano, .int t_momentOffset, .int t_readParts, .long t_readDay, .int t_readSecond, .int t_readNano, .int t_readOffset, .ref a_t_known, .ref a_t_value, .ref a_t_before, .ref a_t_open, .ref a_t_from, .int t_alike])), (a_t_text, .inl (kk 1, 60, .inl t_text))] (va_A [(a_t, .inr (10, [.int t_length, .ref a_t_text, .int t_used, .ref a_t_page, .ref a_t_names, .ref a_t_sort, .ref a_t_code, .ref a_t_count, .ref a_t_around, .ref a_t_end, .ref a_t_size, .ref a_t_there, .ref a_t_wish, .ref a_t_have, .int t_far, .int t_momentParts, .long t_momentDay, .int t_momentSecond, .int t_momentNano, .int t_momentOffset, .int t_readParts, .long t_readDay, .int t_readSecond, .int t_readNano, .int t_readOffset, .ref a_t_known, .ref a_t_value, .ref a_t_before, .ref a_t_open, .ref a_t_from, .int t_alike])), (a_t_text, .inl (kk 1, 60, .inl t_text))] sz)) 0 0 (va_A [(a_t, .inr (10, [.int t_length, .ref a_t_text, .int t_used, .ref a_t_page, .ref a_t_names, .ref a_t_sort, .ref a_t_code, .ref a_t_count, .ref a_t_around, .ref a_t_end, .ref a_t_size, .ref a_t_there, .ref a_t_wish, .ref a_t_have, .int t_far, .int t_momentParts, .long t_momentDay, .int t_momentSecond, .int t_momentNano, .int t_momentOffset, .int t_readParts, .long t_readDay, .int t_readSecond, .int t_readNano, .int t_readOffset, .ref a_t_known, .ref a_t_value, .ref a_t_before, .ref a_t_open, .ref a_t_from, .int t_alike])), (a_t_text, .inl (kk 1, 60, .inl t_text))] sz) := by
  refine k_start (Qc := fun A => KQi D kk o [(a_t, .inr (10, [.int t_length, .ref a_t_text, .int t_used, .ref a_t_page, .ref a_t_names, .ref a_t_sort, .ref a_t_code, .ref a_t_count, .ref a_t_around, .ref a_t_end, .ref a_t_size, .ref a_t_there, .ref a_t_wish, .ref a_t_have, .int t_far, .int t_momentParts, .long t_momentDay, .int t_momentSecond, .int t_momentNano, .int t_momentOffset, .int t_readParts, .long t_readDay, .int t_readSecond, .int t_readNano, .int t_readOffset, .ref a_t_known, .ref a_t_value, .ref a_t_before, .ref a_t_open, .ref a_t_from, .int t_alike])), (a_t_text, .inl (kk 1, 60, .inl t_text))] A) (by decide) (Nat.le_of_ble_eq_true rfl) ?_
  intro p e s m below meth c A ls S hnm hr hlk hA X hP hD hS hl
  have hl : lv_has ls 3 [(0, .ref a_t), (1, .int x1), (2, .int x2)] := hl
  have hx := S.1
  have hb := S.2.1
  unfold f_SkeletonClockModel_stands at he
  refine lv_iload_n hx hb d_SkeletonClockModel_stands_0 rfl (lv_at hl 1 rfl) ?_
  refine lv_aload_n hx hb d_SkeletonClockModel_stands_1 rfl (lv_at hl 0 rfl) ?_
  refine k_get S X us_SkeletonClockModel hP 0 rfl rfl 0 (by decide) gm_4_151 rfl d_SkeletonClockModel_stands_2 ?_
  refine lv_icmp_ge (tgt := 43) hx hb d_SkeletonClockModel_stands_5 rfl (fun hc => ?_) (fun hc => ?_)
  · have he := ih_t hc he
    refine lv_iconst (v := (0 : Int32)) hx hb d_SkeletonClockModel_stands_43 (by decide) ?_
    cases he
    exact k_zre hx hb hr hlk X hP hD hS (Or.inl rfl) d_SkeletonClockModel_stands_44
  · have he := ih_f hc he
    refine lv_aload_n hx hb d_SkeletonClockModel_stands_8 rfl (lv_at hl 0 rfl) ?_
    refine lv_iload_n hx hb d_SkeletonClockModel_stands_9 rfl (lv_at hl 1 rfl) ?_
    obtain ⟨u1, e2, he⟩ := ih_b he
    refine k_io (r_V (As := [.int x1]) S X hA hP hD hS (c_SkeletonClockModel_at l D kk st a_t a_t_text a_t_page a_t_names a_t_sort a_t_code a_t_count a_t_around a_t_end a_t_size a_t_there a_t_wish a_t_have a_t_known a_t_value a_t_before a_t_open a_t_from _ t_length t_used t_far t_momentParts t_momentDay t_momentSecond t_momentNano t_momentOffset t_readParts t_readDay t_readSecond t_readNano t_readOffset t_alike t_text x1 u1 e2) gm_5_21 gm_5_18 gm_5_20 gm_p3_0 gm_1_13 ⟨rfl, rfl, by decide, by decide⟩ kd_SkeletonClockModel_at [0, 1] rfl rfl rfl 0 10 rfl rfl rfl rfl hl.1 rfl (Nat.le_of_ble_eq_true rfl) d_SkeletonClockModel_stands_10 ⟨Nat.zero_le _, Nat.zero_le _⟩) hA hP hD hS [0, 1] rfl (fun H locs hP hS => ?_)
    refine lv_iload_n hx hb d_SkeletonClockModel_stands_13 rfl (lv_at hl 2 rfl) ?_
    refine lv_icmp_eq (tgt := 39) hx hb d_SkeletonClockModel_stands_14 rfl (fun hc => ?_) (fun hc => ?_)
    · have he := ih_t hc he
      refine lv_iconst (v := (1 : Int32)) hx hb d_SkeletonClockModel_stands_39 (by decide) ?_
      refine lv_goto (tgt := 44) hx hb d_SkeletonClockModel_stands_40 rfl ?_
      cases he
      exact k_zre hx hb hr hlk X hP hD hS (Or.inr rfl) d_SkeletonClockModel_stands_44
    · have he := ih_f hc he
      refine lv_aload_n hx hb d_SkeletonClockModel_stands_17 rfl (lv_at hl 0 rfl) ?_
      refine k_get S X us_SkeletonClockModel hP 0 rfl rfl 30 (by decide) gm_4_181 rfl d_SkeletonClockModel_stands_18 ?_
      refine lv_if_eq (tgt := 43) hx hb d_SkeletonClockModel_stands_21 rfl (fun hc => ?_) (fun hc => ?_)
      · have he := ih_t hc he
        refine lv_iconst (v := (0 : Int32)) hx hb d_SkeletonClockModel_stands_43 (by decide) ?_
        cases he
        exact k_zre hx hb hr hlk X hP hD hS (Or.inl rfl) d_SkeletonClockModel_stands_44
      · have he := ih_f hc he
        refine lv_aload_n hx hb d_SkeletonClockModel_stands_24 rfl (lv_at hl 0 rfl) ?_
        refine lv_iload_n hx hb d_SkeletonClockModel_stands_25 rfl (lv_at hl 1 rfl) ?_
        obtain ⟨u3, e4, he⟩ := ih_b he
        refine k_io (r_V (As := [.int x1]) S X hA hP hD hS (c_SkeletonClockModel_at l D kk st a_t a_t_text a_t_page a_t_names a_t_sort a_t_code a_t_count a_t_around a_t_end a_t_size a_t_there a_t_wish a_t_have a_t_known a_t_value a_t_before a_t_open a_t_from _ t_length t_used t_far t_momentParts t_momentDay t_momentSecond t_momentNano t_momentOffset t_readParts t_readDay t_readSecond t_readNano t_readOffset t_alike t_text x1 u3 e4) gm_5_21 gm_5_18 gm_5_20 gm_p3_0 gm_1_13 ⟨rfl, rfl, by decide, by decide⟩ kd_SkeletonClockModel_at [0, 1] rfl rfl rfl 0 10 rfl rfl rfl rfl hl.1 rfl (Nat.le_of_ble_eq_true rfl) d_SkeletonClockModel_stands_26 ⟨Nat.zero_le _, Nat.zero_le _⟩) hA hP hD hS [0, 1] rfl (fun H locs hP hS => ?_)
        obtain ⟨u5, e6, he⟩ := ih_b he
        refine k_io (r_S (As := [.int u3]) S X hA hP hD hS (c_SkeletonClockModel_small l D kk st _ u3 u5 e6) gm_5_187 gm_5_185 gm_5_186 gm_1_13 ⟨rfl, rfl, by decide, by decide⟩ kd_SkeletonClockModel_small [] rfl rfl rfl rfl hl.1 rfl (Nat.le_of_ble_eq_true rfl) d_SkeletonClockModel_stands_29 ⟨Nat.zero_le _, Nat.zero_le _⟩) hA hP hD hS [] rfl (fun H locs hP hS => ?_)
        refine lv_iload_n hx hb d_SkeletonClockModel_stands_32 rfl (lv_at hl 2 rfl) ?_
        obtain ⟨u7, e8, he⟩ := ih_b he
        refine k_io (r_S (As := [.int x2]) S X hA hP hD hS (c_SkeletonClockModel_small l D kk st _ x2 u7 e8) gm_5_187 gm_5_185 gm_5_186 gm_1_13 ⟨rfl, rfl, by decide, by decide⟩ kd_SkeletonClockModel_small [] rfl rfl rfl rfl hl.1 rfl (Nat.le_of_ble_eq_true rfl) d_SkeletonClockModel_stands_33 ⟨Nat.zero_le _, Nat.zero_le _⟩) hA hP hD hS [] rfl (fun H locs hP hS => ?_)
        refine lv_icmp_ne (tgt := 43) hx hb d_SkeletonClockModel_stands_36 rfl (fun hc => ?_) (fun hc => ?_)
        · have he := ih_f hc he
          refine lv_iconst (v := (0 : Int32)) hx hb d_SkeletonClockModel_stands_43 (by decide) ?_
          cases he
          exact k_zre hx hb hr hlk X hP hD hS (Or.inl rfl) d_SkeletonClockModel_stands_44
        · have he := ih_t hc he
          refine lv_iconst (v := (1 : Int32)) hx hb d_SkeletonClockModel_stands_39 (by decide) ?_
          refine lv_goto (tgt := 44) hx hb d_SkeletonClockModel_stands_40 rfl ?_
          cases he
          exact k_zre hx hb hr hlk X hP hD hS (Or.inr rfl) d_SkeletonClockModel_stands_44
abbrev rm_SkeletonClockModel_digitsAt : Room := { frames := 1, cells := 0, slots := 0, locals := 21 }
set_option maxHeartbeats 4000000 in
set_option maxRecDepth 100000 in
theorem w_SkeletonClockModel_digitsAt_2 {p : Program} {l : Launch} {e : Env} {s : State} {m : MethodId} {args : Array Value} {below : List Frame} {meth : Method} {c : Code} {Q : State → Prop} {A : Nat → Prop} {D : va_G} {kk : Nat → ClassId} {st : Nat → Nat} (a_t a_t_text a_t_page a_t_names a_t_sort a_t_code a_t_count a_t_around a_t_end a_t_size a_t_there a_t_wish a_t_have a_t_known a_t_value a_t_before a_t_open a_t_from : Nat) (t_length : Int32) (t_used : Int32) (t_far : Int32) (t_momentParts : Int32) (t_momentDay : Int64) (t_momentSecond : Int32) (t_momentNano : Int32) (t_momentOffset : Int32) (t_readParts : Int32) (t_readDay : Int64) (t_readSecond : Int32) (t_readNano : Int32) (t_readOffset : Int32) (t_alike : Int32) (t_text : Nat → Int32) (x1 : Int32) (x2 : Int32) (S : CallFix p m c b_SkeletonClockModel_digitsAt 4 s args GW y_SkeletonClockModel_digitsAt.cls) (hr : meth.sig.returnType = (some .int)) (hlk : meth.locks = false) (hA : ∀ q, s.heap.size ≤ q → A q) (X : KX D kk st A s) : ∀ (n : Nat) (x3 : Int32) (v : Int32) (H : Heap) (locs : List Loc) (ls : Array Slot), lp_SkeletonClockModel_digitsAt_2 t_length t_text x1 x2 n x3 = some v → lv_has ls 4 [(0, .ref a_t), (1, .int x1), (2, .int x2), (3, .int x3)] → va_P D classes [(a_t, .inr (10, [.int t_length, .ref a_t_text, .int t_used, .ref a_t_page, .ref a_t_names, .ref a_t_sort, .ref a_t_code, .ref a_t_count, .ref a_t_around, .ref a_t_end, .ref a_t_size, .ref a_t_there, .ref a_t_wish, .ref a_t_have, .int t_far, .int t_momentParts, .long t_momentDay, .int t_momentSecond, .int t_momentNano, .int t_momentOffset, .int t_readParts, .long t_readDay, .int t_readSecond, .int t_readNano, .int t_readOffset, .ref a_t_known, .ref a_t_value, .ref a_t_before, .ref a_t_open, .ref a_t_from, .int t_alike])), (a_t_text, .inl (kk 1, 60, .inl t_text))] H → va_D A [(a_t, .inr (10, [.int t_length, .ref a_t_text, .int t_used, .ref a_t_page, .ref a_t_names, .ref a_t_sort, .ref a_t_code, .ref a_t_count, .ref a_t_around, .ref a_t_end, .ref a_t_size, .ref a_t_there, .ref a_t_wish, .ref a_t_have, .int t_far, .int t_momentParts, .long t_momentDay, .int t_momentSecond, .int t_momentNano, .int t_momentOffset, .int t_readParts, .long t_readDay, .int t_readSecond, .int t_readNano, .int t_readOffset, .ref a_t_known, .ref a_t_value, .ref a_t_before, .ref a_t_open, .ref a_t_from, .int t_alike])), (a_t_text, .inl (kk 1, 60, .inl t_text))] → va_S A s.heap H locs → (∀ (H : Heap) (locs : List Loc) (ls : Array Slot), lv_has ls 4 [(0, .ref a_t), (1, .int x1), (2, .int x2), (3, .int v)] → va_P D classes [(a_t, .inr (10, [.int t_length, .ref a_t_text, .int t_used, .ref a_t_page, .ref a_t_names, .ref a_t_sort, .ref a_t_code, .ref a_t_count, .ref a_t_around, .ref a_t_end, .ref a_t_size, .ref a_t_there, .ref a_t_wish, .ref a_t_have, .int t_far, .int t_momentParts, .long t_momentDay, .int t_momentSecond, .int t_momentNano, .int t_momentOffset, .int t_readParts, .long t_readDay, .int t_readSecond, .int t_readNano, .int t_readOffset, .ref a_t_known, .ref a_t_value, .ref a_t_before, .ref a_t_open, .ref a_t_from, .int t_alike])), (a_t_text, .inl (kk 1, 60, .inl t_text))] H → va_D A [(a_t, .inr (10, [.int t_length, .ref a_t_text, .int t_used, .ref a_t_page, .ref a_t_names, .ref a_t_sort, .ref a_t_code, .ref a_t_count, .ref a_t_around, .ref a_t_end, .ref a_t_size, .ref a_t_there, .ref a_t_wish, .ref a_t_have, .int t_far, .int t_momentParts, .long t_momentDay, .int t_momentSecond, .int t_momentNano, .int t_momentOffset, .int t_readParts, .long t_readDay, .int t_readSecond, .int t_readNano, .int t_readOffset, .ref a_t_known, .ref a_t_value, .ref a_t_before, .ref a_t_open, .ref a_t_from, .int t_alike])), (a_t_text, .inl (kk 1, 60, .inl t_text))] → va_S A s.heap H locs → W p l e rm_SkeletonClockModel_digitsAt s m args below meth c H locs 0 0 Q (F0 m 37 ls [])) → W p l e rm_SkeletonClockModel_digitsAt s m args below meth c H locs 0 0 Q (F0 m 2 ls []) := by
  intro n
  induction n with
  | zero =>
    intro x3 v H locs ls he hl hP hD hS K
    exact ih_n he
  | succ n ih =>
    intro x3 v H locs ls he hl hP hD hS K
    have hx := S.1
    have hb := S.2.1
    have he : st_SkeletonClockModel_digitsAt_2 t_length t_text x1 x2 (lp_SkeletonClockModel_digitsAt_2 t_length t_text x1 x2 n) x3 = some v := he
    unfold st_SkeletonClockModel_digitsAt_2 at he
    refine lv_iload_n hx hb d_SkeletonClockModel_digitsAt_2 rfl (lv_at hl 3 rfl) ?_
    refine lv_iload_n hx hb d_SkeletonClockModel_digitsAt_3 rfl (lv_at hl 2 rfl) ?_
    refine lv_icmp_ge (tgt := 37) hx hb d_SkeletonClockModel_digitsAt_4 rfl (fun hc => ?_) (fun hc => ?_)
    · have he := ih_t hc he
      have hl : lv_has ls 4 [(0, .ref a_t), (1, .int x1), (2, .int x2), (3, .int x3)] := lv_sub hl [0, 1, 2, 3] rfl
      cases he
      exact K _ _ _ hl hP hD hS
    · have he := ih_f hc he
      refine lv_aload_n hx hb d_SkeletonClockModel_digitsAt_7 rfl (lv_at hl 0 rfl) ?_
      refine lv_iload_n hx hb d_SkeletonClockModel_digitsAt_8 rfl (lv_at hl 1 rfl) ?_
      refine lv_iload_n hx hb d_SkeletonClockModel_digitsAt_9 rfl (lv_at hl 3 rfl) ?_
      refine lv_iadd hx hb d_SkeletonClockModel_digitsAt_10 ?_
      obtain ⟨u1, e2, he⟩ := ih_b he
      refine k_io (r_V (As := [.int (x1 + x3)]) S X hA hP hD hS (c_SkeletonClockModel_at l D kk st a_t a_t_text a_t_page a_t_names a_t_sort a_t_code a_t_count a_t_around a_t_end a_t_size a_t_there a_t_wish a_t_have a_t_known a_t_value a_t_before a_t_open a_t_from _ t_length t_used t_far t_momentParts t_momentDay t_momentSecond t_momentNano t_momentOffset t_readParts t_readDay t_readSecond t_readNano t_readOffset t_alike t_text (x1 + x3) u1 e2) gm_5_21 gm_5_18 gm_5_20 gm_p3_0 gm_1_13 ⟨rfl, rfl, by decide, by decide⟩ kd_SkeletonClockModel_at [0, 1] rfl rfl rfl 0 10 rfl rfl rfl rfl hl.1 rfl (Nat.le_of_ble_eq_true rfl) d_SkeletonClockModel_digitsAt_11 ⟨Nat.zero_le _, Nat.zero_le _⟩) hA hP hD hS [0, 1] rfl (fun H locs hP hS => ?_)
      refine lv_bipush (v := (48 : Int32)) hx hb d_SkeletonClockModel_digitsAt_14 (by decide) ?_
      refine lv_icmp_lt (tgt := 37) hx hb d_SkeletonClockModel_digitsAt_16 rfl (fun hc => ?_) (fun hc => ?_)
      · have he := ih_t hc he
        have hl : lv_has ls 4 [(0, .ref a_t), (1, .int x1), (2, .int x2), (3, .int x3)] := lv_sub hl [0, 1, 2, 3] rfl
        cases he
        exact K _ _ _ hl hP hD hS
      · have he := ih_f hc he
        refine lv_aload_n hx hb d_SkeletonClockModel_digitsAt_19 rfl (lv_at hl 0 rfl) ?_
        refine lv_iload_n hx hb d_SkeletonClockModel_digitsAt_20 rfl (lv_at hl 1 rfl) ?_
        refine lv_iload_n hx hb d_SkeletonClockModel_digitsAt_21 rfl (lv_at hl 3 rfl) ?_
        refine lv_iadd hx hb d_SkeletonClockModel_digitsAt_22 ?_
        obtain ⟨u3, e4, he⟩ := ih_b he
        refine k_io (r_V (As := [.int (x1 + x3)]) S X hA hP hD hS (c_SkeletonClockModel_at l D kk st a_t a_t_text a_t_page a_t_names a_t_sort a_t_code a_t_count a_t_around a_t_end a_t_size a_t_there a_t_wish a_t_have a_t_known a_t_value a_t_before a_t_open a_t_from _ t_length t_used t_far t_momentParts t_momentDay t_momentSecond t_momentNano t_momentOffset t_readParts t_readDay t_readSecond t_readNano t_readOffset t_alike t_text (x1 + x3) u3 e4) gm_5_21 gm_5_18 gm_5_20 gm_p3_0 gm_1_13 ⟨rfl, rfl, by decide, by decide⟩ kd_SkeletonClockModel_at [0, 1] rfl rfl rfl 0 10 rfl rfl rfl rfl hl.1 rfl (Nat.le_of_ble_eq_true rfl) d_SkeletonClockModel_digitsAt_23 ⟨Nat.zero_le _, Nat.zero_le _⟩) hA hP hD hS [0, 1] rfl (fun H locs hP hS => ?_)
        refine lv_bipush (v := (57 : Int32)) hx hb d_SkeletonClockModel_digitsAt_26 (by decide) ?_
        refine lv_icmp_gt (tgt := 37) hx hb d_SkeletonClockModel_digitsAt_28 rfl (fun hc => ?_) (fun hc => ?_)
        · have he := ih_t hc he
          have hl : lv_has ls 4 [(0, .ref a_t), (1, .int x1), (2, .int x2), (3, .int x3)] := lv_sub hl [0, 1, 2, 3] rfl
          cases he
          exact K _ _ _ hl hP hD hS
        · have he := ih_f hc he
          refine lv_iinc (k := 3) hx hb d_SkeletonClockModel_digitsAt_31 hl rfl (ii_ (v := (1 : Int32)) (by decide)) (by decide) rfl (fun ls hl => ?_)
          have hl : lv_has ls 4 [(3, .int (x3 + (1 : Int32))), (0, .ref a_t), (1, .int x1), (2, .int x2)] := hl
          refine lv_goto (tgt := 2) hx hb d_SkeletonClockModel_digitsAt_34 rfl ?_
          have hl : lv_has ls 4 [(0, .ref a_t), (1, .int x1), (2, .int x2), (3, .int (x3 + (1 : Int32)))] := lv_sub hl [1, 2, 3, 0] rfl
          exact ih _ _ _ _ _ he hl hP hD hS K
set_option maxHeartbeats 4000000 in
set_option maxRecDepth 100000 in
theorem c_SkeletonClockModel_digitsAt (l : Launch) (D : va_G) (kk : Nat → ClassId) (st : Nat → Nat) (a_t a_t_text a_t_page a_t_names a_t_sort a_t_code a_t_count a_t_around a_t_end a_t_size a_t_there a_t_wish a_t_have a_t_known a_t_value a_t_before a_t_open a_t_from : Nat) (sz : Nat) (t_length : Int32) (t_used : Int32) (t_far : Int32) (t_momentParts : Int32) (t_momentDay : Int64) (t_momentSecond : Int32) (t_momentNano : Int32) (t_momentOffset : Int32) (t_readParts : Int32) (t_readDay : Int64) (t_readSecond : Int32) (t_readNano : Int32) (t_readOffset : Int32) (t_alike : Int32) (t_text : Nat → Int32) (x1 : Int32) (x2 : Int32) (o : Int32) (he : f_SkeletonClockModel_digitsAt t_length t_text x1 x2 = some o) : Met l y_SkeletonClockModel_digitsAt (Cond.code y_SkeletonClockModel_digitsAt b_SkeletonClockModel_digitsAt 4 (some .int) :: GW) rm_SkeletonClockModel_digitsAt (KPc D kk st [.ref a_t, .int x1, .int x2] [(a_t, .inr (10, [.int t_length, .ref a_t_text, .int t_used, .ref a_t_page, .ref a_t_names, .ref a_t_sort, .ref a_t_code, .ref a_t_count, .ref a_t_around, .ref a_t_end, .ref a_t_size, .ref a_t_there, .ref a_t_wish, .ref a_t_have, .int t_far, .int t_momentParts, .long t_momentDay, .int t_momentSecond, .int t_momentNano, .int t_momentOffset, .int t_readParts, .long t_readDay, .int t_readSecond, .int t_readNano, .int t_readOffset, .ref a_t_known, .ref a_t_value, .ref a_t_before, .ref a_t_open, .ref a_t_from, .int t_alike])), (a_t_text, .inl (kk 1, 60, .inl t_text))] sz) (KQi D kk o [(a_t, .inr (10, [.int t_length, .ref a_t_text, .int t_used, .ref a_t_page, .ref a_t_names, .ref a_t_sort, .ref a_t_code, .ref a_t_count, .ref a_t_around, .ref a_t_end, .ref a_t_size, .ref a_t_there, .ref a_t_wish, .ref a_t_have, .int t_far, .int t_momentParts, .long t_momentDay, .int t_momentSecond, .int t_momentNano, .int t_momentOffset, .int t_readParts, .long t_readDay, .int t_readSecond, .int t_readNano, .int t_readOffset, .ref a_t_known, .ref a_t_value, .ref a_t_before, .ref a_t_open, .ref a_t_from, .int t_alike])), (a_t_text, .inl (kk 1, 60, .inl t_text))] (va_A [(a_t, .inr (10, [.int t_length, .ref a_t_text, .int t_used, .ref a_t_page, .ref a_t_names, .ref a_t_sort, .ref a_t_code, .ref a_t_count, .ref a_t_around, .ref a_t_end, .ref a_t_size, .ref a_t_there, .ref a_t_wish, .ref a_t_have, .int t_far, .int t_momentParts, .long t_momentDay, .int t_momentSecond, .int t_momentNano, .int t_momentOffset, .int t_readParts, .long t_readDay, .int t_readSecond, .int t_readNano, .int t_readOffset, .ref a_t_known, .ref a_t_value, .ref a_t_before, .ref a_t_open, .ref a_t_from, .int t_alike])), (a_t_text, .inl (kk 1, 60, .inl t_text))] sz)) 0 0 (va_A [(a_t, .inr (10, [.int t_length, .ref a_t_text, .int t_used, .ref a_t_page, .ref a_t_names, .ref a_t_sort, .ref a_t_code, .ref a_t_count, .ref a_t_around, .ref a_t_end, .ref a_t_size, .ref a_t_there, .ref a_t_wish, .ref a_t_have, .int t_far, .int t_momentParts, .long t_momentDay, .int t_momentSecond, .int t_momentNano, .int t_momentOffset, .int t_readParts, .long t_readDay, .int t_readSecond, .int t_readNano, .int t_readOffset, .ref a_t_known, .ref a_t_value, .ref a_t_before, .ref a_t_open, .ref a_t_from, .int t_alike])), (a_t_text, .inl (kk 1, 60, .inl t_text))] sz) := by
  refine k_start (Qc := fun A => KQi D kk o [(a_t, .inr (10, [.int t_length, .ref a_t_text, .int t_used, .ref a_t_page, .ref a_t_names, .ref a_t_sort, .ref a_t_code, .ref a_t_count, .ref a_t_around, .ref a_t_end, .ref a_t_size, .ref a_t_there, .ref a_t_wish, .ref a_t_have, .int t_far, .int t_momentParts, .long t_momentDay, .int t_momentSecond, .int t_momentNano, .int t_momentOffset, .int t_readParts, .long t_readDay, .int t_readSecond, .int t_readNano, .int t_readOffset, .ref a_t_known, .ref a_t_value, .ref a_t_before, .ref a_t_open, .ref a_t_from, .int t_alike])), (a_t_text, .inl (kk 1, 60, .inl t_text))] A) (by decide) (Nat.le_of_ble_eq_true rfl) ?_
  intro p e s m below meth c A ls S hnm hr hlk hA X hP hD hS hl
  have hl : lv_has ls 4 [(0, .ref a_t), (1, .int x1), (2, .int x2)] := hl
  have hx := S.1
  have hb := S.2.1
  unfold f_SkeletonClockModel_digitsAt at he
  refine lv_iconst (v := (0 : Int32)) hx hb d_SkeletonClockModel_digitsAt_0 (by decide) ?_
  refine lv_istore_n hx hb d_SkeletonClockModel_digitsAt_1 rfl hl (by decide) rfl (fun ls hl => ?_)
  have hl : lv_has ls 4 [(3, .int (0 : Int32)), (0, .ref a_t), (1, .int x1), (2, .int x2)] := hl
  obtain ⟨u5, e6, he⟩ := ih_b he
  have hl : lv_has ls 4 [(0, .ref a_t), (1, .int x1), (2, .int x2), (3, .int (0 : Int32))] := lv_sub hl [1, 2, 3, 0] rfl
  refine w_SkeletonClockModel_digitsAt_2 a_t a_t_text a_t_page a_t_names a_t_sort a_t_code a_t_count a_t_around a_t_end a_t_size a_t_there a_t_wish a_t_have a_t_known a_t_value a_t_before a_t_open a_t_from t_length t_used t_far t_momentParts t_momentDay t_momentSecond t_momentNano t_momentOffset t_readParts t_readDay t_readSecond t_readNano t_readOffset t_alike t_text x1 x2 S hr hlk hA X FU (0 : Int32) u5 _ _ ls e6 hl hP hD hS (fun H locs ls hl hP hD hS => ?_)
  refine lv_iload_n hx hb d_SkeletonClockModel_digitsAt_37 rfl (lv_at hl 3 rfl) ?_
  cases he
  exact k_ire hx hb hr hlk X hP hD hS d_SkeletonClockModel_digitsAt_38
abbrev rm_SkeletonClockModel_numberAt : Room := { frames := 1, cells := 0, slots := 0, locals := 21 }
set_option maxHeartbeats 4000000 in
set_option maxRecDepth 100000 in
theorem w_SkeletonClockModel_numberAt_5 {p : Program} {l : Launch} {e : Env} {s : State} {m : MethodId} {args : Array Value} {below : List Frame} {meth : Method} {c : Code} {Q : State → Prop} {A : Nat → Prop} {D : va_G} {kk : Nat → ClassId} {st : Nat → Nat} (a_t a_t_text a_t_page a_t_names a_t_sort a_t_code a_t_count a_t_around a_t_end a_t_size a_t_there a_t_wish a_t_have a_t_known a_t_value a_t_before a_t_open a_t_from : Nat) (t_length : Int32) (t_used : Int32) (t_far : Int32) (t_momentParts : Int32) (t_momentDay : Int64) (t_momentSecond : Int32) (t_momentNano : Int32) (t_momentOffset : Int32) (t_readParts : Int32) (t_readDay : Int64) (t_readSecond : Int32) (t_readNano : Int32) (t_readOffset : Int32) (t_alike : Int32) (t_text : Nat → Int32) (x1 : Int32) (x2 : Int32) (S : CallFix p m c b_SkeletonClockModel_numberAt 6 s args GW y_SkeletonClockModel_numberAt.cls) (hr : meth.sig.returnType = (some .long)) (hlk : meth.locks = false) (hA : ∀ q, s.heap.size ≤ q → A q) (X : KX D kk st A s) : ∀ (n : Nat) (x3 : Int64) (x5 : Int32) (v : Int64 × Int32) (H : Heap) (locs : List Loc) (ls : Array Slot), lp_SkeletonClockModel_numberAt_5 t_length t_text x1 x2 n x3 x5 = some v → lv_has ls 6 [(0, .ref a_t), (1, .int x1), (2, .int x2), (3, .long x3), (5, .int x5)] → va_P D classes [(a_t, .inr (10, [.int t_length, .ref a_t_text, .int t_used, .ref a_t_page, .ref a_t_names, .ref a_t_sort, .ref a_t_code, .ref a_t_count, .ref a_t_around, .ref a_t_end, .ref a_t_size, .ref a_t_there, .ref a_t_wish, .ref a_t_have, .int t_far, .int t_momentParts, .long t_momentDay, .int t_momentSecond, .int t_momentNano, .int t_momentOffset, .int t_readParts, .long t_readDay, .int t_readSecond, .int t_readNano, .int t_readOffset, .ref a_t_known, .ref a_t_value, .ref a_t_before, .ref a_t_open, .ref a_t_from, .int t_alike])), (a_t_text, .inl (kk 1, 60, .inl t_text))] H → va_D A [(a_t, .inr (10, [.int t_length, .ref a_t_text, .int t_used, .ref a_t_page, .ref a_t_names, .ref a_t_sort, .ref a_t_code, .ref a_t_count, .ref a_t_around, .ref a_t_end, .ref a_t_size, .ref a_t_there, .ref a_t_wish, .ref a_t_have, .int t_far, .int t_momentParts, .long t_momentDay, .int t_momentSecond, .int t_momentNano, .int t_momentOffset, .int t_readParts, .long t_readDay, .int t_readSecond, .int t_readNano, .int t_readOffset, .ref a_t_known, .ref a_t_value, .ref a_t_before, .ref a_t_open, .ref a_t_from, .int t_alike])), (a_t_text, .inl (kk 1, 60, .inl t_text))] → va_S A s.heap H locs → (∀ (H : Heap) (locs : List Loc) (ls : Array Slot), lv_has ls 6 [(0, .ref a_t), (1, .int x1), (2, .int x2), (3, .long v.1), (5, .int v.2)] → va_P D classes [(a_t, .inr (10, [.int t_length, .ref a_t_text, .int t_used, .ref a_t_page, .ref a_t_names, .ref a_t_sort, .ref a_t_code, .ref a_t_count, .ref a_t_around, .ref a_t_end, .ref a_t_size, .ref a_t_there, .ref a_t_wish, .ref a_t_have, .int t_far, .int t_momentParts, .long t_momentDay, .int t_momentSecond, .int t_momentNano, .int t_momentOffset, .int t_readParts, .long t_readDay, .int t_readSecond, .int t_readNano, .int t_readOffset, .ref a_t_known, .ref a_t_value, .ref a_t_before, .ref a_t_open, .ref a_t_from, .int t_alike])), (a_t_text, .inl (kk 1, 60, .inl t_text))] H → va_D A [(a_t, .inr (10, [.int t_length, .ref a_t_text, .int t_used, .ref a_t_page, .ref a_t_names, .ref a_t_sort, .ref a_t_code, .ref a_t_count, .ref a_t_around, .ref a_t_end, .ref a_t_size, .ref a_t_there, .ref a_t_wish, .ref a_t_have, .int t_far, .int t_momentParts, .long t_momentDay, .int t_momentSecond, .int t_momentNano, .int t_momentOffset, .int t_readParts, .long t_readDay, .int t_readSecond, .int t_readNano, .int t_readOffset, .ref a_t_known, .ref a_t_value, .ref a_t_before, .ref a_t_open, .ref a_t_from, .int t_alike])), (a_t_text, .inl (kk 1, 60, .inl t_text))] → va_S A s.heap H locs → W p l e rm_SkeletonClockModel_numberAt s m args below meth c H locs 0 0 Q (F0 m 37 ls [])) → W p l e rm_SkeletonClockModel_numberAt s m args below meth c H locs 0 0 Q (F0 m 5 ls []) := by
  intro n
  induction n with
  | zero =>
    intro x3 x5 v H locs ls he hl hP hD hS K
    exact ih_n he
  | succ n ih =>
    intro x3 x5 v H locs ls he hl hP hD hS K
    have hx := S.1
    have hb := S.2.1
    have he : st_SkeletonClockModel_numberAt_5 t_length t_text x1 x2 (lp_SkeletonClockModel_numberAt_5 t_length t_text x1 x2 n) x3 x5 = some v := he
    unfold st_SkeletonClockModel_numberAt_5 at he
    refine lv_iload hx hb d_SkeletonClockModel_numberAt_5 (lv_at hl 4 rfl) ?_
    refine lv_iload_n hx hb d_SkeletonClockModel_numberAt_7 rfl (lv_at hl 2 rfl) ?_
    refine lv_icmp_ge (tgt := 37) hx hb d_SkeletonClockModel_numberAt_8 rfl (fun hc => ?_) (fun hc => ?_)
    · have he := ih_t hc he
      have hl : lv_has ls 6 [(0, .ref a_t), (1, .int x1), (2, .int x2), (3, .long x3), (5, .int x5)] := lv_sub hl [0, 1, 2, 3, 4] rfl
      cases he
      exact K _ _ _ hl hP hD hS
    · have he := ih_f hc he
      refine lv_ldc2 (v := (10 : Int64)) hx hb S.2.2.2.1 (S.2.2.2.2 _ gm_5_145) d_SkeletonClockModel_numberAt_11 ?_
      refine lv_lload_n hx hb d_SkeletonClockModel_numberAt_14 rfl (lv_at hl 3 rfl) ?_
      refine lv_lmul hx hb d_SkeletonClockModel_numberAt_15 ?_
      refine lv_aload_n hx hb d_SkeletonClockModel_numberAt_16 rfl (lv_at hl 0 rfl) ?_
      refine lv_iload_n hx hb d_SkeletonClockModel_numberAt_17 rfl (lv_at hl 1 rfl) ?_
      refine lv_iload hx hb d_SkeletonClockModel_numberAt_18 (lv_at hl 4 rfl) ?_
      refine lv_iadd hx hb d_SkeletonClockModel_numberAt_20 ?_
      obtain ⟨u1, e2, he⟩ := ih_b he
      refine k_io (r_V (As := [.int (x1 + x5)]) S X hA hP hD hS (c_SkeletonClockModel_at l D kk st a_t a_t_text a_t_page a_t_names a_t_sort a_t_code a_t_count a_t_around a_t_end a_t_size a_t_there a_t_wish a_t_have a_t_known a_t_value a_t_before a_t_open a_t_from _ t_length t_used t_far t_momentParts t_momentDay t_momentSecond t_momentNano t_momentOffset t_readParts t_readDay t_readSecond t_readNano t_readOffset t_alike t_text (x1 + x5) u1 e2) gm_5_21 gm_5_18 gm_5_20 gm_p3_0 gm_1_13 ⟨rfl, rfl, by decide, by decide⟩ kd_SkeletonClockModel_at [0, 1] rfl rfl rfl 0 10 rfl rfl rfl rfl hl.1 rfl (Nat.le_of_ble_eq_true rfl) d_SkeletonClockModel_numberAt_21 ⟨Nat.zero_le _, Nat.zero_le _⟩) hA hP hD hS [0, 1] rfl (fun H locs hP hS => ?_)
      refine lv_i2l hx hb d_SkeletonClockModel_numberAt_24 rfl ?_
      refine lv_ladd hx hb d_SkeletonClockModel_numberAt_25 ?_
      refine lv_ldc2 (v := (48 : Int64)) hx hb S.2.2.2.1 (S.2.2.2.2 _ gm_5_146) d_SkeletonClockModel_numberAt_26 ?_
      refine lv_lsub hx hb d_SkeletonClockModel_numberAt_29 ?_
      refine lv_lstore_n hx hb d_SkeletonClockModel_numberAt_30 rfl hl (by decide) rfl (fun ls hl => ?_)
      have hl : lv_has ls 6 [(3, .long ((((10 : Int64) * x3) + (Int32.toInt64 u1)) - (48 : Int64))), (0, .ref a_t), (1, .int x1), (2, .int x2), (5, .int x5)] := hl
      refine lv_iinc (k := 4) hx hb d_SkeletonClockModel_numberAt_31 hl rfl (ii_ (v := (1 : Int32)) (by decide)) (by decide) rfl (fun ls hl => ?_)
      have hl : lv_has ls 6 [(5, .int (x5 + (1 : Int32))), (3, .long ((((10 : Int64) * x3) + (Int32.toInt64 u1)) - (48 : Int64))), (0, .ref a_t), (1, .int x1), (2, .int x2)] := hl
      refine lv_goto (tgt := 5) hx hb d_SkeletonClockModel_numberAt_34 rfl ?_
      have hl : lv_has ls 6 [(0, .ref a_t), (1, .int x1), (2, .int x2), (3, .long ((((10 : Int64) * x3) + (Int32.toInt64 u1)) - (48 : Int64))), (5, .int (x5 + (1 : Int32)))] := lv_sub hl [2, 3, 4, 1, 0] rfl
      exact ih _ _ _ _ _ _ he hl hP hD hS K
set_option maxHeartbeats 4000000 in
set_option maxRecDepth 100000 in
theorem c_SkeletonClockModel_numberAt (l : Launch) (D : va_G) (kk : Nat → ClassId) (st : Nat → Nat) (a_t a_t_text a_t_page a_t_names a_t_sort a_t_code a_t_count a_t_around a_t_end a_t_size a_t_there a_t_wish a_t_have a_t_known a_t_value a_t_before a_t_open a_t_from : Nat) (sz : Nat) (t_length : Int32) (t_used : Int32) (t_far : Int32) (t_momentParts : Int32) (t_momentDay : Int64) (t_momentSecond : Int32) (t_momentNano : Int32) (t_momentOffset : Int32) (t_readParts : Int32) (t_readDay : Int64) (t_readSecond : Int32) (t_readNano : Int32) (t_readOffset : Int32) (t_alike : Int32) (t_text : Nat → Int32) (x1 : Int32) (x2 : Int32) (o : Int64) (he : f_SkeletonClockModel_numberAt t_length t_text x1 x2 = some o) : Met l y_SkeletonClockModel_numberAt (Cond.code y_SkeletonClockModel_numberAt b_SkeletonClockModel_numberAt 6 (some .long) :: GW) rm_SkeletonClockModel_numberAt (KPc D kk st [.ref a_t, .int x1, .int x2] [(a_t, .inr (10, [.int t_length, .ref a_t_text, .int t_used, .ref a_t_page, .ref a_t_names, .ref a_t_sort, .ref a_t_code, .ref a_t_count, .ref a_t_around, .ref a_t_end, .ref a_t_size, .ref a_t_there, .ref a_t_wish, .ref a_t_have, .int t_far, .int t_momentParts, .long t_momentDay, .int t_momentSecond, .int t_momentNano, .int t_momentOffset, .int t_readParts, .long t_readDay, .int t_readSecond, .int t_readNano, .int t_readOffset, .ref a_t_known, .ref a_t_value, .ref a_t_before, .ref a_t_open, .ref a_t_from, .int t_alike])), (a_t_text, .inl (kk 1, 60, .inl t_text))] sz) (KQl D kk o [(a_t, .inr (10, [.int t_length, .ref a_t_text, .int t_used, .ref a_t_page, .ref a_t_names, .ref a_t_sort, .ref a_t_code, .ref a_t_count, .ref a_t_around, .ref a_t_end, .ref a_t_size, .ref a_t_there, .ref a_t_wish, .ref a_t_have, .int t_far, .int t_momentParts, .long t_momentDay, .int t_momentSecond, .int t_momentNano, .int t_momentOffset, .int t_readParts, .long t_readDay, .int t_readSecond, .int t_readNano, .int t_readOffset, .ref a_t_known, .ref a_t_value, .ref a_t_before, .ref a_t_open, .ref a_t_from, .int t_alike])), (a_t_text, .inl (kk 1, 60, .inl t_text))] (va_A [(a_t, .inr (10, [.int t_length, .ref a_t_text, .int t_used, .ref a_t_page, .ref a_t_names, .ref a_t_sort, .ref a_t_code, .ref a_t_count, .ref a_t_around, .ref a_t_end, .ref a_t_size, .ref a_t_there, .ref a_t_wish, .ref a_t_have, .int t_far, .int t_momentParts, .long t_momentDay, .int t_momentSecond, .int t_momentNano, .int t_momentOffset, .int t_readParts, .long t_readDay, .int t_readSecond, .int t_readNano, .int t_readOffset, .ref a_t_known, .ref a_t_value, .ref a_t_before, .ref a_t_open, .ref a_t_from, .int t_alike])), (a_t_text, .inl (kk 1, 60, .inl t_text))] sz)) 0 0 (va_A [(a_t, .inr (10, [.int t_length, .ref a_t_text, .int t_used, .ref a_t_page, .ref a_t_names, .ref a_t_sort, .ref a_t_code, .ref a_t_count, .ref a_t_around, .ref a_t_end, .ref a_t_size, .ref a_t_there, .ref a_t_wish, .ref a_t_have, .int t_far, .int t_momentParts, .long t_momentDay, .int t_momentSecond, .int t_momentNano, .int t_momentOffset, .int t_readParts, .long t_readDay, .int t_readSecond, .int t_readNano, .int t_readOffset, .ref a_t_known, .ref a_t_value, .ref a_t_before, .ref a_t_open, .ref a_t_from, .int t_alike])), (a_t_text, .inl (kk 1, 60, .inl t_text))] sz) := by
  refine k_start (Qc := fun A => KQl D kk o [(a_t, .inr (10, [.int t_length, .ref a_t_text, .int t_used, .ref a_t_page, .ref a_t_names, .ref a_t_sort, .ref a_t_code, .ref a_t_count, .ref a_t_around, .ref a_t_end, .ref a_t_size, .ref a_t_there, .ref a_t_wish, .ref a_t_have, .int t_far, .int t_momentParts, .long t_momentDay, .int t_momentSecond, .int t_momentNano, .int t_momentOffset, .int t_readParts, .long t_readDay, .int t_readSecond, .int t_readNano, .int t_readOffset, .ref a_t_known, .ref a_t_value, .ref a_t_before, .ref a_t_open, .ref a_t_from, .int t_alike])), (a_t_text, .inl (kk 1, 60, .inl t_text))] A) (by decide) (Nat.le_of_ble_eq_true rfl) ?_
  intro p e s m below meth c A ls S hnm hr hlk hA X hP hD hS hl
  have hl : lv_has ls 6 [(0, .ref a_t), (1, .int x1), (2, .int x2)] := hl
  have hx := S.1
  have hb := S.2.1
  unfold f_SkeletonClockModel_numberAt at he
  refine lv_lconst (v := (0 : Int64)) hx hb d_SkeletonClockModel_numberAt_0 (by decide) ?_
  refine lv_lstore_n hx hb d_SkeletonClockModel_numberAt_1 rfl hl (by decide) rfl (fun ls hl => ?_)
  have hl : lv_has ls 6 [(3, .long (0 : Int64)), (0, .ref a_t), (1, .int x1), (2, .int x2)] := hl
  refine lv_iconst (v := (0 : Int32)) hx hb d_SkeletonClockModel_numberAt_2 (by decide) ?_
  refine lv_istore hx hb d_SkeletonClockModel_numberAt_3 hl (by decide) rfl (fun ls hl => ?_)
  have hl : lv_has ls 6 [(5, .int (0 : Int32)), (3, .long (0 : Int64)), (0, .ref a_t), (1, .int x1), (2, .int x2)] := hl
  obtain ⟨u3, e4, he⟩ := ih_b he
  have hl : lv_has ls 6 [(0, .ref a_t), (1, .int x1), (2, .int x2), (3, .long (0 : Int64)), (5, .int (0 : Int32))] := lv_sub hl [2, 3, 4, 1, 0] rfl
  refine w_SkeletonClockModel_numberAt_5 a_t a_t_text a_t_page a_t_names a_t_sort a_t_code a_t_count a_t_around a_t_end a_t_size a_t_there a_t_wish a_t_have a_t_known a_t_value a_t_before a_t_open a_t_from t_length t_used t_far t_momentParts t_momentDay t_momentSecond t_momentNano t_momentOffset t_readParts t_readDay t_readSecond t_readNano t_readOffset t_alike t_text x1 x2 S hr hlk hA X FU (0 : Int64) (0 : Int32) u3 _ _ ls e4 hl hP hD hS (fun H locs ls hl hP hD hS => ?_)
  refine lv_lload_n hx hb d_SkeletonClockModel_numberAt_37 rfl (lv_at hl 3 rfl) ?_
  cases he
  exact k_lre hx hb hr hlk X hP hD hS d_SkeletonClockModel_numberAt_38
abbrev rm_SkeletonClockModel_learn : Room := { frames := 0, cells := 0, slots := 0, locals := 0 }
set_option maxHeartbeats 4000000 in
set_option maxRecDepth 100000 in
theorem c_SkeletonClockModel_learn (l : Launch) (D : va_G) (kk : Nat → ClassId) (st : Nat → Nat) (a_t a_t_known a_t_value a_t_text a_t_page a_t_names a_t_sort a_t_code a_t_count a_t_around a_t_end a_t_size a_t_there a_t_wish a_t_have a_t_before a_t_open a_t_from : Nat) (sz : Nat) (t_length : Int32) (t_used : Int32) (t_far : Int32) (t_momentParts : Int32) (t_momentDay : Int64) (t_momentSecond : Int32) (t_momentNano : Int32) (t_momentOffset : Int32) (t_readParts : Int32) (t_readDay : Int64) (t_readSecond : Int32) (t_readNano : Int32) (t_readOffset : Int32) (t_alike : Int32) (t_known : Nat → Int32) (t_value : Nat → Int64) (x1 : Int32) (x2 : Int64) (x4 : Int32) (o : Int32 × (Nat → Int32) × (Nat → Int64)) (he : f_SkeletonClockModel_learn t_known t_value x1 x2 x4 = some o) : Met l y_SkeletonClockModel_learn (Cond.code y_SkeletonClockModel_learn b_SkeletonClockModel_learn 5 (some .int) :: GW) rm_SkeletonClockModel_learn (KPc D kk st [.ref a_t, .int x1, .long x2, .int x4] [(a_t, .inr (10, [.int t_length, .ref a_t_text, .int t_used, .ref a_t_page, .ref a_t_names, .ref a_t_sort, .ref a_t_code, .ref a_t_count, .ref a_t_around, .ref a_t_end, .ref a_t_size, .ref a_t_there, .ref a_t_wish, .ref a_t_have, .int t_far, .int t_momentParts, .long t_momentDay, .int t_momentSecond, .int t_momentNano, .int t_momentOffset, .int t_readParts, .long t_readDay, .int t_readSecond, .int t_readNano, .int t_readOffset, .ref a_t_known, .ref a_t_value, .ref a_t_before, .ref a_t_open, .ref a_t_from, .int t_alike])), (a_t_known, .inl (kk 2, 14, .inl t_known)), (a_t_value, .inl (kk 3, 14, .inr (.inl t_value)))] sz) (KQi D kk o.1 [(a_t, .inr (10, [.int t_length, .ref a_t_text, .int t_used, .ref a_t_page, .ref a_t_names, .ref a_t_sort, .ref a_t_code, .ref a_t_count, .ref a_t_around, .ref a_t_end, .ref a_t_size, .ref a_t_there, .ref a_t_wish, .ref a_t_have, .int t_far, .int t_momentParts, .long t_momentDay, .int t_momentSecond, .int t_momentNano, .int t_momentOffset, .int t_readParts, .long t_readDay, .int t_readSecond, .int t_readNano, .int t_readOffset, .ref a_t_known, .ref a_t_value, .ref a_t_before, .ref a_t_open, .ref a_t_from, .int t_alike])), (a_t_known, .inl (kk 2, 14, .inl o.2.1)), (a_t_value, .inl (kk 3, 14, .inr (.inl o.2.2)))] (va_A [(a_t, .inr (10, [.int t_length, .ref a_t_text, .int t_used, .ref a_t_page, .ref a_t_names, .ref a_t_sort, .ref a_t_code, .ref a_t_count, .ref a_t_around, .ref a_t_end, .ref a_t_size, .ref a_t_there, .ref a_t_wish, .ref a_t_have, .int t_far, .int t_momentParts, .long t_momentDay, .int t_momentSecond, .int t_momentNano, .int t_momentOffset, .int t_readParts, .long t_readDay, .int t_readSecond, .int t_readNano, .int t_readOffset, .ref a_t_known, .ref a_t_value, .ref a_t_before, .ref a_t_open, .ref a_t_from, .int t_alike])), (a_t_known, .inl (kk 2, 14, .inl t_known)), (a_t_value, .inl (kk 3, 14, .inr (.inl t_value)))] sz)) 0 0 (va_A [(a_t, .inr (10, [.int t_length, .ref a_t_text, .int t_used, .ref a_t_page, .ref a_t_names, .ref a_t_sort, .ref a_t_code, .ref a_t_count, .ref a_t_around, .ref a_t_end, .ref a_t_size, .ref a_t_there, .ref a_t_wish, .ref a_t_have, .int t_far, .int t_momentParts, .long t_momentDay, .int t_momentSecond, .int t_momentNano, .int t_momentOffset, .int t_readParts, .long t_readDay, .int t_readSecond, .int t_readNano, .int t_readOffset, .ref a_t_known, .ref a_t_value, .ref a_t_before, .ref a_t_open, .ref a_t_from, .int t_alike])), (a_t_known, .inl (kk 2, 14, .inl t_known)), (a_t_value, .inl (kk 3, 14, .inr (.inl t_value)))] sz) := by
  refine k_start (Qc := fun A => KQi D kk o.1 [(a_t, .inr (10, [.int t_length, .ref a_t_text, .int t_used, .ref a_t_page, .ref a_t_names, .ref a_t_sort, .ref a_t_code, .ref a_t_count, .ref a_t_around, .ref a_t_end, .ref a_t_size, .ref a_t_there, .ref a_t_wish, .ref a_t_have, .int t_far, .int t_momentParts, .long t_momentDay, .int t_momentSecond, .int t_momentNano, .int t_momentOffset, .int t_readParts, .long t_readDay, .int t_readSecond, .int t_readNano, .int t_readOffset, .ref a_t_known, .ref a_t_value, .ref a_t_before, .ref a_t_open, .ref a_t_from, .int t_alike])), (a_t_known, .inl (kk 2, 14, .inl o.2.1)), (a_t_value, .inl (kk 3, 14, .inr (.inl o.2.2)))] A) (by decide) (Nat.le_of_ble_eq_true rfl) ?_
  intro p e s m below meth c A ls S hnm hr hlk hA X hP hD hS hl
  have hl : lv_has ls 5 [(0, .ref a_t), (1, .int x1), (2, .long x2), (4, .int x4)] := hl
  have hx := S.1
  have hb := S.2.1
  unfold f_SkeletonClockModel_learn at he
  refine lv_aload_n hx hb d_SkeletonClockModel_learn_0 rfl (lv_at hl 0 rfl) ?_
  refine k_get S X us_SkeletonClockModel hP 0 rfl rfl 25 (by decide) gm_4_176 rfl d_SkeletonClockModel_learn_1 ?_
  refine lv_iload_n hx hb d_SkeletonClockModel_learn_4 rfl (lv_at hl 1 rfl) ?_
  obtain ⟨hi1, he⟩ := ih_g he
  refine va_zald hx hb X.1 hP 1 2 rfl rfl hi1 d_SkeletonClockModel_learn_5 ?_
  refine lv_if_eq (tgt := 22) hx hb d_SkeletonClockModel_learn_6 rfl (fun hc => ?_) (fun hc => ?_)
  · have he := ih_t hc he
    refine lv_aload_n hx hb d_SkeletonClockModel_learn_22 rfl (lv_at hl 0 rfl) ?_
    refine k_get S X us_SkeletonClockModel hP 0 rfl rfl 25 (by decide) gm_4_176 rfl d_SkeletonClockModel_learn_23 ?_
    refine lv_iload_n hx hb d_SkeletonClockModel_learn_26 rfl (lv_at hl 1 rfl) ?_
    refine lv_iconst (v := (1 : Int32)) hx hb d_SkeletonClockModel_learn_27 (by decide) ?_
    obtain ⟨hi2, he⟩ := ih_g he
    refine va_zast hx hb X.1 hP hD hS 1 2 rfl rfl hi2 d_SkeletonClockModel_learn_28 (fun H locs hP hD hS => ?_)
    have hP : va_P D classes [(a_t, .inr (10, [.int t_length, .ref a_t_text, .int t_used, .ref a_t_page, .ref a_t_names, .ref a_t_sort, .ref a_t_code, .ref a_t_count, .ref a_t_around, .ref a_t_end, .ref a_t_size, .ref a_t_there, .ref a_t_wish, .ref a_t_have, .int t_far, .int t_momentParts, .long t_momentDay, .int t_momentSecond, .int t_momentNano, .int t_momentOffset, .int t_readParts, .long t_readDay, .int t_readSecond, .int t_readNano, .int t_readOffset, .ref a_t_known, .ref a_t_value, .ref a_t_before, .ref a_t_open, .ref a_t_from, .int t_alike])), (a_t_known, .inl (kk 2, 14, .inl (upd t_known (x1).toNatClampNeg (vp_nar .boolean (1 : Int32))))), (a_t_value, .inl (kk 3, 14, .inr (.inl t_value)))] H := hP
    have hD : va_D A [(a_t, .inr (10, [.int t_length, .ref a_t_text, .int t_used, .ref a_t_page, .ref a_t_names, .ref a_t_sort, .ref a_t_code, .ref a_t_count, .ref a_t_around, .ref a_t_end, .ref a_t_size, .ref a_t_there, .ref a_t_wish, .ref a_t_have, .int t_far, .int t_momentParts, .long t_momentDay, .int t_momentSecond, .int t_momentNano, .int t_momentOffset, .int t_readParts, .long t_readDay, .int t_readSecond, .int t_readNano, .int t_readOffset, .ref a_t_known, .ref a_t_value, .ref a_t_before, .ref a_t_open, .ref a_t_from, .int t_alike])), (a_t_known, .inl (kk 2, 14, .inl (upd t_known (x1).toNatClampNeg (vp_nar .boolean (1 : Int32))))), (a_t_value, .inl (kk 3, 14, .inr (.inl t_value)))] := hD
    refine lv_aload_n hx hb d_SkeletonClockModel_learn_29 rfl (lv_at hl 0 rfl) ?_
    refine k_get S X us_SkeletonClockModel hP 0 rfl rfl 26 (by decide) gm_4_177 rfl d_SkeletonClockModel_learn_30 ?_
    refine lv_iload_n hx hb d_SkeletonClockModel_learn_33 rfl (lv_at hl 1 rfl) ?_
    refine lv_lload_n hx hb d_SkeletonClockModel_learn_34 rfl (lv_at hl 2 rfl) ?_
    obtain ⟨hi3, he⟩ := ih_g he
    refine va_last hx hb X.1 hP hD hS 2 3 rfl rfl hi3 d_SkeletonClockModel_learn_35 (fun H locs hP hD hS => ?_)
    have hP : va_P D classes [(a_t, .inr (10, [.int t_length, .ref a_t_text, .int t_used, .ref a_t_page, .ref a_t_names, .ref a_t_sort, .ref a_t_code, .ref a_t_count, .ref a_t_around, .ref a_t_end, .ref a_t_size, .ref a_t_there, .ref a_t_wish, .ref a_t_have, .int t_far, .int t_momentParts, .long t_momentDay, .int t_momentSecond, .int t_momentNano, .int t_momentOffset, .int t_readParts, .long t_readDay, .int t_readSecond, .int t_readNano, .int t_readOffset, .ref a_t_known, .ref a_t_value, .ref a_t_before, .ref a_t_open, .ref a_t_from, .int t_alike])), (a_t_known, .inl (kk 2, 14, .inl (upd t_known (x1).toNatClampNeg (vp_nar .boolean (1 : Int32))))), (a_t_value, .inl (kk 3, 14, .inr (.inl (vp_updL t_value (x1).toNatClampNeg x2))))] H := hP
    have hD : va_D A [(a_t, .inr (10, [.int t_length, .ref a_t_text, .int t_used, .ref a_t_page, .ref a_t_names, .ref a_t_sort, .ref a_t_code, .ref a_t_count, .ref a_t_around, .ref a_t_end, .ref a_t_size, .ref a_t_there, .ref a_t_wish, .ref a_t_have, .int t_far, .int t_momentParts, .long t_momentDay, .int t_momentSecond, .int t_momentNano, .int t_momentOffset, .int t_readParts, .long t_readDay, .int t_readSecond, .int t_readNano, .int t_readOffset, .ref a_t_known, .ref a_t_value, .ref a_t_before, .ref a_t_open, .ref a_t_from, .int t_alike])), (a_t_known, .inl (kk 2, 14, .inl (upd t_known (x1).toNatClampNeg (vp_nar .boolean (1 : Int32))))), (a_t_value, .inl (kk 3, 14, .inr (.inl (vp_updL t_value (x1).toNatClampNeg x2))))] := hD
    refine lv_iload hx hb d_SkeletonClockModel_learn_36 (lv_at hl 3 rfl) ?_
    cases he
    exact k_ire hx hb hr hlk X hP hD hS d_SkeletonClockModel_learn_38
  · have he := ih_f hc he
    refine lv_aload_n hx hb d_SkeletonClockModel_learn_9 rfl (lv_at hl 0 rfl) ?_
    refine k_get S X us_SkeletonClockModel hP 0 rfl rfl 26 (by decide) gm_4_177 rfl d_SkeletonClockModel_learn_10 ?_
    refine lv_iload_n hx hb d_SkeletonClockModel_learn_13 rfl (lv_at hl 1 rfl) ?_
    obtain ⟨hi4, he⟩ := ih_g he
    refine va_lald hx hb X.1 hP 2 3 rfl rfl hi4 d_SkeletonClockModel_learn_14 ?_
    refine lv_lload_n hx hb d_SkeletonClockModel_learn_15 rfl (lv_at hl 2 rfl) ?_
    refine lq_eq (tgt := 22) hx hb d_SkeletonClockModel_learn_16 d_SkeletonClockModel_learn_17 rfl (fun hc => ?_) (fun hc => ?_)
    · have he := ih_t hc he
      refine lv_aload_n hx hb d_SkeletonClockModel_learn_22 rfl (lv_at hl 0 rfl) ?_
      refine k_get S X us_SkeletonClockModel hP 0 rfl rfl 25 (by decide) gm_4_176 rfl d_SkeletonClockModel_learn_23 ?_
      refine lv_iload_n hx hb d_SkeletonClockModel_learn_26 rfl (lv_at hl 1 rfl) ?_
      refine lv_iconst (v := (1 : Int32)) hx hb d_SkeletonClockModel_learn_27 (by decide) ?_
      obtain ⟨hi5, he⟩ := ih_g he
      refine va_zast hx hb X.1 hP hD hS 1 2 rfl rfl hi5 d_SkeletonClockModel_learn_28 (fun H locs hP hD hS => ?_)
      have hP : va_P D classes [(a_t, .inr (10, [.int t_length, .ref a_t_text, .int t_used, .ref a_t_page, .ref a_t_names, .ref a_t_sort, .ref a_t_code, .ref a_t_count, .ref a_t_around, .ref a_t_end, .ref a_t_size, .ref a_t_there, .ref a_t_wish, .ref a_t_have, .int t_far, .int t_momentParts, .long t_momentDay, .int t_momentSecond, .int t_momentNano, .int t_momentOffset, .int t_readParts, .long t_readDay, .int t_readSecond, .int t_readNano, .int t_readOffset, .ref a_t_known, .ref a_t_value, .ref a_t_before, .ref a_t_open, .ref a_t_from, .int t_alike])), (a_t_known, .inl (kk 2, 14, .inl (upd t_known (x1).toNatClampNeg (vp_nar .boolean (1 : Int32))))), (a_t_value, .inl (kk 3, 14, .inr (.inl t_value)))] H := hP
      have hD : va_D A [(a_t, .inr (10, [.int t_length, .ref a_t_text, .int t_used, .ref a_t_page, .ref a_t_names, .ref a_t_sort, .ref a_t_code, .ref a_t_count, .ref a_t_around, .ref a_t_end, .ref a_t_size, .ref a_t_there, .ref a_t_wish, .ref a_t_have, .int t_far, .int t_momentParts, .long t_momentDay, .int t_momentSecond, .int t_momentNano, .int t_momentOffset, .int t_readParts, .long t_readDay, .int t_readSecond, .int t_readNano, .int t_readOffset, .ref a_t_known, .ref a_t_value, .ref a_t_before, .ref a_t_open, .ref a_t_from, .int t_alike])), (a_t_known, .inl (kk 2, 14, .inl (upd t_known (x1).toNatClampNeg (vp_nar .boolean (1 : Int32))))), (a_t_value, .inl (kk 3, 14, .inr (.inl t_value)))] := hD
      refine lv_aload_n hx hb d_SkeletonClockModel_learn_29 rfl (lv_at hl 0 rfl) ?_
      refine k_get S X us_SkeletonClockModel hP 0 rfl rfl 26 (by decide) gm_4_177 rfl d_SkeletonClockModel_learn_30 ?_
      refine lv_iload_n hx hb d_SkeletonClockModel_learn_33 rfl (lv_at hl 1 rfl) ?_
      refine lv_lload_n hx hb d_SkeletonClockModel_learn_34 rfl (lv_at hl 2 rfl) ?_
      obtain ⟨hi6, he⟩ := ih_g he
      refine va_last hx hb X.1 hP hD hS 2 3 rfl rfl hi6 d_SkeletonClockModel_learn_35 (fun H locs hP hD hS => ?_)
      have hP : va_P D classes [(a_t, .inr (10, [.int t_length, .ref a_t_text, .int t_used, .ref a_t_page, .ref a_t_names, .ref a_t_sort, .ref a_t_code, .ref a_t_count, .ref a_t_around, .ref a_t_end, .ref a_t_size, .ref a_t_there, .ref a_t_wish, .ref a_t_have, .int t_far, .int t_momentParts, .long t_momentDay, .int t_momentSecond, .int t_momentNano, .int t_momentOffset, .int t_readParts, .long t_readDay, .int t_readSecond, .int t_readNano, .int t_readOffset, .ref a_t_known, .ref a_t_value, .ref a_t_before, .ref a_t_open, .ref a_t_from, .int t_alike])), (a_t_known, .inl (kk 2, 14, .inl (upd t_known (x1).toNatClampNeg (vp_nar .boolean (1 : Int32))))), (a_t_value, .inl (kk 3, 14, .inr (.inl (vp_updL t_value (x1).toNatClampNeg x2))))] H := hP
      have hD : va_D A [(a_t, .inr (10, [.int t_length, .ref a_t_text, .int t_used, .ref a_t_page, .ref a_t_names, .ref a_t_sort, .ref a_t_code, .ref a_t_count, .ref a_t_around, .ref a_t_end, .ref a_t_size, .ref a_t_there, .ref a_t_wish, .ref a_t_have, .int t_far, .int t_momentParts, .long t_momentDay, .int t_momentSecond, .int t_momentNano, .int t_momentOffset, .int t_readParts, .long t_readDay, .int t_readSecond, .int t_readNano, .int t_readOffset, .ref a_t_known, .ref a_t_value, .ref a_t_before, .ref a_t_open, .ref a_t_from, .int t_alike])), (a_t_known, .inl (kk 2, 14, .inl (upd t_known (x1).toNatClampNeg (vp_nar .boolean (1 : Int32))))), (a_t_value, .inl (kk 3, 14, .inr (.inl (vp_updL t_value (x1).toNatClampNeg x2))))] := hD
      refine lv_iload hx hb d_SkeletonClockModel_learn_36 (lv_at hl 3 rfl) ?_
      cases he
      exact k_ire hx hb hr hlk X hP hD hS d_SkeletonClockModel_learn_38
    · have he := ih_f hc he
      refine lv_iconst (v := (-1 : Int32)) hx hb d_SkeletonClockModel_learn_20 (by decide) ?_
      cases he
      exact k_ire hx hb hr hlk X hP hD hS d_SkeletonClockModel_learn_21
abbrev rm_SkeletonClockModel_fixed : Room := { frames := 1, cells := 0, slots := 0, locals := 22 }
set_option maxHeartbeats 4000000 in
set_option maxRecDepth 100000 in
theorem c_SkeletonClockModel_fixed (l : Launch) (D : va_G) (kk : Nat → ClassId) (st : Nat → Nat) (a_t a_t_sort a_t_code a_t_count a_t_text a_t_page a_t_names a_t_around a_t_end a_t_size a_t_there a_t_wish a_t_have a_t_known a_t_value a_t_before a_t_open a_t_from : Nat) (sz : Nat) (t_length : Int32) (t_used : Int32) (t_far : Int32) (t_momentParts : Int32) (t_momentDay : Int64) (t_momentSecond : Int32) (t_momentNano : Int32) (t_momentOffset : Int32) (t_readParts : Int32) (t_readDay : Int64) (t_readSecond : Int32) (t_readNano : Int32) (t_readOffset : Int32) (t_alike : Int32) (t_sort : Nat → Int32) (t_code : Nat → Int32) (t_count : Nat → Int32) (x1 : Int32) (o : Int32) (he : f_SkeletonClockModel_fixed t_sort t_code t_count x1 = some o) : Met l y_SkeletonClockModel_fixed (Cond.code y_SkeletonClockModel_fixed b_SkeletonClockModel_fixed 4 (some .int) :: GW) rm_SkeletonClockModel_fixed (KPc D kk st [.ref a_t, .int x1] [(a_t, .inr (10, [.int t_length, .ref a_t_text, .int t_used, .ref a_t_page, .ref a_t_names, .ref a_t_sort, .ref a_t_code, .ref a_t_count, .ref a_t_around, .ref a_t_end, .ref a_t_size, .ref a_t_there, .ref a_t_wish, .ref a_t_have, .int t_far, .int t_momentParts, .long t_momentDay, .int t_momentSecond, .int t_momentNano, .int t_momentOffset, .int t_readParts, .long t_readDay, .int t_readSecond, .int t_readNano, .int t_readOffset, .ref a_t_known, .ref a_t_value, .ref a_t_before, .ref a_t_open, .ref a_t_from, .int t_alike])), (a_t_sort, .inl (kk 0, 140, .inl t_sort)), (a_t_code, .inl (kk 0, 140, .inl t_code)), (a_t_count, .inl (kk 0, 140, .inl t_count))] sz) (KQi D kk o [(a_t, .inr (10, [.int t_length, .ref a_t_text, .int t_used, .ref a_t_page, .ref a_t_names, .ref a_t_sort, .ref a_t_code, .ref a_t_count, .ref a_t_around, .ref a_t_end, .ref a_t_size, .ref a_t_there, .ref a_t_wish, .ref a_t_have, .int t_far, .int t_momentParts, .long t_momentDay, .int t_momentSecond, .int t_momentNano, .int t_momentOffset, .int t_readParts, .long t_readDay, .int t_readSecond, .int t_readNano, .int t_readOffset, .ref a_t_known, .ref a_t_value, .ref a_t_before, .ref a_t_open, .ref a_t_from, .int t_alike])), (a_t_sort, .inl (kk 0, 140, .inl t_sort)), (a_t_code, .inl (kk 0, 140, .inl t_code)), (a_t_count, .inl (kk 0, 140, .inl t_count))] (va_A [(a_t, .inr (10, [.int t_length, .ref a_t_text, .int t_used, .ref a_t_page, .ref a_t_names, .ref a_t_sort, .ref a_t_code, .ref a_t_count, .ref a_t_around, .ref a_t_end, .ref a_t_size, .ref a_t_there, .ref a_t_wish, .ref a_t_have, .int t_far, .int t_momentParts, .long t_momentDay, .int t_momentSecond, .int t_momentNano, .int t_momentOffset, .int t_readParts, .long t_readDay, .int t_readSecond, .int t_readNano, .int t_readOffset, .ref a_t_known, .ref a_t_value, .ref a_t_before, .ref a_t_open, .ref a_t_from, .int t_alike])), (a_t_sort, .inl (kk 0, 140, .inl t_sort)), (a_t_code, .inl (kk 0, 140, .inl t_code)), (a_t_count, .inl (kk 0, 140, .inl t_count))] sz)) 0 0 (va_A [(a_t, .inr (10, [.int t_length, .ref a_t_text, .int t_used, .ref a_t_page, .ref a_t_names, .ref a_t_sort, .ref a_t_code, .ref a_t_count, .ref a_t_around, .ref a_t_end, .ref a_t_size, .ref a_t_there, .ref a_t_wish, .ref a_t_have, .int t_far, .int t_momentParts, .long t_momentDay, .int t_momentSecond, .int t_momentNano, .int t_momentOffset, .int t_readParts, .long t_readDay, .int t_readSecond, .int t_readNano, .int t_readOffset, .ref a_t_known, .ref a_t_value, .ref a_t_before, .ref a_t_open, .ref a_t_from, .int t_alike])), (a_t_sort, .inl (kk 0, 140, .inl t_sort)), (a_t_code, .inl (kk 0, 140, .inl t_code)), (a_t_count, .inl (kk 0, 140, .inl t_count))] sz) := by
  refine k_start (Qc := fun A => KQi D kk o [(a_t, .inr (10, [.int t_length, .ref a_t_text, .int t_used, .ref a_t_page, .ref a_t_names, .ref a_t_sort, .ref a_t_code, .ref a_t_count, .ref a_t_around, .ref a_t_end, .ref a_t_size, .ref a_t_there, .ref a_t_wish, .ref a_t_have, .int t_far, .int t_momentParts, .long t_momentDay, .int t_momentSecond, .int t_momentNano, .int t_momentOffset, .int t_readParts, .long t_readDay, .int t_readSecond, .int t_readNano, .int t_readOffset, .ref a_t_known, .ref a_t_value, .ref a_t_before, .ref a_t_open, .ref a_t_from, .int t_alike])), (a_t_sort, .inl (kk 0, 140, .inl t_sort)), (a_t_code, .inl (kk 0, 140, .inl t_code)), (a_t_count, .inl (kk 0, 140, .inl t_count))] A) (by decide) (Nat.le_of_ble_eq_true rfl) ?_
  intro p e s m below meth c A ls S hnm hr hlk hA X hP hD hS hl
  have hl : lv_has ls 4 [(0, .ref a_t), (1, .int x1)] := hl
  have hx := S.1
  have hb := S.2.1
  unfold f_SkeletonClockModel_fixed at he
  refine lv_aload_n hx hb d_SkeletonClockModel_fixed_0 rfl (lv_at hl 0 rfl) ?_
  refine k_get S X us_SkeletonClockModel hP 0 rfl rfl 5 (by decide) gm_4_156 rfl d_SkeletonClockModel_fixed_1 ?_
  refine lv_iload_n hx hb d_SkeletonClockModel_fixed_4 rfl (lv_at hl 1 rfl) ?_
  obtain ⟨hi1, he⟩ := ih_g he
  refine va_iald hx hb X.1 hP 1 0 rfl rfl hi1 d_SkeletonClockModel_fixed_5 ?_
  refine lv_iconst (v := (1 : Int32)) hx hb d_SkeletonClockModel_fixed_6 (by decide) ?_
  refine lv_icmp_eq (tgt := 12) hx hb d_SkeletonClockModel_fixed_7 rfl (fun hc => ?_) (fun hc => ?_)
  · have he := ih_t hc he
    refine lv_aload_n hx hb d_SkeletonClockModel_fixed_12 rfl (lv_at hl 0 rfl) ?_
    refine k_get S X us_SkeletonClockModel hP 0 rfl rfl 6 (by decide) gm_4_157 rfl d_SkeletonClockModel_fixed_13 ?_
    refine lv_iload_n hx hb d_SkeletonClockModel_fixed_16 rfl (lv_at hl 1 rfl) ?_
    obtain ⟨hi2, he⟩ := ih_g he
    refine va_iald hx hb X.1 hP 2 0 rfl rfl hi2 d_SkeletonClockModel_fixed_17 ?_
    obtain ⟨u3, e4, he⟩ := ih_b he
    refine k_io (r_S (As := [.int (t_code (x1).toNatClampNeg)]) S X hA hP hD hS (c_SkeletonClockModel_fieldOf l D kk st _ (t_code (x1).toNatClampNeg) u3 e4) gm_5_35 gm_5_33 gm_5_34 gm_1_13 ⟨rfl, rfl, by decide, by decide⟩ kd_SkeletonClockModel_fieldOf [] rfl rfl rfl rfl hl.1 rfl (Nat.le_of_ble_eq_true rfl) d_SkeletonClockModel_fixed_18 ⟨Nat.zero_le _, Nat.zero_le _⟩) hA hP hD hS [] rfl (fun H locs hP hS => ?_)
    refine lv_istore_n hx hb d_SkeletonClockModel_fixed_21 rfl hl (by decide) rfl (fun ls hl => ?_)
    have hl : lv_has ls 4 [(2, .int u3), (0, .ref a_t), (1, .int x1)] := hl
    refine lv_aload_n hx hb d_SkeletonClockModel_fixed_22 rfl (lv_at hl 1 rfl) ?_
    refine k_get S X us_SkeletonClockModel hP 0 rfl rfl 7 (by decide) gm_4_158 rfl d_SkeletonClockModel_fixed_23 ?_
    refine lv_iload_n hx hb d_SkeletonClockModel_fixed_26 rfl (lv_at hl 2 rfl) ?_
    obtain ⟨hi5, he⟩ := ih_g he
    refine va_iald hx hb X.1 hP 3 0 rfl rfl hi5 d_SkeletonClockModel_fixed_27 ?_
    refine lv_istore_n hx hb d_SkeletonClockModel_fixed_28 rfl hl (by decide) rfl (fun ls hl => ?_)
    have hl : lv_has ls 4 [(3, .int (t_count (x1).toNatClampNeg)), (2, .int u3), (0, .ref a_t), (1, .int x1)] := hl
    refine lv_iload_n hx hb d_SkeletonClockModel_fixed_29 rfl (lv_at hl 1 rfl) ?_
    refine lv_bipush (v := (12 : Int32)) hx hb d_SkeletonClockModel_fixed_30 (by decide) ?_
    refine lv_icmp_ne (tgt := 37) hx hb d_SkeletonClockModel_fixed_32 rfl (fun hc => ?_) (fun hc => ?_)
    · have he := ih_f hc he
      refine lv_iload_n hx hb d_SkeletonClockModel_fixed_37 rfl (lv_at hl 1 rfl) ?_
      refine lv_iconst (v := (3 : Int32)) hx hb d_SkeletonClockModel_fixed_38 (by decide) ?_
      refine lv_icmp_ne (tgt := 53) hx hb d_SkeletonClockModel_fixed_39 rfl (fun hc => ?_) (fun hc => ?_)
      · have he := ih_f hc he
        refine lv_iload_n hx hb d_SkeletonClockModel_fixed_53 rfl (lv_at hl 1 rfl) ?_
        refine lv_iconst (v := (4 : Int32)) hx hb d_SkeletonClockModel_fixed_54 (by decide) ?_
        refine lv_icmp_eq (tgt := 79) hx hb d_SkeletonClockModel_fixed_55 rfl (fun hc => ?_) (fun hc => ?_)
        · have he := ih_t hc he
          refine lv_iconst (v := (0 : Int32)) hx hb d_SkeletonClockModel_fixed_79 (by decide) ?_
          cases he
          exact k_ire hx hb hr hlk X hP hD hS d_SkeletonClockModel_fixed_80
        · have he := ih_f hc he
          refine lv_iload_n hx hb d_SkeletonClockModel_fixed_58 rfl (lv_at hl 1 rfl) ?_
          refine lv_bipush (v := (9 : Int32)) hx hb d_SkeletonClockModel_fixed_59 (by decide) ?_
          refine lv_icmp_eq (tgt := 79) hx hb d_SkeletonClockModel_fixed_61 rfl (fun hc => ?_) (fun hc => ?_)
          · have he := ih_t hc he
            refine lv_iconst (v := (0 : Int32)) hx hb d_SkeletonClockModel_fixed_79 (by decide) ?_
            cases he
            exact k_ire hx hb hr hlk X hP hD hS d_SkeletonClockModel_fixed_80
          · have he := ih_f hc he
            refine lv_iload_n hx hb d_SkeletonClockModel_fixed_64 rfl (lv_at hl 1 rfl) ?_
            refine lv_bipush (v := (13 : Int32)) hx hb d_SkeletonClockModel_fixed_65 (by decide) ?_
            refine lv_icmp_eq (tgt := 79) hx hb d_SkeletonClockModel_fixed_67 rfl (fun hc => ?_) (fun hc => ?_)
            · have he := ih_t hc he
              refine lv_iconst (v := (0 : Int32)) hx hb d_SkeletonClockModel_fixed_79 (by decide) ?_
              cases he
              exact k_ire hx hb hr hlk X hP hD hS d_SkeletonClockModel_fixed_80
            · have he := ih_f hc he
              refine lv_iload_n hx hb d_SkeletonClockModel_fixed_70 rfl (lv_at hl 0 rfl) ?_
              refine lv_iconst (v := (2 : Int32)) hx hb d_SkeletonClockModel_fixed_71 (by decide) ?_
              refine lv_icmp_ne (tgt := 79) hx hb d_SkeletonClockModel_fixed_72 rfl (fun hc => ?_) (fun hc => ?_)
              · have he := ih_f hc he
                refine lv_iconst (v := (0 : Int32)) hx hb d_SkeletonClockModel_fixed_79 (by decide) ?_
                cases he
                exact k_ire hx hb hr hlk X hP hD hS d_SkeletonClockModel_fixed_80
              · have he := ih_t hc he
                refine lv_iconst (v := (2 : Int32)) hx hb d_SkeletonClockModel_fixed_75 (by decide) ?_
                refine lv_goto (tgt := 80) hx hb d_SkeletonClockModel_fixed_76 rfl ?_
                cases he
                exact k_ire hx hb hr hlk X hP hD hS d_SkeletonClockModel_fixed_80
      · have he := ih_t hc he
        refine lv_iload_n hx hb d_SkeletonClockModel_fixed_42 rfl (lv_at hl 0 rfl) ?_
        refine lv_iconst (v := (3 : Int32)) hx hb d_SkeletonClockModel_fixed_43 (by decide) ?_
        refine lv_icmp_ne (tgt := 51) hx hb d_SkeletonClockModel_fixed_44 rfl (fun hc => ?_) (fun hc => ?_)
        · have he := ih_f hc he
          refine lv_iconst (v := (0 : Int32)) hx hb d_SkeletonClockModel_fixed_51 (by decide) ?_
          cases he
          exact k_ire hx hb hr hlk X hP hD hS d_SkeletonClockModel_fixed_52
        · have he := ih_t hc he
          refine lv_iconst (v := (3 : Int32)) hx hb d_SkeletonClockModel_fixed_47 (by decide) ?_
          refine lv_goto (tgt := 52) hx hb d_SkeletonClockModel_fixed_48 rfl ?_
          cases he
          exact k_ire hx hb hr hlk X hP hD hS d_SkeletonClockModel_fixed_52
    · have he := ih_t hc he
      refine lv_iload_n hx hb d_SkeletonClockModel_fixed_35 rfl (lv_at hl 0 rfl) ?_
      cases he
      exact k_ire hx hb hr hlk X hP hD hS d_SkeletonClockModel_fixed_36
  · have he := ih_f hc he
    refine lv_iconst (v := (0 : Int32)) hx hb d_SkeletonClockModel_fixed_10 (by decide) ?_
    cases he
    exact k_ire hx hb hr hlk X hP hD hS d_SkeletonClockModel_fixed_11
