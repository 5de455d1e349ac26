abbrev b_SkeletonClockModel_define : ByteArray := prog_14_method_24_code
def y_SkeletonClockModel_define : MethodName := ⟨"SkeletonClockModel", "define", "(I)I"⟩
theorem kd_SkeletonClockModel_define : kd_ok y_SkeletonClockModel_define 1 := by decide +kernel
abbrev b_SkeletonClockModel_wished : ByteArray := prog_14_method_25_code
def y_SkeletonClockModel_wished : MethodName := ⟨"SkeletonClockModel", "wished", "()Z"⟩
theorem kd_SkeletonClockModel_wished : kd_ok y_SkeletonClockModel_wished 0 := by decide +kernel
theorem gm_5_17 : Cond.code ({ cls := "SkeletonClockModel", name := "pattern", desc := "()I" } : MethodName) prog_14_method_23_code (5 : Nat) (Option.some FieldType.int) ∈ GW := gw_5 (i := 17) rfl rfl
theorem gm_5_14 : Cond.methodLink "SkeletonClockModel" (205 : Nat) ({ cls := "SkeletonClockModel", name := "pattern", desc := "()I" } : MethodName) ∈ GW := gw_5 (i := 14) rfl rfl
theorem gm_5_16 : Cond.instanceMethod ({ cls := "SkeletonClockModel", name := "pattern", desc := "()I" } : MethodName) ∈ GW := gw_5 (i := 16) rfl rfl
theorem gm_p2_15 : Cond.selects "SkeletonClockModel" ⟨"SkeletonClockModel", "pattern", "()I"⟩ ⟨"SkeletonClockModel", "pattern", "()I"⟩ ∈ GW := gs_2 (i := 15) rfl
theorem gm_4_162 : Cond.fieldLink "SkeletonClockModel" (39 : Nat) "SkeletonClockModel" "there" "[Z" ∈ GW := gw_4 (i := 162) rfl rfl
theorem gm_4_163 : Cond.fieldLink "SkeletonClockModel" (43 : Nat) "SkeletonClockModel" "wish" "[I" ∈ GW := gw_4 (i := 163) rfl rfl
theorem d_SkeletonClockModel_define_0 : decode b_SkeletonClockModel_define 0 = .ok (.iload_n 1, 1) := by decide +kernel
theorem d_SkeletonClockModel_define_1 : decode b_SkeletonClockModel_define 1 = .ok (.ifCond .lt 8, 3) := by decide +kernel
theorem d_SkeletonClockModel_define_4 : decode b_SkeletonClockModel_define 4 = .ok (.iload_n 1, 1) := by decide +kernel
theorem d_SkeletonClockModel_define_5 : decode b_SkeletonClockModel_define 5 = .ok (.iconst 5, 1) := by decide +kernel
theorem d_SkeletonClockModel_define_6 : decode b_SkeletonClockModel_define 6 = .ok (.if_icmp .le 6, 3) := by decide +kernel
theorem d_SkeletonClockModel_define_9 : decode b_SkeletonClockModel_define 9 = .ok (.bipush (-2), 2) := by decide +kernel
theorem d_SkeletonClockModel_define_11 : decode b_SkeletonClockModel_define 11 = .ok (.ireturn, 1) := by decide +kernel
theorem d_SkeletonClockModel_define_12 : decode b_SkeletonClockModel_define 12 = .ok (.aload_n 0, 1) := by decide +kernel
theorem d_SkeletonClockModel_define_13 : decode b_SkeletonClockModel_define 13 = .ok (.invokevirtual 205, 3) := by decide +kernel
theorem d_SkeletonClockModel_define_16 : decode b_SkeletonClockModel_define 16 = .ok (.istore_n 2, 1) := by decide +kernel
theorem d_SkeletonClockModel_define_17 : decode b_SkeletonClockModel_define 17 = .ok (.aload_n 0, 1) := by decide +kernel
theorem d_SkeletonClockModel_define_18 : decode b_SkeletonClockModel_define 18 = .ok (.iconst 0, 1) := by decide +kernel
theorem d_SkeletonClockModel_define_19 : decode b_SkeletonClockModel_define 19 = .ok (.putfield 181, 3) := by decide +kernel
theorem d_SkeletonClockModel_define_22 : decode b_SkeletonClockModel_define 22 = .ok (.iload_n 2, 1) := by decide +kernel
theorem d_SkeletonClockModel_define_23 : decode b_SkeletonClockModel_define 23 = .ok (.ifCond .lt 5, 3) := by decide +kernel
theorem d_SkeletonClockModel_define_26 : decode b_SkeletonClockModel_define 26 = .ok (.iload_n 2, 1) := by decide +kernel
theorem d_SkeletonClockModel_define_27 : decode b_SkeletonClockModel_define 27 = .ok (.ireturn, 1) := by decide +kernel
theorem d_SkeletonClockModel_define_28 : decode b_SkeletonClockModel_define 28 = .ok (.aload_n 0, 1) := by decide +kernel
theorem d_SkeletonClockModel_define_29 : decode b_SkeletonClockModel_define 29 = .ok (.getfield 39, 3) := by decide +kernel
theorem d_SkeletonClockModel_define_32 : decode b_SkeletonClockModel_define 32 = .ok (.iload_n 1, 1) := by decide +kernel
theorem d_SkeletonClockModel_define_33 : decode b_SkeletonClockModel_define 33 = .ok (.iconst 1, 1) := by decide +kernel
theorem d_SkeletonClockModel_define_34 : decode b_SkeletonClockModel_define 34 = .ok (.bastore, 1) := by decide +kernel
theorem d_SkeletonClockModel_define_35 : decode b_SkeletonClockModel_define 35 = .ok (.aload_n 0, 1) := by decide +kernel
theorem d_SkeletonClockModel_define_36 : decode b_SkeletonClockModel_define 36 = .ok (.getfield 36, 3) := by decide +kernel
theorem d_SkeletonClockModel_define_39 : decode b_SkeletonClockModel_define 39 = .ok (.iload_n 1, 1) := by decide +kernel
theorem d_SkeletonClockModel_define_40 : decode b_SkeletonClockModel_define 40 = .ok (.aload_n 0, 1) := by decide +kernel
theorem d_SkeletonClockModel_define_41 : decode b_SkeletonClockModel_define 41 = .ok (.getfield 36, 3) := by decide +kernel
theorem d_SkeletonClockModel_define_44 : decode b_SkeletonClockModel_define 44 = .ok (.bipush 6, 2) := by decide +kernel
theorem d_SkeletonClockModel_define_46 : decode b_SkeletonClockModel_define 46 = .ok (.iaload, 1) := by decide +kernel
theorem d_SkeletonClockModel_define_47 : decode b_SkeletonClockModel_define 47 = .ok (.iastore, 1) := by decide +kernel
theorem d_SkeletonClockModel_define_48 : decode b_SkeletonClockModel_define 48 = .ok (.iconst 0, 1) := by decide +kernel
theorem d_SkeletonClockModel_define_49 : decode b_SkeletonClockModel_define 49 = .ok (.istore_n 3, 1) := by decide +kernel
theorem d_SkeletonClockModel_define_50 : decode b_SkeletonClockModel_define 50 = .ok (.iload_n 3, 1) := by decide +kernel
theorem d_SkeletonClockModel_define_51 : decode b_SkeletonClockModel_define 51 = .ok (.aload_n 0, 1) := by decide +kernel
theorem d_SkeletonClockModel_define_52 : decode b_SkeletonClockModel_define 52 = .ok (.getfield 36, 3) := by decide +kernel
theorem d_SkeletonClockModel_define_55 : decode b_SkeletonClockModel_define 55 = .ok (.bipush 6, 2) := by decide +kernel
theorem d_SkeletonClockModel_define_57 : decode b_SkeletonClockModel_define 57 = .ok (.iaload, 1) := by decide +kernel
theorem d_SkeletonClockModel_define_58 : decode b_SkeletonClockModel_define 58 = .ok (.if_icmp .ge 109, 3) := by decide +kernel
theorem d_SkeletonClockModel_define_61 : decode b_SkeletonClockModel_define 61 = .ok (.aload_n 0, 1) := by decide +kernel
theorem d_SkeletonClockModel_define_62 : decode b_SkeletonClockModel_define 62 = .ok (.getfield 20, 3) := by decide +kernel
theorem d_SkeletonClockModel_define_65 : decode b_SkeletonClockModel_define 65 = .ok (.bipush 20, 2) := by decide +kernel
theorem d_SkeletonClockModel_define_67 : decode b_SkeletonClockModel_define 67 = .ok (.iload_n 1, 1) := by decide +kernel
theorem d_SkeletonClockModel_define_68 : decode b_SkeletonClockModel_define 68 = .ok (.imul, 1) := by decide +kernel
theorem d_SkeletonClockModel_define_69 : decode b_SkeletonClockModel_define 69 = .ok (.iload_n 3, 1) := by decide +kernel
theorem d_SkeletonClockModel_define_70 : decode b_SkeletonClockModel_define 70 = .ok (.iadd, 1) := by decide +kernel
theorem d_SkeletonClockModel_define_71 : decode b_SkeletonClockModel_define 71 = .ok (.aload_n 0, 1) := by decide +kernel
theorem d_SkeletonClockModel_define_72 : decode b_SkeletonClockModel_define 72 = .ok (.getfield 20, 3) := by decide +kernel
theorem d_SkeletonClockModel_define_75 : decode b_SkeletonClockModel_define 75 = .ok (.bipush 120, 2) := by decide +kernel
theorem d_SkeletonClockModel_define_77 : decode b_SkeletonClockModel_define 77 = .ok (.iload_n 3, 1) := by decide +kernel
theorem d_SkeletonClockModel_define_78 : decode b_SkeletonClockModel_define 78 = .ok (.iadd, 1) := by decide +kernel
theorem d_SkeletonClockModel_define_79 : decode b_SkeletonClockModel_define 79 = .ok (.iaload, 1) := by decide +kernel
theorem d_SkeletonClockModel_define_80 : decode b_SkeletonClockModel_define 80 = .ok (.iastore, 1) := by decide +kernel
theorem d_SkeletonClockModel_define_81 : decode b_SkeletonClockModel_define 81 = .ok (.aload_n 0, 1) := by decide +kernel
theorem d_SkeletonClockModel_define_82 : decode b_SkeletonClockModel_define 82 = .ok (.getfield 24, 3) := by decide +kernel
theorem d_SkeletonClockModel_define_85 : decode b_SkeletonClockModel_define 85 = .ok (.bipush 20, 2) := by decide +kernel
theorem d_SkeletonClockModel_define_87 : decode b_SkeletonClockModel_define 87 = .ok (.iload_n 1, 1) := by decide +kernel
theorem d_SkeletonClockModel_define_88 : decode b_SkeletonClockModel_define 88 = .ok (.imul, 1) := by decide +kernel
theorem d_SkeletonClockModel_define_89 : decode b_SkeletonClockModel_define 89 = .ok (.iload_n 3, 1) := by decide +kernel
theorem d_SkeletonClockModel_define_90 : decode b_SkeletonClockModel_define 90 = .ok (.iadd, 1) := by decide +kernel
theorem d_SkeletonClockModel_define_91 : decode b_SkeletonClockModel_define 91 = .ok (.aload_n 0, 1) := by decide +kernel
theorem d_SkeletonClockModel_define_92 : decode b_SkeletonClockModel_define 92 = .ok (.getfield 24, 3) := by decide +kernel
theorem d_SkeletonClockModel_define_95 : decode b_SkeletonClockModel_define 95 = .ok (.bipush 120, 2) := by decide +kernel
theorem d_SkeletonClockModel_define_97 : decode b_SkeletonClockModel_define 97 = .ok (.iload_n 3, 1) := by decide +kernel
theorem d_SkeletonClockModel_define_98 : decode b_SkeletonClockModel_define 98 = .ok (.iadd, 1) := by decide +kernel
theorem d_SkeletonClockModel_define_99 : decode b_SkeletonClockModel_define 99 = .ok (.iaload, 1) := by decide +kernel
theorem d_SkeletonClockModel_define_100 : decode b_SkeletonClockModel_define 100 = .ok (.iastore, 1) := by decide +kernel
theorem d_SkeletonClockModel_define_101 : decode b_SkeletonClockModel_define 101 = .ok (.aload_n 0, 1) := by decide +kernel
theorem d_SkeletonClockModel_define_102 : decode b_SkeletonClockModel_define 102 = .ok (.getfield 27, 3) := by decide +kernel
theorem d_SkeletonClockModel_define_105 : decode b_SkeletonClockModel_define 105 = .ok (.bipush 20, 2) := by decide +kernel
theorem d_SkeletonClockModel_define_107 : decode b_SkeletonClockModel_define 107 = .ok (.iload_n 1, 1) := by decide +kernel
theorem d_SkeletonClockModel_define_108 : decode b_SkeletonClockModel_define 108 = .ok (.imul, 1) := by decide +kernel
theorem d_SkeletonClockModel_define_109 : decode b_SkeletonClockModel_define 109 = .ok (.iload_n 3, 1) := by decide +kernel
theorem d_SkeletonClockModel_define_110 : decode b_SkeletonClockModel_define 110 = .ok (.iadd, 1) := by decide +kernel
theorem d_SkeletonClockModel_define_111 : decode b_SkeletonClockModel_define 111 = .ok (.aload_n 0, 1) := by decide +kernel
theorem d_SkeletonClockModel_define_112 : decode b_SkeletonClockModel_define 112 = .ok (.getfield 27, 3) := by decide +kernel
theorem d_SkeletonClockModel_define_115 : decode b_SkeletonClockModel_define 115 = .ok (.bipush 120, 2) := by decide +kernel
theorem d_SkeletonClockModel_define_117 : decode b_SkeletonClockModel_define 117 = .ok (.iload_n 3, 1) := by decide +kernel
theorem d_SkeletonClockModel_define_118 : decode b_SkeletonClockModel_define 118 = .ok (.iadd, 1) := by decide +kernel
theorem d_SkeletonClockModel_define_119 : decode b_SkeletonClockModel_define 119 = .ok (.iaload, 1) := by decide +kernel
theorem d_SkeletonClockModel_define_120 : decode b_SkeletonClockModel_define 120 = .ok (.iastore, 1) := by decide +kernel
theorem d_SkeletonClockModel_define_121 : decode b_SkeletonClockModel_define 121 = .ok (.aload_n 0, 1) := by decide +kernel
theorem d_SkeletonClockModel_define_122 : decode b_SkeletonClockModel_define 122 = .ok (.getfield 30, 3) := by decide +kernel
theorem d_SkeletonClockModel_define_125 : decode b_SkeletonClockModel_define 125 = .ok (.bipush 20, 2) := by decide +kernel
theorem d_SkeletonClockModel_define_127 : decode b_SkeletonClockModel_define 127 = .ok (.iload_n 1, 1) := by decide +kernel
theorem d_SkeletonClockModel_define_128 : decode b_SkeletonClockModel_define 128 = .ok (.imul, 1) := by decide +kernel
theorem d_SkeletonClockModel_define_129 : decode b_SkeletonClockModel_define 129 = .ok (.iload_n 3, 1) := by decide +kernel
theorem d_SkeletonClockModel_define_130 : decode b_SkeletonClockModel_define 130 = .ok (.iadd, 1) := by decide +kernel
theorem d_SkeletonClockModel_define_131 : decode b_SkeletonClockModel_define 131 = .ok (.aload_n 0, 1) := by decide +kernel
theorem d_SkeletonClockModel_define_132 : decode b_SkeletonClockModel_define 132 = .ok (.getfield 30, 3) := by decide +kernel
theorem d_SkeletonClockModel_define_135 : decode b_SkeletonClockModel_define 135 = .ok (.bipush 120, 2) := by decide +kernel
theorem d_SkeletonClockModel_define_137 : decode b_SkeletonClockModel_define 137 = .ok (.iload_n 3, 1) := by decide +kernel
theorem d_SkeletonClockModel_define_138 : decode b_SkeletonClockModel_define 138 = .ok (.iadd, 1) := by decide +kernel
theorem d_SkeletonClockModel_define_139 : decode b_SkeletonClockModel_define 139 = .ok (.iaload, 1) := by decide +kernel
theorem d_SkeletonClockModel_define_140 : decode b_SkeletonClockModel_define 140 = .ok (.iastore, 1) := by decide +kernel
theorem d_SkeletonClockModel_define_141 : decode b_SkeletonClockModel_define 141 = .ok (.aload_n 0, 1) := by decide +kernel
theorem d_SkeletonClockModel_define_142 : decode b_SkeletonClockModel_define 142 = .ok (.getfield 33, 3) := by decide +kernel
theorem d_SkeletonClockModel_define_145 : decode b_SkeletonClockModel_define 145 = .ok (.bipush 20, 2) := by decide +kernel
theorem d_SkeletonClockModel_define_147 : decode b_SkeletonClockModel_define 147 = .ok (.iload_n 1, 1) := by decide +kernel
theorem d_SkeletonClockModel_define_148 : decode b_SkeletonClockModel_define 148 = .ok (.imul, 1) := by decide +kernel
theorem d_SkeletonClockModel_define_149 : decode b_SkeletonClockModel_define 149 = .ok (.iload_n 3, 1) := by decide +kernel
theorem d_SkeletonClockModel_define_150 : decode b_SkeletonClockModel_define 150 = .ok (.iadd, 1) := by decide +kernel
theorem d_SkeletonClockModel_define_151 : decode b_SkeletonClockModel_define 151 = .ok (.aload_n 0, 1) := by decide +kernel
theorem d_SkeletonClockModel_define_152 : decode b_SkeletonClockModel_define 152 = .ok (.getfield 33, 3) := by decide +kernel
theorem d_SkeletonClockModel_define_155 : decode b_SkeletonClockModel_define 155 = .ok (.bipush 120, 2) := by decide +kernel
theorem d_SkeletonClockModel_define_157 : decode b_SkeletonClockModel_define 157 = .ok (.iload_n 3, 1) := by decide +kernel
theorem d_SkeletonClockModel_define_158 : decode b_SkeletonClockModel_define 158 = .ok (.iadd, 1) := by decide +kernel
theorem d_SkeletonClockModel_define_159 : decode b_SkeletonClockModel_define 159 = .ok (.iaload, 1) := by decide +kernel
theorem d_SkeletonClockModel_define_160 : decode b_SkeletonClockModel_define 160 = .ok (.iastore, 1) := by decide +kernel
theorem d_SkeletonClockModel_define_161 : decode b_SkeletonClockModel_define 161 = .ok (.iinc 3 1, 3) := by decide +kernel
theorem d_SkeletonClockModel_define_164 : decode b_SkeletonClockModel_define 164 = .ok (.goto (-114), 3) := by decide +kernel
theorem d_SkeletonClockModel_define_167 : decode b_SkeletonClockModel_define 167 = .ok (.iconst (-1), 1) := by decide +kernel
theorem d_SkeletonClockModel_define_168 : decode b_SkeletonClockModel_define 168 = .ok (.ireturn, 1) := by decide +kernel
theorem d_SkeletonClockModel_wished_0 : decode b_SkeletonClockModel_wished 0 = .ok (.iconst 0, 1) := by decide +kernel
theorem d_SkeletonClockModel_wished_1 : decode b_SkeletonClockModel_wished 1 = .ok (.istore_n 1, 1) := by decide +kernel
theorem d_SkeletonClockModel_wished_2 : decode b_SkeletonClockModel_wished 2 = .ok (.iload_n 1, 1) := by decide +kernel
theorem d_SkeletonClockModel_wished_3 : decode b_SkeletonClockModel_wished 3 = .ok (.sipush 128, 3) := by decide +kernel
theorem d_SkeletonClockModel_wished_6 : decode b_SkeletonClockModel_wished 6 = .ok (.if_icmp .ge 16, 3) := by decide +kernel
theorem d_SkeletonClockModel_wished_9 : decode b_SkeletonClockModel_wished 9 = .ok (.aload_n 0, 1) := by decide +kernel
theorem d_SkeletonClockModel_wished_10 : decode b_SkeletonClockModel_wished 10 = .ok (.getfield 43, 3) := by decide +kernel
theorem d_SkeletonClockModel_wished_13 : decode b_SkeletonClockModel_wished 13 = .ok (.iload_n 1, 1) := by decide +kernel
theorem d_SkeletonClockModel_wished_14 : decode b_SkeletonClockModel_wished 14 = .ok (.iconst 0, 1) := by decide +kernel
theorem d_SkeletonClockModel_wished_15 : decode b_SkeletonClockModel_wished 15 = .ok (.iastore, 1) := by decide +kernel
theorem d_SkeletonClockModel_wished_16 : decode b_SkeletonClockModel_wished 16 = .ok (.iinc 1 1, 3) := by decide +kernel
theorem d_SkeletonClockModel_wished_19 : decode b_SkeletonClockModel_wished 19 = .ok (.goto (-17), 3) := by decide +kernel
theorem d_SkeletonClockModel_wished_22 : decode b_SkeletonClockModel_wished 22 = .ok (.iconst 0, 1) := by decide +kernel
theorem d_SkeletonClockModel_wished_23 : decode b_SkeletonClockModel_wished 23 = .ok (.istore_n 1, 1) := by decide +kernel
theorem d_SkeletonClockModel_wished_24 : decode b_SkeletonClockModel_wished 24 = .ok (.iload_n 1, 1) := by decide +kernel
theorem d_SkeletonClockModel_wished_25 : decode b_SkeletonClockModel_wished 25 = .ok (.aload_n 0, 1) := by decide +kernel
theorem d_SkeletonClockModel_wished_26 : decode b_SkeletonClockModel_wished 26 = .ok (.getfield 181, 3) := by decide +kernel
theorem d_SkeletonClockModel_wished_29 : decode b_SkeletonClockModel_wished 29 = .ok (.if_icmp .ge 62, 3) := by decide +kernel
theorem d_SkeletonClockModel_wished_32 : decode b_SkeletonClockModel_wished 32 = .ok (.aload_n 0, 1) := by decide +kernel
theorem d_SkeletonClockModel_wished_33 : decode b_SkeletonClockModel_wished 33 = .ok (.iload_n 1, 1) := by decide +kernel
theorem d_SkeletonClockModel_wished_34 : decode b_SkeletonClockModel_wished 34 = .ok (.invokevirtual 191, 3) := by decide +kernel
theorem d_SkeletonClockModel_wished_37 : decode b_SkeletonClockModel_wished 37 = .ok (.istore_n 2, 1) := by decide +kernel
theorem d_SkeletonClockModel_wished_38 : decode b_SkeletonClockModel_wished 38 = .ok (.aload_n 0, 1) := by decide +kernel
theorem d_SkeletonClockModel_wished_39 : decode b_SkeletonClockModel_wished 39 = .ok (.iload_n 1, 1) := by decide +kernel
theorem d_SkeletonClockModel_wished_40 : decode b_SkeletonClockModel_wished 40 = .ok (.invokevirtual 187, 3) := by decide +kernel
theorem d_SkeletonClockModel_wished_43 : decode b_SkeletonClockModel_wished 43 = .ok (.ifCond .eq 28, 3) := by decide +kernel
theorem d_SkeletonClockModel_wished_46 : decode b_SkeletonClockModel_wished 46 = .ok (.aload_n 0, 1) := by decide +kernel
theorem d_SkeletonClockModel_wished_47 : decode b_SkeletonClockModel_wished 47 = .ok (.iload_n 1, 1) := by decide +kernel
theorem d_SkeletonClockModel_wished_48 : decode b_SkeletonClockModel_wished 48 = .ok (.invokevirtual 184, 3) := by decide +kernel
theorem d_SkeletonClockModel_wished_51 : decode b_SkeletonClockModel_wished 51 = .ok (.iload_n 2, 1) := by decide +kernel
theorem d_SkeletonClockModel_wished_52 : decode b_SkeletonClockModel_wished 52 = .ok (.invokestatic 194, 3) := by decide +kernel
theorem d_SkeletonClockModel_wished_55 : decode b_SkeletonClockModel_wished 55 = .ok (.ifCond .eq 16, 3) := by decide +kernel
theorem d_SkeletonClockModel_wished_58 : decode b_SkeletonClockModel_wished 58 = .ok (.aload_n 0, 1) := by decide +kernel
theorem d_SkeletonClockModel_wished_59 : decode b_SkeletonClockModel_wished 59 = .ok (.getfield 43, 3) := by decide +kernel
theorem d_SkeletonClockModel_wished_62 : decode b_SkeletonClockModel_wished 62 = .ok (.aload_n 0, 1) := by decide +kernel
theorem d_SkeletonClockModel_wished_63 : decode b_SkeletonClockModel_wished 63 = .ok (.iload_n 1, 1) := by decide +kernel
theorem d_SkeletonClockModel_wished_64 : decode b_SkeletonClockModel_wished 64 = .ok (.invokevirtual 184, 3) := by decide +kernel
theorem d_SkeletonClockModel_wished_67 : decode b_SkeletonClockModel_wished 67 = .ok (.iaload, 1) := by decide +kernel
theorem d_SkeletonClockModel_wished_68 : decode b_SkeletonClockModel_wished 68 = .ok (.ifCond .le 5, 3) := by decide +kernel
theorem d_SkeletonClockModel_wished_71 : decode b_SkeletonClockModel_wished 71 = .ok (.iconst 0, 1) := by decide +kernel
theorem d_SkeletonClockModel_wished_72 : decode b_SkeletonClockModel_wished 72 = .ok (.ireturn, 1) := by decide +kernel
theorem d_SkeletonClockModel_wished_73 : decode b_SkeletonClockModel_wished 73 = .ok (.aload_n 0, 1) := by decide +kernel
theorem d_SkeletonClockModel_wished_74 : decode b_SkeletonClockModel_wished 74 = .ok (.getfield 43, 3) := by decide +kernel
theorem d_SkeletonClockModel_wished_77 : decode b_SkeletonClockModel_wished 77 = .ok (.aload_n 0, 1) := by decide +kernel
theorem d_SkeletonClockModel_wished_78 : decode b_SkeletonClockModel_wished 78 = .ok (.iload_n 1, 1) := by decide +kernel
theorem d_SkeletonClockModel_wished_79 : decode b_SkeletonClockModel_wished 79 = .ok (.invokevirtual 184, 3) := by decide +kernel
theorem d_SkeletonClockModel_wished_82 : decode b_SkeletonClockModel_wished 82 = .ok (.iload_n 2, 1) := by decide +kernel
theorem d_SkeletonClockModel_wished_83 : decode b_SkeletonClockModel_wished 83 = .ok (.iastore, 1) := by decide +kernel
theorem d_SkeletonClockModel_wished_84 : decode b_SkeletonClockModel_wished 84 = .ok (.iload_n 1, 1) := by decide +kernel
theorem d_SkeletonClockModel_wished_85 : decode b_SkeletonClockModel_wished 85 = .ok (.iload_n 2, 1) := by decide +kernel
theorem d_SkeletonClockModel_wished_86 : decode b_SkeletonClockModel_wished 86 = .ok (.iadd, 1) := by decide +kernel
theorem d_SkeletonClockModel_wished_87 : decode b_SkeletonClockModel_wished 87 = .ok (.istore_n 1, 1) := by decide +kernel
theorem d_SkeletonClockModel_wished_88 : decode b_SkeletonClockModel_wished 88 = .ok (.goto (-64), 3) := by decide +kernel
theorem d_SkeletonClockModel_wished_91 : decode b_SkeletonClockModel_wished 91 = .ok (.iconst 1, 1) := by decide +kernel
theorem d_SkeletonClockModel_wished_92 : decode b_SkeletonClockModel_wished 92 = .ok (.ireturn, 1) := by decide +kernel
abbrev rm_SkeletonClockModel_define : Room := { frames := 3, cells := 0, slots := 0, locals := 68 }
set_option maxHeartbeats 4000000 in
set_option maxRecDepth 100000 in
theorem w_SkeletonClockModel_define_50 {p : Program} {l : Launch} {e : Env} {s : State} {m : MethodId} {args : Array Value} {below : List Frame} {meth : Method} {c : Code} {Q : State → Prop} {A : Nat → Prop} {D : va_G} {kk : Nat → ClassId} {st : Nat → Nat} (a_t a_t_text a_t_sort a_t_code a_t_count a_t_around a_t_end a_t_size a_t_there a_t_page a_t_names a_t_wish a_t_have a_t_known a_t_value a_t_before a_t_open a_t_from : Nat) (t_length : Int32) (t_used : Int32) (t_far : Int32) (t_momentParts : Int32) (t_momentDay : Int64) (t_momentSecond : Int32) (t_momentNano : Int32) (t_momentOffset : Int32) (t_readParts : Int32) (t_readDay : Int64) (t_readSecond : Int32) (t_readNano : Int32) (t_readOffset : Int32) (t_alike : Int32) (t_text : Nat → Int32) (t_size : Nat → Int32) (t_there : Nat → Int32) (x1 : Int32) (S : CallFix p m c b_SkeletonClockModel_define 4 s args GW y_SkeletonClockModel_define.cls) (hr : meth.sig.returnType = (some .int)) (hlk : meth.locks = false) (hA : ∀ q, s.heap.size ≤ q → A q) (X : KX D kk st A s) : ∀ (n : Nat) (x3 : Int32) (t_sort : Nat → Int32) (t_code : Nat → Int32) (t_count : Nat → Int32) (t_around : Nat → Int32) (t_end : Nat → Int32) (v : Int32 × (Nat → Int32) × (Nat → Int32) × (Nat → Int32) × (Nat → Int32) × (Nat → Int32)) (H : Heap) (locs : List Loc) (ls : Array Slot), lp_SkeletonClockModel_define_50 t_size x1 n x3 t_sort t_code t_count t_around t_end = some v → lv_has ls 4 [(0, .ref a_t), (1, .int x1), (3, .int x3)] → va_P D classes [(a_t, .inr (10, [.int t_length, .ref a_t_text, .int t_used, .ref a_t_page, .ref a_t_names, .ref a_t_sort, .ref a_t_code, .ref a_t_count, .ref a_t_around, .ref a_t_end, .ref a_t_size, .ref a_t_there, .ref a_t_wish, .ref a_t_have, .int t_far, .int t_momentParts, .long t_momentDay, .int t_momentSecond, .int t_momentNano, .int t_momentOffset, .int t_readParts, .long t_readDay, .int t_readSecond, .int t_readNano, .int t_readOffset, .ref a_t_known, .ref a_t_value, .ref a_t_before, .ref a_t_open, .ref a_t_from, .int t_alike])), (a_t_text, .inl (kk 1, 60, .inl t_text)), (a_t_sort, .inl (kk 0, 140, .inl t_sort)), (a_t_code, .inl (kk 0, 140, .inl t_code)), (a_t_count, .inl (kk 0, 140, .inl t_count)), (a_t_around, .inl (kk 0, 140, .inl t_around)), (a_t_end, .inl (kk 0, 140, .inl t_end)), (a_t_size, .inl (kk 0, 7, .inl t_size)), (a_t_there, .inl (kk 2, 7, .inl t_there))] H → va_D A [(a_t, .inr (10, [.int t_length, .ref a_t_text, .int t_used, .ref a_t_page, .ref a_t_names, .ref a_t_sort, .ref a_t_code, .ref a_t_count, .ref a_t_around, .ref a_t_end, .ref a_t_size, .ref a_t_there, .ref a_t_wish, .ref a_t_have, .int t_far, .int t_momentParts, .long t_momentDay, .int t_momentSecond, .int t_momentNano, .int t_momentOffset, .int t_readParts, .long t_readDay, .int t_readSecond, .int t_readNano, .int t_readOffset, .ref a_t_known, .ref a_t_value, .ref a_t_before, .ref a_t_open, .ref a_t_from, .int t_alike])), (a_t_text, .inl (kk 1, 60, .inl t_text)), (a_t_sort, .inl (kk 0, 140, .inl t_sort)), (a_t_code, .inl (kk 0, 140, .inl t_code)), (a_t_count, .inl (kk 0, 140, .inl t_count)), (a_t_around, .inl (kk 0, 140, .inl t_around)), (a_t_end, .inl (kk 0, 140, .inl t_end)), (a_t_size, .inl (kk 0, 7, .inl t_size)), (a_t_there, .inl (kk 2, 7, .inl t_there))] → va_S A s.heap H locs → (∀ (H : Heap) (locs : List Loc) (ls : Array Slot), lv_has ls 4 [(0, .ref a_t), (1, .int x1), (3, .int v.1)] → va_P D classes [(a_t, .inr (10, [.int t_length, .ref a_t_text, .int t_used, .ref a_t_page, .ref a_t_names, .ref a_t_sort, .ref a_t_code, .ref a_t_count, .ref a_t_around, .ref a_t_end, .ref a_t_size, .ref a_t_there, .ref a_t_wish, .ref a_t_have, .int t_far, .int t_momentParts, .long t_momentDay, .int t_momentSecond, .int t_momentNano, .int t_momentOffset, .int t_readParts, .long t_readDay, .int t_readSecond, .int t_readNano, .int t_readOffset, .ref a_t_known, .ref a_t_value, .ref a_t_before, .ref a_t_open, .ref a_t_from, .int t_alike])), (a_t_text, .inl (kk 1, 60, .inl t_text)), (a_t_sort, .inl (kk 0, 140, .inl v.2.1)), (a_t_code, .inl (kk 0, 140, .inl v.2.2.1)), (a_t_count, .inl (kk 0, 140, .inl v.2.2.2.1)), (a_t_around, .inl (kk 0, 140, .inl v.2.2.2.2.1)), (a_t_end, .inl (kk 0, 140, .inl v.2.2.2.2.2)), (a_t_size, .inl (kk 0, 7, .inl t_size)), (a_t_there, .inl (kk 2, 7, .inl t_there))] H → va_D A [(a_t, .inr (10, [.int t_length, .ref a_t_text, .int t_used, .ref a_t_page, .ref a_t_names, .ref a_t_sort, .ref a_t_code, .ref a_t_count, .ref a_t_around, .ref a_t_end, .ref a_t_size, .ref a_t_there, .ref a_t_wish, .ref a_t_have, .int t_far, .int t_momentParts, .long t_momentDay, .int t_momentSecond, .int t_momentNano, .int t_momentOffset, .int t_readParts, .long t_readDay, .int t_readSecond, .int t_readNano, .int t_readOffset, .ref a_t_known, .ref a_t_value, .ref a_t_before, .ref a_t_open, .ref a_t_from, .int t_alike])), (a_t_text, .inl (kk 1, 60, .inl t_text)), (a_t_sort, .inl (kk 0, 140, .inl v.2.1)), (a_t_code, .inl (kk 0, 140, .inl v.2.2.1)), (a_t_count, .inl (kk 0, 140, .inl v.2.2.2.1)), (a_t_around, .inl (kk 0, 140, .inl v.2.2.2.2.1)), (a_t_end, .inl (kk 0, 140, .inl v.2.2.2.2.2)), (a_t_size, .inl (kk 0, 7, .inl t_size)), (a_t_there, .inl (kk 2, 7, .inl t_there))] → va_S A s.heap H locs → W p l e rm_SkeletonClockModel_define s m args below meth c H locs 0 0 Q (F0 m 167 ls [])) → W p l e rm_SkeletonClockModel_define s m args below meth c H locs 0 0 Q (F0 m 50 ls []) := by
  intro n
  induction n with
  | zero =>
    intro x3 t_sort t_code t_count t_around t_end v H locs ls he hl hP hD hS K
    exact ih_n he
  | succ n ih =>
    intro x3 t_sort t_code t_count t_around t_end v H locs ls he hl hP hD hS K
    have hx := S.1
    have hb := S.2.1
    have he : st_SkeletonClockModel_define_50 t_size x1 (lp_SkeletonClockModel_define_50 t_size x1 n) x3 t_sort t_code t_count t_around t_end = some v := he
    unfold st_SkeletonClockModel_define_50 at he
    refine lv_iload_n hx hb d_SkeletonClockModel_define_50 rfl (lv_at hl 2 rfl) ?_
    refine lv_aload_n hx hb d_SkeletonClockModel_define_51 rfl (lv_at hl 0 rfl) ?_
    refine k_get S X us_SkeletonClockModel hP 0 rfl rfl 10 (by decide) gm_4_161 rfl d_SkeletonClockModel_define_52 ?_
    refine lv_bipush (v := (6 : Int32)) hx hb d_SkeletonClockModel_define_55 (by decide) ?_
    refine va_iald hx hb X.1 hP 7 0 rfl rfl (show ¬ ((6 : Int32) < 0 ∨ 7 ≤ ((6 : Int32)).toNatClampNeg) by decide) d_SkeletonClockModel_define_57 ?_
    refine lv_icmp_ge (tgt := 167) hx hb d_SkeletonClockModel_define_58 rfl (fun hc => ?_) (fun hc => ?_)
    · have he := ih_t hc he
      have hl : lv_has ls 4 [(0, .ref a_t), (1, .int x1), (3, .int x3)] := lv_sub hl [0, 1, 2] rfl
      cases he
      exact K _ _ _ hl hP hD hS
    · have he := ih_f hc he
      refine lv_aload_n hx hb d_SkeletonClockModel_define_61 rfl (lv_at hl 0 rfl) ?_
      refine k_get S X us_SkeletonClockModel hP 0 rfl rfl 5 (by decide) gm_4_156 rfl d_SkeletonClockModel_define_62 ?_
      refine lv_bipush (v := (20 : Int32)) hx hb d_SkeletonClockModel_define_65 (by decide) ?_
      refine lv_iload_n hx hb d_SkeletonClockModel_define_67 rfl (lv_at hl 1 rfl) ?_
      refine lv_imul hx hb d_SkeletonClockModel_define_68 ?_
      refine lv_iload_n hx hb d_SkeletonClockModel_define_69 rfl (lv_at hl 2 rfl) ?_
      refine lv_iadd hx hb d_SkeletonClockModel_define_70 ?_
      refine lv_aload_n hx hb d_SkeletonClockModel_define_71 rfl (lv_at hl 0 rfl) ?_
      refine k_get S X us_SkeletonClockModel hP 0 rfl rfl 5 (by decide) gm_4_156 rfl d_SkeletonClockModel_define_72 ?_
      refine lv_bipush (v := (120 : Int32)) hx hb d_SkeletonClockModel_define_75 (by decide) ?_
      refine lv_iload_n hx hb d_SkeletonClockModel_define_77 rfl (lv_at hl 2 rfl) ?_
      refine lv_iadd hx hb d_SkeletonClockModel_define_78 ?_
      obtain ⟨hi5, he⟩ := ih_g he
      refine va_iald hx hb X.1 hP 2 0 rfl rfl hi5 d_SkeletonClockModel_define_79 ?_
      obtain ⟨hi6, he⟩ := ih_g he
      refine va_iast hx hb X.1 hP hD hS 2 0 rfl rfl hi6 d_SkeletonClockModel_define_80 (fun H locs hP hD hS => ?_)
      have hP : va_P D classes [(a_t, .inr (10, [.int t_length, .ref a_t_text, .int t_used, .ref a_t_page, .ref a_t_names, .ref a_t_sort, .ref a_t_code, .ref a_t_count, .ref a_t_around, .ref a_t_end, .ref a_t_size, .ref a_t_there, .ref a_t_wish, .ref a_t_have, .int t_far, .int t_momentParts, .long t_momentDay, .int t_momentSecond, .int t_momentNano, .int t_momentOffset, .int t_readParts, .long t_readDay, .int t_readSecond, .int t_readNano, .int t_readOffset, .ref a_t_known, .ref a_t_value, .ref a_t_before, .ref a_t_open, .ref a_t_from, .int t_alike])), (a_t_text, .inl (kk 1, 60, .inl t_text)), (a_t_sort, .inl (kk 0, 140, .inl (upd t_sort ((((20 : Int32) * x1) + x3)).toNatClampNeg (t_sort (((120 : Int32) + x3)).toNatClampNeg)))), (a_t_code, .inl (kk 0, 140, .inl t_code)), (a_t_count, .inl (kk 0, 140, .inl t_count)), (a_t_around, .inl (kk 0, 140, .inl t_around)), (a_t_end, .inl (kk 0, 140, .inl t_end)), (a_t_size, .inl (kk 0, 7, .inl t_size)), (a_t_there, .inl (kk 2, 7, .inl t_there))] H := hP
      have hD : va_D A [(a_t, .inr (10, [.int t_length, .ref a_t_text, .int t_used, .ref a_t_page, .ref a_t_names, .ref a_t_sort, .ref a_t_code, .ref a_t_count, .ref a_t_around, .ref a_t_end, .ref a_t_size, .ref a_t_there, .ref a_t_wish, .ref a_t_have, .int t_far, .int t_momentParts, .long t_momentDay, .int t_momentSecond, .int t_momentNano, .int t_momentOffset, .int t_readParts, .long t_readDay, .int t_readSecond, .int t_readNano, .int t_readOffset, .ref a_t_known, .ref a_t_value, .ref a_t_before, .ref a_t_open, .ref a_t_from, .int t_alike])), (a_t_text, .inl (kk 1, 60, .inl t_text)), (a_t_sort, .inl (kk 0, 140, .inl (upd t_sort ((((20 : Int32) * x1) + x3)).toNatClampNeg (t_sort (((120 : Int32) + x3)).toNatClampNeg)))), (a_t_code, .inl (kk 0, 140, .inl t_code)), (a_t_count, .inl (kk 0, 140, .inl t_count)), (a_t_around, .inl (kk 0, 140, .inl t_around)), (a_t_end, .inl (kk 0, 140, .inl t_end)), (a_t_size, .inl (kk 0, 7, .inl t_size)), (a_t_there, .inl (kk 2, 7, .inl t_there))] := hD
      refine lv_aload_n hx hb d_SkeletonClockModel_define_81 rfl (lv_at hl 0 rfl) ?_
      refine k_get S X us_SkeletonClockModel hP 0 rfl rfl 6 (by decide) gm_4_157 rfl d_SkeletonClockModel_define_82 ?_
      refine lv_bipush (v := (20 : Int32)) hx hb d_SkeletonClockModel_define_85 (by decide) ?_
      refine lv_iload_n hx hb d_SkeletonClockModel_define_87 rfl (lv_at hl 1 rfl) ?_
      refine lv_imul hx hb d_SkeletonClockModel_define_88 ?_
      refine lv_iload_n hx hb d_SkeletonClockModel_define_89 rfl (lv_at hl 2 rfl) ?_
      refine lv_iadd hx hb d_SkeletonClockModel_define_90 ?_
      refine lv_aload_n hx hb d_SkeletonClockModel_define_91 rfl (lv_at hl 0 rfl) ?_
      refine k_get S X us_SkeletonClockModel hP 0 rfl rfl 6 (by decide) gm_4_157 rfl d_SkeletonClockModel_define_92 ?_
      refine lv_bipush (v := (120 : Int32)) hx hb d_SkeletonClockModel_define_95 (by decide) ?_
      refine lv_iload_n hx hb d_SkeletonClockModel_define_97 rfl (lv_at hl 2 rfl) ?_
      refine lv_iadd hx hb d_SkeletonClockModel_define_98 ?_
      obtain ⟨hi7, he⟩ := ih_g he
      refine va_iald hx hb X.1 hP 3 0 rfl rfl hi7 d_SkeletonClockModel_define_99 ?_
      obtain ⟨hi8, he⟩ := ih_g he
      refine va_iast hx hb X.1 hP hD hS 3 0 rfl rfl hi8 d_SkeletonClockModel_define_100 (fun H locs hP hD hS => ?_)
      have hP : va_P D classes [(a_t, .inr (10, [.int t_length, .ref a_t_text, .int t_used, .ref a_t_page, .ref a_t_names, .ref a_t_sort, .ref a_t_code, .ref a_t_count, .ref a_t_around, .ref a_t_end, .ref a_t_size, .ref a_t_there, .ref a_t_wish, .ref a_t_have, .int t_far, .int t_momentParts, .long t_momentDay, .int t_momentSecond, .int t_momentNano, .int t_momentOffset, .int t_readParts, .long t_readDay, .int t_readSecond, .int t_readNano, .int t_readOffset, .ref a_t_known, .ref a_t_value, .ref a_t_before, .ref a_t_open, .ref a_t_from, .int t_alike])), (a_t_text, .inl (kk 1, 60, .inl t_text)), (a_t_sort, .inl (kk 0, 140, .inl (upd t_sort ((((20 : Int32) * x1) + x3)).toNatClampNeg (t_sort (((120 : Int32) + x3)).toNatClampNeg)))), (a_t_code, .inl (kk 0, 140, .inl (upd t_code ((((20 : Int32) * x1) + x3)).toNatClampNeg (t_code (((120 : Int32) + x3)).toNatClampNeg)))), (a_t_count, .inl (kk 0, 140, .inl t_count)), (a_t_around, .inl (kk 0, 140, .inl t_around)), (a_t_end, .inl (kk 0, 140, .inl t_end)), (a_t_size, .inl (kk 0, 7, .inl t_size)), (a_t_there, .inl (kk 2, 7, .inl t_there))] H := hP
      have hD : va_D A [(a_t, .inr (10, [.int t_length, .ref a_t_text, .int t_used, .ref a_t_page, .ref a_t_names, .ref a_t_sort, .ref a_t_code, .ref a_t_count, .ref a_t_around, .ref a_t_end, .ref a_t_size, .ref a_t_there, .ref a_t_wish, .ref a_t_have, .int t_far, .int t_momentParts, .long t_momentDay, .int t_momentSecond, .int t_momentNano, .int t_momentOffset, .int t_readParts, .long t_readDay, .int t_readSecond, .int t_readNano, .int t_readOffset, .ref a_t_known, .ref a_t_value, .ref a_t_before, .ref a_t_open, .ref a_t_from, .int t_alike])), (a_t_text, .inl (kk 1, 60, .inl t_text)), (a_t_sort, .inl (kk 0, 140, .inl (upd t_sort ((((20 : Int32) * x1) + x3)).toNatClampNeg (t_sort (((120 : Int32) + x3)).toNatClampNeg)))), (a_t_code, .inl (kk 0, 140, .inl (upd t_code ((((20 : Int32) * x1) + x3)).toNatClampNeg (t_code (((120 : Int32) + x3)).toNatClampNeg)))), (a_t_count, .inl (kk 0, 140, .inl t_count)), (a_t_around, .inl (kk 0, 140, .inl t_around)), (a_t_end, .inl (kk 0, 140, .inl t_end)), (a_t_size, .inl (kk 0, 7, .inl t_size)), (a_t_there, .inl (kk 2, 7, .inl t_there))] := hD
      refine lv_aload_n hx hb d_SkeletonClockModel_define_101 rfl (lv_at hl 0 rfl) ?_
      refine k_get S X us_SkeletonClockModel hP 0 rfl rfl 7 (by decide) gm_4_158 rfl d_SkeletonClockModel_define_102 ?_
      refine lv_bipush (v := (20 : Int32)) hx hb d_SkeletonClockModel_define_105 (by decide) ?_
      refine lv_iload_n hx hb d_SkeletonClockModel_define_107 rfl (lv_at hl 1 rfl) ?_
      refine lv_imul hx hb d_SkeletonClockModel_define_108 ?_
      refine lv_iload_n hx hb d_SkeletonClockModel_define_109 rfl (lv_at hl 2 rfl) ?_
      refine lv_iadd hx hb d_SkeletonClockModel_define_110 ?_
      refine lv_aload_n hx hb d_SkeletonClockModel_define_111 rfl (lv_at hl 0 rfl) ?_
      refine k_get S X us_SkeletonClockModel hP 0 rfl rfl 7 (by decide) gm_4_158 rfl d_SkeletonClockModel_define_112 ?_
      refine lv_bipush (v := (120 : Int32)) hx hb d_SkeletonClockModel_define_115 (by decide) ?_
      refine lv_iload_n hx hb d_SkeletonClockModel_define_117 rfl (lv_at hl 2 rfl) ?_
      refine lv_iadd hx hb d_SkeletonClockModel_define_118 ?_
      obtain ⟨hi9, he⟩ := ih_g he
      refine va_iald hx hb X.1 hP 4 0 rfl rfl hi9 d_SkeletonClockModel_define_119 ?_
      obtain ⟨hi10, he⟩ := ih_g he
      refine va_iast hx hb X.1 hP hD hS 4 0 rfl rfl hi10 d_SkeletonClockModel_define_120 (fun H locs hP hD hS => ?_)
      have hP : va_P D classes [(a_t, .inr (10, [.int t_length, .ref a_t_text, .int t_used, .ref a_t_page, .ref a_t_names, .ref a_t_sort, .ref a_t_code, .ref a_t_count, .ref a_t_around, .ref a_t_end, .ref a_t_size, .ref a_t_there, .ref a_t_wish, .ref a_t_have, .int t_far, .int t_momentParts, .long t_momentDay, .int t_momentSecond, .int t_momentNano, .int t_momentOffset, .int t_readParts, .long t_readDay, .int t_readSecond, .int t_readNano, .int t_readOffset, .ref a_t_known, .ref a_t_value, .ref a_t_before, .ref a_t_open, .ref a_t_from, .int t_alike])), (a_t_text, .inl (kk 1, 60, .inl t_text)), (a_t_sort, .inl (kk 0, 140, .inl (upd t_sort ((((20 : Int32) * x1) + x3)).toNatClampNeg (t_sort (((120 : Int32) + x3)).toNatClampNeg)))), (a_t_code, .inl (kk 0, 140, .inl (upd t_code ((((20 : Int32) * x1) + x3)).toNatClampNeg (t_code (((120 : Int32) + x3)).toNatClampNeg)))), (a_t_count, .inl (kk 0, 140, .inl (upd t_count ((((20 : Int32) * x1) + x3)).toNatClampNeg (t_count (((120 : Int32) + x3)).toNatClampNeg)))), (a_t_around, .inl (kk 0, 140, .inl t_around)), (a_t_end, .inl (kk 0, 140, .inl t_end)), (a_t_size, .inl (kk 0, 7, .inl t_size)), (a_t_there, .inl (kk 2, 7, .inl t_there))] H := hP
      have hD : va_D A [(a_t, .inr (10, [.int t_length, .ref a_t_text, .int t_used, .ref a_t_page, .ref a_t_names, .ref a_t_sort, .ref a_t_code, .ref a_t_count, .ref a_t_around, .ref a_t_end, .ref a_t_size, .ref a_t_there, .ref a_t_wish, .ref a_t_have, .int t_far, .int t_momentParts, .long t_momentDay, .int t_momentSecond, .int t_momentNano, .int t_momentOffset, .int t_readParts, .long t_readDay, .int t_readSecond, .int t_readNano, .int t_readOffset, .ref a_t_known, .ref a_t_value, .ref a_t_before, .ref a_t_open, .ref a_t_from, .int t_alike])), (a_t_text, .inl (kk 1, 60, .inl t_text)), (a_t_sort, .inl (kk 0, 140, .inl (upd t_sort ((((20 : Int32) * x1) + x3)).toNatClampNeg (t_sort (((120 : Int32) + x3)).toNatClampNeg)))), (a_t_code, .inl (kk 0, 140, .inl (upd t_code ((((20 : Int32) * x1) + x3)).toNatClampNeg (t_code (((120 : Int32) + x3)).toNatClampNeg)))), (a_t_count, .inl (kk 0, 140, .inl (upd t_count ((((20 : Int32) * x1) + x3)).toNatClampNeg (t_count (((120 : Int32) + x3)).toNatClampNeg)))), (a_t_around, .inl (kk 0, 140, .inl t_around)), (a_t_end, .inl (kk 0, 140, .inl t_end)), (a_t_size, .inl (kk 0, 7, .inl t_size)), (a_t_there, .inl (kk 2, 7, .inl t_there))] := hD
      refine lv_aload_n hx hb d_SkeletonClockModel_define_121 rfl (lv_at hl 0 rfl) ?_
      refine k_get S X us_SkeletonClockModel hP 0 rfl rfl 8 (by decide) gm_4_159 rfl d_SkeletonClockModel_define_122 ?_
      refine lv_bipush (v := (20 : Int32)) hx hb d_SkeletonClockModel_define_125 (by decide) ?_
      refine lv_iload_n hx hb d_SkeletonClockModel_define_127 rfl (lv_at hl 1 rfl) ?_
      refine lv_imul hx hb d_SkeletonClockModel_define_128 ?_
      refine lv_iload_n hx hb d_SkeletonClockModel_define_129 rfl (lv_at hl 2 rfl) ?_
      refine lv_iadd hx hb d_SkeletonClockModel_define_130 ?_
      refine lv_aload_n hx hb d_SkeletonClockModel_define_131 rfl (lv_at hl 0 rfl) ?_
      refine k_get S X us_SkeletonClockModel hP 0 rfl rfl 8 (by decide) gm_4_159 rfl d_SkeletonClockModel_define_132 ?_
      refine lv_bipush (v := (120 : Int32)) hx hb d_SkeletonClockModel_define_135 (by decide) ?_
      refine lv_iload_n hx hb d_SkeletonClockModel_define_137 rfl (lv_at hl 2 rfl) ?_
      refine lv_iadd hx hb d_SkeletonClockModel_define_138 ?_
      obtain ⟨hi11, he⟩ := ih_g he
      refine va_iald hx hb X.1 hP 5 0 rfl rfl hi11 d_SkeletonClockModel_define_139 ?_
      obtain ⟨hi12, he⟩ := ih_g he
      refine va_iast hx hb X.1 hP hD hS 5 0 rfl rfl hi12 d_SkeletonClockModel_define_140 (fun H locs hP hD hS => ?_)
      have hP : va_P D classes [(a_t, .inr (10, [.int t_length, .ref a_t_text, .int t_used, .ref a_t_page, .ref a_t_names, .ref a_t_sort, .ref a_t_code, .ref a_t_count, .ref a_t_around, .ref a_t_end, .ref a_t_size, .ref a_t_there, .ref a_t_wish, .ref a_t_have, .int t_far, .int t_momentParts, .long t_momentDay, .int t_momentSecond, .int t_momentNano, .int t_momentOffset, .int t_readParts, .long t_readDay, .int t_readSecond, .int t_readNano, .int t_readOffset, .ref a_t_known, .ref a_t_value, .ref a_t_before, .ref a_t_open, .ref a_t_from, .int t_alike])), (a_t_text, .inl (kk 1, 60, .inl t_text)), (a_t_sort, .inl (kk 0, 140, .inl (upd t_sort ((((20 : Int32) * x1) + x3)).toNatClampNeg (t_sort (((120 : Int32) + x3)).toNatClampNeg)))), (a_t_code, .inl (kk 0, 140, .inl (upd t_code ((((20 : Int32) * x1) + x3)).toNatClampNeg (t_code (((120 : Int32) + x3)).toNatClampNeg)))), (a_t_count, .inl (kk 0, 140, .inl (upd t_count ((((20 : Int32) * x1) + x3)).toNatClampNeg (t_count (((120 : Int32) + x3)).toNatClampNeg)))), (a_t_around, .inl (kk 0, 140, .inl (upd t_around ((((20 : Int32) * x1) + x3)).toNatClampNeg (t_around (((120 : Int32) + x3)).toNatClampNeg)))), (a_t_end, .inl (kk 0, 140, .inl t_end)), (a_t_size, .inl (kk 0, 7, .inl t_size)), (a_t_there, .inl (kk 2, 7, .inl t_there))] H := hP
      have hD : va_D A [(a_t, .inr (10, [.int t_length, .ref a_t_text, .int t_used, .ref a_t_page, .ref a_t_names, .ref a_t_sort, .ref a_t_code, .ref a_t_count, .ref a_t_around, .ref a_t_end, .ref a_t_size, .ref a_t_there, .ref a_t_wish, .ref a_t_have, .int t_far, .int t_momentParts, .long t_momentDay, .int t_momentSecond, .int t_momentNano, .int t_momentOffset, .int t_readParts, .long t_readDay, .int t_readSecond, .int t_readNano, .int t_readOffset, .ref a_t_known, .ref a_t_value, .ref a_t_before, .ref a_t_open, .ref a_t_from, .int t_alike])), (a_t_text, .inl (kk 1, 60, .inl t_text)), (a_t_sort, .inl (kk 0, 140, .inl (upd t_sort ((((20 : Int32) * x1) + x3)).toNatClampNeg (t_sort (((120 : Int32) + x3)).toNatClampNeg)))), (a_t_code, .inl (kk 0, 140, .inl (upd t_code ((((20 : Int32) * x1) + x3)).toNatClampNeg (t_code (((120 : Int32) + x3)).toNatClampNeg)))), (a_t_count, .inl (kk 0, 140, .inl (upd t_count ((((20 : Int32) * x1) + x3)).toNatClampNeg (t_count (((120 : Int32) + x3)).toNatClampNeg)))), (a_t_around, .inl (kk 0, 140, .inl (upd t_around ((((20 : Int32) * x1) + x3)).toNatClampNeg (t_around (((120 : Int32) + x3)).toNatClampNeg)))), (a_t_end, .inl (kk 0, 140, .inl t_end)), (a_t_size, .inl (kk 0, 7, .inl t_size)), (a_t_there, .inl (kk 2, 7, .inl t_there))] := hD
      refine lv_aload_n hx hb d_SkeletonClockModel_define_141 rfl (lv_at hl 0 rfl) ?_
      refine k_get S X us_SkeletonClockModel hP 0 rfl rfl 9 (by decide) gm_4_160 rfl d_SkeletonClockModel_define_142 ?_
      refine lv_bipush (v := (20 : Int32)) hx hb d_SkeletonClockModel_define_145 (by decide) ?_
      refine lv_iload_n hx hb d_SkeletonClockModel_define_147 rfl (lv_at hl 1 rfl) ?_
      refine lv_imul hx hb d_SkeletonClockModel_define_148 ?_
      refine lv_iload_n hx hb d_SkeletonClockModel_define_149 rfl (lv_at hl 2 rfl) ?_
      refine lv_iadd hx hb d_SkeletonClockModel_define_150 ?_
      refine lv_aload_n hx hb d_SkeletonClockModel_define_151 rfl (lv_at hl 0 rfl) ?_
      refine k_get S X us_SkeletonClockModel hP 0 rfl rfl 9 (by decide) gm_4_160 rfl d_SkeletonClockModel_define_152 ?_
      refine lv_bipush (v := (120 : Int32)) hx hb d_SkeletonClockModel_define_155 (by decide) ?_
      refine lv_iload_n hx hb d_SkeletonClockModel_define_157 rfl (lv_at hl 2 rfl) ?_
      refine lv_iadd hx hb d_SkeletonClockModel_define_158 ?_
      obtain ⟨hi13, he⟩ := ih_g he
      refine va_iald hx hb X.1 hP 6 0 rfl rfl hi13 d_SkeletonClockModel_define_159 ?_
      obtain ⟨hi14, he⟩ := ih_g he
      refine va_iast hx hb X.1 hP hD hS 6 0 rfl rfl hi14 d_SkeletonClockModel_define_160 (fun H locs hP hD hS => ?_)
      have hP : va_P D classes [(a_t, .inr (10, [.int t_length, .ref a_t_text, .int t_used, .ref a_t_page, .ref a_t_names, .ref a_t_sort, .ref a_t_code, .ref a_t_count, .ref a_t_around, .ref a_t_end, .ref a_t_size, .ref a_t_there, .ref a_t_wish, .ref a_t_have, .int t_far, .int t_momentParts, .long t_momentDay, .int t_momentSecond, .int t_momentNano, .int t_momentOffset, .int t_readParts, .long t_readDay, .int t_readSecond, .int t_readNano, .int t_readOffset, .ref a_t_known, .ref a_t_value, .ref a_t_before, .ref a_t_open, .ref a_t_from, .int t_alike])), (a_t_text, .inl (kk 1, 60, .inl t_text)), (a_t_sort, .inl (kk 0, 140, .inl (upd t_sort ((((20 : Int32) * x1) + x3)).toNatClampNeg (t_sort (((120 : Int32) + x3)).toNatClampNeg)))), (a_t_code, .inl (kk 0, 140, .inl (upd t_code ((((20 : Int32) * x1) + x3)).toNatClampNeg (t_code (((120 : Int32) + x3)).toNatClampNeg)))), (a_t_count, .inl (kk 0, 140, .inl (upd t_count ((((20 : Int32) * x1) + x3)).toNatClampNeg (t_count (((120 : Int32) + x3)).toNatClampNeg)))), (a_t_around, .inl (kk 0, 140, .inl (upd t_around ((((20 : Int32) * x1) + x3)).toNatClampNeg (t_around (((120 : Int32) + x3)).toNatClampNeg)))), (a_t_end, .inl (kk 0, 140, .inl (upd t_end ((((20 : Int32) * x1) + x3)).toNatClampNeg (t_end (((120 : Int32) + x3)).toNatClampNeg)))), (a_t_size, .inl (kk 0, 7, .inl t_size)), (a_t_there, .inl (kk 2, 7, .inl t_there))] H := hP
      have hD : va_D A [(a_t, .inr (10, [.int t_length, .ref a_t_text, .int t_used, .ref a_t_page, .ref a_t_names, .ref a_t_sort, .ref a_t_code, .ref a_t_count, .ref a_t_around, .ref a_t_end, .ref a_t_size, .ref a_t_there, .ref a_t_wish, .ref a_t_have, .int t_far, .int t_momentParts, .long t_momentDay, .int t_momentSecond, .int t_momentNano, .int t_momentOffset, .int t_readParts, .long t_readDay, .int t_readSecond, .int t_readNano, .int t_readOffset, .ref a_t_known, .ref a_t_value, .ref a_t_before, .ref a_t_open, .ref a_t_from, .int t_alike])), (a_t_text, .inl (kk 1, 60, .inl t_text)), (a_t_sort, .inl (kk 0, 140, .inl (upd t_sort ((((20 : Int32) * x1) + x3)).toNatClampNeg (t_sort (((120 : Int32) + x3)).toNatClampNeg)))), (a_t_code, .inl (kk 0, 140, .inl (upd t_code ((((20 : Int32) * x1) + x3)).toNatClampNeg (t_code (((120 : Int32) + x3)).toNatClampNeg)))), (a_t_count, .inl (kk 0, 140, .inl (upd t_count ((((20 : Int32) * x1) + x3)).toNatClampNeg (t_count (((120 : Int32) + x3)).toNatClampNeg)))), (a_t_around, .inl (kk 0, 140, .inl (upd t_around ((((20 : Int32) * x1) + x3)).toNatClampNeg (t_around (((120 : Int32) + x3)).toNatClampNeg)))), (a_t_end, .inl (kk 0, 140, .inl (upd t_end ((((20 : Int32) * x1) + x3)).toNatClampNeg (t_end (((120 : Int32) + x3)).toNatClampNeg)))), (a_t_size, .inl (kk 0, 7, .inl t_size)), (a_t_there, .inl (kk 2, 7, .inl t_there))] := hD
      refine lv_iinc (k := 2) hx hb d_SkeletonClockModel_define_161 hl rfl (ii_ (v := (1 : Int32)) (by decide)) (by decide) rfl (fun ls hl => ?_)
      have hl : lv_has ls 4 [(3, .int (x3 + (1 : Int32))), (0, .ref a_t), (1, .int x1)] := hl
      refine lv_goto (tgt := 50) hx hb d_SkeletonClockModel_define_164 rfl ?_
      have hl : lv_has ls 4 [(0, .ref a_t), (1, .int x1), (3, .int (x3 + (1 : Int32)))] := lv_sub hl [1, 2, 0] rfl
      exact ih _ _ _ _ _ _ _ _ _ _ he hl hP hD hS K
set_option maxHeartbeats 4000000 in
set_option maxRecDepth 100000 in
theorem c_SkeletonClockModel_define (l : Launch) (D : va_G) (kk : Nat → ClassId) (st : Nat → Nat) (a_t a_t_text a_t_sort a_t_code a_t_count a_t_around a_t_end a_t_size a_t_there a_t_page a_t_names a_t_wish a_t_have a_t_known a_t_value a_t_before a_t_open a_t_from : Nat) (sz : Nat) (t_length : Int32) (t_used : Int32) (t_far : Int32) (t_momentParts : Int32) (t_momentDay : Int64) (t_momentSecond : Int32) (t_momentNano : Int32) (t_momentOffset : Int32) (t_readParts : Int32) (t_readDay : Int64) (t_readSecond : Int32) (t_readNano : Int32) (t_readOffset : Int32) (t_alike : Int32) (t_text : Nat → Int32) (t_sort : Nat → Int32) (t_code : Nat → Int32) (t_count : Nat → Int32) (t_around : Nat → Int32) (t_end : Nat → Int32) (t_size : Nat → Int32) (t_there : Nat → Int32) (x1 : Int32) (o : Int32 × Int32 × (Nat → Int32) × (Nat → Int32) × (Nat → Int32) × (Nat → Int32) × (Nat → Int32) × (Nat → Int32) × (Nat → Int32)) (he : f_SkeletonClockModel_define t_length t_text t_sort t_code t_count t_around t_end t_size t_there x1 = some o) : Met l y_SkeletonClockModel_define (Cond.code y_SkeletonClockModel_define b_SkeletonClockModel_define 4 (some .int) :: GW) rm_SkeletonClockModel_define (KPc D kk st [.ref a_t, .int x1] [(a_t, .inr (10, [.int t_length, .ref a_t_text, .int t_used, .ref a_t_page, .ref a_t_names, .ref a_t_sort, .ref a_t_code, .ref a_t_count, .ref a_t_around, .ref a_t_end, .ref a_t_size, .ref a_t_there, .ref a_t_wish, .ref a_t_have, .int t_far, .int t_momentParts, .long t_momentDay, .int t_momentSecond, .int t_momentNano, .int t_momentOffset, .int t_readParts, .long t_readDay, .int t_readSecond, .int t_readNano, .int t_readOffset, .ref a_t_known, .ref a_t_value, .ref a_t_before, .ref a_t_open, .ref a_t_from, .int t_alike])), (a_t_text, .inl (kk 1, 60, .inl t_text)), (a_t_sort, .inl (kk 0, 140, .inl t_sort)), (a_t_code, .inl (kk 0, 140, .inl t_code)), (a_t_count, .inl (kk 0, 140, .inl t_count)), (a_t_around, .inl (kk 0, 140, .inl t_around)), (a_t_end, .inl (kk 0, 140, .inl t_end)), (a_t_size, .inl (kk 0, 7, .inl t_size)), (a_t_there, .inl (kk 2, 7, .inl t_there))] sz) (KQi D kk o.1 [(a_t, .inr (10, [.int o.2.1, .ref a_t_text, .int t_used, .ref a_t_page, .ref a_t_names, .ref a_t_sort, .ref a_t_code, .ref a_t_count, .ref a_t_around, .ref a_t_end, .ref a_t_size, .ref a_t_there, .ref a_t_wish, .ref a_t_have, .int t_far, .int t_momentParts, .long t_momentDay, .int t_momentSecond, .int t_momentNano, .int t_momentOffset, .int t_readParts, .long t_readDay, .int t_readSecond, .int t_readNano, .int t_readOffset, .ref a_t_known, .ref a_t_value, .ref a_t_before, .ref a_t_open, .ref a_t_from, .int t_alike])), (a_t_text, .inl (kk 1, 60, .inl t_text)), (a_t_sort, .inl (kk 0, 140, .inl o.2.2.1)), (a_t_code, .inl (kk 0, 140, .inl o.2.2.2.1)), (a_t_count, .inl (kk 0, 140, .inl o.2.2.2.2.1)), (a_t_around, .inl (kk 0, 140, .inl o.2.2.2.2.2.1)), (a_t_end, .inl (kk 0, 140, .inl o.2.2.2.2.2.2.1)), (a_t_size, .inl (kk 0, 7, .inl o.2.2.2.2.2.2.2.1)), (a_t_there, .inl (kk 2, 7, .inl o.2.2.2.2.2.2.2.2))] (va_A [(a_t, .inr (10, [.int t_length, .ref a_t_text, .int t_used, .ref a_t_page, .ref a_t_names, .ref a_t_sort, .ref a_t_code, .ref a_t_count, .ref a_t_around, .ref a_t_end, .ref a_t_size, .ref a_t_there, .ref a_t_wish, .ref a_t_have, .int t_far, .int t_momentParts, .long t_momentDay, .int t_momentSecond, .int t_momentNano, .int t_momentOffset, .int t_readParts, .long t_readDay, .int t_readSecond, .int t_readNano, .int t_readOffset, .ref a_t_known, .ref a_t_value, .ref a_t_before, .ref a_t_open, .ref a_t_from, .int t_alike])), (a_t_text, .inl (kk 1, 60, .inl t_text)), (a_t_sort, .inl (kk 0, 140, .inl t_sort)), (a_t_code, .inl (kk 0, 140, .inl t_code)), (a_t_count, .inl (kk 0, 140, .inl t_count)), (a_t_around, .inl (kk 0, 140, .inl t_around)), (a_t_end, .inl (kk 0, 140, .inl t_end)), (a_t_size, .inl (kk 0, 7, .inl t_size)), (a_t_there, .inl (kk 2, 7, .inl t_there))] sz)) 0 0 (va_A [(a_t, .inr (10, [.int t_length, .ref a_t_text, .int t_used, .ref a_t_page, .ref a_t_names, .ref a_t_sort, .ref a_t_code, .ref a_t_count, .ref a_t_around, .ref a_t_end, .ref a_t_size, .ref a_t_there, .ref a_t_wish, .ref a_t_have, .int t_far, .int t_momentParts, .long t_momentDay, .int t_momentSecond, .int t_momentNano, .int t_momentOffset, .int t_readParts, .long t_readDay, .int t_readSecond, .int t_readNano, .int t_readOffset, .ref a_t_known, .ref a_t_value, .ref a_t_before, .ref a_t_open, .ref a_t_from, .int t_alike])), (a_t_text, .inl (kk 1, 60, .inl t_text)), (a_t_sort, .inl (kk 0, 140, .inl t_sort)), (a_t_code, .inl (kk 0, 140, .inl t_code)), (a_t_count, .inl (kk 0, 140, .inl t_count)), (a_t_around, .inl (kk 0, 140, .inl t_around)), (a_t_end, .inl (kk 0, 140, .inl t_end)), (a_t_size, .inl (kk 0, 7, .inl t_size)), (a_t_there, .inl (kk 2, 7, .inl t_there))] sz) := by
  refine k_start (Qc := fun A => KQi D kk o.1 [(a_t, .inr (10, [.int o.2.1, .ref a_t_text, .int t_used, .ref a_t_page, .ref a_t_names, .ref a_t_sort, .ref a_t_code, .ref a_t_count, .ref a_t_around, .ref a_t_end, .ref a_t_size, .ref a_t_there, .ref a_t_wish, .ref a_t_have, .int t_far, .int t_momentParts, .long t_momentDay, .int t_momentSecond, .int t_momentNano, .int t_momentOffset, .int t_readParts, .long t_readDay, .int t_readSecond, .int t_readNano, .int t_readOffset, .ref a_t_known, .ref a_t_value, .ref a_t_before, .ref a_t_open, .ref a_t_from, .int t_alike])), (a_t_text, .inl (kk 1, 60, .inl t_text)), (a_t_sort, .inl (kk 0, 140, .inl o.2.2.1)), (a_t_code, .inl (kk 0, 140, .inl o.2.2.2.1)), (a_t_count, .inl (kk 0, 140, .inl o.2.2.2.2.1)), (a_t_around, .inl (kk 0, 140, .inl o.2.2.2.2.2.1)), (a_t_end, .inl (kk 0, 140, .inl o.2.2.2.2.2.2.1)), (a_t_size, .inl (kk 0, 7, .inl o.2.2.2.2.2.2.2.1)), (a_t_there, .inl (kk 2, 7, .inl o.2.2.2.2.2.2.2.2))] A) (by decide) (Nat.le_of_ble_eq_true rfl) ?_
  intro p e s m below meth c A ls S hnm hr hlk hA X hP hD hS hl
  have hl : lv_has ls 4 [(0, .ref a_t), (1, .int x1)] := hl
  have hx := S.1
  have hb := S.2.1
  unfold f_SkeletonClockModel_define at he
  refine lv_iload_n hx hb d_SkeletonClockModel_define_0 rfl (lv_at hl 1 rfl) ?_
  refine lv_if_lt (tgt := 9) hx hb d_SkeletonClockModel_define_1 rfl (fun hc => ?_) (fun hc => ?_)
  · have he := ih_t hc he
    refine lv_bipush (v := (-2 : Int32)) hx hb d_SkeletonClockModel_define_9 (by decide) ?_
    cases he
    exact k_ire hx hb hr hlk X hP hD hS d_SkeletonClockModel_define_11
  · have he := ih_f hc he
    refine lv_iload_n hx hb d_SkeletonClockModel_define_4 rfl (lv_at hl 1 rfl) ?_
    refine lv_iconst (v := (5 : Int32)) hx hb d_SkeletonClockModel_define_5 (by decide) ?_
    refine lv_icmp_le (tgt := 12) hx hb d_SkeletonClockModel_define_6 rfl (fun hc => ?_) (fun hc => ?_)
    · have he := ih_t hc he
      refine lv_aload_n hx hb d_SkeletonClockModel_define_12 rfl (lv_at hl 0 rfl) ?_
      obtain ⟨u1, e2, he⟩ := ih_b he
      refine k_i (wr := [(a_t_there, .inl (kk 2, 7, .inl t_there))]) (w1 := [(a_t, .inr (10, [.int t_length, .ref a_t_text, .int t_used, .ref a_t_page, .ref a_t_names, .ref a_t_sort, .ref a_t_code, .ref a_t_count, .ref a_t_around, .ref a_t_end, .ref a_t_size, .ref a_t_there, .ref a_t_wish, .ref a_t_have, .int t_far, .int t_momentParts, .long t_momentDay, .int t_momentSecond, .int t_momentNano, .int t_momentOffset, .int t_readParts, .long t_readDay, .int t_readSecond, .int t_readNano, .int t_readOffset, .ref a_t_known, .ref a_t_value, .ref a_t_before, .ref a_t_open, .ref a_t_from, .int t_alike])), (a_t_text, .inl (kk 1, 60, .inl t_text)), (a_t_sort, .inl (kk 0, 140, .inl u1.2.1)), (a_t_code, .inl (kk 0, 140, .inl u1.2.2.1)), (a_t_count, .inl (kk 0, 140, .inl u1.2.2.2.1)), (a_t_around, .inl (kk 0, 140, .inl u1.2.2.2.2.1)), (a_t_end, .inl (kk 0, 140, .inl u1.2.2.2.2.2.1)), (a_t_size, .inl (kk 0, 7, .inl u1.2.2.2.2.2.2))]) (w2 := [(a_t, .inr (10, [.int t_length, .ref a_t_text, .int t_used, .ref a_t_page, .ref a_t_names, .ref a_t_sort, .ref a_t_code, .ref a_t_count, .ref a_t_around, .ref a_t_end, .ref a_t_size, .ref a_t_there, .ref a_t_wish, .ref a_t_have, .int t_far, .int t_momentParts, .long t_momentDay, .int t_momentSecond, .int t_momentNano, .int t_momentOffset, .int t_readParts, .long t_readDay, .int t_readSecond, .int t_readNano, .int t_readOffset, .ref a_t_known, .ref a_t_value, .ref a_t_before, .ref a_t_open, .ref a_t_from, .int t_alike])), (a_t_text, .inl (kk 1, 60, .inl t_text)), (a_t_sort, .inl (kk 0, 140, .inl u1.2.1)), (a_t_code, .inl (kk 0, 140, .inl u1.2.2.1)), (a_t_count, .inl (kk 0, 140, .inl u1.2.2.2.1)), (a_t_around, .inl (kk 0, 140, .inl u1.2.2.2.2.1)), (a_t_end, .inl (kk 0, 140, .inl u1.2.2.2.2.2.1)), (a_t_size, .inl (kk 0, 7, .inl u1.2.2.2.2.2.2)), (a_t_there, .inl (kk 2, 7, .inl t_there))]) (r_V (As := []) S X hA hP hD hS (c_SkeletonClockModel_pattern l D kk st a_t a_t_text a_t_sort a_t_code a_t_count a_t_around a_t_end a_t_size a_t_page a_t_names a_t_there a_t_wish a_t_have a_t_known a_t_value a_t_before a_t_open a_t_from _ t_length t_used t_far t_momentParts t_momentDay t_momentSecond t_momentNano t_momentOffset t_readParts t_readDay t_readSecond t_readNano t_readOffset t_alike t_text t_sort t_code t_count t_around t_end t_size u1 e2) gm_5_17 gm_5_14 gm_5_16 gm_p2_15 gm_1_13 ⟨rfl, rfl, by decide, by decide⟩ kd_SkeletonClockModel_pattern [0, 1, 2, 3, 4, 5, 6, 7] rfl rfl rfl 0 10 rfl rfl rfl rfl hl.1 rfl (Nat.le_of_ble_eq_true rfl) d_SkeletonClockModel_define_13 ⟨Nat.zero_le _, Nat.zero_le _⟩) hA hP hD hS [0, 1, 2, 3, 4, 5, 6, 7] [8] [1, 2, 3, 4, 5, 6, 7, 8, 0] rfl rfl rfl (by decide) rfl rfl rfl (fun H locs hP hD hS => ?_)
      refine lv_istore_n hx hb d_SkeletonClockModel_define_16 rfl hl (by decide) rfl (fun ls hl => ?_)
      have hl : lv_has ls 4 [(2, .int u1.1), (0, .ref a_t), (1, .int x1)] := hl
      refine lv_aload_n hx hb d_SkeletonClockModel_define_17 rfl (lv_at hl 1 rfl) ?_
      refine lv_iconst (v := (0 : Int32)) hx hb d_SkeletonClockModel_define_18 (by decide) ?_
      refine k_put S X us_SkeletonClockModel t_SkeletonClockModel t_SkeletonClockModel_ok n_SkeletonClockModel hP hD hS 0 rfl rfl 0 (by decide) gm_4_151 rfl rfl rfl (Nat.le_of_ble_eq_true rfl) d_SkeletonClockModel_define_19 (fun H locs hP hD hS => ?_)
      have hP : va_P D classes [(a_t, .inr (10, [.int (0 : Int32), .ref a_t_text, .int t_used, .ref a_t_page, .ref a_t_names, .ref a_t_sort, .ref a_t_code, .ref a_t_count, .ref a_t_around, .ref a_t_end, .ref a_t_size, .ref a_t_there, .ref a_t_wish, .ref a_t_have, .int t_far, .int t_momentParts, .long t_momentDay, .int t_momentSecond, .int t_momentNano, .int t_momentOffset, .int t_readParts, .long t_readDay, .int t_readSecond, .int t_readNano, .int t_readOffset, .ref a_t_known, .ref a_t_value, .ref a_t_before, .ref a_t_open, .ref a_t_from, .int t_alike])), (a_t_text, .inl (kk 1, 60, .inl t_text)), (a_t_sort, .inl (kk 0, 140, .inl u1.2.1)), (a_t_code, .inl (kk 0, 140, .inl u1.2.2.1)), (a_t_count, .inl (kk 0, 140, .inl u1.2.2.2.1)), (a_t_around, .inl (kk 0, 140, .inl u1.2.2.2.2.1)), (a_t_end, .inl (kk 0, 140, .inl u1.2.2.2.2.2.1)), (a_t_size, .inl (kk 0, 7, .inl u1.2.2.2.2.2.2)), (a_t_there, .inl (kk 2, 7, .inl t_there))] H := hP
      have hD : va_D A [(a_t, .inr (10, [.int (0 : Int32), .ref a_t_text, .int t_used, .ref a_t_page, .ref a_t_names, .ref a_t_sort, .ref a_t_code, .ref a_t_count, .ref a_t_around, .ref a_t_end, .ref a_t_size, .ref a_t_there, .ref a_t_wish, .ref a_t_have, .int t_far, .int t_momentParts, .long t_momentDay, .int t_momentSecond, .int t_momentNano, .int t_momentOffset, .int t_readParts, .long t_readDay, .int t_readSecond, .int t_readNano, .int t_readOffset, .ref a_t_known, .ref a_t_value, .ref a_t_before, .ref a_t_open, .ref a_t_from, .int t_alike])), (a_t_text, .inl (kk 1, 60, .inl t_text)), (a_t_sort, .inl (kk 0, 140, .inl u1.2.1)), (a_t_code, .inl (kk 0, 140, .inl u1.2.2.1)), (a_t_count, .inl (kk 0, 140, .inl u1.2.2.2.1)), (a_t_around, .inl (kk 0, 140, .inl u1.2.2.2.2.1)), (a_t_end, .inl (kk 0, 140, .inl u1.2.2.2.2.2.1)), (a_t_size, .inl (kk 0, 7, .inl u1.2.2.2.2.2.2)), (a_t_there, .inl (kk 2, 7, .inl t_there))] := hD
      refine lv_iload_n hx hb d_SkeletonClockModel_define_22 rfl (lv_at hl 0 rfl) ?_
      refine lv_if_lt (tgt := 28) hx hb d_SkeletonClockModel_define_23 rfl (fun hc => ?_) (fun hc => ?_)
      · have he := ih_t hc he
        refine lv_aload_n hx hb d_SkeletonClockModel_define_28 rfl (lv_at hl 1 rfl) ?_
        refine k_get S X us_SkeletonClockModel hP 0 rfl rfl 11 (by decide) gm_4_162 rfl d_SkeletonClockModel_define_29 ?_
        refine lv_iload_n hx hb d_SkeletonClockModel_define_32 rfl (lv_at hl 2 rfl) ?_
        refine lv_iconst (v := (1 : Int32)) hx hb d_SkeletonClockModel_define_33 (by decide) ?_
        obtain ⟨hi3, he⟩ := ih_g he
        refine va_zast hx hb X.1 hP hD hS 8 2 rfl rfl hi3 d_SkeletonClockModel_define_34 (fun H locs hP hD hS => ?_)
        have hP : va_P D classes [(a_t, .inr (10, [.int (0 : Int32), .ref a_t_text, .int t_used, .ref a_t_page, .ref a_t_names, .ref a_t_sort, .ref a_t_code, .ref a_t_count, .ref a_t_around, .ref a_t_end, .ref a_t_size, .ref a_t_there, .ref a_t_wish, .ref a_t_have, .int t_far, .int t_momentParts, .long t_momentDay, .int t_momentSecond, .int t_momentNano, .int t_momentOffset, .int t_readParts, .long t_readDay, .int t_readSecond, .int t_readNano, .int t_readOffset, .ref a_t_known, .ref a_t_value, .ref a_t_before, .ref a_t_open, .ref a_t_from, .int t_alike])), (a_t_text, .inl (kk 1, 60, .inl t_text)), (a_t_sort, .inl (kk 0, 140, .inl u1.2.1)), (a_t_code, .inl (kk 0, 140, .inl u1.2.2.1)), (a_t_count, .inl (kk 0, 140, .inl u1.2.2.2.1)), (a_t_around, .inl (kk 0, 140, .inl u1.2.2.2.2.1)), (a_t_end, .inl (kk 0, 140, .inl u1.2.2.2.2.2.1)), (a_t_size, .inl (kk 0, 7, .inl u1.2.2.2.2.2.2)), (a_t_there, .inl (kk 2, 7, .inl (upd t_there (x1).toNatClampNeg (vp_nar .boolean (1 : Int32)))))] H := hP
        have hD : va_D A [(a_t, .inr (10, [.int (0 : Int32), .ref a_t_text, .int t_used, .ref a_t_page, .ref a_t_names, .ref a_t_sort, .ref a_t_code, .ref a_t_count, .ref a_t_around, .ref a_t_end, .ref a_t_size, .ref a_t_there, .ref a_t_wish, .ref a_t_have, .int t_far, .int t_momentParts, .long t_momentDay, .int t_momentSecond, .int t_momentNano, .int t_momentOffset, .int t_readParts, .long t_readDay, .int t_readSecond, .int t_readNano, .int t_readOffset, .ref a_t_known, .ref a_t_value, .ref a_t_before, .ref a_t_open, .ref a_t_from, .int t_alike])), (a_t_text, .inl (kk 1, 60, .inl t_text)), (a_t_sort, .inl (kk 0, 140, .inl u1.2.1)), (a_t_code, .inl (kk 0, 140, .inl u1.2.2.1)), (a_t_count, .inl (kk 0, 140, .inl u1.2.2.2.1)), (a_t_around, .inl (kk 0, 140, .inl u1.2.2.2.2.1)), (a_t_end, .inl (kk 0, 140, .inl u1.2.2.2.2.2.1)), (a_t_size, .inl (kk 0, 7, .inl u1.2.2.2.2.2.2)), (a_t_there, .inl (kk 2, 7, .inl (upd t_there (x1).toNatClampNeg (vp_nar .boolean (1 : Int32)))))] := hD
        refine lv_aload_n hx hb d_SkeletonClockModel_define_35 rfl (lv_at hl 1 rfl) ?_
        refine k_get S X us_SkeletonClockModel hP 0 rfl rfl 10 (by decide) gm_4_161 rfl d_SkeletonClockModel_define_36 ?_
        refine lv_iload_n hx hb d_SkeletonClockModel_define_39 rfl (lv_at hl 2 rfl) ?_
        refine lv_aload_n hx hb d_SkeletonClockModel_define_40 rfl (lv_at hl 1 rfl) ?_
        refine k_get S X us_SkeletonClockModel hP 0 rfl rfl 10 (by decide) gm_4_161 rfl d_SkeletonClockModel_define_41 ?_
        refine lv_bipush (v := (6 : Int32)) hx hb d_SkeletonClockModel_define_44 (by decide) ?_
        refine va_iald hx hb X.1 hP 7 0 rfl rfl (show ¬ ((6 : Int32) < 0 ∨ 7 ≤ ((6 : Int32)).toNatClampNeg) by decide) d_SkeletonClockModel_define_46 ?_
        obtain ⟨hi4, he⟩ := ih_g he
        refine va_iast hx hb X.1 hP hD hS 7 0 rfl rfl hi4 d_SkeletonClockModel_define_47 (fun H locs hP hD hS => ?_)
        have hP : va_P D classes [(a_t, .inr (10, [.int (0 : Int32), .ref a_t_text, .int t_used, .ref a_t_page, .ref a_t_names, .ref a_t_sort, .ref a_t_code, .ref a_t_count, .ref a_t_around, .ref a_t_end, .ref a_t_size, .ref a_t_there, .ref a_t_wish, .ref a_t_have, .int t_far, .int t_momentParts, .long t_momentDay, .int t_momentSecond, .int t_momentNano, .int t_momentOffset, .int t_readParts, .long t_readDay, .int t_readSecond, .int t_readNano, .int t_readOffset, .ref a_t_known, .ref a_t_value, .ref a_t_before, .ref a_t_open, .ref a_t_from, .int t_alike])), (a_t_text, .inl (kk 1, 60, .inl t_text)), (a_t_sort, .inl (kk 0, 140, .inl u1.2.1)), (a_t_code, .inl (kk 0, 140, .inl u1.2.2.1)), (a_t_count, .inl (kk 0, 140, .inl u1.2.2.2.1)), (a_t_around, .inl (kk 0, 140, .inl u1.2.2.2.2.1)), (a_t_end, .inl (kk 0, 140, .inl u1.2.2.2.2.2.1)), (a_t_size, .inl (kk 0, 7, .inl (upd u1.2.2.2.2.2.2 (x1).toNatClampNeg (u1.2.2.2.2.2.2 ((6 : Int32)).toNatClampNeg)))), (a_t_there, .inl (kk 2, 7, .inl (upd t_there (x1).toNatClampNeg (vp_nar .boolean (1 : Int32)))))] H := hP
        have hD : va_D A [(a_t, .inr (10, [.int (0 : Int32), .ref a_t_text, .int t_used, .ref a_t_page, .ref a_t_names, .ref a_t_sort, .ref a_t_code, .ref a_t_count, .ref a_t_around, .ref a_t_end, .ref a_t_size, .ref a_t_there, .ref a_t_wish, .ref a_t_have, .int t_far, .int t_momentParts, .long t_momentDay, .int t_momentSecond, .int t_momentNano, .int t_momentOffset, .int t_readParts, .long t_readDay, .int t_readSecond, .int t_readNano, .int t_readOffset, .ref a_t_known, .ref a_t_value, .ref a_t_before, .ref a_t_open, .ref a_t_from, .int t_alike])), (a_t_text, .inl (kk 1, 60, .inl t_text)), (a_t_sort, .inl (kk 0, 140, .inl u1.2.1)), (a_t_code, .inl (kk 0, 140, .inl u1.2.2.1)), (a_t_count, .inl (kk 0, 140, .inl u1.2.2.2.1)), (a_t_around, .inl (kk 0, 140, .inl u1.2.2.2.2.1)), (a_t_end, .inl (kk 0, 140, .inl u1.2.2.2.2.2.1)), (a_t_size, .inl (kk 0, 7, .inl (upd u1.2.2.2.2.2.2 (x1).toNatClampNeg (u1.2.2.2.2.2.2 ((6 : Int32)).toNatClampNeg)))), (a_t_there, .inl (kk 2, 7, .inl (upd t_there (x1).toNatClampNeg (vp_nar .boolean (1 : Int32)))))] := hD
        refine lv_iconst (v := (0 : Int32)) hx hb d_SkeletonClockModel_define_48 (by decide) ?_
        refine lv_istore_n hx hb d_SkeletonClockModel_define_49 rfl hl (by decide) rfl (fun ls hl => ?_)
        have hl : lv_has ls 4 [(3, .int (0 : Int32)), (2, .int u1.1), (0, .ref a_t), (1, .int x1)] := hl
        obtain ⟨u15, e16, he⟩ := ih_b he
        have hl : lv_has ls 4 [(0, .ref a_t), (1, .int x1), (3, .int (0 : Int32))] := lv_sub hl [2, 3, 0] rfl
        refine w_SkeletonClockModel_define_50 a_t a_t_text a_t_sort a_t_code a_t_count a_t_around a_t_end a_t_size a_t_there a_t_page a_t_names a_t_wish a_t_have a_t_known a_t_value a_t_before a_t_open a_t_from (0 : Int32) t_used t_far t_momentParts t_momentDay t_momentSecond t_momentNano t_momentOffset t_readParts t_readDay t_readSecond t_readNano t_readOffset t_alike t_text (upd u1.2.2.2.2.2.2 (x1).toNatClampNeg (u1.2.2.2.2.2.2 ((6 : Int32)).toNatClampNeg)) (upd t_there (x1).toNatClampNeg (vp_nar .boolean (1 : Int32))) x1 S hr hlk hA X FU (0 : Int32) u1.2.1 u1.2.2.1 u1.2.2.2.1 u1.2.2.2.2.1 u1.2.2.2.2.2.1 u15 _ _ ls e16 hl hP hD hS (fun H locs ls hl hP hD hS => ?_)
        refine lv_iconst (v := (-1 : Int32)) hx hb d_SkeletonClockModel_define_167 (by decide) ?_
        cases he
        exact k_ire hx hb hr hlk X hP hD hS d_SkeletonClockModel_define_168
      · have he := ih_f hc he
        refine lv_iload_n hx hb d_SkeletonClockModel_define_26 rfl (lv_at hl 0 rfl) ?_
        cases he
        exact k_ire hx hb hr hlk X hP hD hS d_SkeletonClockModel_define_27
    · have he := ih_f hc he
      refine lv_bipush (v := (-2 : Int32)) hx hb d_SkeletonClockModel_define_9 (by decide) ?_
      cases he
      exact k_ire hx hb hr hlk X hP hD hS d_SkeletonClockModel_define_11
abbrev rm_SkeletonClockModel_wished : Room := { frames := 2, cells := 0, slots := 0, locals := 44 }
set_option maxHeartbeats 4000000 in
set_option maxRecDepth 100000 in
theorem w_SkeletonClockModel_wished_2 {p : Program} {l : Launch} {e : Env} {s : State} {m : MethodId} {args : Array Value} {below : List Frame} {meth : Method} {c : Code} {Q : State → Prop} {A : Nat → Prop} {D : va_G} {kk : Nat → ClassId} {st : Nat → Nat} (a_t a_t_text a_t_wish a_t_page a_t_names a_t_sort a_t_code a_t_count a_t_around a_t_end a_t_size a_t_there a_t_have a_t_known a_t_value a_t_before a_t_open a_t_from : Nat) (t_length : Int32) (t_used : Int32) (t_far : Int32) (t_momentParts : Int32) (t_momentDay : Int64) (t_momentSecond : Int32) (t_momentNano : Int32) (t_momentOffset : Int32) (t_readParts : Int32) (t_readDay : Int64) (t_readSecond : Int32) (t_readNano : Int32) (t_readOffset : Int32) (t_alike : Int32) (t_text : Nat → Int32) (S : CallFix p m c b_SkeletonClockModel_wished 3 s args GW y_SkeletonClockModel_wished.cls) (hr : meth.sig.returnType = (some .boolean)) (hlk : meth.locks = false) (hA : ∀ q, s.heap.size ≤ q → A q) (X : KX D kk st A s) : ∀ (n : Nat) (x1 : Int32) (t_wish : Nat → Int32) (v : Int32 × (Nat → Int32)) (H : Heap) (locs : List Loc) (ls : Array Slot), lp_SkeletonClockModel_wished_2  n x1 t_wish = some v → lv_has ls 3 [(0, .ref a_t), (1, .int x1)] → va_P D classes [(a_t, .inr (10, [.int t_length, .ref a_t_text, .int t_used, .ref a_t_page, .ref a_t_names, .ref a_t_sort, .ref a_t_code, .ref a_t_count, .ref a_t_around, .ref a_t_end, .ref a_t_size, .ref a_t_there, .ref a_t_wish, .ref a_t_have, .int t_far, .int t_momentParts, .long t_momentDay, .int t_momentSecond, .int t_momentNano, .int t_momentOffset, .int t_readParts, .long t_readDay, .int t_readSecond, .int t_readNano, .int t_readOffset, .ref a_t_known, .ref a_t_value, .ref a_t_before, .ref a_t_open, .ref a_t_from, .int t_alike])), (a_t_text, .inl (kk 1, 60, .inl t_text)), (a_t_wish, .inl (kk 0, 128, .inl t_wish))] H → va_D A [(a_t, .inr (10, [.int t_length, .ref a_t_text, .int t_used, .ref a_t_page, .ref a_t_names, .ref a_t_sort, .ref a_t_code, .ref a_t_count, .ref a_t_around, .ref a_t_end, .ref a_t_size, .ref a_t_there, .ref a_t_wish, .ref a_t_have, .int t_far, .int t_momentParts, .long t_momentDay, .int t_momentSecond, .int t_momentNano, .int t_momentOffset, .int t_readParts, .long t_readDay, .int t_readSecond, .int t_readNano, .int t_readOffset, .ref a_t_known, .ref a_t_value, .ref a_t_before, .ref a_t_open, .ref a_t_from, .int t_alike])), (a_t_text, .inl (kk 1, 60, .inl t_text)), (a_t_wish, .inl (kk 0, 128, .inl t_wish))] → va_S A s.heap H locs → (∀ (H : Heap) (locs : List Loc) (ls : Array Slot), lv_has ls 3 [(0, .ref a_t), (1, .int v.1)] → va_P D classes [(a_t, .inr (10, [.int t_length, .ref a_t_text, .int t_used, .ref a_t_page, .ref a_t_names, .ref a_t_sort, .ref a_t_code, .ref a_t_count, .ref a_t_around, .ref a_t_end, .ref a_t_size, .ref a_t_there, .ref a_t_wish, .ref a_t_have, .int t_far, .int t_momentParts, .long t_momentDay, .int t_momentSecond, .int t_momentNano, .int t_momentOffset, .int t_readParts, .long t_readDay, .int t_readSecond, .int t_readNano, .int t_readOffset, .ref a_t_known, .ref a_t_value, .ref a_t_before, .ref a_t_open, .ref a_t_from, .int t_alike])), (a_t_text, .inl (kk 1, 60, .inl t_text)), (a_t_wish, .inl (kk 0, 128, .inl v.2))] H → va_D A [(a_t, .inr (10, [.int t_length, .ref a_t_text, .int t_used, .ref a_t_page, .ref a_t_names, .ref a_t_sort, .ref a_t_code, .ref a_t_count, .ref a_t_around, .ref a_t_end, .ref a_t_size, .ref a_t_there, .ref a_t_wish, .ref a_t_have, .int t_far, .int t_momentParts, .long t_momentDay, .int t_momentSecond, .int t_momentNano, .int t_momentOffset, .int t_readParts, .long t_readDay, .int t_readSecond, .int t_readNano, .int t_readOffset, .ref a_t_known, .ref a_t_value, .ref a_t_before, .ref a_t_open, .ref a_t_from, .int t_alike])), (a_t_text, .inl (kk 1, 60, .inl t_text)), (a_t_wish, .inl (kk 0, 128, .inl v.2))] → va_S A s.heap H locs → W p l e rm_SkeletonClockModel_wished s m args below meth c H locs 0 0 Q (F0 m 22 ls [])) → W p l e rm_SkeletonClockModel_wished s m args below meth c H locs 0 0 Q (F0 m 2 ls []) := by
  intro n
  induction n with
  | zero =>
    intro x1 t_wish v H locs ls he hl hP hD hS K
    exact ih_n he
  | succ n ih =>
    intro x1 t_wish v H locs ls he hl hP hD hS K
    have hx := S.1
    have hb := S.2.1
    have he : st_SkeletonClockModel_wished_2  (lp_SkeletonClockModel_wished_2  n) x1 t_wish = some v := he
    unfold st_SkeletonClockModel_wished_2 at he
    refine lv_iload_n hx hb d_SkeletonClockModel_wished_2 rfl (lv_at hl 1 rfl) ?_
    refine lv_sipush (v := (128 : Int32)) hx hb d_SkeletonClockModel_wished_3 (by decide) ?_
    refine lv_icmp_ge (tgt := 22) hx hb d_SkeletonClockModel_wished_6 rfl (fun hc => ?_) (fun hc => ?_)
    · have he := ih_t hc he
      have hl : lv_has ls 3 [(0, .ref a_t), (1, .int x1)] := lv_sub hl [0, 1] rfl
      cases he
      exact K _ _ _ hl hP hD hS
    · have he := ih_f hc he
      refine lv_aload_n hx hb d_SkeletonClockModel_wished_9 rfl (lv_at hl 0 rfl) ?_
      refine k_get S X us_SkeletonClockModel hP 0 rfl rfl 12 (by decide) gm_4_163 rfl d_SkeletonClockModel_wished_10 ?_
      refine lv_iload_n hx hb d_SkeletonClockModel_wished_13 rfl (lv_at hl 1 rfl) ?_
      refine lv_iconst (v := (0 : Int32)) hx hb d_SkeletonClockModel_wished_14 (by decide) ?_
      obtain ⟨hi1, he⟩ := ih_g he
      refine va_iast hx hb X.1 hP hD hS 2 0 rfl rfl hi1 d_SkeletonClockModel_wished_15 (fun H locs hP hD hS => ?_)
      have hP : va_P D classes [(a_t, .inr (10, [.int t_length, .ref a_t_text, .int t_used, .ref a_t_page, .ref a_t_names, .ref a_t_sort, .ref a_t_code, .ref a_t_count, .ref a_t_around, .ref a_t_end, .ref a_t_size, .ref a_t_there, .ref a_t_wish, .ref a_t_have, .int t_far, .int t_momentParts, .long t_momentDay, .int t_momentSecond, .int t_momentNano, .int t_momentOffset, .int t_readParts, .long t_readDay, .int t_readSecond, .int t_readNano, .int t_readOffset, .ref a_t_known, .ref a_t_value, .ref a_t_before, .ref a_t_open, .ref a_t_from, .int t_alike])), (a_t_text, .inl (kk 1, 60, .inl t_text)), (a_t_wish, .inl (kk 0, 128, .inl (upd t_wish (x1).toNatClampNeg (0 : Int32))))] H := hP
      have hD : va_D A [(a_t, .inr (10, [.int t_length, .ref a_t_text, .int t_used, .ref a_t_page, .ref a_t_names, .ref a_t_sort, .ref a_t_code, .ref a_t_count, .ref a_t_around, .ref a_t_end, .ref a_t_size, .ref a_t_there, .ref a_t_wish, .ref a_t_have, .int t_far, .int t_momentParts, .long t_momentDay, .int t_momentSecond, .int t_momentNano, .int t_momentOffset, .int t_readParts, .long t_readDay, .int t_readSecond, .int t_readNano, .int t_readOffset, .ref a_t_known, .ref a_t_value, .ref a_t_before, .ref a_t_open, .ref a_t_from, .int t_alike])), (a_t_text, .inl (kk 1, 60, .inl t_text)), (a_t_wish, .inl (kk 0, 128, .inl (upd t_wish (x1).toNatClampNeg (0 : Int32))))] := hD
      refine lv_iinc (k := 1) hx hb d_SkeletonClockModel_wished_16 hl rfl (ii_ (v := (1 : Int32)) (by decide)) (by decide) rfl (fun ls hl => ?_)
      have hl : lv_has ls 3 [(1, .int (x1 + (1 : Int32))), (0, .ref a_t)] := hl
      refine lv_goto (tgt := 2) hx hb d_SkeletonClockModel_wished_19 rfl ?_
      have hl : lv_has ls 3 [(0, .ref a_t), (1, .int (x1 + (1 : Int32)))] := lv_sub hl [1, 0] rfl
      exact ih _ _ _ _ _ _ he hl hP hD hS K
set_option maxHeartbeats 4000000 in
set_option maxRecDepth 100000 in
theorem w_SkeletonClockModel_wished_24 {p : Program} {l : Launch} {e : Env} {s : State} {m : MethodId} {args : Array Value} {below : List Frame} {meth : Method} {c : Code} {Q : State → Prop} {A : Nat → Prop} {D : va_G} {kk : Nat → ClassId} {st : Nat → Nat} (a_t a_t_text a_t_wish a_t_page a_t_names a_t_sort a_t_code a_t_count a_t_around a_t_end a_t_size a_t_there a_t_have a_t_known a_t_value a_t_before a_t_open a_t_from : Nat) (t_length : Int32) (t_used : Int32) (t_far : Int32) (t_momentParts : Int32) (t_momentDay : Int64) (t_momentSecond : Int32) (t_momentNano : Int32) (t_momentOffset : Int32) (t_readParts : Int32) (t_readDay : Int64) (t_readSecond : Int32) (t_readNano : Int32) (t_readOffset : Int32) (t_alike : Int32) (t_text : Nat → Int32) (S : CallFix p m c b_SkeletonClockModel_wished 3 s args GW y_SkeletonClockModel_wished.cls) (hr : meth.sig.returnType = (some .boolean)) (hlk : meth.locks = false) (hA : ∀ q, s.heap.size ≤ q → A q) (X : KX D kk st A s) : ∀ (n : Nat) (x1 : Int32) (t_wish : Nat → Int32) (v : (Int32 × (Nat → Int32)) ⊕ (Int32 × (Nat → Int32))) (H : Heap) (locs : List Loc) (ls : Array Slot), lp_SkeletonClockModel_wished_24 t_length t_text n x1 t_wish = some v → lv_has ls 3 [(0, .ref a_t), (1, .int x1)] → va_P D classes [(a_t, .inr (10, [.int t_length, .ref a_t_text, .int t_used, .ref a_t_page, .ref a_t_names, .ref a_t_sort, .ref a_t_code, .ref a_t_count, .ref a_t_around, .ref a_t_end, .ref a_t_size, .ref a_t_there, .ref a_t_wish, .ref a_t_have, .int t_far, .int t_momentParts, .long t_momentDay, .int t_momentSecond, .int t_momentNano, .int t_momentOffset, .int t_readParts, .long t_readDay, .int t_readSecond, .int t_readNano, .int t_readOffset, .ref a_t_known, .ref a_t_value, .ref a_t_before, .ref a_t_open, .ref a_t_from, .int t_alike])), (a_t_text, .inl (kk 1, 60, .inl t_text)), (a_t_wish, .inl (kk 0, 128, .inl t_wish))] H → va_D A [(a_t, .inr (10, [.int t_length, .ref a_t_text, .int t_used, .ref a_t_page, .ref a_t_names, .ref a_t_sort, .ref a_t_code, .ref a_t_count, .ref a_t_around, .ref a_t_end, .ref a_t_size, .ref a_t_there, .ref a_t_wish, .ref a_t_have, .int t_far, .int t_momentParts, .long t_momentDay, .int t_momentSecond, .int t_momentNano, .int t_momentOffset, .int t_readParts, .long t_readDay, .int t_readSecond, .int t_readNano, .int t_readOffset, .ref a_t_known, .ref a_t_value, .ref a_t_before, .ref a_t_open, .ref a_t_from, .int t_alike])), (a_t_text, .inl (kk 1, 60, .inl t_text)), (a_t_wish, .inl (kk 0, 128, .inl t_wish))] → va_S A s.heap H locs → (∀ o : Int32 × (Nat → Int32), v = .inl o → Q = MQ below (KQi D kk o.1 [(a_t, .inr (10, [.int t_length, .ref a_t_text, .int t_used, .ref a_t_page, .ref a_t_names, .ref a_t_sort, .ref a_t_code, .ref a_t_count, .ref a_t_around, .ref a_t_end, .ref a_t_size, .ref a_t_there, .ref a_t_wish, .ref a_t_have, .int t_far, .int t_momentParts, .long t_momentDay, .int t_momentSecond, .int t_momentNano, .int t_momentOffset, .int t_readParts, .long t_readDay, .int t_readSecond, .int t_readNano, .int t_readOffset, .ref a_t_known, .ref a_t_value, .ref a_t_before, .ref a_t_open, .ref a_t_from, .int t_alike])), (a_t_text, .inl (kk 1, 60, .inl t_text)), (a_t_wish, .inl (kk 0, 128, .inl o.2))] A) args s 0 0 A) → (∀ v' : Int32 × (Nat → Int32), v = .inr v' → ∀ (H : Heap) (locs : List Loc) (ls : Array Slot), lv_has ls 3 [(0, .ref a_t), (1, .int v'.1)] → va_P D classes [(a_t, .inr (10, [.int t_length, .ref a_t_text, .int t_used, .ref a_t_page, .ref a_t_names, .ref a_t_sort, .ref a_t_code, .ref a_t_count, .ref a_t_around, .ref a_t_end, .ref a_t_size, .ref a_t_there, .ref a_t_wish, .ref a_t_have, .int t_far, .int t_momentParts, .long t_momentDay, .int t_momentSecond, .int t_momentNano, .int t_momentOffset, .int t_readParts, .long t_readDay, .int t_readSecond, .int t_readNano, .int t_readOffset, .ref a_t_known, .ref a_t_value, .ref a_t_before, .ref a_t_open, .ref a_t_from, .int t_alike])), (a_t_text, .inl (kk 1, 60, .inl t_text)), (a_t_wish, .inl (kk 0, 128, .inl v'.2))] H → va_D A [(a_t, .inr (10, [.int t_length, .ref a_t_text, .int t_used, .ref a_t_page, .ref a_t_names, .ref a_t_sort, .ref a_t_code, .ref a_t_count, .ref a_t_around, .ref a_t_end, .ref a_t_size, .ref a_t_there, .ref a_t_wish, .ref a_t_have, .int t_far, .int t_momentParts, .long t_momentDay, .int t_momentSecond, .int t_momentNano, .int t_momentOffset, .int t_readParts, .long t_readDay, .int t_readSecond, .int t_readNano, .int t_readOffset, .ref a_t_known, .ref a_t_value, .ref a_t_before, .ref a_t_open, .ref a_t_from, .int t_alike])), (a_t_text, .inl (kk 1, 60, .inl t_text)), (a_t_wish, .inl (kk 0, 128, .inl v'.2))] → va_S A s.heap H locs → W p l e rm_SkeletonClockModel_wished s m args below meth c H locs 0 0 Q (F0 m 91 ls [])) → W p l e rm_SkeletonClockModel_wished s m args below meth c H locs 0 0 Q (F0 m 24 ls []) := by
  intro n
  induction n with
  | zero =>
    intro x1 t_wish v H locs ls he hl hP hD hS hret K
    exact ih_n he
  | succ n ih =>
    intro x1 t_wish v H locs ls he hl hP hD hS hret K
    have hx := S.1
    have hb := S.2.1
    have he : st_SkeletonClockModel_wished_24 t_length t_text (lp_SkeletonClockModel_wished_24 t_length t_text n) x1 t_wish = some v := he
    unfold st_SkeletonClockModel_wished_24 at he
    refine lv_iload_n hx hb d_SkeletonClockModel_wished_24 rfl (lv_at hl 1 rfl) ?_
    refine lv_aload_n hx hb d_SkeletonClockModel_wished_25 rfl (lv_at hl 0 rfl) ?_
    refine k_get S X us_SkeletonClockModel hP 0 rfl rfl 0 (by decide) gm_4_151 rfl d_SkeletonClockModel_wished_26 ?_
    refine lv_icmp_ge (tgt := 91) hx hb d_SkeletonClockModel_wished_29 rfl (fun hc => ?_) (fun hc => ?_)
    · have he := ih_t hc he
      have hl : lv_has ls 3 [(0, .ref a_t), (1, .int x1)] := lv_sub hl [0, 1] rfl
      cases he
      exact K _ rfl _ _ _ hl hP hD hS
    · have he := ih_f hc he
      refine lv_aload_n hx hb d_SkeletonClockModel_wished_32 rfl (lv_at hl 0 rfl) ?_
      refine lv_iload_n hx hb d_SkeletonClockModel_wished_33 rfl (lv_at hl 1 rfl) ?_
      obtain ⟨u4, e5, he⟩ := ih_b he
      refine k_io (r_V (As := [.int x1]) S X hA hP hD hS (c_SkeletonClockModel_run l D kk st a_t a_t_text a_t_page a_t_names a_t_sort a_t_code a_t_count a_t_around a_t_end a_t_size a_t_there a_t_wish a_t_have a_t_known a_t_value a_t_before a_t_open a_t_from _ t_length t_used t_far t_momentParts t_momentDay t_momentSecond t_momentNano t_momentOffset t_readParts t_readDay t_readSecond t_readNano t_readOffset t_alike t_text x1 u4 e5) gm_5_29 gm_5_26 gm_5_28 gm_p3_2 gm_1_13 ⟨rfl, rfl, by decide, by decide⟩ kd_SkeletonClockModel_run [0, 1] rfl rfl rfl 0 10 rfl rfl rfl rfl hl.1 rfl (Nat.le_of_ble_eq_true rfl) d_SkeletonClockModel_wished_34 ⟨Nat.zero_le _, Nat.zero_le _⟩) hA hP hD hS [0, 1] rfl (fun H locs hP hS => ?_)
      refine lv_istore_n hx hb d_SkeletonClockModel_wished_37 rfl hl (by decide) rfl (fun ls hl => ?_)
      have hl : lv_has ls 3 [(2, .int u4), (0, .ref a_t), (1, .int x1)] := hl
      refine lv_aload_n hx hb d_SkeletonClockModel_wished_38 rfl (lv_at hl 1 rfl) ?_
      refine lv_iload_n hx hb d_SkeletonClockModel_wished_39 rfl (lv_at hl 2 rfl) ?_
      obtain ⟨u6, e7, he⟩ := ih_b he
      refine k_io (r_V (As := [.int x1]) S X hA hP hD hS (c_SkeletonClockModel_isLetter l D kk st a_t a_t_text a_t_page a_t_names a_t_sort a_t_code a_t_count a_t_around a_t_end a_t_size a_t_there a_t_wish a_t_have a_t_known a_t_value a_t_before a_t_open a_t_from _ t_length t_used t_far t_momentParts t_momentDay t_momentSecond t_momentNano t_momentOffset t_readParts t_readDay t_readSecond t_readNano t_readOffset t_alike t_text x1 u6 e7) gm_5_25 gm_5_22 gm_5_24 gm_p3_1 gm_1_13 ⟨rfl, rfl, by decide, by decide⟩ kd_SkeletonClockModel_isLetter [0, 1] rfl rfl rfl 0 10 rfl rfl rfl rfl hl.1 rfl (Nat.le_of_ble_eq_true rfl) d_SkeletonClockModel_wished_40 ⟨Nat.zero_le _, Nat.zero_le _⟩) hA hP hD hS [0, 1] rfl (fun H locs hP hS => ?_)
      refine lv_if_eq (tgt := 71) hx hb d_SkeletonClockModel_wished_43 rfl (fun hc => ?_) (fun hc => ?_)
      · have he := ih_t hc he
        refine lv_iconst (v := (0 : Int32)) hx hb d_SkeletonClockModel_wished_71 (by decide) ?_
        cases he
        have hq := hret _ rfl
        subst hq
        exact k_zre hx hb hr hlk X hP hD hS (Or.inl rfl) d_SkeletonClockModel_wished_72
      · have he := ih_f hc he
        refine lv_aload_n hx hb d_SkeletonClockModel_wished_46 rfl (lv_at hl 1 rfl) ?_
        refine lv_iload_n hx hb d_SkeletonClockModel_wished_47 rfl (lv_at hl 2 rfl) ?_
        obtain ⟨u8, e9, he⟩ := ih_b he
        refine k_io (r_V (As := [.int x1]) S X hA hP hD hS (c_SkeletonClockModel_at l D kk st a_t a_t_text a_t_page a_t_names a_t_sort a_t_code a_t_count a_t_around a_t_end a_t_size a_t_there a_t_wish a_t_have a_t_known a_t_value a_t_before a_t_open a_t_from _ t_length t_used t_far t_momentParts t_momentDay t_momentSecond t_momentNano t_momentOffset t_readParts t_readDay t_readSecond t_readNano t_readOffset t_alike t_text x1 u8 e9) gm_5_21 gm_5_18 gm_5_20 gm_p3_0 gm_1_13 ⟨rfl, rfl, by decide, by decide⟩ kd_SkeletonClockModel_at [0, 1] rfl rfl rfl 0 10 rfl rfl rfl rfl hl.1 rfl (Nat.le_of_ble_eq_true rfl) d_SkeletonClockModel_wished_48 ⟨Nat.zero_le _, Nat.zero_le _⟩) hA hP hD hS [0, 1] rfl (fun H locs hP hS => ?_)
        refine lv_iload_n hx hb d_SkeletonClockModel_wished_51 rfl (lv_at hl 0 rfl) ?_
        obtain ⟨u10, e11, he⟩ := ih_b he
        refine k_io (r_S (As := [.int u8, .int u4]) S X hA hP hD hS (c_SkeletonClockModel_allowed l D kk st _ u8 u4 u10 e11) gm_5_32 gm_5_30 gm_5_31 gm_1_13 ⟨rfl, rfl, by decide, by decide⟩ kd_SkeletonClockModel_allowed [] rfl rfl rfl rfl hl.1 rfl (Nat.le_of_ble_eq_true rfl) d_SkeletonClockModel_wished_52 ⟨Nat.zero_le _, Nat.zero_le _⟩) hA hP hD hS [] rfl (fun H locs hP hS => ?_)
        refine lv_if_eq (tgt := 71) hx hb d_SkeletonClockModel_wished_55 rfl (fun hc => ?_) (fun hc => ?_)
        · have he := ih_t hc he
          refine lv_iconst (v := (0 : Int32)) hx hb d_SkeletonClockModel_wished_71 (by decide) ?_
          cases he
          have hq := hret _ rfl
          subst hq
          exact k_zre hx hb hr hlk X hP hD hS (Or.inl rfl) d_SkeletonClockModel_wished_72
        · have he := ih_f hc he
          refine lv_aload_n hx hb d_SkeletonClockModel_wished_58 rfl (lv_at hl 1 rfl) ?_
          refine k_get S X us_SkeletonClockModel hP 0 rfl rfl 12 (by decide) gm_4_163 rfl d_SkeletonClockModel_wished_59 ?_
          refine lv_aload_n hx hb d_SkeletonClockModel_wished_62 rfl (lv_at hl 1 rfl) ?_
          refine lv_iload_n hx hb d_SkeletonClockModel_wished_63 rfl (lv_at hl 2 rfl) ?_
          obtain ⟨u12, e13, he⟩ := ih_b he
          refine k_io (r_V (As := [.int x1]) S X hA hP hD hS (c_SkeletonClockModel_at l D kk st a_t a_t_text a_t_page a_t_names a_t_sort a_t_code a_t_count a_t_around a_t_end a_t_size a_t_there a_t_wish a_t_have a_t_known a_t_value a_t_before a_t_open a_t_from _ t_length t_used t_far t_momentParts t_momentDay t_momentSecond t_momentNano t_momentOffset t_readParts t_readDay t_readSecond t_readNano t_readOffset t_alike t_text x1 u12 e13) gm_5_21 gm_5_18 gm_5_20 gm_p3_0 gm_1_13 ⟨rfl, rfl, by decide, by decide⟩ kd_SkeletonClockModel_at [0, 1] rfl rfl rfl 0 10 rfl rfl rfl rfl hl.1 rfl (Nat.le_of_ble_eq_true rfl) d_SkeletonClockModel_wished_64 ⟨Nat.zero_le _, Nat.zero_le _⟩) hA hP hD hS [0, 1] rfl (fun H locs hP hS => ?_)
          obtain ⟨hi14, he⟩ := ih_g he
          refine va_iald hx hb X.1 hP 2 0 rfl rfl hi14 d_SkeletonClockModel_wished_67 ?_
          refine lv_if_le (tgt := 73) hx hb d_SkeletonClockModel_wished_68 rfl (fun hc => ?_) (fun hc => ?_)
          · have he := ih_t hc he
            refine lv_aload_n hx hb d_SkeletonClockModel_wished_73 rfl (lv_at hl 1 rfl) ?_
            refine k_get S X us_SkeletonClockModel hP 0 rfl rfl 12 (by decide) gm_4_163 rfl d_SkeletonClockModel_wished_74 ?_
            refine lv_aload_n hx hb d_SkeletonClockModel_wished_77 rfl (lv_at hl 1 rfl) ?_
            refine lv_iload_n hx hb d_SkeletonClockModel_wished_78 rfl (lv_at hl 2 rfl) ?_
            obtain ⟨u15, e16, he⟩ := ih_b he
            refine k_io (r_V (As := [.int x1]) S X hA hP hD hS (c_SkeletonClockModel_at l D kk st a_t a_t_text a_t_page a_t_names a_t_sort a_t_code a_t_count a_t_around a_t_end a_t_size a_t_there a_t_wish a_t_have a_t_known a_t_value a_t_before a_t_open a_t_from _ t_length t_used t_far t_momentParts t_momentDay t_momentSecond t_momentNano t_momentOffset t_readParts t_readDay t_readSecond t_readNano t_readOffset t_alike t_text x1 u15 e16) gm_5_21 gm_5_18 gm_5_20 gm_p3_0 gm_1_13 ⟨rfl, rfl, by decide, by decide⟩ kd_SkeletonClockModel_at [0, 1] rfl rfl rfl 0 10 rfl rfl rfl rfl hl.1 rfl (Nat.le_of_ble_eq_true rfl) d_SkeletonClockModel_wished_79 ⟨Nat.zero_le _, Nat.zero_le _⟩) hA hP hD hS [0, 1] rfl (fun H locs hP hS => ?_)
            refine lv_iload_n hx hb d_SkeletonClockModel_wished_82 rfl (lv_at hl 0 rfl) ?_
            obtain ⟨hi17, he⟩ := ih_g he
            refine va_iast hx hb X.1 hP hD hS 2 0 rfl rfl hi17 d_SkeletonClockModel_wished_83 (fun H locs hP hD hS => ?_)
            have hP : va_P D classes [(a_t, .inr (10, [.int t_length, .ref a_t_text, .int t_used, .ref a_t_page, .ref a_t_names, .ref a_t_sort, .ref a_t_code, .ref a_t_count, .ref a_t_around, .ref a_t_end, .ref a_t_size, .ref a_t_there, .ref a_t_wish, .ref a_t_have, .int t_far, .int t_momentParts, .long t_momentDay, .int t_momentSecond, .int t_momentNano, .int t_momentOffset, .int t_readParts, .long t_readDay, .int t_readSecond, .int t_readNano, .int t_readOffset, .ref a_t_known, .ref a_t_value, .ref a_t_before, .ref a_t_open, .ref a_t_from, .int t_alike])), (a_t_text, .inl (kk 1, 60, .inl t_text)), (a_t_wish, .inl (kk 0, 128, .inl (upd t_wish (u15).toNatClampNeg u4)))] H := hP
            have hD : va_D A [(a_t, .inr (10, [.int t_length, .ref a_t_text, .int t_used, .ref a_t_page, .ref a_t_names, .ref a_t_sort, .ref a_t_code, .ref a_t_count, .ref a_t_around, .ref a_t_end, .ref a_t_size, .ref a_t_there, .ref a_t_wish, .ref a_t_have, .int t_far, .int t_momentParts, .long t_momentDay, .int t_momentSecond, .int t_momentNano, .int t_momentOffset, .int t_readParts, .long t_readDay, .int t_readSecond, .int t_readNano, .int t_readOffset, .ref a_t_known, .ref a_t_value, .ref a_t_before, .ref a_t_open, .ref a_t_from, .int t_alike])), (a_t_text, .inl (kk 1, 60, .inl t_text)), (a_t_wish, .inl (kk 0, 128, .inl (upd t_wish (u15).toNatClampNeg u4)))] := hD
            refine lv_iload_n hx hb d_SkeletonClockModel_wished_84 rfl (lv_at hl 2 rfl) ?_
            refine lv_iload_n hx hb d_SkeletonClockModel_wished_85 rfl (lv_at hl 0 rfl) ?_
            refine lv_iadd hx hb d_SkeletonClockModel_wished_86 ?_
            refine lv_istore_n hx hb d_SkeletonClockModel_wished_87 rfl hl (by decide) rfl (fun ls hl => ?_)
            have hl : lv_has ls 3 [(1, .int (x1 + u4)), (2, .int u4), (0, .ref a_t)] := hl
            refine lv_goto (tgt := 24) hx hb d_SkeletonClockModel_wished_88 rfl ?_
            have hl : lv_has ls 3 [(0, .ref a_t), (1, .int (x1 + u4))] := lv_sub hl [2, 0] rfl
            exact ih _ _ _ _ _ _ he hl hP hD hS hret K
          · have he := ih_f hc he
            refine lv_iconst (v := (0 : Int32)) hx hb d_SkeletonClockModel_wished_71 (by decide) ?_
            cases he
            have hq := hret _ rfl
            subst hq
            exact k_zre hx hb hr hlk X hP hD hS (Or.inl rfl) d_SkeletonClockModel_wished_72
set_option maxHeartbeats 4000000 in
set_option maxRecDepth 100000 in
theorem c_SkeletonClockModel_wished (l : Launch) (D : va_G) (kk : Nat → ClassId) (st : Nat → Nat) (a_t a_t_text a_t_wish a_t_page a_t_names a_t_sort a_t_code a_t_count a_t_around a_t_end a_t_size a_t_there a_t_have a_t_known a_t_value a_t_before a_t_open a_t_from : Nat) (sz : Nat) (t_length : Int32) (t_used : Int32) (t_far : Int32) (t_momentParts : Int32) (t_momentDay : Int64) (t_momentSecond : Int32) (t_momentNano : Int32) (t_momentOffset : Int32) (t_readParts : Int32) (t_readDay : Int64) (t_readSecond : Int32) (t_readNano : Int32) (t_readOffset : Int32) (t_alike : Int32) (t_text : Nat → Int32) (t_wish : Nat → Int32) (o : Int32 × (Nat → Int32)) (he : f_SkeletonClockModel_wished t_length t_text t_wish = some o) : Met l y_SkeletonClockModel_wished (Cond.code y_SkeletonClockModel_wished b_SkeletonClockModel_wished 3 (some .boolean) :: GW) rm_SkeletonClockModel_wished (KPc D kk st [.ref a_t] [(a_t, .inr (10, [.int t_length, .ref a_t_text, .int t_used, .ref a_t_page, .ref a_t_names, .ref a_t_sort, .ref a_t_code, .ref a_t_count, .ref a_t_around, .ref a_t_end, .ref a_t_size, .ref a_t_there, .ref a_t_wish, .ref a_t_have, .int t_far, .int t_momentParts, .long t_momentDay, .int t_momentSecond, .int t_momentNano, .int t_momentOffset, .int t_readParts, .long t_readDay, .int t_readSecond, .int t_readNano, .int t_readOffset, .ref a_t_known, .ref a_t_value, .ref a_t_before, .ref a_t_open, .ref a_t_from, .int t_alike])), (a_t_text, .inl (kk 1, 60, .inl t_text)), (a_t_wish, .inl (kk 0, 128, .inl t_wish))] sz) (KQi D kk o.1 [(a_t, .inr (10, [.int t_length, .ref a_t_text, .int t_used, .ref a_t_page, .ref a_t_names, .ref a_t_sort, .ref a_t_code, .ref a_t_count, .ref a_t_around, .ref a_t_end, .ref a_t_size, .ref a_t_there, .ref a_t_wish, .ref a_t_have, .int t_far, .int t_momentParts, .long t_momentDay, .int t_momentSecond, .int t_momentNano, .int t_momentOffset, .int t_readParts, .long t_readDay, .int t_readSecond, .int t_readNano, .int t_readOffset, .ref a_t_known, .ref a_t_value, .ref a_t_before, .ref a_t_open, .ref a_t_from, .int t_alike])), (a_t_text, .inl (kk 1, 60, .inl t_text)), (a_t_wish, .inl (kk 0, 128, .inl o.2))] (va_A [(a_t, .inr (10, [.int t_length, .ref a_t_text, .int t_used, .ref a_t_page, .ref a_t_names, .ref a_t_sort, .ref a_t_code, .ref a_t_count, .ref a_t_around, .ref a_t_end, .ref a_t_size, .ref a_t_there, .ref a_t_wish, .ref a_t_have, .int t_far, .int t_momentParts, .long t_momentDay, .int t_momentSecond, .int t_momentNano, .int t_momentOffset, .int t_readParts, .long t_readDay, .int t_readSecond, .int t_readNano, .int t_readOffset, .ref a_t_known, .ref a_t_value, .ref a_t_before, .ref a_t_open, .ref a_t_from, .int t_alike])), (a_t_text, .inl (kk 1, 60, .inl t_text)), (a_t_wish, .inl (kk 0, 128, .inl t_wish))] sz)) 0 0 (va_A [(a_t, .inr (10, [.int t_length, .ref a_t_text, .int t_used, .ref a_t_page, .ref a_t_names, .ref a_t_sort, .ref a_t_code, .ref a_t_count, .ref a_t_around, .ref a_t_end, .ref a_t_size, .ref a_t_there, .ref a_t_wish, .ref a_t_have, .int t_far, .int t_momentParts, .long t_momentDay, .int t_momentSecond, .int t_momentNano, .int t_momentOffset, .int t_readParts, .long t_readDay, .int t_readSecond, .int t_readNano, .int t_readOffset, .ref a_t_known, .ref a_t_value, .ref a_t_before, .ref a_t_open, .ref a_t_from, .int t_alike])), (a_t_text, .inl (kk 1, 60, .inl t_text)), (a_t_wish, .inl (kk 0, 128, .inl t_wish))] sz) := by
  refine k_start (Qc := fun A => KQi D kk o.1 [(a_t, .inr (10, [.int t_length, .ref a_t_text, .int t_used, .ref a_t_page, .ref a_t_names, .ref a_t_sort, .ref a_t_code, .ref a_t_count, .ref a_t_around, .ref a_t_end, .ref a_t_size, .ref a_t_there, .ref a_t_wish, .ref a_t_have, .int t_far, .int t_momentParts, .long t_momentDay, .int t_momentSecond, .int t_momentNano, .int t_momentOffset, .int t_readParts, .long t_readDay, .int t_readSecond, .int t_readNano, .int t_readOffset, .ref a_t_known, .ref a_t_value, .ref a_t_before, .ref a_t_open, .ref a_t_from, .int t_alike])), (a_t_text, .inl (kk 1, 60, .inl t_text)), (a_t_wish, .inl (kk 0, 128, .inl o.2))] A) (by decide) (Nat.le_of_ble_eq_true rfl) ?_
  intro p e s m below meth c A ls S hnm hr hlk hA X hP hD hS hl
  have hl : lv_has ls 3 [(0, .ref a_t)] := hl
  have hx := S.1
  have hb := S.2.1
  unfold f_SkeletonClockModel_wished at he
  refine lv_iconst (v := (0 : Int32)) hx hb d_SkeletonClockModel_wished_0 (by decide) ?_
  refine lv_istore_n hx hb d_SkeletonClockModel_wished_1 rfl hl (by decide) rfl (fun ls hl => ?_)
  have hl : lv_has ls 3 [(1, .int (0 : Int32)), (0, .ref a_t)] := hl
  obtain ⟨u2, e3, he⟩ := ih_b he
  have hl : lv_has ls 3 [(0, .ref a_t), (1, .int (0 : Int32))] := lv_sub hl [1, 0] rfl
  refine w_SkeletonClockModel_wished_2 a_t a_t_text a_t_wish a_t_page a_t_names a_t_sort a_t_code a_t_count a_t_around a_t_end a_t_size a_t_there a_t_have a_t_known a_t_value a_t_before a_t_open a_t_from t_length t_used t_far t_momentParts t_momentDay t_momentSecond t_momentNano t_momentOffset t_readParts t_readDay t_readSecond t_readNano t_readOffset t_alike t_text S hr hlk hA X FU (0 : Int32) t_wish u2 _ _ ls e3 hl hP hD hS (fun H locs ls hl hP hD hS => ?_)
  refine lv_iconst (v := (0 : Int32)) hx hb d_SkeletonClockModel_wished_22 (by decide) ?_
  refine lv_istore_n hx hb d_SkeletonClockModel_wished_23 rfl hl (by decide) rfl (fun ls hl => ?_)
  have hl : lv_has ls 3 [(1, .int (0 : Int32)), (0, .ref a_t)] := hl
  obtain ⟨u18, e19, he⟩ := ih_b he
  have hl : lv_has ls 3 [(0, .ref a_t), (1, .int (0 : Int32))] := lv_sub hl [1, 0] rfl
  rcases u18 with o20 | v21
  · have he := sel_l he
    cases he
    exact w_SkeletonClockModel_wished_24 a_t a_t_text a_t_wish a_t_page a_t_names a_t_sort a_t_code a_t_count a_t_around a_t_end a_t_size a_t_there a_t_have a_t_known a_t_value a_t_before a_t_open a_t_from t_length t_used t_far t_momentParts t_momentDay t_momentSecond t_momentNano t_momentOffset t_readParts t_readDay t_readSecond t_readNano t_readOffset t_alike t_text S hr hlk hA X FU (0 : Int32) u2.2 _ _ _ ls e19 hl hP hD hS (fun o h => by cases h; rfl) (fun v h => by cases h)
  · have he := sel_r he
    refine w_SkeletonClockModel_wished_24 a_t a_t_text a_t_wish a_t_page a_t_names a_t_sort a_t_code a_t_count a_t_around a_t_end a_t_size a_t_there a_t_have a_t_known a_t_value a_t_before a_t_open a_t_from t_length t_used t_far t_momentParts t_momentDay t_momentSecond t_momentNano t_momentOffset t_readParts t_readDay t_readSecond t_readNano t_readOffset t_alike t_text S hr hlk hA X FU (0 : Int32) u2.2 _ _ _ ls e19 hl hP hD hS (fun o h => by cases h) (fun v h H locs ls hl hP hD hS => ?_)
    have h := Sum.inr.inj h
    subst h
    refine lv_iconst (v := (1 : Int32)) hx hb d_SkeletonClockModel_wished_91 (by decide) ?_
    cases he
    exact k_zre hx hb hr hlk X hP hD hS (Or.inr rfl) d_SkeletonClockModel_wished_92
