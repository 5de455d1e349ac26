abbrev b_SkeletonClockModel_type : ByteArray := prog_14_method_20_code
def y_SkeletonClockModel_type : MethodName := ⟨"SkeletonClockModel", "type", "(C)Z"⟩
theorem kd_SkeletonClockModel_type : kd_ok y_SkeletonClockModel_type 1 := by decide +kernel
abbrev b_SkeletonClockModel_quoteEnd : ByteArray := prog_14_method_21_code
def y_SkeletonClockModel_quoteEnd : MethodName := ⟨"SkeletonClockModel", "quoteEnd", "(I)I"⟩
theorem kd_SkeletonClockModel_quoteEnd : kd_ok y_SkeletonClockModel_quoteEnd 1 := by decide +kernel
abbrev b_SkeletonClockModel_piece : ByteArray := prog_14_method_22_code
def y_SkeletonClockModel_piece : MethodName := ⟨"SkeletonClockModel", "piece", "(IIII)Z"⟩
theorem kd_SkeletonClockModel_piece : kd_ok y_SkeletonClockModel_piece 4 := by decide +kernel
theorem gm_4_161 : Cond.fieldLink "SkeletonClockModel" (36 : Nat) "SkeletonClockModel" "size" "[I" ∈ GW := gw_4 (i := 161) rfl rfl
theorem gm_4_156 : Cond.fieldLink "SkeletonClockModel" (20 : Nat) "SkeletonClockModel" "sort" "[I" ∈ GW := gw_4 (i := 156) rfl rfl
theorem gm_4_157 : Cond.fieldLink "SkeletonClockModel" (24 : Nat) "SkeletonClockModel" "code" "[I" ∈ GW := gw_4 (i := 157) rfl rfl
theorem gm_4_158 : Cond.fieldLink "SkeletonClockModel" (27 : Nat) "SkeletonClockModel" "count" "[I" ∈ GW := gw_4 (i := 158) rfl rfl
theorem gm_4_159 : Cond.fieldLink "SkeletonClockModel" (30 : Nat) "SkeletonClockModel" "around" "[I" ∈ GW := gw_4 (i := 159) rfl rfl
theorem gm_4_160 : Cond.fieldLink "SkeletonClockModel" (33 : Nat) "SkeletonClockModel" "end" "[I" ∈ GW := gw_4 (i := 160) rfl rfl
theorem d_SkeletonClockModel_type_0 : decode b_SkeletonClockModel_type 0 = .ok (.iload_n 1, 1) := by decide +kernel
theorem d_SkeletonClockModel_type_1 : decode b_SkeletonClockModel_type 1 = .ok (.bipush 32, 2) := by decide +kernel
theorem d_SkeletonClockModel_type_3 : decode b_SkeletonClockModel_type 3 = .ok (.if_icmp .lt 18, 3) := by decide +kernel
theorem d_SkeletonClockModel_type_6 : decode b_SkeletonClockModel_type 6 = .ok (.iload_n 1, 1) := by decide +kernel
theorem d_SkeletonClockModel_type_7 : decode b_SkeletonClockModel_type 7 = .ok (.bipush 126, 2) := by decide +kernel
theorem d_SkeletonClockModel_type_9 : decode b_SkeletonClockModel_type 9 = .ok (.if_icmp .gt 12, 3) := by decide +kernel
theorem d_SkeletonClockModel_type_12 : decode b_SkeletonClockModel_type 12 = .ok (.aload_n 0, 1) := by decide +kernel
theorem d_SkeletonClockModel_type_13 : decode b_SkeletonClockModel_type 13 = .ok (.getfield 181, 3) := by decide +kernel
theorem d_SkeletonClockModel_type_16 : decode b_SkeletonClockModel_type 16 = .ok (.bipush 60, 2) := by decide +kernel
theorem d_SkeletonClockModel_type_18 : decode b_SkeletonClockModel_type 18 = .ok (.if_icmp .ne 5, 3) := by decide +kernel
theorem d_SkeletonClockModel_type_21 : decode b_SkeletonClockModel_type 21 = .ok (.iconst 0, 1) := by decide +kernel
theorem d_SkeletonClockModel_type_22 : decode b_SkeletonClockModel_type 22 = .ok (.ireturn, 1) := by decide +kernel
theorem d_SkeletonClockModel_type_23 : decode b_SkeletonClockModel_type 23 = .ok (.aload_n 0, 1) := by decide +kernel
theorem d_SkeletonClockModel_type_24 : decode b_SkeletonClockModel_type 24 = .ok (.getfield 7, 3) := by decide +kernel
theorem d_SkeletonClockModel_type_27 : decode b_SkeletonClockModel_type 27 = .ok (.aload_n 0, 1) := by decide +kernel
theorem d_SkeletonClockModel_type_28 : decode b_SkeletonClockModel_type 28 = .ok (.getfield 181, 3) := by decide +kernel
theorem d_SkeletonClockModel_type_31 : decode b_SkeletonClockModel_type 31 = .ok (.iload_n 1, 1) := by decide +kernel
theorem d_SkeletonClockModel_type_32 : decode b_SkeletonClockModel_type 32 = .ok (.castore, 1) := by decide +kernel
theorem d_SkeletonClockModel_type_33 : decode b_SkeletonClockModel_type 33 = .ok (.aload_n 0, 1) := by decide +kernel
theorem d_SkeletonClockModel_type_34 : decode b_SkeletonClockModel_type 34 = .ok (.dup, 1) := by decide +kernel
theorem d_SkeletonClockModel_type_35 : decode b_SkeletonClockModel_type 35 = .ok (.getfield 181, 3) := by decide +kernel
theorem d_SkeletonClockModel_type_38 : decode b_SkeletonClockModel_type 38 = .ok (.iconst 1, 1) := by decide +kernel
theorem d_SkeletonClockModel_type_39 : decode b_SkeletonClockModel_type 39 = .ok (.iadd, 1) := by decide +kernel
theorem d_SkeletonClockModel_type_40 : decode b_SkeletonClockModel_type 40 = .ok (.putfield 181, 3) := by decide +kernel
theorem d_SkeletonClockModel_type_43 : decode b_SkeletonClockModel_type 43 = .ok (.iconst 1, 1) := by decide +kernel
theorem d_SkeletonClockModel_type_44 : decode b_SkeletonClockModel_type 44 = .ok (.ireturn, 1) := by decide +kernel
theorem d_SkeletonClockModel_quoteEnd_0 : decode b_SkeletonClockModel_quoteEnd 0 = .ok (.iload_n 1, 1) := by decide +kernel
theorem d_SkeletonClockModel_quoteEnd_1 : decode b_SkeletonClockModel_quoteEnd 1 = .ok (.iconst 1, 1) := by decide +kernel
theorem d_SkeletonClockModel_quoteEnd_2 : decode b_SkeletonClockModel_quoteEnd 2 = .ok (.iadd, 1) := by decide +kernel
theorem d_SkeletonClockModel_quoteEnd_3 : decode b_SkeletonClockModel_quoteEnd 3 = .ok (.istore_n 2, 1) := by decide +kernel
theorem d_SkeletonClockModel_quoteEnd_4 : decode b_SkeletonClockModel_quoteEnd 4 = .ok (.iload_n 2, 1) := by decide +kernel
theorem d_SkeletonClockModel_quoteEnd_5 : decode b_SkeletonClockModel_quoteEnd 5 = .ok (.aload_n 0, 1) := by decide +kernel
theorem d_SkeletonClockModel_quoteEnd_6 : decode b_SkeletonClockModel_quoteEnd 6 = .ok (.getfield 181, 3) := by decide +kernel
theorem d_SkeletonClockModel_quoteEnd_9 : decode b_SkeletonClockModel_quoteEnd 9 = .ok (.if_icmp .ge 50, 3) := by decide +kernel
theorem d_SkeletonClockModel_quoteEnd_12 : decode b_SkeletonClockModel_quoteEnd 12 = .ok (.aload_n 0, 1) := by decide +kernel
theorem d_SkeletonClockModel_quoteEnd_13 : decode b_SkeletonClockModel_quoteEnd 13 = .ok (.iload_n 2, 1) := by decide +kernel
theorem d_SkeletonClockModel_quoteEnd_14 : decode b_SkeletonClockModel_quoteEnd 14 = .ok (.invokevirtual 184, 3) := by decide +kernel
theorem d_SkeletonClockModel_quoteEnd_17 : decode b_SkeletonClockModel_quoteEnd 17 = .ok (.bipush 39, 2) := by decide +kernel
theorem d_SkeletonClockModel_quoteEnd_19 : decode b_SkeletonClockModel_quoteEnd 19 = .ok (.if_icmp .ne 17, 3) := by decide +kernel
theorem d_SkeletonClockModel_quoteEnd_22 : decode b_SkeletonClockModel_quoteEnd 22 = .ok (.aload_n 0, 1) := by decide +kernel
theorem d_SkeletonClockModel_quoteEnd_23 : decode b_SkeletonClockModel_quoteEnd 23 = .ok (.iload_n 2, 1) := by decide +kernel
theorem d_SkeletonClockModel_quoteEnd_24 : decode b_SkeletonClockModel_quoteEnd 24 = .ok (.iconst 1, 1) := by decide +kernel
theorem d_SkeletonClockModel_quoteEnd_25 : decode b_SkeletonClockModel_quoteEnd 25 = .ok (.iadd, 1) := by decide +kernel
theorem d_SkeletonClockModel_quoteEnd_26 : decode b_SkeletonClockModel_quoteEnd 26 = .ok (.invokevirtual 184, 3) := by decide +kernel
theorem d_SkeletonClockModel_quoteEnd_29 : decode b_SkeletonClockModel_quoteEnd 29 = .ok (.bipush 39, 2) := by decide +kernel
theorem d_SkeletonClockModel_quoteEnd_31 : decode b_SkeletonClockModel_quoteEnd 31 = .ok (.if_icmp .eq 5, 3) := by decide +kernel
theorem d_SkeletonClockModel_quoteEnd_34 : decode b_SkeletonClockModel_quoteEnd 34 = .ok (.iload_n 2, 1) := by decide +kernel
theorem d_SkeletonClockModel_quoteEnd_35 : decode b_SkeletonClockModel_quoteEnd 35 = .ok (.ireturn, 1) := by decide +kernel
theorem d_SkeletonClockModel_quoteEnd_36 : decode b_SkeletonClockModel_quoteEnd 36 = .ok (.aload_n 0, 1) := by decide +kernel
theorem d_SkeletonClockModel_quoteEnd_37 : decode b_SkeletonClockModel_quoteEnd 37 = .ok (.iload_n 2, 1) := by decide +kernel
theorem d_SkeletonClockModel_quoteEnd_38 : decode b_SkeletonClockModel_quoteEnd 38 = .ok (.invokevirtual 184, 3) := by decide +kernel
theorem d_SkeletonClockModel_quoteEnd_41 : decode b_SkeletonClockModel_quoteEnd 41 = .ok (.bipush 39, 2) := by decide +kernel
theorem d_SkeletonClockModel_quoteEnd_43 : decode b_SkeletonClockModel_quoteEnd 43 = .ok (.if_icmp .ne 9, 3) := by decide +kernel
theorem d_SkeletonClockModel_quoteEnd_46 : decode b_SkeletonClockModel_quoteEnd 46 = .ok (.iload_n 2, 1) := by decide +kernel
theorem d_SkeletonClockModel_quoteEnd_47 : decode b_SkeletonClockModel_quoteEnd 47 = .ok (.iconst 2, 1) := by decide +kernel
theorem d_SkeletonClockModel_quoteEnd_48 : decode b_SkeletonClockModel_quoteEnd 48 = .ok (.iadd, 1) := by decide +kernel
theorem d_SkeletonClockModel_quoteEnd_49 : decode b_SkeletonClockModel_quoteEnd 49 = .ok (.goto 6, 3) := by decide +kernel
theorem d_SkeletonClockModel_quoteEnd_52 : decode b_SkeletonClockModel_quoteEnd 52 = .ok (.iload_n 2, 1) := by decide +kernel
theorem d_SkeletonClockModel_quoteEnd_53 : decode b_SkeletonClockModel_quoteEnd 53 = .ok (.iconst 1, 1) := by decide +kernel
theorem d_SkeletonClockModel_quoteEnd_54 : decode b_SkeletonClockModel_quoteEnd 54 = .ok (.iadd, 1) := by decide +kernel
theorem d_SkeletonClockModel_quoteEnd_55 : decode b_SkeletonClockModel_quoteEnd 55 = .ok (.istore_n 2, 1) := by decide +kernel
theorem d_SkeletonClockModel_quoteEnd_56 : decode b_SkeletonClockModel_quoteEnd 56 = .ok (.goto (-52), 3) := by decide +kernel
theorem d_SkeletonClockModel_quoteEnd_59 : decode b_SkeletonClockModel_quoteEnd 59 = .ok (.iconst (-1), 1) := by decide +kernel
theorem d_SkeletonClockModel_quoteEnd_60 : decode b_SkeletonClockModel_quoteEnd 60 = .ok (.ireturn, 1) := by decide +kernel
theorem d_SkeletonClockModel_piece_0 : decode b_SkeletonClockModel_piece 0 = .ok (.aload_n 0, 1) := by decide +kernel
theorem d_SkeletonClockModel_piece_1 : decode b_SkeletonClockModel_piece 1 = .ok (.getfield 36, 3) := by decide +kernel
theorem d_SkeletonClockModel_piece_4 : decode b_SkeletonClockModel_piece 4 = .ok (.bipush 6, 2) := by decide +kernel
theorem d_SkeletonClockModel_piece_6 : decode b_SkeletonClockModel_piece 6 = .ok (.iaload, 1) := by decide +kernel
theorem d_SkeletonClockModel_piece_7 : decode b_SkeletonClockModel_piece 7 = .ok (.bipush 20, 2) := by decide +kernel
theorem d_SkeletonClockModel_piece_9 : decode b_SkeletonClockModel_piece 9 = .ok (.if_icmp .ne 5, 3) := by decide +kernel
theorem d_SkeletonClockModel_piece_12 : decode b_SkeletonClockModel_piece 12 = .ok (.iconst 0, 1) := by decide +kernel
theorem d_SkeletonClockModel_piece_13 : decode b_SkeletonClockModel_piece 13 = .ok (.ireturn, 1) := by decide +kernel
theorem d_SkeletonClockModel_piece_14 : decode b_SkeletonClockModel_piece 14 = .ok (.bipush 120, 2) := by decide +kernel
theorem d_SkeletonClockModel_piece_16 : decode b_SkeletonClockModel_piece 16 = .ok (.aload_n 0, 1) := by decide +kernel
theorem d_SkeletonClockModel_piece_17 : decode b_SkeletonClockModel_piece 17 = .ok (.getfield 36, 3) := by decide +kernel
theorem d_SkeletonClockModel_piece_20 : decode b_SkeletonClockModel_piece 20 = .ok (.bipush 6, 2) := by decide +kernel
theorem d_SkeletonClockModel_piece_22 : decode b_SkeletonClockModel_piece 22 = .ok (.iaload, 1) := by decide +kernel
theorem d_SkeletonClockModel_piece_23 : decode b_SkeletonClockModel_piece 23 = .ok (.iadd, 1) := by decide +kernel
theorem d_SkeletonClockModel_piece_24 : decode b_SkeletonClockModel_piece 24 = .ok (.istore 5, 2) := by decide +kernel
theorem d_SkeletonClockModel_piece_26 : decode b_SkeletonClockModel_piece 26 = .ok (.aload_n 0, 1) := by decide +kernel
theorem d_SkeletonClockModel_piece_27 : decode b_SkeletonClockModel_piece 27 = .ok (.getfield 20, 3) := by decide +kernel
theorem d_SkeletonClockModel_piece_30 : decode b_SkeletonClockModel_piece 30 = .ok (.iload 5, 2) := by decide +kernel
theorem d_SkeletonClockModel_piece_32 : decode b_SkeletonClockModel_piece 32 = .ok (.iload_n 1, 1) := by decide +kernel
theorem d_SkeletonClockModel_piece_33 : decode b_SkeletonClockModel_piece 33 = .ok (.iastore, 1) := by decide +kernel
theorem d_SkeletonClockModel_piece_34 : decode b_SkeletonClockModel_piece 34 = .ok (.aload_n 0, 1) := by decide +kernel
theorem d_SkeletonClockModel_piece_35 : decode b_SkeletonClockModel_piece 35 = .ok (.getfield 24, 3) := by decide +kernel
theorem d_SkeletonClockModel_piece_38 : decode b_SkeletonClockModel_piece 38 = .ok (.iload 5, 2) := by decide +kernel
theorem d_SkeletonClockModel_piece_40 : decode b_SkeletonClockModel_piece 40 = .ok (.iload_n 2, 1) := by decide +kernel
theorem d_SkeletonClockModel_piece_41 : decode b_SkeletonClockModel_piece 41 = .ok (.iastore, 1) := by decide +kernel
theorem d_SkeletonClockModel_piece_42 : decode b_SkeletonClockModel_piece 42 = .ok (.aload_n 0, 1) := by decide +kernel
theorem d_SkeletonClockModel_piece_43 : decode b_SkeletonClockModel_piece 43 = .ok (.getfield 27, 3) := by decide +kernel
theorem d_SkeletonClockModel_piece_46 : decode b_SkeletonClockModel_piece 46 = .ok (.iload 5, 2) := by decide +kernel
theorem d_SkeletonClockModel_piece_48 : decode b_SkeletonClockModel_piece 48 = .ok (.iload_n 3, 1) := by decide +kernel
theorem d_SkeletonClockModel_piece_49 : decode b_SkeletonClockModel_piece 49 = .ok (.iastore, 1) := by decide +kernel
theorem d_SkeletonClockModel_piece_50 : decode b_SkeletonClockModel_piece 50 = .ok (.aload_n 0, 1) := by decide +kernel
theorem d_SkeletonClockModel_piece_51 : decode b_SkeletonClockModel_piece 51 = .ok (.getfield 30, 3) := by decide +kernel
theorem d_SkeletonClockModel_piece_54 : decode b_SkeletonClockModel_piece 54 = .ok (.iload 5, 2) := by decide +kernel
theorem d_SkeletonClockModel_piece_56 : decode b_SkeletonClockModel_piece 56 = .ok (.iload 4, 2) := by decide +kernel
theorem d_SkeletonClockModel_piece_58 : decode b_SkeletonClockModel_piece 58 = .ok (.iastore, 1) := by decide +kernel
theorem d_SkeletonClockModel_piece_59 : decode b_SkeletonClockModel_piece 59 = .ok (.aload_n 0, 1) := by decide +kernel
theorem d_SkeletonClockModel_piece_60 : decode b_SkeletonClockModel_piece 60 = .ok (.getfield 33, 3) := by decide +kernel
theorem d_SkeletonClockModel_piece_63 : decode b_SkeletonClockModel_piece 63 = .ok (.iload 5, 2) := by decide +kernel
theorem d_SkeletonClockModel_piece_65 : decode b_SkeletonClockModel_piece 65 = .ok (.aload_n 0, 1) := by decide +kernel
theorem d_SkeletonClockModel_piece_66 : decode b_SkeletonClockModel_piece 66 = .ok (.getfield 36, 3) := by decide +kernel
theorem d_SkeletonClockModel_piece_69 : decode b_SkeletonClockModel_piece 69 = .ok (.bipush 6, 2) := by decide +kernel
theorem d_SkeletonClockModel_piece_71 : decode b_SkeletonClockModel_piece 71 = .ok (.iaload, 1) := by decide +kernel
theorem d_SkeletonClockModel_piece_72 : decode b_SkeletonClockModel_piece 72 = .ok (.iconst 1, 1) := by decide +kernel
theorem d_SkeletonClockModel_piece_73 : decode b_SkeletonClockModel_piece 73 = .ok (.iadd, 1) := by decide +kernel
theorem d_SkeletonClockModel_piece_74 : decode b_SkeletonClockModel_piece 74 = .ok (.iastore, 1) := by decide +kernel
theorem d_SkeletonClockModel_piece_75 : decode b_SkeletonClockModel_piece 75 = .ok (.aload_n 0, 1) := by decide +kernel
theorem d_SkeletonClockModel_piece_76 : decode b_SkeletonClockModel_piece 76 = .ok (.getfield 36, 3) := by decide +kernel
theorem d_SkeletonClockModel_piece_79 : decode b_SkeletonClockModel_piece 79 = .ok (.bipush 6, 2) := by decide +kernel
theorem d_SkeletonClockModel_piece_81 : decode b_SkeletonClockModel_piece 81 = .ok (.dup2, 1) := by decide +kernel
theorem d_SkeletonClockModel_piece_82 : decode b_SkeletonClockModel_piece 82 = .ok (.iaload, 1) := by decide +kernel
theorem d_SkeletonClockModel_piece_83 : decode b_SkeletonClockModel_piece 83 = .ok (.iconst 1, 1) := by decide +kernel
theorem d_SkeletonClockModel_piece_84 : decode b_SkeletonClockModel_piece 84 = .ok (.iadd, 1) := by decide +kernel
theorem d_SkeletonClockModel_piece_85 : decode b_SkeletonClockModel_piece 85 = .ok (.iastore, 1) := by decide +kernel
theorem d_SkeletonClockModel_piece_86 : decode b_SkeletonClockModel_piece 86 = .ok (.iconst 1, 1) := by decide +kernel
theorem d_SkeletonClockModel_piece_87 : decode b_SkeletonClockModel_piece 87 = .ok (.ireturn, 1) := by decide +kernel
abbrev rm_SkeletonClockModel_type : Room := { frames := 0, cells := 0, slots := 0, locals := 0 }
set_option maxHeartbeats 4000000 in
set_option maxRecDepth 100000 in
theorem c_SkeletonClockModel_type (l : Launch) (D : va_G) (kk : Nat → ClassId) (st : Nat → Nat) (a_t a_t_text a_t_page a_t_names a_t_sort a_t_code a_t_count a_t_around a_t_end a_t_size a_t_there a_t_wish a_t_have a_t_known a_t_value a_t_before a_t_open a_t_from : Nat) (sz : Nat) (t_length : Int32) (t_used : Int32) (t_far : Int32) (t_momentParts : Int32) (t_momentDay : Int64) (t_momentSecond : Int32) (t_momentNano : Int32) (t_momentOffset : Int32) (t_readParts : Int32) (t_readDay : Int64) (t_readSecond : Int32) (t_readNano : Int32) (t_readOffset : Int32) (t_alike : Int32) (t_text : Nat → Int32) (x1 : Int32) (o : Int32 × Int32 × (Nat → Int32)) (he : f_SkeletonClockModel_type t_length t_text x1 = some o) : Met l y_SkeletonClockModel_type (Cond.code y_SkeletonClockModel_type b_SkeletonClockModel_type 2 (some .boolean) :: GW) rm_SkeletonClockModel_type (KPc D kk st [.ref a_t, .int x1] [(a_t, .inr (10, [.int t_length, .ref a_t_text, .int t_used, .ref a_t_page, .ref a_t_names, .ref a_t_sort, .ref a_t_code, .ref a_t_count, .ref a_t_around, .ref a_t_end, .ref a_t_size, .ref a_t_there, .ref a_t_wish, .ref a_t_have, .int t_far, .int t_momentParts, .long t_momentDay, .int t_momentSecond, .int t_momentNano, .int t_momentOffset, .int t_readParts, .long t_readDay, .int t_readSecond, .int t_readNano, .int t_readOffset, .ref a_t_known, .ref a_t_value, .ref a_t_before, .ref a_t_open, .ref a_t_from, .int t_alike])), (a_t_text, .inl (kk 1, 60, .inl t_text))] sz) (KQi D kk o.1 [(a_t, .inr (10, [.int o.2.1, .ref a_t_text, .int t_used, .ref a_t_page, .ref a_t_names, .ref a_t_sort, .ref a_t_code, .ref a_t_count, .ref a_t_around, .ref a_t_end, .ref a_t_size, .ref a_t_there, .ref a_t_wish, .ref a_t_have, .int t_far, .int t_momentParts, .long t_momentDay, .int t_momentSecond, .int t_momentNano, .int t_momentOffset, .int t_readParts, .long t_readDay, .int t_readSecond, .int t_readNano, .int t_readOffset, .ref a_t_known, .ref a_t_value, .ref a_t_before, .ref a_t_open, .ref a_t_from, .int t_alike])), (a_t_text, .inl (kk 1, 60, .inl o.2.2))] (va_A [(a_t, .inr (10, [.int t_length, .ref a_t_text, .int t_used, .ref a_t_page, .ref a_t_names, .ref a_t_sort, .ref a_t_code, .ref a_t_count, .ref a_t_around, .ref a_t_end, .ref a_t_size, .ref a_t_there, .ref a_t_wish, .ref a_t_have, .int t_far, .int t_momentParts, .long t_momentDay, .int t_momentSecond, .int t_momentNano, .int t_momentOffset, .int t_readParts, .long t_readDay, .int t_readSecond, .int t_readNano, .int t_readOffset, .ref a_t_known, .ref a_t_value, .ref a_t_before, .ref a_t_open, .ref a_t_from, .int t_alike])), (a_t_text, .inl (kk 1, 60, .inl t_text))] sz)) 0 0 (va_A [(a_t, .inr (10, [.int t_length, .ref a_t_text, .int t_used, .ref a_t_page, .ref a_t_names, .ref a_t_sort, .ref a_t_code, .ref a_t_count, .ref a_t_around, .ref a_t_end, .ref a_t_size, .ref a_t_there, .ref a_t_wish, .ref a_t_have, .int t_far, .int t_momentParts, .long t_momentDay, .int t_momentSecond, .int t_momentNano, .int t_momentOffset, .int t_readParts, .long t_readDay, .int t_readSecond, .int t_readNano, .int t_readOffset, .ref a_t_known, .ref a_t_value, .ref a_t_before, .ref a_t_open, .ref a_t_from, .int t_alike])), (a_t_text, .inl (kk 1, 60, .inl t_text))] sz) := by
  refine k_start (Qc := fun A => KQi D kk o.1 [(a_t, .inr (10, [.int o.2.1, .ref a_t_text, .int t_used, .ref a_t_page, .ref a_t_names, .ref a_t_sort, .ref a_t_code, .ref a_t_count, .ref a_t_around, .ref a_t_end, .ref a_t_size, .ref a_t_there, .ref a_t_wish, .ref a_t_have, .int t_far, .int t_momentParts, .long t_momentDay, .int t_momentSecond, .int t_momentNano, .int t_momentOffset, .int t_readParts, .long t_readDay, .int t_readSecond, .int t_readNano, .int t_readOffset, .ref a_t_known, .ref a_t_value, .ref a_t_before, .ref a_t_open, .ref a_t_from, .int t_alike])), (a_t_text, .inl (kk 1, 60, .inl o.2.2))] A) (by decide) (Nat.le_of_ble_eq_true rfl) ?_
  intro p e s m below meth c A ls S hnm hr hlk hA X hP hD hS hl
  have hl : lv_has ls 2 [(0, .ref a_t), (1, .int x1)] := hl
  have hx := S.1
  have hb := S.2.1
  unfold f_SkeletonClockModel_type at he
  refine lv_iload_n hx hb d_SkeletonClockModel_type_0 rfl (lv_at hl 1 rfl) ?_
  refine lv_bipush (v := (32 : Int32)) hx hb d_SkeletonClockModel_type_1 (by decide) ?_
  refine lv_icmp_lt (tgt := 21) hx hb d_SkeletonClockModel_type_3 rfl (fun hc => ?_) (fun hc => ?_)
  · have he := ih_t hc he
    refine lv_iconst (v := (0 : Int32)) hx hb d_SkeletonClockModel_type_21 (by decide) ?_
    cases he
    exact k_zre hx hb hr hlk X hP hD hS (Or.inl rfl) d_SkeletonClockModel_type_22
  · have he := ih_f hc he
    refine lv_iload_n hx hb d_SkeletonClockModel_type_6 rfl (lv_at hl 1 rfl) ?_
    refine lv_bipush (v := (126 : Int32)) hx hb d_SkeletonClockModel_type_7 (by decide) ?_
    refine lv_icmp_gt (tgt := 21) hx hb d_SkeletonClockModel_type_9 rfl (fun hc => ?_) (fun hc => ?_)
    · have he := ih_t hc he
      refine lv_iconst (v := (0 : Int32)) hx hb d_SkeletonClockModel_type_21 (by decide) ?_
      cases he
      exact k_zre hx hb hr hlk X hP hD hS (Or.inl rfl) d_SkeletonClockModel_type_22
    · have he := ih_f hc he
      refine lv_aload_n hx hb d_SkeletonClockModel_type_12 rfl (lv_at hl 0 rfl) ?_
      refine k_get S X us_SkeletonClockModel hP 0 rfl rfl 0 (by decide) gm_4_151 rfl d_SkeletonClockModel_type_13 ?_
      refine lv_bipush (v := (60 : Int32)) hx hb d_SkeletonClockModel_type_16 (by decide) ?_
      refine lv_icmp_ne (tgt := 23) hx hb d_SkeletonClockModel_type_18 rfl (fun hc => ?_) (fun hc => ?_)
      · have he := ih_f hc he
        refine lv_aload_n hx hb d_SkeletonClockModel_type_23 rfl (lv_at hl 0 rfl) ?_
        refine k_get S X us_SkeletonClockModel hP 0 rfl rfl 1 (by decide) gm_4_152 rfl d_SkeletonClockModel_type_24 ?_
        refine lv_aload_n hx hb d_SkeletonClockModel_type_27 rfl (lv_at hl 0 rfl) ?_
        refine k_get S X us_SkeletonClockModel hP 0 rfl rfl 0 (by decide) gm_4_151 rfl d_SkeletonClockModel_type_28 ?_
        refine lv_iload_n hx hb d_SkeletonClockModel_type_31 rfl (lv_at hl 1 rfl) ?_
        obtain ⟨hi1, he⟩ := ih_g he
        refine va_cast hx hb X.1 hP hD hS 1 1 rfl rfl hi1 d_SkeletonClockModel_type_32 (fun H locs hP hD hS => ?_)
        have hP : va_P D classes [(a_t, .inr (10, [.int t_length, .ref a_t_text, .int t_used, .ref a_t_page, .ref a_t_names, .ref a_t_sort, .ref a_t_code, .ref a_t_count, .ref a_t_around, .ref a_t_end, .ref a_t_size, .ref a_t_there, .ref a_t_wish, .ref a_t_have, .int t_far, .int t_momentParts, .long t_momentDay, .int t_momentSecond, .int t_momentNano, .int t_momentOffset, .int t_readParts, .long t_readDay, .int t_readSecond, .int t_readNano, .int t_readOffset, .ref a_t_known, .ref a_t_value, .ref a_t_before, .ref a_t_open, .ref a_t_from, .int t_alike])), (a_t_text, .inl (kk 1, 60, .inl (upd t_text (t_length).toNatClampNeg (vp_nar .char x1))))] H := hP
        have hD : va_D A [(a_t, .inr (10, [.int t_length, .ref a_t_text, .int t_used, .ref a_t_page, .ref a_t_names, .ref a_t_sort, .ref a_t_code, .ref a_t_count, .ref a_t_around, .ref a_t_end, .ref a_t_size, .ref a_t_there, .ref a_t_wish, .ref a_t_have, .int t_far, .int t_momentParts, .long t_momentDay, .int t_momentSecond, .int t_momentNano, .int t_momentOffset, .int t_readParts, .long t_readDay, .int t_readSecond, .int t_readNano, .int t_readOffset, .ref a_t_known, .ref a_t_value, .ref a_t_before, .ref a_t_open, .ref a_t_from, .int t_alike])), (a_t_text, .inl (kk 1, 60, .inl (upd t_text (t_length).toNatClampNeg (vp_nar .char x1))))] := hD
        refine lv_aload_n hx hb d_SkeletonClockModel_type_33 rfl (lv_at hl 0 rfl) ?_
        refine lv_dup hx hb d_SkeletonClockModel_type_34 rfl ?_
        refine k_get S X us_SkeletonClockModel hP 0 rfl rfl 0 (by decide) gm_4_151 rfl d_SkeletonClockModel_type_35 ?_
        refine lv_iconst (v := (1 : Int32)) hx hb d_SkeletonClockModel_type_38 (by decide) ?_
        refine lv_iadd hx hb d_SkeletonClockModel_type_39 ?_
        refine k_put S X us_SkeletonClockModel t_SkeletonClockModel t_SkeletonClockModel_ok n_SkeletonClockModel hP hD hS 0 rfl rfl 0 (by decide) gm_4_151 rfl rfl rfl (Nat.le_of_ble_eq_true rfl) d_SkeletonClockModel_type_40 (fun H locs hP hD hS => ?_)
        have hP : va_P D classes [(a_t, .inr (10, [.int (t_length + (1 : Int32)), .ref a_t_text, .int t_used, .ref a_t_page, .ref a_t_names, .ref a_t_sort, .ref a_t_code, .ref a_t_count, .ref a_t_around, .ref a_t_end, .ref a_t_size, .ref a_t_there, .ref a_t_wish, .ref a_t_have, .int t_far, .int t_momentParts, .long t_momentDay, .int t_momentSecond, .int t_momentNano, .int t_momentOffset, .int t_readParts, .long t_readDay, .int t_readSecond, .int t_readNano, .int t_readOffset, .ref a_t_known, .ref a_t_value, .ref a_t_before, .ref a_t_open, .ref a_t_from, .int t_alike])), (a_t_text, .inl (kk 1, 60, .inl (upd t_text (t_length).toNatClampNeg (vp_nar .char x1))))] H := hP
        have hD : va_D A [(a_t, .inr (10, [.int (t_length + (1 : Int32)), .ref a_t_text, .int t_used, .ref a_t_page, .ref a_t_names, .ref a_t_sort, .ref a_t_code, .ref a_t_count, .ref a_t_around, .ref a_t_end, .ref a_t_size, .ref a_t_there, .ref a_t_wish, .ref a_t_have, .int t_far, .int t_momentParts, .long t_momentDay, .int t_momentSecond, .int t_momentNano, .int t_momentOffset, .int t_readParts, .long t_readDay, .int t_readSecond, .int t_readNano, .int t_readOffset, .ref a_t_known, .ref a_t_value, .ref a_t_before, .ref a_t_open, .ref a_t_from, .int t_alike])), (a_t_text, .inl (kk 1, 60, .inl (upd t_text (t_length).toNatClampNeg (vp_nar .char x1))))] := hD
        refine lv_iconst (v := (1 : Int32)) hx hb d_SkeletonClockModel_type_43 (by decide) ?_
        cases he
        exact k_zre hx hb hr hlk X hP hD hS (Or.inr rfl) d_SkeletonClockModel_type_44
      · have he := ih_t hc he
        refine lv_iconst (v := (0 : Int32)) hx hb d_SkeletonClockModel_type_21 (by decide) ?_
        cases he
        exact k_zre hx hb hr hlk X hP hD hS (Or.inl rfl) d_SkeletonClockModel_type_22
abbrev rm_SkeletonClockModel_quoteEnd : Room := { frames := 1, cells := 0, slots := 0, locals := 21 }
set_option maxHeartbeats 4000000 in
set_option maxRecDepth 100000 in
theorem w_SkeletonClockModel_quoteEnd_4 {p : Program} {l : Launch} {e : Env} {s : State} {m : MethodId} {args : Array Value} {below : List Frame} {meth : Method} {c : Code} {Q : State → Prop} {A : Nat → Prop} {D : va_G} {kk : Nat → ClassId} {st : Nat → Nat} (a_t a_t_text a_t_page a_t_names a_t_sort a_t_code a_t_count a_t_around a_t_end a_t_size a_t_there a_t_wish a_t_have a_t_known a_t_value a_t_before a_t_open a_t_from : Nat) (t_length : Int32) (t_used : Int32) (t_far : Int32) (t_momentParts : Int32) (t_momentDay : Int64) (t_momentSecond : Int32) (t_momentNano : Int32) (t_momentOffset : Int32) (t_readParts : Int32) (t_readDay : Int64) (t_readSecond : Int32) (t_readNano : Int32) (t_readOffset : Int32) (t_alike : Int32) (t_text : Nat → Int32) (S : CallFix p m c b_SkeletonClockModel_quoteEnd 3 s args GW y_SkeletonClockModel_quoteEnd.cls) (hr : meth.sig.returnType = (some .int)) (hlk : meth.locks = false) (hA : ∀ q, s.heap.size ≤ q → A q) (X : KX D kk st A s) : ∀ (n : Nat) (x2 : Int32) (v : (Int32) ⊕ (Int32)) (H : Heap) (locs : List Loc) (ls : Array Slot), lp_SkeletonClockModel_quoteEnd_4 t_length t_text n x2 = some v → lv_has ls 3 [(0, .ref a_t), (2, .int x2)] → va_P D classes [(a_t, .inr (10, [.int t_length, .ref a_t_text, .int t_used, .ref a_t_page, .ref a_t_names, .ref a_t_sort, .ref a_t_code, .ref a_t_count, .ref a_t_around, .ref a_t_end, .ref a_t_size, .ref a_t_there, .ref a_t_wish, .ref a_t_have, .int t_far, .int t_momentParts, .long t_momentDay, .int t_momentSecond, .int t_momentNano, .int t_momentOffset, .int t_readParts, .long t_readDay, .int t_readSecond, .int t_readNano, .int t_readOffset, .ref a_t_known, .ref a_t_value, .ref a_t_before, .ref a_t_open, .ref a_t_from, .int t_alike])), (a_t_text, .inl (kk 1, 60, .inl t_text))] H → va_D A [(a_t, .inr (10, [.int t_length, .ref a_t_text, .int t_used, .ref a_t_page, .ref a_t_names, .ref a_t_sort, .ref a_t_code, .ref a_t_count, .ref a_t_around, .ref a_t_end, .ref a_t_size, .ref a_t_there, .ref a_t_wish, .ref a_t_have, .int t_far, .int t_momentParts, .long t_momentDay, .int t_momentSecond, .int t_momentNano, .int t_momentOffset, .int t_readParts, .long t_readDay, .int t_readSecond, .int t_readNano, .int t_readOffset, .ref a_t_known, .ref a_t_value, .ref a_t_before, .ref a_t_open, .ref a_t_from, .int t_alike])), (a_t_text, .inl (kk 1, 60, .inl t_text))] → va_S A s.heap H locs → (∀ o : Int32, v = .inl o → Q = MQ below (KQi D kk o [(a_t, .inr (10, [.int t_length, .ref a_t_text, .int t_used, .ref a_t_page, .ref a_t_names, .ref a_t_sort, .ref a_t_code, .ref a_t_count, .ref a_t_around, .ref a_t_end, .ref a_t_size, .ref a_t_there, .ref a_t_wish, .ref a_t_have, .int t_far, .int t_momentParts, .long t_momentDay, .int t_momentSecond, .int t_momentNano, .int t_momentOffset, .int t_readParts, .long t_readDay, .int t_readSecond, .int t_readNano, .int t_readOffset, .ref a_t_known, .ref a_t_value, .ref a_t_before, .ref a_t_open, .ref a_t_from, .int t_alike])), (a_t_text, .inl (kk 1, 60, .inl t_text))] A) args s 0 0 A) → (∀ v' : Int32, v = .inr v' → ∀ (H : Heap) (locs : List Loc) (ls : Array Slot), lv_has ls 3 [(0, .ref a_t), (2, .int v')] → va_P D classes [(a_t, .inr (10, [.int t_length, .ref a_t_text, .int t_used, .ref a_t_page, .ref a_t_names, .ref a_t_sort, .ref a_t_code, .ref a_t_count, .ref a_t_around, .ref a_t_end, .ref a_t_size, .ref a_t_there, .ref a_t_wish, .ref a_t_have, .int t_far, .int t_momentParts, .long t_momentDay, .int t_momentSecond, .int t_momentNano, .int t_momentOffset, .int t_readParts, .long t_readDay, .int t_readSecond, .int t_readNano, .int t_readOffset, .ref a_t_known, .ref a_t_value, .ref a_t_before, .ref a_t_open, .ref a_t_from, .int t_alike])), (a_t_text, .inl (kk 1, 60, .inl t_text))] H → va_D A [(a_t, .inr (10, [.int t_length, .ref a_t_text, .int t_used, .ref a_t_page, .ref a_t_names, .ref a_t_sort, .ref a_t_code, .ref a_t_count, .ref a_t_around, .ref a_t_end, .ref a_t_size, .ref a_t_there, .ref a_t_wish, .ref a_t_have, .int t_far, .int t_momentParts, .long t_momentDay, .int t_momentSecond, .int t_momentNano, .int t_momentOffset, .int t_readParts, .long t_readDay, .int t_readSecond, .int t_readNano, .int t_readOffset, .ref a_t_known, .ref a_t_value, .ref a_t_before, .ref a_t_open, .ref a_t_from, .int t_alike])), (a_t_text, .inl (kk 1, 60, .inl t_text))] → va_S A s.heap H locs → W p l e rm_SkeletonClockModel_quoteEnd s m args below meth c H locs 0 0 Q (F0 m 59 ls [])) → W p l e rm_SkeletonClockModel_quoteEnd s m args below meth c H locs 0 0 Q (F0 m 4 ls []) := by
  intro n
  induction n with
  | zero =>
    intro x2 v H locs ls he hl hP hD hS hret K
    exact ih_n he
  | succ n ih =>
    intro x2 v H locs ls he hl hP hD hS hret K
    have hx := S.1
    have hb := S.2.1
    have he : st_SkeletonClockModel_quoteEnd_4 t_length t_text (lp_SkeletonClockModel_quoteEnd_4 t_length t_text n) x2 = some v := he
    unfold st_SkeletonClockModel_quoteEnd_4 at he
    refine lv_iload_n hx hb d_SkeletonClockModel_quoteEnd_4 rfl (lv_at hl 1 rfl) ?_
    refine lv_aload_n hx hb d_SkeletonClockModel_quoteEnd_5 rfl (lv_at hl 0 rfl) ?_
    refine k_get S X us_SkeletonClockModel hP 0 rfl rfl 0 (by decide) gm_4_151 rfl d_SkeletonClockModel_quoteEnd_6 ?_
    refine lv_icmp_ge (tgt := 59) hx hb d_SkeletonClockModel_quoteEnd_9 rfl (fun hc => ?_) (fun hc => ?_)
    · have he := ih_t hc he
      have hl : lv_has ls 3 [(0, .ref a_t), (2, .int x2)] := lv_sub hl [0, 1] rfl
      cases he
      exact K _ rfl _ _ _ hl hP hD hS
    · have he := ih_f hc he
      refine lv_aload_n hx hb d_SkeletonClockModel_quoteEnd_12 rfl (lv_at hl 0 rfl) ?_
      refine lv_iload_n hx hb d_SkeletonClockModel_quoteEnd_13 rfl (lv_at hl 1 rfl) ?_
      obtain ⟨u1, e2, he⟩ := ih_b he
      refine k_io (r_V (As := [.int x2]) S X hA hP hD hS (c_SkeletonClockModel_at l D kk st a_t a_t_text a_t_page a_t_names a_t_sort a_t_code a_t_count a_t_around a_t_end a_t_size a_t_there a_t_wish a_t_have a_t_known a_t_value a_t_before a_t_open a_t_from _ t_length t_used t_far t_momentParts t_momentDay t_momentSecond t_momentNano t_momentOffset t_readParts t_readDay t_readSecond t_readNano t_readOffset t_alike t_text x2 u1 e2) gm_5_21 gm_5_18 gm_5_20 gm_p3_0 gm_1_13 ⟨rfl, rfl, by decide, by decide⟩ kd_SkeletonClockModel_at [0, 1] rfl rfl rfl 0 10 rfl rfl rfl rfl hl.1 rfl (Nat.le_of_ble_eq_true rfl) d_SkeletonClockModel_quoteEnd_14 ⟨Nat.zero_le _, Nat.zero_le _⟩) hA hP hD hS [0, 1] rfl (fun H locs hP hS => ?_)
      refine lv_bipush (v := (39 : Int32)) hx hb d_SkeletonClockModel_quoteEnd_17 (by decide) ?_
      refine lv_icmp_ne (tgt := 36) hx hb d_SkeletonClockModel_quoteEnd_19 rfl (fun hc => ?_) (fun hc => ?_)
      · have he := ih_f hc he
        refine lv_aload_n hx hb d_SkeletonClockModel_quoteEnd_36 rfl (lv_at hl 0 rfl) ?_
        refine lv_iload_n hx hb d_SkeletonClockModel_quoteEnd_37 rfl (lv_at hl 1 rfl) ?_
        obtain ⟨u3, e4, he⟩ := ih_b he
        refine k_io (r_V (As := [.int x2]) S X hA hP hD hS (c_SkeletonClockModel_at l D kk st a_t a_t_text a_t_page a_t_names a_t_sort a_t_code a_t_count a_t_around a_t_end a_t_size a_t_there a_t_wish a_t_have a_t_known a_t_value a_t_before a_t_open a_t_from _ t_length t_used t_far t_momentParts t_momentDay t_momentSecond t_momentNano t_momentOffset t_readParts t_readDay t_readSecond t_readNano t_readOffset t_alike t_text x2 u3 e4) gm_5_21 gm_5_18 gm_5_20 gm_p3_0 gm_1_13 ⟨rfl, rfl, by decide, by decide⟩ kd_SkeletonClockModel_at [0, 1] rfl rfl rfl 0 10 rfl rfl rfl rfl hl.1 rfl (Nat.le_of_ble_eq_true rfl) d_SkeletonClockModel_quoteEnd_38 ⟨Nat.zero_le _, Nat.zero_le _⟩) hA hP hD hS [0, 1] rfl (fun H locs hP hS => ?_)
        refine lv_bipush (v := (39 : Int32)) hx hb d_SkeletonClockModel_quoteEnd_41 (by decide) ?_
        refine lv_icmp_ne (tgt := 52) hx hb d_SkeletonClockModel_quoteEnd_43 rfl (fun hc => ?_) (fun hc => ?_)
        · have he := ih_f hc he
          refine lv_iload_n hx hb d_SkeletonClockModel_quoteEnd_52 rfl (lv_at hl 1 rfl) ?_
          refine lv_iconst (v := (1 : Int32)) hx hb d_SkeletonClockModel_quoteEnd_53 (by decide) ?_
          refine lv_iadd hx hb d_SkeletonClockModel_quoteEnd_54 ?_
          refine lv_istore_n hx hb d_SkeletonClockModel_quoteEnd_55 rfl hl (by decide) rfl (fun ls hl => ?_)
          have hl : lv_has ls 3 [(2, .int (x2 + (1 : Int32))), (0, .ref a_t)] := hl
          refine lv_goto (tgt := 4) hx hb d_SkeletonClockModel_quoteEnd_56 rfl ?_
          have hl : lv_has ls 3 [(0, .ref a_t), (2, .int (x2 + (1 : Int32)))] := lv_sub hl [1, 0] rfl
          exact ih _ _ _ _ _ he hl hP hD hS hret K
        · have he := ih_t hc he
          refine lv_iload_n hx hb d_SkeletonClockModel_quoteEnd_46 rfl (lv_at hl 1 rfl) ?_
          refine lv_iconst (v := (2 : Int32)) hx hb d_SkeletonClockModel_quoteEnd_47 (by decide) ?_
          refine lv_iadd hx hb d_SkeletonClockModel_quoteEnd_48 ?_
          refine lv_goto (tgt := 55) hx hb d_SkeletonClockModel_quoteEnd_49 rfl ?_
          refine lv_istore_n hx hb d_SkeletonClockModel_quoteEnd_55 rfl hl (by decide) rfl (fun ls hl => ?_)
          have hl : lv_has ls 3 [(2, .int (x2 + (2 : Int32))), (0, .ref a_t)] := hl
          refine lv_goto (tgt := 4) hx hb d_SkeletonClockModel_quoteEnd_56 rfl ?_
          have hl : lv_has ls 3 [(0, .ref a_t), (2, .int (x2 + (2 : Int32)))] := lv_sub hl [1, 0] rfl
          exact ih _ _ _ _ _ he hl hP hD hS hret K
      · have he := ih_t hc he
        refine lv_aload_n hx hb d_SkeletonClockModel_quoteEnd_22 rfl (lv_at hl 0 rfl) ?_
        refine lv_iload_n hx hb d_SkeletonClockModel_quoteEnd_23 rfl (lv_at hl 1 rfl) ?_
        refine lv_iconst (v := (1 : Int32)) hx hb d_SkeletonClockModel_quoteEnd_24 (by decide) ?_
        refine lv_iadd hx hb d_SkeletonClockModel_quoteEnd_25 ?_
        obtain ⟨u5, e6, he⟩ := ih_b he
        refine k_io (r_V (As := [.int (x2 + (1 : Int32))]) S X hA hP hD hS (c_SkeletonClockModel_at l D kk st a_t a_t_text a_t_page a_t_names a_t_sort a_t_code a_t_count a_t_around a_t_end a_t_size a_t_there a_t_wish a_t_have a_t_known a_t_value a_t_before a_t_open a_t_from _ t_length t_used t_far t_momentParts t_momentDay t_momentSecond t_momentNano t_momentOffset t_readParts t_readDay t_readSecond t_readNano t_readOffset t_alike t_text (x2 + (1 : Int32)) u5 e6) gm_5_21 gm_5_18 gm_5_20 gm_p3_0 gm_1_13 ⟨rfl, rfl, by decide, by decide⟩ kd_SkeletonClockModel_at [0, 1] rfl rfl rfl 0 10 rfl rfl rfl rfl hl.1 rfl (Nat.le_of_ble_eq_true rfl) d_SkeletonClockModel_quoteEnd_26 ⟨Nat.zero_le _, Nat.zero_le _⟩) hA hP hD hS [0, 1] rfl (fun H locs hP hS => ?_)
        refine lv_bipush (v := (39 : Int32)) hx hb d_SkeletonClockModel_quoteEnd_29 (by decide) ?_
        refine lv_icmp_eq (tgt := 36) hx hb d_SkeletonClockModel_quoteEnd_31 rfl (fun hc => ?_) (fun hc => ?_)
        · have he := ih_t hc he
          refine lv_aload_n hx hb d_SkeletonClockModel_quoteEnd_36 rfl (lv_at hl 0 rfl) ?_
          refine lv_iload_n hx hb d_SkeletonClockModel_quoteEnd_37 rfl (lv_at hl 1 rfl) ?_
          obtain ⟨u7, e8, he⟩ := ih_b he
          refine k_io (r_V (As := [.int x2]) S X hA hP hD hS (c_SkeletonClockModel_at l D kk st a_t a_t_text a_t_page a_t_names a_t_sort a_t_code a_t_count a_t_around a_t_end a_t_size a_t_there a_t_wish a_t_have a_t_known a_t_value a_t_before a_t_open a_t_from _ t_length t_used t_far t_momentParts t_momentDay t_momentSecond t_momentNano t_momentOffset t_readParts t_readDay t_readSecond t_readNano t_readOffset t_alike t_text x2 u7 e8) gm_5_21 gm_5_18 gm_5_20 gm_p3_0 gm_1_13 ⟨rfl, rfl, by decide, by decide⟩ kd_SkeletonClockModel_at [0, 1] rfl rfl rfl 0 10 rfl rfl rfl rfl hl.1 rfl (Nat.le_of_ble_eq_true rfl) d_SkeletonClockModel_quoteEnd_38 ⟨Nat.zero_le _, Nat.zero_le _⟩) hA hP hD hS [0, 1] rfl (fun H locs hP hS => ?_)
          refine lv_bipush (v := (39 : Int32)) hx hb d_SkeletonClockModel_quoteEnd_41 (by decide) ?_
          refine lv_icmp_ne (tgt := 52) hx hb d_SkeletonClockModel_quoteEnd_43 rfl (fun hc => ?_) (fun hc => ?_)
          · have he := ih_f hc he
            refine lv_iload_n hx hb d_SkeletonClockModel_quoteEnd_52 rfl (lv_at hl 1 rfl) ?_
            refine lv_iconst (v := (1 : Int32)) hx hb d_SkeletonClockModel_quoteEnd_53 (by decide) ?_
            refine lv_iadd hx hb d_SkeletonClockModel_quoteEnd_54 ?_
            refine lv_istore_n hx hb d_SkeletonClockModel_quoteEnd_55 rfl hl (by decide) rfl (fun ls hl => ?_)
            have hl : lv_has ls 3 [(2, .int (x2 + (1 : Int32))), (0, .ref a_t)] := hl
            refine lv_goto (tgt := 4) hx hb d_SkeletonClockModel_quoteEnd_56 rfl ?_
            have hl : lv_has ls 3 [(0, .ref a_t), (2, .int (x2 + (1 : Int32)))] := lv_sub hl [1, 0] rfl
            exact ih _ _ _ _ _ he hl hP hD hS hret K
          · have he := ih_t hc he
            refine lv_iload_n hx hb d_SkeletonClockModel_quoteEnd_46 rfl (lv_at hl 1 rfl) ?_
            refine lv_iconst (v := (2 : Int32)) hx hb d_SkeletonClockModel_quoteEnd_47 (by decide) ?_
            refine lv_iadd hx hb d_SkeletonClockModel_quoteEnd_48 ?_
            refine lv_goto (tgt := 55) hx hb d_SkeletonClockModel_quoteEnd_49 rfl ?_
            refine lv_istore_n hx hb d_SkeletonClockModel_quoteEnd_55 rfl hl (by decide) rfl (fun ls hl => ?_)
            have hl : lv_has ls 3 [(2, .int (x2 + (2 : Int32))), (0, .ref a_t)] := hl
            refine lv_goto (tgt := 4) hx hb d_SkeletonClockModel_quoteEnd_56 rfl ?_
            have hl : lv_has ls 3 [(0, .ref a_t), (2, .int (x2 + (2 : Int32)))] := lv_sub hl [1, 0] rfl
            exact ih _ _ _ _ _ he hl hP hD hS hret K
        · have he := ih_f hc he
          refine lv_iload_n hx hb d_SkeletonClockModel_quoteEnd_34 rfl (lv_at hl 1 rfl) ?_
          cases he
          have hq := hret _ rfl
          subst hq
          exact k_ire hx hb hr hlk X hP hD hS d_SkeletonClockModel_quoteEnd_35
set_option maxHeartbeats 4000000 in
set_option maxRecDepth 100000 in
theorem c_SkeletonClockModel_quoteEnd (l : Launch) (D : va_G) (kk : Nat → ClassId) (st : Nat → Nat) (a_t a_t_text a_t_page a_t_names a_t_sort a_t_code a_t_count a_t_around a_t_end a_t_size a_t_there a_t_wish a_t_have a_t_known a_t_value a_t_before a_t_open a_t_from : Nat) (sz : Nat) (t_length : Int32) (t_used : Int32) (t_far : Int32) (t_momentParts : Int32) (t_momentDay : Int64) (t_momentSecond : Int32) (t_momentNano : Int32) (t_momentOffset : Int32) (t_readParts : Int32) (t_readDay : Int64) (t_readSecond : Int32) (t_readNano : Int32) (t_readOffset : Int32) (t_alike : Int32) (t_text : Nat → Int32) (x1 : Int32) (o : Int32) (he : f_SkeletonClockModel_quoteEnd t_length t_text x1 = some o) : Met l y_SkeletonClockModel_quoteEnd (Cond.code y_SkeletonClockModel_quoteEnd b_SkeletonClockModel_quoteEnd 3 (some .int) :: GW) rm_SkeletonClockModel_quoteEnd (KPc D kk st [.ref a_t, .int x1] [(a_t, .inr (10, [.int t_length, .ref a_t_text, .int t_used, .ref a_t_page, .ref a_t_names, .ref a_t_sort, .ref a_t_code, .ref a_t_count, .ref a_t_around, .ref a_t_end, .ref a_t_size, .ref a_t_there, .ref a_t_wish, .ref a_t_have, .int t_far, .int t_momentParts, .long t_momentDay, .int t_momentSecond, .int t_momentNano, .int t_momentOffset, .int t_readParts, .long t_readDay, .int t_readSecond, .int t_readNano, .int t_readOffset, .ref a_t_known, .ref a_t_value, .ref a_t_before, .ref a_t_open, .ref a_t_from, .int t_alike])), (a_t_text, .inl (kk 1, 60, .inl t_text))] sz) (KQi D kk o [(a_t, .inr (10, [.int t_length, .ref a_t_text, .int t_used, .ref a_t_page, .ref a_t_names, .ref a_t_sort, .ref a_t_code, .ref a_t_count, .ref a_t_around, .ref a_t_end, .ref a_t_size, .ref a_t_there, .ref a_t_wish, .ref a_t_have, .int t_far, .int t_momentParts, .long t_momentDay, .int t_momentSecond, .int t_momentNano, .int t_momentOffset, .int t_readParts, .long t_readDay, .int t_readSecond, .int t_readNano, .int t_readOffset, .ref a_t_known, .ref a_t_value, .ref a_t_before, .ref a_t_open, .ref a_t_from, .int t_alike])), (a_t_text, .inl (kk 1, 60, .inl t_text))] (va_A [(a_t, .inr (10, [.int t_length, .ref a_t_text, .int t_used, .ref a_t_page, .ref a_t_names, .ref a_t_sort, .ref a_t_code, .ref a_t_count, .ref a_t_around, .ref a_t_end, .ref a_t_size, .ref a_t_there, .ref a_t_wish, .ref a_t_have, .int t_far, .int t_momentParts, .long t_momentDay, .int t_momentSecond, .int t_momentNano, .int t_momentOffset, .int t_readParts, .long t_readDay, .int t_readSecond, .int t_readNano, .int t_readOffset, .ref a_t_known, .ref a_t_value, .ref a_t_before, .ref a_t_open, .ref a_t_from, .int t_alike])), (a_t_text, .inl (kk 1, 60, .inl t_text))] sz)) 0 0 (va_A [(a_t, .inr (10, [.int t_length, .ref a_t_text, .int t_used, .ref a_t_page, .ref a_t_names, .ref a_t_sort, .ref a_t_code, .ref a_t_count, .ref a_t_around, .ref a_t_end, .ref a_t_size, .ref a_t_there, .ref a_t_wish, .ref a_t_have, .int t_far, .int t_momentParts, .long t_momentDay, .int t_momentSecond, .int t_momentNano, .int t_momentOffset, .int t_readParts, .long t_readDay, .int t_readSecond, .int t_readNano, .int t_readOffset, .ref a_t_known, .ref a_t_value, .ref a_t_before, .ref a_t_open, .ref a_t_from, .int t_alike])), (a_t_text, .inl (kk 1, 60, .inl t_text))] sz) := by
  refine k_start (Qc := fun A => KQi D kk o [(a_t, .inr (10, [.int t_length, .ref a_t_text, .int t_used, .ref a_t_page, .ref a_t_names, .ref a_t_sort, .ref a_t_code, .ref a_t_count, .ref a_t_around, .ref a_t_end, .ref a_t_size, .ref a_t_there, .ref a_t_wish, .ref a_t_have, .int t_far, .int t_momentParts, .long t_momentDay, .int t_momentSecond, .int t_momentNano, .int t_momentOffset, .int t_readParts, .long t_readDay, .int t_readSecond, .int t_readNano, .int t_readOffset, .ref a_t_known, .ref a_t_value, .ref a_t_before, .ref a_t_open, .ref a_t_from, .int t_alike])), (a_t_text, .inl (kk 1, 60, .inl t_text))] A) (by decide) (Nat.le_of_ble_eq_true rfl) ?_
  intro p e s m below meth c A ls S hnm hr hlk hA X hP hD hS hl
  have hl : lv_has ls 3 [(0, .ref a_t), (1, .int x1)] := hl
  have hx := S.1
  have hb := S.2.1
  unfold f_SkeletonClockModel_quoteEnd at he
  refine lv_iload_n hx hb d_SkeletonClockModel_quoteEnd_0 rfl (lv_at hl 1 rfl) ?_
  refine lv_iconst (v := (1 : Int32)) hx hb d_SkeletonClockModel_quoteEnd_1 (by decide) ?_
  refine lv_iadd hx hb d_SkeletonClockModel_quoteEnd_2 ?_
  refine lv_istore_n hx hb d_SkeletonClockModel_quoteEnd_3 rfl hl (by decide) rfl (fun ls hl => ?_)
  have hl : lv_has ls 3 [(2, .int (x1 + (1 : Int32))), (0, .ref a_t), (1, .int x1)] := hl
  obtain ⟨u9, e10, he⟩ := ih_b he
  have hl : lv_has ls 3 [(0, .ref a_t), (2, .int (x1 + (1 : Int32)))] := lv_sub hl [1, 0] rfl
  rcases u9 with o11 | v12
  · have he := sel_l he
    cases he
    exact w_SkeletonClockModel_quoteEnd_4 a_t a_t_text a_t_page a_t_names a_t_sort a_t_code a_t_count a_t_around a_t_end a_t_size a_t_there a_t_wish a_t_have a_t_known a_t_value a_t_before a_t_open a_t_from t_length t_used t_far t_momentParts t_momentDay t_momentSecond t_momentNano t_momentOffset t_readParts t_readDay t_readSecond t_readNano t_readOffset t_alike t_text S hr hlk hA X FU (x1 + (1 : Int32)) _ _ _ ls e10 hl hP hD hS (fun o h => by cases h; rfl) (fun v h => by cases h)
  · have he := sel_r he
    refine w_SkeletonClockModel_quoteEnd_4 a_t a_t_text a_t_page a_t_names a_t_sort a_t_code a_t_count a_t_around a_t_end a_t_size a_t_there a_t_wish a_t_have a_t_known a_t_value a_t_before a_t_open a_t_from t_length t_used t_far t_momentParts t_momentDay t_momentSecond t_momentNano t_momentOffset t_readParts t_readDay t_readSecond t_readNano t_readOffset t_alike t_text S hr hlk hA X FU (x1 + (1 : Int32)) _ _ _ ls e10 hl hP hD hS (fun o h => by cases h) (fun v h H locs ls hl hP hD hS => ?_)
    have h := Sum.inr.inj h
    subst h
    refine lv_iconst (v := (-1 : Int32)) hx hb d_SkeletonClockModel_quoteEnd_59 (by decide) ?_
    cases he
    exact k_ire hx hb hr hlk X hP hD hS d_SkeletonClockModel_quoteEnd_60
abbrev rm_SkeletonClockModel_piece : Room := { frames := 0, cells := 0, slots := 0, locals := 0 }
set_option maxHeartbeats 4000000 in
set_option maxRecDepth 100000 in
theorem c_SkeletonClockModel_piece (l : Launch) (D : va_G) (kk : Nat → ClassId) (st : Nat → Nat) (a_t a_t_sort a_t_code a_t_count a_t_around a_t_end a_t_size a_t_text a_t_page a_t_names a_t_there a_t_wish a_t_have a_t_known a_t_value a_t_before a_t_open a_t_from : Nat) (sz : Nat) (t_length : Int32) (t_used : Int32) (t_far : Int32) (t_momentParts : Int32) (t_momentDay : Int64) (t_momentSecond : Int32) (t_momentNano : Int32) (t_momentOffset : Int32) (t_readParts : Int32) (t_readDay : Int64) (t_readSecond : Int32) (t_readNano : Int32) (t_readOffset : Int32) (t_alike : Int32) (t_sort : Nat → Int32) (t_code : Nat → Int32) (t_count : Nat → Int32) (t_around : Nat → Int32) (t_end : Nat → Int32) (t_size : Nat → Int32) (x1 : Int32) (x2 : Int32) (x3 : Int32) (x4 : Int32) (o : Int32 × (Nat → Int32) × (Nat → Int32) × (Nat → Int32) × (Nat → Int32) × (Nat → Int32) × (Nat → Int32)) (he : f_SkeletonClockModel_piece t_sort t_code t_count t_around t_end t_size x1 x2 x3 x4 = some o) : Met l y_SkeletonClockModel_piece (Cond.code y_SkeletonClockModel_piece b_SkeletonClockModel_piece 6 (some .boolean) :: GW) rm_SkeletonClockModel_piece (KPc D kk st [.ref a_t, .int x1, .int x2, .int x3, .int x4] [(a_t, .inr (10, [.int t_length, .ref a_t_text, .int t_used, .ref a_t_page, .ref a_t_names, .ref a_t_sort, .ref a_t_code, .ref a_t_count, .ref a_t_around, .ref a_t_end, .ref a_t_size, .ref a_t_there, .ref a_t_wish, .ref a_t_have, .int t_far, .int t_momentParts, .long t_momentDay, .int t_momentSecond, .int t_momentNano, .int t_momentOffset, .int t_readParts, .long t_readDay, .int t_readSecond, .int t_readNano, .int t_readOffset, .ref a_t_known, .ref a_t_value, .ref a_t_before, .ref a_t_open, .ref a_t_from, .int t_alike])), (a_t_sort, .inl (kk 0, 140, .inl t_sort)), (a_t_code, .inl (kk 0, 140, .inl t_code)), (a_t_count, .inl (kk 0, 140, .inl t_count)), (a_t_around, .inl (kk 0, 140, .inl t_around)), (a_t_end, .inl (kk 0, 140, .inl t_end)), (a_t_size, .inl (kk 0, 7, .inl t_size))] sz) (KQi D kk o.1 [(a_t, .inr (10, [.int t_length, .ref a_t_text, .int t_used, .ref a_t_page, .ref a_t_names, .ref a_t_sort, .ref a_t_code, .ref a_t_count, .ref a_t_around, .ref a_t_end, .ref a_t_size, .ref a_t_there, .ref a_t_wish, .ref a_t_have, .int t_far, .int t_momentParts, .long t_momentDay, .int t_momentSecond, .int t_momentNano, .int t_momentOffset, .int t_readParts, .long t_readDay, .int t_readSecond, .int t_readNano, .int t_readOffset, .ref a_t_known, .ref a_t_value, .ref a_t_before, .ref a_t_open, .ref a_t_from, .int t_alike])), (a_t_sort, .inl (kk 0, 140, .inl o.2.1)), (a_t_code, .inl (kk 0, 140, .inl o.2.2.1)), (a_t_count, .inl (kk 0, 140, .inl o.2.2.2.1)), (a_t_around, .inl (kk 0, 140, .inl o.2.2.2.2.1)), (a_t_end, .inl (kk 0, 140, .inl o.2.2.2.2.2.1)), (a_t_size, .inl (kk 0, 7, .inl o.2.2.2.2.2.2))] (va_A [(a_t, .inr (10, [.int t_length, .ref a_t_text, .int t_used, .ref a_t_page, .ref a_t_names, .ref a_t_sort, .ref a_t_code, .ref a_t_count, .ref a_t_around, .ref a_t_end, .ref a_t_size, .ref a_t_there, .ref a_t_wish, .ref a_t_have, .int t_far, .int t_momentParts, .long t_momentDay, .int t_momentSecond, .int t_momentNano, .int t_momentOffset, .int t_readParts, .long t_readDay, .int t_readSecond, .int t_readNano, .int t_readOffset, .ref a_t_known, .ref a_t_value, .ref a_t_before, .ref a_t_open, .ref a_t_from, .int t_alike])), (a_t_sort, .inl (kk 0, 140, .inl t_sort)), (a_t_code, .inl (kk 0, 140, .inl t_code)), (a_t_count, .inl (kk 0, 140, .inl t_count)), (a_t_around, .inl (kk 0, 140, .inl t_around)), (a_t_end, .inl (kk 0, 140, .inl t_end)), (a_t_size, .inl (kk 0, 7, .inl t_size))] sz)) 0 0 (va_A [(a_t, .inr (10, [.int t_length, .ref a_t_text, .int t_used, .ref a_t_page, .ref a_t_names, .ref a_t_sort, .ref a_t_code, .ref a_t_count, .ref a_t_around, .ref a_t_end, .ref a_t_size, .ref a_t_there, .ref a_t_wish, .ref a_t_have, .int t_far, .int t_momentParts, .long t_momentDay, .int t_momentSecond, .int t_momentNano, .int t_momentOffset, .int t_readParts, .long t_readDay, .int t_readSecond, .int t_readNano, .int t_readOffset, .ref a_t_known, .ref a_t_value, .ref a_t_before, .ref a_t_open, .ref a_t_from, .int t_alike])), (a_t_sort, .inl (kk 0, 140, .inl t_sort)), (a_t_code, .inl (kk 0, 140, .inl t_code)), (a_t_count, .inl (kk 0, 140, .inl t_count)), (a_t_around, .inl (kk 0, 140, .inl t_around)), (a_t_end, .inl (kk 0, 140, .inl t_end)), (a_t_size, .inl (kk 0, 7, .inl t_size))] sz) := by
  refine k_start (Qc := fun A => KQi D kk o.1 [(a_t, .inr (10, [.int t_length, .ref a_t_text, .int t_used, .ref a_t_page, .ref a_t_names, .ref a_t_sort, .ref a_t_code, .ref a_t_count, .ref a_t_around, .ref a_t_end, .ref a_t_size, .ref a_t_there, .ref a_t_wish, .ref a_t_have, .int t_far, .int t_momentParts, .long t_momentDay, .int t_momentSecond, .int t_momentNano, .int t_momentOffset, .int t_readParts, .long t_readDay, .int t_readSecond, .int t_readNano, .int t_readOffset, .ref a_t_known, .ref a_t_value, .ref a_t_before, .ref a_t_open, .ref a_t_from, .int t_alike])), (a_t_sort, .inl (kk 0, 140, .inl o.2.1)), (a_t_code, .inl (kk 0, 140, .inl o.2.2.1)), (a_t_count, .inl (kk 0, 140, .inl o.2.2.2.1)), (a_t_around, .inl (kk 0, 140, .inl o.2.2.2.2.1)), (a_t_end, .inl (kk 0, 140, .inl o.2.2.2.2.2.1)), (a_t_size, .inl (kk 0, 7, .inl o.2.2.2.2.2.2))] A) (by decide) (Nat.le_of_ble_eq_true rfl) ?_
  intro p e s m below meth c A ls S hnm hr hlk hA X hP hD hS hl
  have hl : lv_has ls 6 [(0, .ref a_t), (1, .int x1), (2, .int x2), (3, .int x3), (4, .int x4)] := hl
  have hx := S.1
  have hb := S.2.1
  unfold f_SkeletonClockModel_piece at he
  refine lv_aload_n hx hb d_SkeletonClockModel_piece_0 rfl (lv_at hl 0 rfl) ?_
  refine k_get S X us_SkeletonClockModel hP 0 rfl rfl 10 (by decide) gm_4_161 rfl d_SkeletonClockModel_piece_1 ?_
  refine lv_bipush (v := (6 : Int32)) hx hb d_SkeletonClockModel_piece_4 (by decide) ?_
  refine va_iald hx hb X.1 hP 6 0 rfl rfl (show ¬ ((6 : Int32) < 0 ∨ 7 ≤ ((6 : Int32)).toNatClampNeg) by decide) d_SkeletonClockModel_piece_6 ?_
  refine lv_bipush (v := (20 : Int32)) hx hb d_SkeletonClockModel_piece_7 (by decide) ?_
  refine lv_icmp_ne (tgt := 14) hx hb d_SkeletonClockModel_piece_9 rfl (fun hc => ?_) (fun hc => ?_)
  · have he := ih_f hc he
    refine lv_bipush (v := (120 : Int32)) hx hb d_SkeletonClockModel_piece_14 (by decide) ?_
    refine lv_aload_n hx hb d_SkeletonClockModel_piece_16 rfl (lv_at hl 0 rfl) ?_
    refine k_get S X us_SkeletonClockModel hP 0 rfl rfl 10 (by decide) gm_4_161 rfl d_SkeletonClockModel_piece_17 ?_
    refine lv_bipush (v := (6 : Int32)) hx hb d_SkeletonClockModel_piece_20 (by decide) ?_
    refine va_iald hx hb X.1 hP 6 0 rfl rfl (show ¬ ((6 : Int32) < 0 ∨ 7 ≤ ((6 : Int32)).toNatClampNeg) by decide) d_SkeletonClockModel_piece_22 ?_
    refine lv_iadd hx hb d_SkeletonClockModel_piece_23 ?_
    refine lv_istore hx hb d_SkeletonClockModel_piece_24 hl (by decide) rfl (fun ls hl => ?_)
    have hl : lv_has ls 6 [(5, .int ((120 : Int32) + (t_size ((6 : Int32)).toNatClampNeg))), (0, .ref a_t), (1, .int x1), (2, .int x2), (3, .int x3), (4, .int x4)] := hl
    refine lv_aload_n hx hb d_SkeletonClockModel_piece_26 rfl (lv_at hl 1 rfl) ?_
    refine k_get S X us_SkeletonClockModel hP 0 rfl rfl 5 (by decide) gm_4_156 rfl d_SkeletonClockModel_piece_27 ?_
    refine lv_iload hx hb d_SkeletonClockModel_piece_30 (lv_at hl 0 rfl) ?_
    refine lv_iload_n hx hb d_SkeletonClockModel_piece_32 rfl (lv_at hl 2 rfl) ?_
    obtain ⟨hi1, he⟩ := ih_g he
    refine va_iast hx hb X.1 hP hD hS 1 0 rfl rfl hi1 d_SkeletonClockModel_piece_33 (fun H locs hP hD hS => ?_)
    have hP : va_P D classes [(a_t, .inr (10, [.int t_length, .ref a_t_text, .int t_used, .ref a_t_page, .ref a_t_names, .ref a_t_sort, .ref a_t_code, .ref a_t_count, .ref a_t_around, .ref a_t_end, .ref a_t_size, .ref a_t_there, .ref a_t_wish, .ref a_t_have, .int t_far, .int t_momentParts, .long t_momentDay, .int t_momentSecond, .int t_momentNano, .int t_momentOffset, .int t_readParts, .long t_readDay, .int t_readSecond, .int t_readNano, .int t_readOffset, .ref a_t_known, .ref a_t_value, .ref a_t_before, .ref a_t_open, .ref a_t_from, .int t_alike])), (a_t_sort, .inl (kk 0, 140, .inl (upd t_sort (((120 : Int32) + (t_size ((6 : Int32)).toNatClampNeg))).toNatClampNeg x1))), (a_t_code, .inl (kk 0, 140, .inl t_code)), (a_t_count, .inl (kk 0, 140, .inl t_count)), (a_t_around, .inl (kk 0, 140, .inl t_around)), (a_t_end, .inl (kk 0, 140, .inl t_end)), (a_t_size, .inl (kk 0, 7, .inl t_size))] H := hP
    have hD : va_D A [(a_t, .inr (10, [.int t_length, .ref a_t_text, .int t_used, .ref a_t_page, .ref a_t_names, .ref a_t_sort, .ref a_t_code, .ref a_t_count, .ref a_t_around, .ref a_t_end, .ref a_t_size, .ref a_t_there, .ref a_t_wish, .ref a_t_have, .int t_far, .int t_momentParts, .long t_momentDay, .int t_momentSecond, .int t_momentNano, .int t_momentOffset, .int t_readParts, .long t_readDay, .int t_readSecond, .int t_readNano, .int t_readOffset, .ref a_t_known, .ref a_t_value, .ref a_t_before, .ref a_t_open, .ref a_t_from, .int t_alike])), (a_t_sort, .inl (kk 0, 140, .inl (upd t_sort (((120 : Int32) + (t_size ((6 : Int32)).toNatClampNeg))).toNatClampNeg x1))), (a_t_code, .inl (kk 0, 140, .inl t_code)), (a_t_count, .inl (kk 0, 140, .inl t_count)), (a_t_around, .inl (kk 0, 140, .inl t_around)), (a_t_end, .inl (kk 0, 140, .inl t_end)), (a_t_size, .inl (kk 0, 7, .inl t_size))] := hD
    refine lv_aload_n hx hb d_SkeletonClockModel_piece_34 rfl (lv_at hl 1 rfl) ?_
    refine k_get S X us_SkeletonClockModel hP 0 rfl rfl 6 (by decide) gm_4_157 rfl d_SkeletonClockModel_piece_35 ?_
    refine lv_iload hx hb d_SkeletonClockModel_piece_38 (lv_at hl 0 rfl) ?_
    refine lv_iload_n hx hb d_SkeletonClockModel_piece_40 rfl (lv_at hl 3 rfl) ?_
    obtain ⟨hi2, he⟩ := ih_g he
    refine va_iast hx hb X.1 hP hD hS 2 0 rfl rfl hi2 d_SkeletonClockModel_piece_41 (fun H locs hP hD hS => ?_)
    have hP : va_P D classes [(a_t, .inr (10, [.int t_length, .ref a_t_text, .int t_used, .ref a_t_page, .ref a_t_names, .ref a_t_sort, .ref a_t_code, .ref a_t_count, .ref a_t_around, .ref a_t_end, .ref a_t_size, .ref a_t_there, .ref a_t_wish, .ref a_t_have, .int t_far, .int t_momentParts, .long t_momentDay, .int t_momentSecond, .int t_momentNano, .int t_momentOffset, .int t_readParts, .long t_readDay, .int t_readSecond, .int t_readNano, .int t_readOffset, .ref a_t_known, .ref a_t_value, .ref a_t_before, .ref a_t_open, .ref a_t_from, .int t_alike])), (a_t_sort, .inl (kk 0, 140, .inl (upd t_sort (((120 : Int32) + (t_size ((6 : Int32)).toNatClampNeg))).toNatClampNeg x1))), (a_t_code, .inl (kk 0, 140, .inl (upd t_code (((120 : Int32) + (t_size ((6 : Int32)).toNatClampNeg))).toNatClampNeg x2))), (a_t_count, .inl (kk 0, 140, .inl t_count)), (a_t_around, .inl (kk 0, 140, .inl t_around)), (a_t_end, .inl (kk 0, 140, .inl t_end)), (a_t_size, .inl (kk 0, 7, .inl t_size))] H := hP
    have hD : va_D A [(a_t, .inr (10, [.int t_length, .ref a_t_text, .int t_used, .ref a_t_page, .ref a_t_names, .ref a_t_sort, .ref a_t_code, .ref a_t_count, .ref a_t_around, .ref a_t_end, .ref a_t_size, .ref a_t_there, .ref a_t_wish, .ref a_t_have, .int t_far, .int t_momentParts, .long t_momentDay, .int t_momentSecond, .int t_momentNano, .int t_momentOffset, .int t_readParts, .long t_readDay, .int t_readSecond, .int t_readNano, .int t_readOffset, .ref a_t_known, .ref a_t_value, .ref a_t_before, .ref a_t_open, .ref a_t_from, .int t_alike])), (a_t_sort, .inl (kk 0, 140, .inl (upd t_sort (((120 : Int32) + (t_size ((6 : Int32)).toNatClampNeg))).toNatClampNeg x1))), (a_t_code, .inl (kk 0, 140, .inl (upd t_code (((120 : Int32) + (t_size ((6 : Int32)).toNatClampNeg))).toNatClampNeg x2))), (a_t_count, .inl (kk 0, 140, .inl t_count)), (a_t_around, .inl (kk 0, 140, .inl t_around)), (a_t_end, .inl (kk 0, 140, .inl t_end)), (a_t_size, .inl (kk 0, 7, .inl t_size))] := hD
    refine lv_aload_n hx hb d_SkeletonClockModel_piece_42 rfl (lv_at hl 1 rfl) ?_
    refine k_get S X us_SkeletonClockModel hP 0 rfl rfl 7 (by decide) gm_4_158 rfl d_SkeletonClockModel_piece_43 ?_
    refine lv_iload hx hb d_SkeletonClockModel_piece_46 (lv_at hl 0 rfl) ?_
    refine lv_iload_n hx hb d_SkeletonClockModel_piece_48 rfl (lv_at hl 4 rfl) ?_
    obtain ⟨hi3, he⟩ := ih_g he
    refine va_iast hx hb X.1 hP hD hS 3 0 rfl rfl hi3 d_SkeletonClockModel_piece_49 (fun H locs hP hD hS => ?_)
    have hP : va_P D classes [(a_t, .inr (10, [.int t_length, .ref a_t_text, .int t_used, .ref a_t_page, .ref a_t_names, .ref a_t_sort, .ref a_t_code, .ref a_t_count, .ref a_t_around, .ref a_t_end, .ref a_t_size, .ref a_t_there, .ref a_t_wish, .ref a_t_have, .int t_far, .int t_momentParts, .long t_momentDay, .int t_momentSecond, .int t_momentNano, .int t_momentOffset, .int t_readParts, .long t_readDay, .int t_readSecond, .int t_readNano, .int t_readOffset, .ref a_t_known, .ref a_t_value, .ref a_t_before, .ref a_t_open, .ref a_t_from, .int t_alike])), (a_t_sort, .inl (kk 0, 140, .inl (upd t_sort (((120 : Int32) + (t_size ((6 : Int32)).toNatClampNeg))).toNatClampNeg x1))), (a_t_code, .inl (kk 0, 140, .inl (upd t_code (((120 : Int32) + (t_size ((6 : Int32)).toNatClampNeg))).toNatClampNeg x2))), (a_t_count, .inl (kk 0, 140, .inl (upd t_count (((120 : Int32) + (t_size ((6 : Int32)).toNatClampNeg))).toNatClampNeg x3))), (a_t_around, .inl (kk 0, 140, .inl t_around)), (a_t_end, .inl (kk 0, 140, .inl t_end)), (a_t_size, .inl (kk 0, 7, .inl t_size))] H := hP
    have hD : va_D A [(a_t, .inr (10, [.int t_length, .ref a_t_text, .int t_used, .ref a_t_page, .ref a_t_names, .ref a_t_sort, .ref a_t_code, .ref a_t_count, .ref a_t_around, .ref a_t_end, .ref a_t_size, .ref a_t_there, .ref a_t_wish, .ref a_t_have, .int t_far, .int t_momentParts, .long t_momentDay, .int t_momentSecond, .int t_momentNano, .int t_momentOffset, .int t_readParts, .long t_readDay, .int t_readSecond, .int t_readNano, .int t_readOffset, .ref a_t_known, .ref a_t_value, .ref a_t_before, .ref a_t_open, .ref a_t_from, .int t_alike])), (a_t_sort, .inl (kk 0, 140, .inl (upd t_sort (((120 : Int32) + (t_size ((6 : Int32)).toNatClampNeg))).toNatClampNeg x1))), (a_t_code, .inl (kk 0, 140, .inl (upd t_code (((120 : Int32) + (t_size ((6 : Int32)).toNatClampNeg))).toNatClampNeg x2))), (a_t_count, .inl (kk 0, 140, .inl (upd t_count (((120 : Int32) + (t_size ((6 : Int32)).toNatClampNeg))).toNatClampNeg x3))), (a_t_around, .inl (kk 0, 140, .inl t_around)), (a_t_end, .inl (kk 0, 140, .inl t_end)), (a_t_size, .inl (kk 0, 7, .inl t_size))] := hD
    refine lv_aload_n hx hb d_SkeletonClockModel_piece_50 rfl (lv_at hl 1 rfl) ?_
    refine k_get S X us_SkeletonClockModel hP 0 rfl rfl 8 (by decide) gm_4_159 rfl d_SkeletonClockModel_piece_51 ?_
    refine lv_iload hx hb d_SkeletonClockModel_piece_54 (lv_at hl 0 rfl) ?_
    refine lv_iload hx hb d_SkeletonClockModel_piece_56 (lv_at hl 5 rfl) ?_
    obtain ⟨hi4, he⟩ := ih_g he
    refine va_iast hx hb X.1 hP hD hS 4 0 rfl rfl hi4 d_SkeletonClockModel_piece_58 (fun H locs hP hD hS => ?_)
    have hP : va_P D classes [(a_t, .inr (10, [.int t_length, .ref a_t_text, .int t_used, .ref a_t_page, .ref a_t_names, .ref a_t_sort, .ref a_t_code, .ref a_t_count, .ref a_t_around, .ref a_t_end, .ref a_t_size, .ref a_t_there, .ref a_t_wish, .ref a_t_have, .int t_far, .int t_momentParts, .long t_momentDay, .int t_momentSecond, .int t_momentNano, .int t_momentOffset, .int t_readParts, .long t_readDay, .int t_readSecond, .int t_readNano, .int t_readOffset, .ref a_t_known, .ref a_t_value, .ref a_t_before, .ref a_t_open, .ref a_t_from, .int t_alike])), (a_t_sort, .inl (kk 0, 140, .inl (upd t_sort (((120 : Int32) + (t_size ((6 : Int32)).toNatClampNeg))).toNatClampNeg x1))), (a_t_code, .inl (kk 0, 140, .inl (upd t_code (((120 : Int32) + (t_size ((6 : Int32)).toNatClampNeg))).toNatClampNeg x2))), (a_t_count, .inl (kk 0, 140, .inl (upd t_count (((120 : Int32) + (t_size ((6 : Int32)).toNatClampNeg))).toNatClampNeg x3))), (a_t_around, .inl (kk 0, 140, .inl (upd t_around (((120 : Int32) + (t_size ((6 : Int32)).toNatClampNeg))).toNatClampNeg x4))), (a_t_end, .inl (kk 0, 140, .inl t_end)), (a_t_size, .inl (kk 0, 7, .inl t_size))] H := hP
    have hD : va_D A [(a_t, .inr (10, [.int t_length, .ref a_t_text, .int t_used, .ref a_t_page, .ref a_t_names, .ref a_t_sort, .ref a_t_code, .ref a_t_count, .ref a_t_around, .ref a_t_end, .ref a_t_size, .ref a_t_there, .ref a_t_wish, .ref a_t_have, .int t_far, .int t_momentParts, .long t_momentDay, .int t_momentSecond, .int t_momentNano, .int t_momentOffset, .int t_readParts, .long t_readDay, .int t_readSecond, .int t_readNano, .int t_readOffset, .ref a_t_known, .ref a_t_value, .ref a_t_before, .ref a_t_open, .ref a_t_from, .int t_alike])), (a_t_sort, .inl (kk 0, 140, .inl (upd t_sort (((120 : Int32) + (t_size ((6 : Int32)).toNatClampNeg))).toNatClampNeg x1))), (a_t_code, .inl (kk 0, 140, .inl (upd t_code (((120 : Int32) + (t_size ((6 : Int32)).toNatClampNeg))).toNatClampNeg x2))), (a_t_count, .inl (kk 0, 140, .inl (upd t_count (((120 : Int32) + (t_size ((6 : Int32)).toNatClampNeg))).toNatClampNeg x3))), (a_t_around, .inl (kk 0, 140, .inl (upd t_around (((120 : Int32) + (t_size ((6 : Int32)).toNatClampNeg))).toNatClampNeg x4))), (a_t_end, .inl (kk 0, 140, .inl t_end)), (a_t_size, .inl (kk 0, 7, .inl t_size))] := hD
    refine lv_aload_n hx hb d_SkeletonClockModel_piece_59 rfl (lv_at hl 1 rfl) ?_
    refine k_get S X us_SkeletonClockModel hP 0 rfl rfl 9 (by decide) gm_4_160 rfl d_SkeletonClockModel_piece_60 ?_
    refine lv_iload hx hb d_SkeletonClockModel_piece_63 (lv_at hl 0 rfl) ?_
    refine lv_aload_n hx hb d_SkeletonClockModel_piece_65 rfl (lv_at hl 1 rfl) ?_
    refine k_get S X us_SkeletonClockModel hP 0 rfl rfl 10 (by decide) gm_4_161 rfl d_SkeletonClockModel_piece_66 ?_
    refine lv_bipush (v := (6 : Int32)) hx hb d_SkeletonClockModel_piece_69 (by decide) ?_
    refine va_iald hx hb X.1 hP 6 0 rfl rfl (show ¬ ((6 : Int32) < 0 ∨ 7 ≤ ((6 : Int32)).toNatClampNeg) by decide) d_SkeletonClockModel_piece_71 ?_
    refine lv_iconst (v := (1 : Int32)) hx hb d_SkeletonClockModel_piece_72 (by decide) ?_
    refine lv_iadd hx hb d_SkeletonClockModel_piece_73 ?_
    obtain ⟨hi5, he⟩ := ih_g he
    refine va_iast hx hb X.1 hP hD hS 5 0 rfl rfl hi5 d_SkeletonClockModel_piece_74 (fun H locs hP hD hS => ?_)
    have hP : va_P D classes [(a_t, .inr (10, [.int t_length, .ref a_t_text, .int t_used, .ref a_t_page, .ref a_t_names, .ref a_t_sort, .ref a_t_code, .ref a_t_count, .ref a_t_around, .ref a_t_end, .ref a_t_size, .ref a_t_there, .ref a_t_wish, .ref a_t_have, .int t_far, .int t_momentParts, .long t_momentDay, .int t_momentSecond, .int t_momentNano, .int t_momentOffset, .int t_readParts, .long t_readDay, .int t_readSecond, .int t_readNano, .int t_readOffset, .ref a_t_known, .ref a_t_value, .ref a_t_before, .ref a_t_open, .ref a_t_from, .int t_alike])), (a_t_sort, .inl (kk 0, 140, .inl (upd t_sort (((120 : Int32) + (t_size ((6 : Int32)).toNatClampNeg))).toNatClampNeg x1))), (a_t_code, .inl (kk 0, 140, .inl (upd t_code (((120 : Int32) + (t_size ((6 : Int32)).toNatClampNeg))).toNatClampNeg x2))), (a_t_count, .inl (kk 0, 140, .inl (upd t_count (((120 : Int32) + (t_size ((6 : Int32)).toNatClampNeg))).toNatClampNeg x3))), (a_t_around, .inl (kk 0, 140, .inl (upd t_around (((120 : Int32) + (t_size ((6 : Int32)).toNatClampNeg))).toNatClampNeg x4))), (a_t_end, .inl (kk 0, 140, .inl (upd t_end (((120 : Int32) + (t_size ((6 : Int32)).toNatClampNeg))).toNatClampNeg ((t_size ((6 : Int32)).toNatClampNeg) + (1 : Int32))))), (a_t_size, .inl (kk 0, 7, .inl t_size))] H := hP
    have hD : va_D A [(a_t, .inr (10, [.int t_length, .ref a_t_text, .int t_used, .ref a_t_page, .ref a_t_names, .ref a_t_sort, .ref a_t_code, .ref a_t_count, .ref a_t_around, .ref a_t_end, .ref a_t_size, .ref a_t_there, .ref a_t_wish, .ref a_t_have, .int t_far, .int t_momentParts, .long t_momentDay, .int t_momentSecond, .int t_momentNano, .int t_momentOffset, .int t_readParts, .long t_readDay, .int t_readSecond, .int t_readNano, .int t_readOffset, .ref a_t_known, .ref a_t_value, .ref a_t_before, .ref a_t_open, .ref a_t_from, .int t_alike])), (a_t_sort, .inl (kk 0, 140, .inl (upd t_sort (((120 : Int32) + (t_size ((6 : Int32)).toNatClampNeg))).toNatClampNeg x1))), (a_t_code, .inl (kk 0, 140, .inl (upd t_code (((120 : Int32) + (t_size ((6 : Int32)).toNatClampNeg))).toNatClampNeg x2))), (a_t_count, .inl (kk 0, 140, .inl (upd t_count (((120 : Int32) + (t_size ((6 : Int32)).toNatClampNeg))).toNatClampNeg x3))), (a_t_around, .inl (kk 0, 140, .inl (upd t_around (((120 : Int32) + (t_size ((6 : Int32)).toNatClampNeg))).toNatClampNeg x4))), (a_t_end, .inl (kk 0, 140, .inl (upd t_end (((120 : Int32) + (t_size ((6 : Int32)).toNatClampNeg))).toNatClampNeg ((t_size ((6 : Int32)).toNatClampNeg) + (1 : Int32))))), (a_t_size, .inl (kk 0, 7, .inl t_size))] := hD
    refine lv_aload_n hx hb d_SkeletonClockModel_piece_75 rfl (lv_at hl 1 rfl) ?_
    refine k_get S X us_SkeletonClockModel hP 0 rfl rfl 10 (by decide) gm_4_161 rfl d_SkeletonClockModel_piece_76 ?_
    refine lv_bipush (v := (6 : Int32)) hx hb d_SkeletonClockModel_piece_79 (by decide) ?_
    refine lv_dup2_11 hx hb d_SkeletonClockModel_piece_81 rfl rfl ?_
    refine va_iald hx hb X.1 hP 6 0 rfl rfl (show ¬ ((6 : Int32) < 0 ∨ 7 ≤ ((6 : Int32)).toNatClampNeg) by decide) d_SkeletonClockModel_piece_82 ?_
    refine lv_iconst (v := (1 : Int32)) hx hb d_SkeletonClockModel_piece_83 (by decide) ?_
    refine lv_iadd hx hb d_SkeletonClockModel_piece_84 ?_
    refine va_iast hx hb X.1 hP hD hS 6 0 rfl rfl (show ¬ ((6 : Int32) < 0 ∨ 7 ≤ ((6 : Int32)).toNatClampNeg) by decide) d_SkeletonClockModel_piece_85 (fun H locs hP hD hS => ?_)
    have hP : va_P D classes [(a_t, .inr (10, [.int t_length, .ref a_t_text, .int t_used, .ref a_t_page, .ref a_t_names, .ref a_t_sort, .ref a_t_code, .ref a_t_count, .ref a_t_around, .ref a_t_end, .ref a_t_size, .ref a_t_there, .ref a_t_wish, .ref a_t_have, .int t_far, .int t_momentParts, .long t_momentDay, .int t_momentSecond, .int t_momentNano, .int t_momentOffset, .int t_readParts, .long t_readDay, .int t_readSecond, .int t_readNano, .int t_readOffset, .ref a_t_known, .ref a_t_value, .ref a_t_before, .ref a_t_open, .ref a_t_from, .int t_alike])), (a_t_sort, .inl (kk 0, 140, .inl (upd t_sort (((120 : Int32) + (t_size ((6 : Int32)).toNatClampNeg))).toNatClampNeg x1))), (a_t_code, .inl (kk 0, 140, .inl (upd t_code (((120 : Int32) + (t_size ((6 : Int32)).toNatClampNeg))).toNatClampNeg x2))), (a_t_count, .inl (kk 0, 140, .inl (upd t_count (((120 : Int32) + (t_size ((6 : Int32)).toNatClampNeg))).toNatClampNeg x3))), (a_t_around, .inl (kk 0, 140, .inl (upd t_around (((120 : Int32) + (t_size ((6 : Int32)).toNatClampNeg))).toNatClampNeg x4))), (a_t_end, .inl (kk 0, 140, .inl (upd t_end (((120 : Int32) + (t_size ((6 : Int32)).toNatClampNeg))).toNatClampNeg ((t_size ((6 : Int32)).toNatClampNeg) + (1 : Int32))))), (a_t_size, .inl (kk 0, 7, .inl (upd t_size ((6 : Int32)).toNatClampNeg ((t_size ((6 : Int32)).toNatClampNeg) + (1 : Int32)))))] H := hP
    have hD : va_D A [(a_t, .inr (10, [.int t_length, .ref a_t_text, .int t_used, .ref a_t_page, .ref a_t_names, .ref a_t_sort, .ref a_t_code, .ref a_t_count, .ref a_t_around, .ref a_t_end, .ref a_t_size, .ref a_t_there, .ref a_t_wish, .ref a_t_have, .int t_far, .int t_momentParts, .long t_momentDay, .int t_momentSecond, .int t_momentNano, .int t_momentOffset, .int t_readParts, .long t_readDay, .int t_readSecond, .int t_readNano, .int t_readOffset, .ref a_t_known, .ref a_t_value, .ref a_t_before, .ref a_t_open, .ref a_t_from, .int t_alike])), (a_t_sort, .inl (kk 0, 140, .inl (upd t_sort (((120 : Int32) + (t_size ((6 : Int32)).toNatClampNeg))).toNatClampNeg x1))), (a_t_code, .inl (kk 0, 140, .inl (upd t_code (((120 : Int32) + (t_size ((6 : Int32)).toNatClampNeg))).toNatClampNeg x2))), (a_t_count, .inl (kk 0, 140, .inl (upd t_count (((120 : Int32) + (t_size ((6 : Int32)).toNatClampNeg))).toNatClampNeg x3))), (a_t_around, .inl (kk 0, 140, .inl (upd t_around (((120 : Int32) + (t_size ((6 : Int32)).toNatClampNeg))).toNatClampNeg x4))), (a_t_end, .inl (kk 0, 140, .inl (upd t_end (((120 : Int32) + (t_size ((6 : Int32)).toNatClampNeg))).toNatClampNeg ((t_size ((6 : Int32)).toNatClampNeg) + (1 : Int32))))), (a_t_size, .inl (kk 0, 7, .inl (upd t_size ((6 : Int32)).toNatClampNeg ((t_size ((6 : Int32)).toNatClampNeg) + (1 : Int32)))))] := hD
    refine lv_iconst (v := (1 : Int32)) hx hb d_SkeletonClockModel_piece_86 (by decide) ?_
    cases he
    exact k_zre hx hb hr hlk X hP hD hS (Or.inr rfl) d_SkeletonClockModel_piece_87
  · have he := ih_t hc he
    refine lv_iconst (v := (0 : Int32)) hx hb d_SkeletonClockModel_piece_12 (by decide) ?_
    cases he
    exact k_zre hx hb hr hlk X hP hD hS (Or.inl rfl) d_SkeletonClockModel_piece_13
