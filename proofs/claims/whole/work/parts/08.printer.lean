abbrev b_Printer_writeYear : ByteArray := prog_9_method_5_code
def y_Printer_writeYear : MethodName := ⟨"SkeletonClock$Printer", "writeYear", "(II)V"⟩
theorem kd_Printer_writeYear : kd_ok y_Printer_writeYear 2 := by decide +kernel
abbrev b_Printer_writeNano : ByteArray := prog_9_method_6_code
def y_Printer_writeNano : MethodName := ⟨"SkeletonClock$Printer", "writeNano", "(II)V"⟩
theorem kd_Printer_writeNano : kd_ok y_Printer_writeNano 2 := by decide +kernel
abbrev b_Printer_writeOffset : ByteArray := prog_9_method_7_code
def y_Printer_writeOffset : MethodName := ⟨"SkeletonClock$Printer", "writeOffset", "(III)V"⟩
theorem kd_Printer_writeOffset : kd_ok y_Printer_writeOffset 3 := by decide +kernel
theorem gm_1_115 : Cond.fieldLink "SkeletonClock$Printer" (14 : Nat) "SkeletonClock$Printer" "draft" "LSkeletonClock$Row;" ∈ GW := gw_1 (i := 115) rfl rfl
theorem gm_3_136 : Cond.methodLink "SkeletonClock$Printer" (119 : Nat) ({ cls := "java/lang/Math", name := "abs", desc := "(I)I" } : MethodName) ∈ GW := gw_3 (i := 136) rfl rfl
theorem gm_3_135 : Cond.code ({ cls := "SkeletonClock$Row", name := "putNumber", desc := "(II)V" } : MethodName) prog_11_method_3_code (8 : Nat) (Option.none : Option FieldType) ∈ GW := gw_3 (i := 135) rfl rfl
theorem gm_3_132 : Cond.methodLink "SkeletonClock$Printer" (107 : Nat) ({ cls := "SkeletonClock$Row", name := "putNumber", desc := "(II)V" } : MethodName) ∈ GW := gw_3 (i := 132) rfl rfl
theorem gm_3_133 : Cond.instanceMethod ({ cls := "SkeletonClock$Row", name := "putNumber", desc := "(II)V" } : MethodName) ∈ GW := gw_3 (i := 133) rfl rfl
theorem gm_3_134 : Cond.selects "SkeletonClock$Row" ({ cls := "SkeletonClock$Row", name := "putNumber", desc := "(II)V" } : MethodName) ({ cls := "SkeletonClock$Row", name := "putNumber", desc := "(II)V" } : MethodName) ∈ GW := gw_3 (i := 134) rfl rfl
theorem gm_3_76 : Cond.methodLink "SkeletonClock$Printer" (81 : Nat) ({ cls := "SkeletonClock$Row", name := "put", desc := "(C)Z" } : MethodName) ∈ GW := gw_3 (i := 76) rfl rfl
theorem gm_3_129 : Cond.methodLink "SkeletonClock$Printer" (116 : Nat) ({ cls := "java/lang/Math", name := "floorMod", desc := "(II)I" } : MethodName) ∈ GW := gw_3 (i := 129) rfl rfl
theorem d_Printer_writeYear_0 : decode b_Printer_writeYear 0 = .ok (.iload_n 2, 1) := by decide +kernel
theorem d_Printer_writeYear_1 : decode b_Printer_writeYear 1 = .ok (.iconst 2, 1) := by decide +kernel
theorem d_Printer_writeYear_2 : decode b_Printer_writeYear 2 = .ok (.if_icmp .ne 18, 3) := by decide +kernel
theorem d_Printer_writeYear_5 : decode b_Printer_writeYear 5 = .ok (.aload_n 0, 1) := by decide +kernel
theorem d_Printer_writeYear_6 : decode b_Printer_writeYear 6 = .ok (.getfield 14, 3) := by decide +kernel
theorem d_Printer_writeYear_9 : decode b_Printer_writeYear 9 = .ok (.iload_n 1, 1) := by decide +kernel
theorem d_Printer_writeYear_10 : decode b_Printer_writeYear 10 = .ok (.bipush 100, 2) := by decide +kernel
theorem d_Printer_writeYear_12 : decode b_Printer_writeYear 12 = .ok (.invokestatic 116, 3) := by decide +kernel
theorem d_Printer_writeYear_15 : decode b_Printer_writeYear 15 = .ok (.iconst 2, 1) := by decide +kernel
theorem d_Printer_writeYear_16 : decode b_Printer_writeYear 16 = .ok (.invokevirtual 107, 3) := by decide +kernel
theorem d_Printer_writeYear_19 : decode b_Printer_writeYear 19 = .ok (.return_, 1) := by decide +kernel
theorem d_Printer_writeYear_20 : decode b_Printer_writeYear 20 = .ok (.iload_n 1, 1) := by decide +kernel
theorem d_Printer_writeYear_21 : decode b_Printer_writeYear 21 = .ok (.ifCond .ge 16, 3) := by decide +kernel
theorem d_Printer_writeYear_24 : decode b_Printer_writeYear 24 = .ok (.aload_n 0, 1) := by decide +kernel
theorem d_Printer_writeYear_25 : decode b_Printer_writeYear 25 = .ok (.getfield 14, 3) := by decide +kernel
theorem d_Printer_writeYear_28 : decode b_Printer_writeYear 28 = .ok (.bipush 45, 2) := by decide +kernel
theorem d_Printer_writeYear_30 : decode b_Printer_writeYear 30 = .ok (.invokevirtual 81, 3) := by decide +kernel
theorem d_Printer_writeYear_33 : decode b_Printer_writeYear 33 = .ok (.pop, 1) := by decide +kernel
theorem d_Printer_writeYear_34 : decode b_Printer_writeYear 34 = .ok (.goto 25, 3) := by decide +kernel
theorem d_Printer_writeYear_37 : decode b_Printer_writeYear 37 = .ok (.iload_n 2, 1) := by decide +kernel
theorem d_Printer_writeYear_38 : decode b_Printer_writeYear 38 = .ok (.iconst 4, 1) := by decide +kernel
theorem d_Printer_writeYear_39 : decode b_Printer_writeYear 39 = .ok (.if_icmp .ne 20, 3) := by decide +kernel
theorem d_Printer_writeYear_42 : decode b_Printer_writeYear 42 = .ok (.iload_n 1, 1) := by decide +kernel
theorem d_Printer_writeYear_43 : decode b_Printer_writeYear 43 = .ok (.sipush 9999, 3) := by decide +kernel
theorem d_Printer_writeYear_46 : decode b_Printer_writeYear 46 = .ok (.if_icmp .le 13, 3) := by decide +kernel
theorem d_Printer_writeYear_49 : decode b_Printer_writeYear 49 = .ok (.aload_n 0, 1) := by decide +kernel
theorem d_Printer_writeYear_50 : decode b_Printer_writeYear 50 = .ok (.getfield 14, 3) := by decide +kernel
theorem d_Printer_writeYear_53 : decode b_Printer_writeYear 53 = .ok (.bipush 43, 2) := by decide +kernel
theorem d_Printer_writeYear_55 : decode b_Printer_writeYear 55 = .ok (.invokevirtual 81, 3) := by decide +kernel
theorem d_Printer_writeYear_58 : decode b_Printer_writeYear 58 = .ok (.pop, 1) := by decide +kernel
theorem d_Printer_writeYear_59 : decode b_Printer_writeYear 59 = .ok (.aload_n 0, 1) := by decide +kernel
theorem d_Printer_writeYear_60 : decode b_Printer_writeYear 60 = .ok (.getfield 14, 3) := by decide +kernel
theorem d_Printer_writeYear_63 : decode b_Printer_writeYear 63 = .ok (.iload_n 1, 1) := by decide +kernel
theorem d_Printer_writeYear_64 : decode b_Printer_writeYear 64 = .ok (.invokestatic 119, 3) := by decide +kernel
theorem d_Printer_writeYear_67 : decode b_Printer_writeYear 67 = .ok (.iload_n 2, 1) := by decide +kernel
theorem d_Printer_writeYear_68 : decode b_Printer_writeYear 68 = .ok (.invokevirtual 107, 3) := by decide +kernel
theorem d_Printer_writeYear_71 : decode b_Printer_writeYear 71 = .ok (.return_, 1) := by decide +kernel
theorem d_Printer_writeNano_0 : decode b_Printer_writeNano 0 = .ok (.iload_n 1, 1) := by decide +kernel
theorem d_Printer_writeNano_1 : decode b_Printer_writeNano 1 = .ok (.istore_n 3, 1) := by decide +kernel
theorem d_Printer_writeNano_2 : decode b_Printer_writeNano 2 = .ok (.iload_n 2, 1) := by decide +kernel
theorem d_Printer_writeNano_3 : decode b_Printer_writeNano 3 = .ok (.istore 4, 2) := by decide +kernel
theorem d_Printer_writeNano_5 : decode b_Printer_writeNano 5 = .ok (.iload 4, 2) := by decide +kernel
theorem d_Printer_writeNano_7 : decode b_Printer_writeNano 7 = .ok (.bipush 9, 2) := by decide +kernel
theorem d_Printer_writeNano_9 : decode b_Printer_writeNano 9 = .ok (.if_icmp .ge 14, 3) := by decide +kernel
theorem d_Printer_writeNano_12 : decode b_Printer_writeNano 12 = .ok (.iload_n 3, 1) := by decide +kernel
theorem d_Printer_writeNano_13 : decode b_Printer_writeNano 13 = .ok (.bipush 10, 2) := by decide +kernel
theorem d_Printer_writeNano_15 : decode b_Printer_writeNano 15 = .ok (.idiv, 1) := by decide +kernel
theorem d_Printer_writeNano_16 : decode b_Printer_writeNano 16 = .ok (.istore_n 3, 1) := by decide +kernel
theorem d_Printer_writeNano_17 : decode b_Printer_writeNano 17 = .ok (.iinc 4 1, 3) := by decide +kernel
theorem d_Printer_writeNano_20 : decode b_Printer_writeNano 20 = .ok (.goto (-15), 3) := by decide +kernel
theorem d_Printer_writeNano_23 : decode b_Printer_writeNano 23 = .ok (.aload_n 0, 1) := by decide +kernel
theorem d_Printer_writeNano_24 : decode b_Printer_writeNano 24 = .ok (.getfield 14, 3) := by decide +kernel
theorem d_Printer_writeNano_27 : decode b_Printer_writeNano 27 = .ok (.iload_n 3, 1) := by decide +kernel
theorem d_Printer_writeNano_28 : decode b_Printer_writeNano 28 = .ok (.iload_n 2, 1) := by decide +kernel
theorem d_Printer_writeNano_29 : decode b_Printer_writeNano 29 = .ok (.invokevirtual 107, 3) := by decide +kernel
theorem d_Printer_writeNano_32 : decode b_Printer_writeNano 32 = .ok (.return_, 1) := by decide +kernel
theorem d_Printer_writeOffset_0 : decode b_Printer_writeOffset 0 = .ok (.iload_n 2, 1) := by decide +kernel
theorem d_Printer_writeOffset_1 : decode b_Printer_writeOffset 1 = .ok (.bipush 13, 2) := by decide +kernel
theorem d_Printer_writeOffset_3 : decode b_Printer_writeOffset 3 = .ok (.if_icmp .ne 18, 3) := by decide +kernel
theorem d_Printer_writeOffset_6 : decode b_Printer_writeOffset 6 = .ok (.iload_n 1, 1) := by decide +kernel
theorem d_Printer_writeOffset_7 : decode b_Printer_writeOffset 7 = .ok (.ifCond .ne 14, 3) := by decide +kernel
theorem d_Printer_writeOffset_10 : decode b_Printer_writeOffset 10 = .ok (.aload_n 0, 1) := by decide +kernel
theorem d_Printer_writeOffset_11 : decode b_Printer_writeOffset 11 = .ok (.getfield 14, 3) := by decide +kernel
theorem d_Printer_writeOffset_14 : decode b_Printer_writeOffset 14 = .ok (.bipush 90, 2) := by decide +kernel
theorem d_Printer_writeOffset_16 : decode b_Printer_writeOffset 16 = .ok (.invokevirtual 81, 3) := by decide +kernel
theorem d_Printer_writeOffset_19 : decode b_Printer_writeOffset 19 = .ok (.pop, 1) := by decide +kernel
theorem d_Printer_writeOffset_20 : decode b_Printer_writeOffset 20 = .ok (.return_, 1) := by decide +kernel
theorem d_Printer_writeOffset_21 : decode b_Printer_writeOffset 21 = .ok (.iload_n 1, 1) := by decide +kernel
theorem d_Printer_writeOffset_22 : decode b_Printer_writeOffset 22 = .ok (.invokestatic 119, 3) := by decide +kernel
theorem d_Printer_writeOffset_25 : decode b_Printer_writeOffset 25 = .ok (.bipush 60, 2) := by decide +kernel
theorem d_Printer_writeOffset_27 : decode b_Printer_writeOffset 27 = .ok (.irem, 1) := by decide +kernel
theorem d_Printer_writeOffset_28 : decode b_Printer_writeOffset 28 = .ok (.istore 4, 2) := by decide +kernel
theorem d_Printer_writeOffset_30 : decode b_Printer_writeOffset 30 = .ok (.aload_n 0, 1) := by decide +kernel
theorem d_Printer_writeOffset_31 : decode b_Printer_writeOffset 31 = .ok (.getfield 14, 3) := by decide +kernel
theorem d_Printer_writeOffset_34 : decode b_Printer_writeOffset 34 = .ok (.iload_n 1, 1) := by decide +kernel
theorem d_Printer_writeOffset_35 : decode b_Printer_writeOffset 35 = .ok (.ifCond .ge 8, 3) := by decide +kernel
theorem d_Printer_writeOffset_38 : decode b_Printer_writeOffset 38 = .ok (.bipush 45, 2) := by decide +kernel
theorem d_Printer_writeOffset_40 : decode b_Printer_writeOffset 40 = .ok (.goto 5, 3) := by decide +kernel
theorem d_Printer_writeOffset_43 : decode b_Printer_writeOffset 43 = .ok (.bipush 43, 2) := by decide +kernel
theorem d_Printer_writeOffset_45 : decode b_Printer_writeOffset 45 = .ok (.invokevirtual 81, 3) := by decide +kernel
theorem d_Printer_writeOffset_48 : decode b_Printer_writeOffset 48 = .ok (.pop, 1) := by decide +kernel
theorem d_Printer_writeOffset_49 : decode b_Printer_writeOffset 49 = .ok (.aload_n 0, 1) := by decide +kernel
theorem d_Printer_writeOffset_50 : decode b_Printer_writeOffset 50 = .ok (.getfield 14, 3) := by decide +kernel
theorem d_Printer_writeOffset_53 : decode b_Printer_writeOffset 53 = .ok (.iload_n 1, 1) := by decide +kernel
theorem d_Printer_writeOffset_54 : decode b_Printer_writeOffset 54 = .ok (.invokestatic 119, 3) := by decide +kernel
theorem d_Printer_writeOffset_57 : decode b_Printer_writeOffset 57 = .ok (.bipush 60, 2) := by decide +kernel
theorem d_Printer_writeOffset_59 : decode b_Printer_writeOffset 59 = .ok (.idiv, 1) := by decide +kernel
theorem d_Printer_writeOffset_60 : decode b_Printer_writeOffset 60 = .ok (.iconst 2, 1) := by decide +kernel
theorem d_Printer_writeOffset_61 : decode b_Printer_writeOffset 61 = .ok (.invokevirtual 107, 3) := by decide +kernel
theorem d_Printer_writeOffset_64 : decode b_Printer_writeOffset 64 = .ok (.iload_n 3, 1) := by decide +kernel
theorem d_Printer_writeOffset_65 : decode b_Printer_writeOffset 65 = .ok (.iconst 3, 1) := by decide +kernel
theorem d_Printer_writeOffset_66 : decode b_Printer_writeOffset 66 = .ok (.if_icmp .ne 13, 3) := by decide +kernel
theorem d_Printer_writeOffset_69 : decode b_Printer_writeOffset 69 = .ok (.aload_n 0, 1) := by decide +kernel
theorem d_Printer_writeOffset_70 : decode b_Printer_writeOffset 70 = .ok (.getfield 14, 3) := by decide +kernel
theorem d_Printer_writeOffset_73 : decode b_Printer_writeOffset 73 = .ok (.bipush 58, 2) := by decide +kernel
theorem d_Printer_writeOffset_75 : decode b_Printer_writeOffset 75 = .ok (.invokevirtual 81, 3) := by decide +kernel
theorem d_Printer_writeOffset_78 : decode b_Printer_writeOffset 78 = .ok (.pop, 1) := by decide +kernel
theorem d_Printer_writeOffset_79 : decode b_Printer_writeOffset 79 = .ok (.iload_n 3, 1) := by decide +kernel
theorem d_Printer_writeOffset_80 : decode b_Printer_writeOffset 80 = .ok (.iconst 1, 1) := by decide +kernel
theorem d_Printer_writeOffset_81 : decode b_Printer_writeOffset 81 = .ok (.if_icmp .ne 8, 3) := by decide +kernel
theorem d_Printer_writeOffset_84 : decode b_Printer_writeOffset 84 = .ok (.iload 4, 2) := by decide +kernel
theorem d_Printer_writeOffset_86 : decode b_Printer_writeOffset 86 = .ok (.ifCond .eq 13, 3) := by decide +kernel
theorem d_Printer_writeOffset_89 : decode b_Printer_writeOffset 89 = .ok (.aload_n 0, 1) := by decide +kernel
theorem d_Printer_writeOffset_90 : decode b_Printer_writeOffset 90 = .ok (.getfield 14, 3) := by decide +kernel
theorem d_Printer_writeOffset_93 : decode b_Printer_writeOffset 93 = .ok (.iload 4, 2) := by decide +kernel
theorem d_Printer_writeOffset_95 : decode b_Printer_writeOffset 95 = .ok (.iconst 2, 1) := by decide +kernel
theorem d_Printer_writeOffset_96 : decode b_Printer_writeOffset 96 = .ok (.invokevirtual 107, 3) := by decide +kernel
theorem d_Printer_writeOffset_99 : decode b_Printer_writeOffset 99 = .ok (.return_, 1) := by decide +kernel
def f_Printer_writeYear (t_draft_size : Int32) (t_draft_cells : Nat → Int32) (x1 : Int32) (x2 : Int32) : Option (Int32 × (Nat → Int32)) :=
  (if x2 = (2 : Int32) then ((f_Math_floorMod_II x1 (100 : Int32)).bind fun u13 => ((f_Row_putNumber 200 t_draft_size t_draft_cells u13 (2 : Int32)).bind fun u15 => (some (u15.1, u15.2)))) else (if 0 ≤ x1 then (if x2 = (4 : Int32) then (if x1 ≤ (9999 : Int32) then ((f_Row_putNumber 200 t_draft_size t_draft_cells (if 0 ≤ x1 then x1 else 0 - x1) x2).bind fun u3 => (some (u3.1, u3.2))) else ((f_Row_put 200 t_draft_size t_draft_cells (43 : Int32)).bind fun u5 => ((f_Row_putNumber 200 u5.2.1 u5.2.2 (if 0 ≤ x1 then x1 else 0 - x1) x2).bind fun u7 => (some (u7.1, u7.2))))) else ((f_Row_putNumber 200 t_draft_size t_draft_cells (if 0 ≤ x1 then x1 else 0 - x1) x2).bind fun u1 => (some (u1.1, u1.2)))) else ((f_Row_put 200 t_draft_size t_draft_cells (45 : Int32)).bind fun u9 => ((f_Row_putNumber 200 u9.2.1 u9.2.2 (if 0 ≤ x1 then x1 else 0 - x1) x2).bind fun u11 => (some (u11.1, u11.2))))))
abbrev rm_Printer_writeYear : Room := { frames := 2, cells := 0, slots := 0, locals := 48 }
set_option maxHeartbeats 4000000 in
set_option maxRecDepth 100000 in
theorem c_Printer_writeYear (l : Launch) (D : va_G) (kk : Nat → ClassId) (st : Nat → Nat) (a_t a_t_draft a_t_draft_cells a_t_nest : Nat) (sz : Nat) (t_draft_size : Int32) (t_draft_cells : Nat → Int32) (x1 : Int32) (x2 : Int32) (o : Int32 × (Nat → Int32)) (he : f_Printer_writeYear t_draft_size t_draft_cells x1 x2 = some o) : Met l y_Printer_writeYear (Cond.code y_Printer_writeYear b_Printer_writeYear 3 none :: GW) rm_Printer_writeYear (KPc D kk st [.ref a_t, .int x1, .int x2] [(a_t, .inr (6, [.ref a_t_draft, .ref a_t_nest])), (a_t_draft, .inr (1, [.ref a_t_draft_cells, .int t_draft_size])), (a_t_draft_cells, .inl (kk 1, 200, .inl t_draft_cells))] sz) (KQv D kk [(a_t, .inr (6, [.ref a_t_draft, .ref a_t_nest])), (a_t_draft, .inr (1, [.ref a_t_draft_cells, .int o.1])), (a_t_draft_cells, .inl (kk 1, 200, .inl o.2))] (va_A [(a_t, .inr (6, [.ref a_t_draft, .ref a_t_nest])), (a_t_draft, .inr (1, [.ref a_t_draft_cells, .int t_draft_size])), (a_t_draft_cells, .inl (kk 1, 200, .inl t_draft_cells))] sz)) 0 0 (va_A [(a_t, .inr (6, [.ref a_t_draft, .ref a_t_nest])), (a_t_draft, .inr (1, [.ref a_t_draft_cells, .int t_draft_size])), (a_t_draft_cells, .inl (kk 1, 200, .inl t_draft_cells))] sz) := by
  refine k_start (Qc := fun A => KQv D kk [(a_t, .inr (6, [.ref a_t_draft, .ref a_t_nest])), (a_t_draft, .inr (1, [.ref a_t_draft_cells, .int o.1])), (a_t_draft_cells, .inl (kk 1, 200, .inl o.2))] A) (by decide) (Nat.le_of_ble_eq_true rfl) ?_
  intro p e s m below meth c A ls S hnm hr hlk hA X hP hD hS hl
  have hl : lv_has ls 3 [(0, .ref a_t), (1, .int x1), (2, .int x2)] := hl
  have hx := S.1
  have hb := S.2.1
  unfold f_Printer_writeYear at he
  refine lv_iload_n hx hb d_Printer_writeYear_0 rfl (lv_at hl 2 rfl) ?_
  refine lv_iconst (v := (2 : Int32)) hx hb d_Printer_writeYear_1 (by decide) ?_
  refine lv_icmp_ne (tgt := 20) hx hb d_Printer_writeYear_2 rfl (fun hc => ?_) (fun hc => ?_)
  · have he := ih_f hc he
    refine lv_iload_n hx hb d_Printer_writeYear_20 rfl (lv_at hl 1 rfl) ?_
    refine lv_if_ge (tgt := 37) hx hb d_Printer_writeYear_21 rfl (fun hc => ?_) (fun hc => ?_)
    · have he := ih_t hc he
      refine lv_iload_n hx hb d_Printer_writeYear_37 rfl (lv_at hl 2 rfl) ?_
      refine lv_iconst (v := (4 : Int32)) hx hb d_Printer_writeYear_38 (by decide) ?_
      refine lv_icmp_ne (tgt := 59) hx hb d_Printer_writeYear_39 rfl (fun hc => ?_) (fun hc => ?_)
      · have he := ih_f hc he
        refine lv_aload_n hx hb d_Printer_writeYear_59 rfl (lv_at hl 0 rfl) ?_
        refine k_get S X us_Printer hP 0 rfl rfl 0 (by decide) gm_1_115 rfl d_Printer_writeYear_60 ?_
        refine lv_iload_n hx hb d_Printer_writeYear_63 rfl (lv_at hl 1 rfl) ?_
        refine va_mabs hx hb (by rw [S.2.2.1]; exact hl.1.symm) S.2.2.2.1 (S.2.2.2.2 _ gm_3_136) (S.2.2.2.2 _ gm_3_6) (S.2.2.2.2 _ gm_1_11) (S.2.2.2.2 _ gm_3_7) (by decide) (Nat.le_of_ble_eq_true rfl) (Nat.zero_le _) (Nat.zero_le _) d_Printer_writeYear_64 ?_
        refine lv_iload_n hx hb d_Printer_writeYear_67 rfl (lv_at hl 2 rfl) ?_
        obtain ⟨u1, e2, he⟩ := ih_b he
        refine k_v (wr := [(a_t, .inr (6, [.ref a_t_draft, .ref a_t_nest]))]) (w1 := [(a_t_draft, .inr (1, [.ref a_t_draft_cells, .int u1.1])), (a_t_draft_cells, .inl (kk 1, 200, .inl u1.2))]) (w2 := [(a_t, .inr (6, [.ref a_t_draft, .ref a_t_nest])), (a_t_draft, .inr (1, [.ref a_t_draft_cells, .int u1.1])), (a_t_draft_cells, .inl (kk 1, 200, .inl u1.2))]) (r_V (As := [.int (if 0 ≤ x1 then x1 else 0 - x1), .int x2]) S X hA hP hD hS (c_Row_putNumber l D kk st a_t_draft a_t_draft_cells _ 200 t_draft_size t_draft_cells (if 0 ≤ x1 then x1 else 0 - x1) x2 u1 e2) gm_3_135 gm_3_132 gm_3_133 gm_3_134 gm_1_2 ⟨rfl, rfl, by decide, by decide⟩ kd_Row_putNumber [1, 2] rfl rfl rfl 1 1 rfl rfl rfl rfl hl.1 rfl (Nat.le_of_ble_eq_true rfl) d_Printer_writeYear_68 ⟨Nat.zero_le _, Nat.zero_le _⟩) hA hP hD hS [1, 2] [0] [0, 1, 2] rfl rfl rfl (by decide) rfl rfl rfl (fun H locs hP hD hS => ?_)
        cases he
        exact k_vre hx hb hr hlk X hP hD hS d_Printer_writeYear_71
      · have he := ih_t hc he
        refine lv_iload_n hx hb d_Printer_writeYear_42 rfl (lv_at hl 1 rfl) ?_
        refine lv_sipush (v := (9999 : Int32)) hx hb d_Printer_writeYear_43 (by decide) ?_
        refine lv_icmp_le (tgt := 59) hx hb d_Printer_writeYear_46 rfl (fun hc => ?_) (fun hc => ?_)
        · have he := ih_t hc he
          refine lv_aload_n hx hb d_Printer_writeYear_59 rfl (lv_at hl 0 rfl) ?_
          refine k_get S X us_Printer hP 0 rfl rfl 0 (by decide) gm_1_115 rfl d_Printer_writeYear_60 ?_
          refine lv_iload_n hx hb d_Printer_writeYear_63 rfl (lv_at hl 1 rfl) ?_
          refine va_mabs hx hb (by rw [S.2.2.1]; exact hl.1.symm) S.2.2.2.1 (S.2.2.2.2 _ gm_3_136) (S.2.2.2.2 _ gm_3_6) (S.2.2.2.2 _ gm_1_11) (S.2.2.2.2 _ gm_3_7) (by decide) (Nat.le_of_ble_eq_true rfl) (Nat.zero_le _) (Nat.zero_le _) d_Printer_writeYear_64 ?_
          refine lv_iload_n hx hb d_Printer_writeYear_67 rfl (lv_at hl 2 rfl) ?_
          obtain ⟨u3, e4, he⟩ := ih_b he
          refine k_v (wr := [(a_t, .inr (6, [.ref a_t_draft, .ref a_t_nest]))]) (w1 := [(a_t_draft, .inr (1, [.ref a_t_draft_cells, .int u3.1])), (a_t_draft_cells, .inl (kk 1, 200, .inl u3.2))]) (w2 := [(a_t, .inr (6, [.ref a_t_draft, .ref a_t_nest])), (a_t_draft, .inr (1, [.ref a_t_draft_cells, .int u3.1])), (a_t_draft_cells, .inl (kk 1, 200, .inl u3.2))]) (r_V (As := [.int (if 0 ≤ x1 then x1 else 0 - x1), .int x2]) S X hA hP hD hS (c_Row_putNumber l D kk st a_t_draft a_t_draft_cells _ 200 t_draft_size t_draft_cells (if 0 ≤ x1 then x1 else 0 - x1) x2 u3 e4) gm_3_135 gm_3_132 gm_3_133 gm_3_134 gm_1_2 ⟨rfl, rfl, by decide, by decide⟩ kd_Row_putNumber [1, 2] rfl rfl rfl 1 1 rfl rfl rfl rfl hl.1 rfl (Nat.le_of_ble_eq_true rfl) d_Printer_writeYear_68 ⟨Nat.zero_le _, Nat.zero_le _⟩) hA hP hD hS [1, 2] [0] [0, 1, 2] rfl rfl rfl (by decide) rfl rfl rfl (fun H locs hP hD hS => ?_)
          cases he
          exact k_vre hx hb hr hlk X hP hD hS d_Printer_writeYear_71
        · have he := ih_f hc he
          refine lv_aload_n hx hb d_Printer_writeYear_49 rfl (lv_at hl 0 rfl) ?_
          refine k_get S X us_Printer hP 0 rfl rfl 0 (by decide) gm_1_115 rfl d_Printer_writeYear_50 ?_
          refine lv_bipush (v := (43 : Int32)) hx hb d_Printer_writeYear_53 (by decide) ?_
          obtain ⟨u5, e6, he⟩ := ih_b he
          refine k_i (wr := [(a_t, .inr (6, [.ref a_t_draft, .ref a_t_nest]))]) (w1 := [(a_t_draft, .inr (1, [.ref a_t_draft_cells, .int u5.2.1])), (a_t_draft_cells, .inl (kk 1, 200, .inl u5.2.2))]) (w2 := [(a_t, .inr (6, [.ref a_t_draft, .ref a_t_nest])), (a_t_draft, .inr (1, [.ref a_t_draft_cells, .int u5.2.1])), (a_t_draft_cells, .inl (kk 1, 200, .inl u5.2.2))]) (r_V (As := [.int (43 : Int32)]) S X hA hP hD hS (c_Row_put l D kk st a_t_draft a_t_draft_cells _ 200 t_draft_size t_draft_cells (43 : Int32) u5 e6) gm_2_57 gm_3_76 gm_2_55 gm_2_56 gm_1_2 ⟨rfl, rfl, by decide, by decide⟩ kd_Row_put [1, 2] rfl rfl rfl 1 1 rfl rfl rfl rfl hl.1 rfl (Nat.le_of_ble_eq_true rfl) d_Printer_writeYear_55 ⟨Nat.zero_le _, Nat.zero_le _⟩) hA hP hD hS [1, 2] [0] [0, 1, 2] rfl rfl rfl (by decide) rfl rfl rfl (fun H locs hP hD hS => ?_)
          refine lv_pop hx hb d_Printer_writeYear_58 rfl ?_
          refine lv_aload_n hx hb d_Printer_writeYear_59 rfl (lv_at hl 0 rfl) ?_
          refine k_get S X us_Printer hP 0 rfl rfl 0 (by decide) gm_1_115 rfl d_Printer_writeYear_60 ?_
          refine lv_iload_n hx hb d_Printer_writeYear_63 rfl (lv_at hl 1 rfl) ?_
          refine va_mabs hx hb (by rw [S.2.2.1]; exact hl.1.symm) S.2.2.2.1 (S.2.2.2.2 _ gm_3_136) (S.2.2.2.2 _ gm_3_6) (S.2.2.2.2 _ gm_1_11) (S.2.2.2.2 _ gm_3_7) (by decide) (Nat.le_of_ble_eq_true rfl) (Nat.zero_le _) (Nat.zero_le _) d_Printer_writeYear_64 ?_
          refine lv_iload_n hx hb d_Printer_writeYear_67 rfl (lv_at hl 2 rfl) ?_
          obtain ⟨u7, e8, he⟩ := ih_b he
          refine k_v (wr := [(a_t, .inr (6, [.ref a_t_draft, .ref a_t_nest]))]) (w1 := [(a_t_draft, .inr (1, [.ref a_t_draft_cells, .int u7.1])), (a_t_draft_cells, .inl (kk 1, 200, .inl u7.2))]) (w2 := [(a_t, .inr (6, [.ref a_t_draft, .ref a_t_nest])), (a_t_draft, .inr (1, [.ref a_t_draft_cells, .int u7.1])), (a_t_draft_cells, .inl (kk 1, 200, .inl u7.2))]) (r_V (As := [.int (if 0 ≤ x1 then x1 else 0 - x1), .int x2]) S X hA hP hD hS (c_Row_putNumber l D kk st a_t_draft a_t_draft_cells _ 200 u5.2.1 u5.2.2 (if 0 ≤ x1 then x1 else 0 - x1) x2 u7 e8) gm_3_135 gm_3_132 gm_3_133 gm_3_134 gm_1_2 ⟨rfl, rfl, by decide, by decide⟩ kd_Row_putNumber [1, 2] rfl rfl rfl 1 1 rfl rfl rfl rfl hl.1 rfl (Nat.le_of_ble_eq_true rfl) d_Printer_writeYear_68 ⟨Nat.zero_le _, Nat.zero_le _⟩) hA hP hD hS [1, 2] [0] [0, 1, 2] rfl rfl rfl (by decide) rfl rfl rfl (fun H locs hP hD hS => ?_)
          cases he
          exact k_vre hx hb hr hlk X hP hD hS d_Printer_writeYear_71
    · have he := ih_f hc he
      refine lv_aload_n hx hb d_Printer_writeYear_24 rfl (lv_at hl 0 rfl) ?_
      refine k_get S X us_Printer hP 0 rfl rfl 0 (by decide) gm_1_115 rfl d_Printer_writeYear_25 ?_
      refine lv_bipush (v := (45 : Int32)) hx hb d_Printer_writeYear_28 (by decide) ?_
      obtain ⟨u9, e10, he⟩ := ih_b he
      refine k_i (wr := [(a_t, .inr (6, [.ref a_t_draft, .ref a_t_nest]))]) (w1 := [(a_t_draft, .inr (1, [.ref a_t_draft_cells, .int u9.2.1])), (a_t_draft_cells, .inl (kk 1, 200, .inl u9.2.2))]) (w2 := [(a_t, .inr (6, [.ref a_t_draft, .ref a_t_nest])), (a_t_draft, .inr (1, [.ref a_t_draft_cells, .int u9.2.1])), (a_t_draft_cells, .inl (kk 1, 200, .inl u9.2.2))]) (r_V (As := [.int (45 : Int32)]) S X hA hP hD hS (c_Row_put l D kk st a_t_draft a_t_draft_cells _ 200 t_draft_size t_draft_cells (45 : Int32) u9 e10) gm_2_57 gm_3_76 gm_2_55 gm_2_56 gm_1_2 ⟨rfl, rfl, by decide, by decide⟩ kd_Row_put [1, 2] rfl rfl rfl 1 1 rfl rfl rfl rfl hl.1 rfl (Nat.le_of_ble_eq_true rfl) d_Printer_writeYear_30 ⟨Nat.zero_le _, Nat.zero_le _⟩) hA hP hD hS [1, 2] [0] [0, 1, 2] rfl rfl rfl (by decide) rfl rfl rfl (fun H locs hP hD hS => ?_)
      refine lv_pop hx hb d_Printer_writeYear_33 rfl ?_
      refine lv_goto (tgt := 59) hx hb d_Printer_writeYear_34 rfl ?_
      refine lv_aload_n hx hb d_Printer_writeYear_59 rfl (lv_at hl 0 rfl) ?_
      refine k_get S X us_Printer hP 0 rfl rfl 0 (by decide) gm_1_115 rfl d_Printer_writeYear_60 ?_
      refine lv_iload_n hx hb d_Printer_writeYear_63 rfl (lv_at hl 1 rfl) ?_
      refine va_mabs hx hb (by rw [S.2.2.1]; exact hl.1.symm) S.2.2.2.1 (S.2.2.2.2 _ gm_3_136) (S.2.2.2.2 _ gm_3_6) (S.2.2.2.2 _ gm_1_11) (S.2.2.2.2 _ gm_3_7) (by decide) (Nat.le_of_ble_eq_true rfl) (Nat.zero_le _) (Nat.zero_le _) d_Printer_writeYear_64 ?_
      refine lv_iload_n hx hb d_Printer_writeYear_67 rfl (lv_at hl 2 rfl) ?_
      obtain ⟨u11, e12, he⟩ := ih_b he
      refine k_v (wr := [(a_t, .inr (6, [.ref a_t_draft, .ref a_t_nest]))]) (w1 := [(a_t_draft, .inr (1, [.ref a_t_draft_cells, .int u11.1])), (a_t_draft_cells, .inl (kk 1, 200, .inl u11.2))]) (w2 := [(a_t, .inr (6, [.ref a_t_draft, .ref a_t_nest])), (a_t_draft, .inr (1, [.ref a_t_draft_cells, .int u11.1])), (a_t_draft_cells, .inl (kk 1, 200, .inl u11.2))]) (r_V (As := [.int (if 0 ≤ x1 then x1 else 0 - x1), .int x2]) S X hA hP hD hS (c_Row_putNumber l D kk st a_t_draft a_t_draft_cells _ 200 u9.2.1 u9.2.2 (if 0 ≤ x1 then x1 else 0 - x1) x2 u11 e12) gm_3_135 gm_3_132 gm_3_133 gm_3_134 gm_1_2 ⟨rfl, rfl, by decide, by decide⟩ kd_Row_putNumber [1, 2] rfl rfl rfl 1 1 rfl rfl rfl rfl hl.1 rfl (Nat.le_of_ble_eq_true rfl) d_Printer_writeYear_68 ⟨Nat.zero_le _, Nat.zero_le _⟩) hA hP hD hS [1, 2] [0] [0, 1, 2] rfl rfl rfl (by decide) rfl rfl rfl (fun H locs hP hD hS => ?_)
      cases he
      exact k_vre hx hb hr hlk X hP hD hS d_Printer_writeYear_71
  · have he := ih_t hc he
    refine lv_aload_n hx hb d_Printer_writeYear_5 rfl (lv_at hl 0 rfl) ?_
    refine k_get S X us_Printer hP 0 rfl rfl 0 (by decide) gm_1_115 rfl d_Printer_writeYear_6 ?_
    refine lv_iload_n hx hb d_Printer_writeYear_9 rfl (lv_at hl 1 rfl) ?_
    refine lv_bipush (v := (100 : Int32)) hx hb d_Printer_writeYear_10 (by decide) ?_
    obtain ⟨u13, e14, he⟩ := ih_b he
    refine k_io (r_S (As := [.int x1, .int (100 : Int32)]) S X hA hP hD hS (c_Math_floorMod_II l D kk st _ x1 (100 : Int32) u13 e14) gm_3_131 gm_3_129 gm_3_130 gm_1_11 ⟨rfl, rfl, by decide, by decide⟩ kd_Math_floorMod_II [] rfl rfl rfl rfl hl.1 rfl (Nat.le_of_ble_eq_true rfl) d_Printer_writeYear_12 ⟨Nat.zero_le _, Nat.zero_le _⟩) hA hP hD hS [] rfl (fun H locs hP hS => ?_)
    refine lv_iconst (v := (2 : Int32)) hx hb d_Printer_writeYear_15 (by decide) ?_
    obtain ⟨u15, e16, he⟩ := ih_b he
    refine k_v (wr := [(a_t, .inr (6, [.ref a_t_draft, .ref a_t_nest]))]) (w1 := [(a_t_draft, .inr (1, [.ref a_t_draft_cells, .int u15.1])), (a_t_draft_cells, .inl (kk 1, 200, .inl u15.2))]) (w2 := [(a_t, .inr (6, [.ref a_t_draft, .ref a_t_nest])), (a_t_draft, .inr (1, [.ref a_t_draft_cells, .int u15.1])), (a_t_draft_cells, .inl (kk 1, 200, .inl u15.2))]) (r_V (As := [.int u13, .int (2 : Int32)]) S X hA hP hD hS (c_Row_putNumber l D kk st a_t_draft a_t_draft_cells _ 200 t_draft_size t_draft_cells u13 (2 : Int32) u15 e16) gm_3_135 gm_3_132 gm_3_133 gm_3_134 gm_1_2 ⟨rfl, rfl, by decide, by decide⟩ kd_Row_putNumber [1, 2] rfl rfl rfl 1 1 rfl rfl rfl rfl hl.1 rfl (Nat.le_of_ble_eq_true rfl) d_Printer_writeYear_16 ⟨Nat.zero_le _, Nat.zero_le _⟩) hA hP hD hS [1, 2] [0] [0, 1, 2] rfl rfl rfl (by decide) rfl rfl rfl (fun H locs hP hD hS => ?_)
    cases he
    exact k_vre hx hb hr hlk X hP hD hS d_Printer_writeYear_19
def st_Printer_writeNano_5 (x2 : Int32) (rec : Int32 → Int32 → Option (Int32 × Int32)) (x3 : Int32) (x4 : Int32) : Option (Int32 × Int32) :=
  (if (9 : Int32) ≤ x4 then (some (x3, x4)) else (rec (x3 / (10 : Int32)) (x4 + (1 : Int32))))
def lp_Printer_writeNano_5 (x2 : Int32) : Nat → Int32 → Int32 → Option (Int32 × Int32)
  | 0, _, _ => none
  | n + 1, a0, a1 => st_Printer_writeNano_5 x2 (lp_Printer_writeNano_5 x2 n) a0 a1
def f_Printer_writeNano (t_draft_size : Int32) (t_draft_cells : Nat → Int32) (x1 : Int32) (x2 : Int32) : Option (Int32 × (Nat → Int32)) :=
  ((lp_Printer_writeNano_5 x2 FU x1 x2).bind fun u1 => ((f_Row_putNumber 200 t_draft_size t_draft_cells u1.1 x2).bind fun u3 => (some (u3.1, u3.2))))
abbrev rm_Printer_writeNano : Room := { frames := 2, cells := 0, slots := 0, locals := 48 }
set_option maxHeartbeats 4000000 in
set_option maxRecDepth 100000 in
theorem w_Printer_writeNano_5 {p : Program} {l : Launch} {e : Env} {s : State} {m : MethodId} {args : Array Value} {below : List Frame} {meth : Method} {c : Code} {Q : State → Prop} {A : Nat → Prop} {D : va_G} {kk : Nat → ClassId} {st : Nat → Nat} (a_t a_t_draft a_t_draft_cells a_t_nest : Nat) (t_draft_size : Int32) (t_draft_cells : Nat → Int32) (x2 : Int32) (S : CallFix p m c b_Printer_writeNano 5 s args GW y_Printer_writeNano.cls) (hr : meth.sig.returnType = none) (hlk : meth.locks = false) (hA : ∀ q, s.heap.size ≤ q → A q) (X : KX D kk st A s) : ∀ (n : Nat) (x3 : Int32) (x4 : Int32) (v : Int32 × Int32) (H : Heap) (locs : List Loc) (ls : Array Slot), lp_Printer_writeNano_5 x2 n x3 x4 = some v → lv_has ls 5 [(0, .ref a_t), (2, .int x2), (3, .int x3), (4, .int x4)] → va_P D classes [(a_t, .inr (6, [.ref a_t_draft, .ref a_t_nest])), (a_t_draft, .inr (1, [.ref a_t_draft_cells, .int t_draft_size])), (a_t_draft_cells, .inl (kk 1, 200, .inl t_draft_cells))] H → va_D A [(a_t, .inr (6, [.ref a_t_draft, .ref a_t_nest])), (a_t_draft, .inr (1, [.ref a_t_draft_cells, .int t_draft_size])), (a_t_draft_cells, .inl (kk 1, 200, .inl t_draft_cells))] → va_S A s.heap H locs → (∀ (H : Heap) (locs : List Loc) (ls : Array Slot), lv_has ls 5 [(0, .ref a_t), (2, .int x2), (3, .int v.1), (4, .int v.2)] → va_P D classes [(a_t, .inr (6, [.ref a_t_draft, .ref a_t_nest])), (a_t_draft, .inr (1, [.ref a_t_draft_cells, .int t_draft_size])), (a_t_draft_cells, .inl (kk 1, 200, .inl t_draft_cells))] H → va_D A [(a_t, .inr (6, [.ref a_t_draft, .ref a_t_nest])), (a_t_draft, .inr (1, [.ref a_t_draft_cells, .int t_draft_size])), (a_t_draft_cells, .inl (kk 1, 200, .inl t_draft_cells))] → va_S A s.heap H locs → W p l e rm_Printer_writeNano s m args below meth c H locs 0 0 Q (F0 m 23 ls [])) → W p l e rm_Printer_writeNano s m args below meth c H locs 0 0 Q (F0 m 5 ls []) := by
  intro n
  induction n with
  | zero =>
    intro x3 x4 v H locs ls he hl hP hD hS K
    exact ih_n he
  | succ n ih =>
    intro x3 x4 v H locs ls he hl hP hD hS K
    have hx := S.1
    have hb := S.2.1
    have he : st_Printer_writeNano_5 x2 (lp_Printer_writeNano_5 x2 n) x3 x4 = some v := he
    unfold st_Printer_writeNano_5 at he
    refine lv_iload hx hb d_Printer_writeNano_5 (lv_at hl 3 rfl) ?_
    refine lv_bipush (v := (9 : Int32)) hx hb d_Printer_writeNano_7 (by decide) ?_
    refine lv_icmp_ge (tgt := 23) hx hb d_Printer_writeNano_9 rfl (fun hc => ?_) (fun hc => ?_)
    · have he := ih_t hc he
      have hl : lv_has ls 5 [(0, .ref a_t), (2, .int x2), (3, .int x3), (4, .int x4)] := lv_sub hl [0, 1, 2, 3] rfl
      cases he
      exact K _ _ _ hl hP hD hS
    · have he := ih_f hc he
      refine lv_iload_n hx hb d_Printer_writeNano_12 rfl (lv_at hl 2 rfl) ?_
      refine lv_bipush (v := (10 : Int32)) hx hb d_Printer_writeNano_13 (by decide) ?_
      refine lv_idiv hx hb d_Printer_writeNano_15 (by decide) ?_
      refine lv_istore_n hx hb d_Printer_writeNano_16 rfl hl (by decide) rfl (fun ls hl => ?_)
      have hl : lv_has ls 5 [(3, .int (x3 / (10 : Int32))), (0, .ref a_t), (2, .int x2), (4, .int x4)] := hl
      refine lv_iinc (k := 3) hx hb d_Printer_writeNano_17 hl rfl (ii_ (v := (1 : Int32)) (by decide)) (by decide) rfl (fun ls hl => ?_)
      have hl : lv_has ls 5 [(4, .int (x4 + (1 : Int32))), (3, .int (x3 / (10 : Int32))), (0, .ref a_t), (2, .int x2)] := hl
      refine lv_goto (tgt := 5) hx hb d_Printer_writeNano_20 rfl ?_
      have hl : lv_has ls 5 [(0, .ref a_t), (2, .int x2), (3, .int (x3 / (10 : Int32))), (4, .int (x4 + (1 : Int32)))] := lv_sub hl [2, 3, 1, 0] rfl
      exact ih _ _ _ _ _ _ he hl hP hD hS K
set_option maxHeartbeats 4000000 in
set_option maxRecDepth 100000 in
theorem c_Printer_writeNano (l : Launch) (D : va_G) (kk : Nat → ClassId) (st : Nat → Nat) (a_t a_t_draft a_t_draft_cells a_t_nest : Nat) (sz : Nat) (t_draft_size : Int32) (t_draft_cells : Nat → Int32) (x1 : Int32) (x2 : Int32) (o : Int32 × (Nat → Int32)) (he : f_Printer_writeNano t_draft_size t_draft_cells x1 x2 = some o) : Met l y_Printer_writeNano (Cond.code y_Printer_writeNano b_Printer_writeNano 5 none :: GW) rm_Printer_writeNano (KPc D kk st [.ref a_t, .int x1, .int x2] [(a_t, .inr (6, [.ref a_t_draft, .ref a_t_nest])), (a_t_draft, .inr (1, [.ref a_t_draft_cells, .int t_draft_size])), (a_t_draft_cells, .inl (kk 1, 200, .inl t_draft_cells))] sz) (KQv D kk [(a_t, .inr (6, [.ref a_t_draft, .ref a_t_nest])), (a_t_draft, .inr (1, [.ref a_t_draft_cells, .int o.1])), (a_t_draft_cells, .inl (kk 1, 200, .inl o.2))] (va_A [(a_t, .inr (6, [.ref a_t_draft, .ref a_t_nest])), (a_t_draft, .inr (1, [.ref a_t_draft_cells, .int t_draft_size])), (a_t_draft_cells, .inl (kk 1, 200, .inl t_draft_cells))] sz)) 0 0 (va_A [(a_t, .inr (6, [.ref a_t_draft, .ref a_t_nest])), (a_t_draft, .inr (1, [.ref a_t_draft_cells, .int t_draft_size])), (a_t_draft_cells, .inl (kk 1, 200, .inl t_draft_cells))] sz) := by
  refine k_start (Qc := fun A => KQv D kk [(a_t, .inr (6, [.ref a_t_draft, .ref a_t_nest])), (a_t_draft, .inr (1, [.ref a_t_draft_cells, .int o.1])), (a_t_draft_cells, .inl (kk 1, 200, .inl o.2))] A) (by decide) (Nat.le_of_ble_eq_true rfl) ?_
  intro p e s m below meth c A ls S hnm hr hlk hA X hP hD hS hl
  have hl : lv_has ls 5 [(0, .ref a_t), (1, .int x1), (2, .int x2)] := hl
  have hx := S.1
  have hb := S.2.1
  unfold f_Printer_writeNano at he
  refine lv_iload_n hx hb d_Printer_writeNano_0 rfl (lv_at hl 1 rfl) ?_
  refine lv_istore_n hx hb d_Printer_writeNano_1 rfl hl (by decide) rfl (fun ls hl => ?_)
  have hl : lv_has ls 5 [(3, .int x1), (0, .ref a_t), (1, .int x1), (2, .int x2)] := hl
  refine lv_iload_n hx hb d_Printer_writeNano_2 rfl (lv_at hl 3 rfl) ?_
  refine lv_istore hx hb d_Printer_writeNano_3 hl (by decide) rfl (fun ls hl => ?_)
  have hl : lv_has ls 5 [(4, .int x2), (3, .int x1), (0, .ref a_t), (1, .int x1), (2, .int x2)] := hl
  obtain ⟨u1, e2, he⟩ := ih_b he
  have hl : lv_has ls 5 [(0, .ref a_t), (2, .int x2), (3, .int x1), (4, .int x2)] := lv_sub hl [2, 4, 1, 0] rfl
  refine w_Printer_writeNano_5 a_t a_t_draft a_t_draft_cells a_t_nest t_draft_size t_draft_cells x2 S hr hlk hA X FU x1 x2 u1 _ _ ls e2 hl hP hD hS (fun H locs ls hl hP hD hS => ?_)
  refine lv_aload_n hx hb d_Printer_writeNano_23 rfl (lv_at hl 0 rfl) ?_
  refine k_get S X us_Printer hP 0 rfl rfl 0 (by decide) gm_1_115 rfl d_Printer_writeNano_24 ?_
  refine lv_iload_n hx hb d_Printer_writeNano_27 rfl (lv_at hl 2 rfl) ?_
  refine lv_iload_n hx hb d_Printer_writeNano_28 rfl (lv_at hl 1 rfl) ?_
  obtain ⟨u3, e4, he⟩ := ih_b he
  refine k_v (wr := [(a_t, .inr (6, [.ref a_t_draft, .ref a_t_nest]))]) (w1 := [(a_t_draft, .inr (1, [.ref a_t_draft_cells, .int u3.1])), (a_t_draft_cells, .inl (kk 1, 200, .inl u3.2))]) (w2 := [(a_t, .inr (6, [.ref a_t_draft, .ref a_t_nest])), (a_t_draft, .inr (1, [.ref a_t_draft_cells, .int u3.1])), (a_t_draft_cells, .inl (kk 1, 200, .inl u3.2))]) (r_V (As := [.int u1.1, .int x2]) S X hA hP hD hS (c_Row_putNumber l D kk st a_t_draft a_t_draft_cells _ 200 t_draft_size t_draft_cells u1.1 x2 u3 e4) gm_3_135 gm_3_132 gm_3_133 gm_3_134 gm_1_2 ⟨rfl, rfl, by decide, by decide⟩ kd_Row_putNumber [1, 2] rfl rfl rfl 1 1 rfl rfl rfl rfl hl.1 rfl (Nat.le_of_ble_eq_true rfl) d_Printer_writeNano_29 ⟨Nat.zero_le _, Nat.zero_le _⟩) hA hP hD hS [1, 2] [0] [0, 1, 2] rfl rfl rfl (by decide) rfl rfl rfl (fun H locs hP hD hS => ?_)
  cases he
  exact k_vre hx hb hr hlk X hP hD hS d_Printer_writeNano_32
def jn_Printer_writeOffset_45 (t_draft_size : Int32) (t_draft_cells : Nat → Int32) (x1 : Int32) (x3 : Int32) (x4 : Int32) (s1 : Int32) : Option (Int32 × (Nat → Int32)) :=
  ((f_Row_put 200 t_draft_size t_draft_cells s1).bind fun u1 => ((f_Row_putNumber 200 u1.2.1 u1.2.2 ((if 0 ≤ x1 then x1 else 0 - x1) / (60 : Int32)) (2 : Int32)).bind fun u3 => (if x3 = (3 : Int32) then ((f_Row_put 200 u3.1 u3.2 (58 : Int32)).bind fun u9 => (if x3 = (1 : Int32) then (if x4 = 0 then (some (u9.2.1, u9.2.2)) else ((f_Row_putNumber 200 u9.2.1 u9.2.2 x4 (2 : Int32)).bind fun u13 => (some (u13.1, u13.2)))) else ((f_Row_putNumber 200 u9.2.1 u9.2.2 x4 (2 : Int32)).bind fun u11 => (some (u11.1, u11.2))))) else (if x3 = (1 : Int32) then (if x4 = 0 then (some (u3.1, u3.2)) else ((f_Row_putNumber 200 u3.1 u3.2 x4 (2 : Int32)).bind fun u7 => (some (u7.1, u7.2)))) else ((f_Row_putNumber 200 u3.1 u3.2 x4 (2 : Int32)).bind fun u5 => (some (u5.1, u5.2)))))))
def jn_Printer_writeOffset_21 (t_draft_size : Int32) (t_draft_cells : Nat → Int32) (x1 : Int32) (x3 : Int32) : Option (Int32 × (Nat → Int32)) :=
  (if 0 ≤ x1 then (jn_Printer_writeOffset_45 t_draft_size t_draft_cells x1 x3 ((if 0 ≤ x1 then x1 else 0 - x1) - (if 0 ≤ x1 then x1 else 0 - x1) / (60 : Int32) * (60 : Int32)) (43 : Int32)) else (jn_Printer_writeOffset_45 t_draft_size t_draft_cells x1 x3 ((if 0 ≤ x1 then x1 else 0 - x1) - (if 0 ≤ x1 then x1 else 0 - x1) / (60 : Int32) * (60 : Int32)) (45 : Int32)))
def f_Printer_writeOffset (t_draft_size : Int32) (t_draft_cells : Nat → Int32) (x1 : Int32) (x2 : Int32) (x3 : Int32) : Option (Int32 × (Nat → Int32)) :=
  (if x2 = (13 : Int32) then (if x1 = 0 then ((f_Row_put 200 t_draft_size t_draft_cells (90 : Int32)).bind fun u15 => (some (u15.2.1, u15.2.2))) else (jn_Printer_writeOffset_21 t_draft_size t_draft_cells x1 x3)) else (jn_Printer_writeOffset_21 t_draft_size t_draft_cells x1 x3))
abbrev rm_Printer_writeOffset : Room := { frames := 2, cells := 0, slots := 0, locals := 48 }
set_option maxHeartbeats 4000000 in
set_option maxRecDepth 100000 in
theorem w_Printer_writeOffset_45 {p : Program} {l : Launch} {e : Env} {s : State} {m : MethodId} {args : Array Value} {below : List Frame} {meth : Method} {c : Code} {A : Nat → Prop} {D : va_G} {kk : Nat → ClassId} {st : Nat → Nat} (a_t a_t_draft a_t_draft_cells a_t_nest : Nat) (t_draft_size : Int32) (t_draft_cells : Nat → Int32) (x1 : Int32) (x3 : Int32) (x4 : Int32) (s1 : Int32) (o : Int32 × (Nat → Int32)) (S : CallFix p m c b_Printer_writeOffset 5 s args GW y_Printer_writeOffset.cls) (hr : meth.sig.returnType = none) (hlk : meth.locks = false) (hA : ∀ q, s.heap.size ≤ q → A q) (X : KX D kk st A s) (H : Heap) (locs : List Loc) (ls : Array Slot) (he : jn_Printer_writeOffset_45 t_draft_size t_draft_cells x1 x3 x4 s1 = some o) (hl : lv_has ls 5 [(0, .ref a_t), (1, .int x1), (3, .int x3), (4, .int x4)]) (hP : va_P D classes [(a_t, .inr (6, [.ref a_t_draft, .ref a_t_nest])), (a_t_draft, .inr (1, [.ref a_t_draft_cells, .int t_draft_size])), (a_t_draft_cells, .inl (kk 1, 200, .inl t_draft_cells))] H) (hD : va_D A [(a_t, .inr (6, [.ref a_t_draft, .ref a_t_nest])), (a_t_draft, .inr (1, [.ref a_t_draft_cells, .int t_draft_size])), (a_t_draft_cells, .inl (kk 1, 200, .inl t_draft_cells))]) (hS : va_S A s.heap H locs) : W p l e rm_Printer_writeOffset s m args below meth c H locs 0 0 (MQ below (KQv D kk [(a_t, .inr (6, [.ref a_t_draft, .ref a_t_nest])), (a_t_draft, .inr (1, [.ref a_t_draft_cells, .int o.1])), (a_t_draft_cells, .inl (kk 1, 200, .inl o.2))] A) args s 0 0 A) (F0 m 45 ls [.int s1, .ref a_t_draft]) := by
  have hx := S.1
  have hb := S.2.1
  unfold jn_Printer_writeOffset_45 at he
  obtain ⟨u1, e2, he⟩ := ih_b he
  refine k_i (wr := [(a_t, .inr (6, [.ref a_t_draft, .ref a_t_nest]))]) (w1 := [(a_t_draft, .inr (1, [.ref a_t_draft_cells, .int u1.2.1])), (a_t_draft_cells, .inl (kk 1, 200, .inl u1.2.2))]) (w2 := [(a_t, .inr (6, [.ref a_t_draft, .ref a_t_nest])), (a_t_draft, .inr (1, [.ref a_t_draft_cells, .int u1.2.1])), (a_t_draft_cells, .inl (kk 1, 200, .inl u1.2.2))]) (r_V (As := [.int s1]) S X hA hP hD hS (c_Row_put l D kk st a_t_draft a_t_draft_cells _ 200 t_draft_size t_draft_cells s1 u1 e2) gm_2_57 gm_3_76 gm_2_55 gm_2_56 gm_1_2 ⟨rfl, rfl, by decide, by decide⟩ kd_Row_put [1, 2] rfl rfl rfl 1 1 rfl rfl rfl rfl hl.1 rfl (Nat.le_of_ble_eq_true rfl) d_Printer_writeOffset_45 ⟨Nat.zero_le _, Nat.zero_le _⟩) hA hP hD hS [1, 2] [0] [0, 1, 2] rfl rfl rfl (by decide) rfl rfl rfl (fun H locs hP hD hS => ?_)
  refine lv_pop hx hb d_Printer_writeOffset_48 rfl ?_
  refine lv_aload_n hx hb d_Printer_writeOffset_49 rfl (lv_at hl 0 rfl) ?_
  refine k_get S X us_Printer hP 0 rfl rfl 0 (by decide) gm_1_115 rfl d_Printer_writeOffset_50 ?_
  refine lv_iload_n hx hb d_Printer_writeOffset_53 rfl (lv_at hl 1 rfl) ?_
  refine va_mabs hx hb (by rw [S.2.2.1]; exact hl.1.symm) S.2.2.2.1 (S.2.2.2.2 _ gm_3_136) (S.2.2.2.2 _ gm_3_6) (S.2.2.2.2 _ gm_1_11) (S.2.2.2.2 _ gm_3_7) (by decide) (Nat.le_of_ble_eq_true rfl) (Nat.zero_le _) (Nat.zero_le _) d_Printer_writeOffset_54 ?_
  refine lv_bipush (v := (60 : Int32)) hx hb d_Printer_writeOffset_57 (by decide) ?_
  refine lv_idiv hx hb d_Printer_writeOffset_59 (by decide) ?_
  refine lv_iconst (v := (2 : Int32)) hx hb d_Printer_writeOffset_60 (by decide) ?_
  obtain ⟨u3, e4, he⟩ := ih_b he
  refine k_v (wr := [(a_t, .inr (6, [.ref a_t_draft, .ref a_t_nest]))]) (w1 := [(a_t_draft, .inr (1, [.ref a_t_draft_cells, .int u3.1])), (a_t_draft_cells, .inl (kk 1, 200, .inl u3.2))]) (w2 := [(a_t, .inr (6, [.ref a_t_draft, .ref a_t_nest])), (a_t_draft, .inr (1, [.ref a_t_draft_cells, .int u3.1])), (a_t_draft_cells, .inl (kk 1, 200, .inl u3.2))]) (r_V (As := [.int ((if 0 ≤ x1 then x1 else 0 - x1) / (60 : Int32)), .int (2 : Int32)]) S X hA hP hD hS (c_Row_putNumber l D kk st a_t_draft a_t_draft_cells _ 200 u1.2.1 u1.2.2 ((if 0 ≤ x1 then x1 else 0 - x1) / (60 : Int32)) (2 : Int32) u3 e4) gm_3_135 gm_3_132 gm_3_133 gm_3_134 gm_1_2 ⟨rfl, rfl, by decide, by decide⟩ kd_Row_putNumber [1, 2] rfl rfl rfl 1 1 rfl rfl rfl rfl hl.1 rfl (Nat.le_of_ble_eq_true rfl) d_Printer_writeOffset_61 ⟨Nat.zero_le _, Nat.zero_le _⟩) hA hP hD hS [1, 2] [0] [0, 1, 2] rfl rfl rfl (by decide) rfl rfl rfl (fun H locs hP hD hS => ?_)
  refine lv_iload_n hx hb d_Printer_writeOffset_64 rfl (lv_at hl 2 rfl) ?_
  refine lv_iconst (v := (3 : Int32)) hx hb d_Printer_writeOffset_65 (by decide) ?_
  refine lv_icmp_ne (tgt := 79) hx hb d_Printer_writeOffset_66 rfl (fun hc => ?_) (fun hc => ?_)
  · have he := ih_f hc he
    refine lv_iload_n hx hb d_Printer_writeOffset_79 rfl (lv_at hl 2 rfl) ?_
    refine lv_iconst (v := (1 : Int32)) hx hb d_Printer_writeOffset_80 (by decide) ?_
    refine lv_icmp_ne (tgt := 89) hx hb d_Printer_writeOffset_81 rfl (fun hc => ?_) (fun hc => ?_)
    · have he := ih_f hc he
      refine lv_aload_n hx hb d_Printer_writeOffset_89 rfl (lv_at hl 0 rfl) ?_
      refine k_get S X us_Printer hP 0 rfl rfl 0 (by decide) gm_1_115 rfl d_Printer_writeOffset_90 ?_
      refine lv_iload hx hb d_Printer_writeOffset_93 (lv_at hl 3 rfl) ?_
      refine lv_iconst (v := (2 : Int32)) hx hb d_Printer_writeOffset_95 (by decide) ?_
      obtain ⟨u5, e6, he⟩ := ih_b he
      refine k_v (wr := [(a_t, .inr (6, [.ref a_t_draft, .ref a_t_nest]))]) (w1 := [(a_t_draft, .inr (1, [.ref a_t_draft_cells, .int u5.1])), (a_t_draft_cells, .inl (kk 1, 200, .inl u5.2))]) (w2 := [(a_t, .inr (6, [.ref a_t_draft, .ref a_t_nest])), (a_t_draft, .inr (1, [.ref a_t_draft_cells, .int u5.1])), (a_t_draft_cells, .inl (kk 1, 200, .inl u5.2))]) (r_V (As := [.int x4, .int (2 : Int32)]) S X hA hP hD hS (c_Row_putNumber l D kk st a_t_draft a_t_draft_cells _ 200 u3.1 u3.2 x4 (2 : Int32) u5 e6) gm_3_135 gm_3_132 gm_3_133 gm_3_134 gm_1_2 ⟨rfl, rfl, by decide, by decide⟩ kd_Row_putNumber [1, 2] rfl rfl rfl 1 1 rfl rfl rfl rfl hl.1 rfl (Nat.le_of_ble_eq_true rfl) d_Printer_writeOffset_96 ⟨Nat.zero_le _, Nat.zero_le _⟩) hA hP hD hS [1, 2] [0] [0, 1, 2] rfl rfl rfl (by decide) rfl rfl rfl (fun H locs hP hD hS => ?_)
      cases he
      exact k_vre hx hb hr hlk X hP hD hS d_Printer_writeOffset_99
    · have he := ih_t hc he
      refine lv_iload hx hb d_Printer_writeOffset_84 (lv_at hl 3 rfl) ?_
      refine lv_if_eq (tgt := 99) hx hb d_Printer_writeOffset_86 rfl (fun hc => ?_) (fun hc => ?_)
      · have he := ih_t hc he
        cases he
        exact k_vre hx hb hr hlk X hP hD hS d_Printer_writeOffset_99
      · have he := ih_f hc he
        refine lv_aload_n hx hb d_Printer_writeOffset_89 rfl (lv_at hl 0 rfl) ?_
        refine k_get S X us_Printer hP 0 rfl rfl 0 (by decide) gm_1_115 rfl d_Printer_writeOffset_90 ?_
        refine lv_iload hx hb d_Printer_writeOffset_93 (lv_at hl 3 rfl) ?_
        refine lv_iconst (v := (2 : Int32)) hx hb d_Printer_writeOffset_95 (by decide) ?_
        obtain ⟨u7, e8, he⟩ := ih_b he
        refine k_v (wr := [(a_t, .inr (6, [.ref a_t_draft, .ref a_t_nest]))]) (w1 := [(a_t_draft, .inr (1, [.ref a_t_draft_cells, .int u7.1])), (a_t_draft_cells, .inl (kk 1, 200, .inl u7.2))]) (w2 := [(a_t, .inr (6, [.ref a_t_draft, .ref a_t_nest])), (a_t_draft, .inr (1, [.ref a_t_draft_cells, .int u7.1])), (a_t_draft_cells, .inl (kk 1, 200, .inl u7.2))]) (r_V (As := [.int x4, .int (2 : Int32)]) S X hA hP hD hS (c_Row_putNumber l D kk st a_t_draft a_t_draft_cells _ 200 u3.1 u3.2 x4 (2 : Int32) u7 e8) gm_3_135 gm_3_132 gm_3_133 gm_3_134 gm_1_2 ⟨rfl, rfl, by decide, by decide⟩ kd_Row_putNumber [1, 2] rfl rfl rfl 1 1 rfl rfl rfl rfl hl.1 rfl (Nat.le_of_ble_eq_true rfl) d_Printer_writeOffset_96 ⟨Nat.zero_le _, Nat.zero_le _⟩) hA hP hD hS [1, 2] [0] [0, 1, 2] rfl rfl rfl (by decide) rfl rfl rfl (fun H locs hP hD hS => ?_)
        cases he
        exact k_vre hx hb hr hlk X hP hD hS d_Printer_writeOffset_99
  · have he := ih_t hc he
    refine lv_aload_n hx hb d_Printer_writeOffset_69 rfl (lv_at hl 0 rfl) ?_
    refine k_get S X us_Printer hP 0 rfl rfl 0 (by decide) gm_1_115 rfl d_Printer_writeOffset_70 ?_
    refine lv_bipush (v := (58 : Int32)) hx hb d_Printer_writeOffset_73 (by decide) ?_
    obtain ⟨u9, e10, he⟩ := ih_b he
    refine k_i (wr := [(a_t, .inr (6, [.ref a_t_draft, .ref a_t_nest]))]) (w1 := [(a_t_draft, .inr (1, [.ref a_t_draft_cells, .int u9.2.1])), (a_t_draft_cells, .inl (kk 1, 200, .inl u9.2.2))]) (w2 := [(a_t, .inr (6, [.ref a_t_draft, .ref a_t_nest])), (a_t_draft, .inr (1, [.ref a_t_draft_cells, .int u9.2.1])), (a_t_draft_cells, .inl (kk 1, 200, .inl u9.2.2))]) (r_V (As := [.int (58 : Int32)]) S X hA hP hD hS (c_Row_put l D kk st a_t_draft a_t_draft_cells _ 200 u3.1 u3.2 (58 : Int32) u9 e10) gm_2_57 gm_3_76 gm_2_55 gm_2_56 gm_1_2 ⟨rfl, rfl, by decide, by decide⟩ kd_Row_put [1, 2] rfl rfl rfl 1 1 rfl rfl rfl rfl hl.1 rfl (Nat.le_of_ble_eq_true rfl) d_Printer_writeOffset_75 ⟨Nat.zero_le _, Nat.zero_le _⟩) hA hP hD hS [1, 2] [0] [0, 1, 2] rfl rfl rfl (by decide) rfl rfl rfl (fun H locs hP hD hS => ?_)
    refine lv_pop hx hb d_Printer_writeOffset_78 rfl ?_
    refine lv_iload_n hx hb d_Printer_writeOffset_79 rfl (lv_at hl 2 rfl) ?_
    refine lv_iconst (v := (1 : Int32)) hx hb d_Printer_writeOffset_80 (by decide) ?_
    refine lv_icmp_ne (tgt := 89) hx hb d_Printer_writeOffset_81 rfl (fun hc => ?_) (fun hc => ?_)
    · have he := ih_f hc he
      refine lv_aload_n hx hb d_Printer_writeOffset_89 rfl (lv_at hl 0 rfl) ?_
      refine k_get S X us_Printer hP 0 rfl rfl 0 (by decide) gm_1_115 rfl d_Printer_writeOffset_90 ?_
      refine lv_iload hx hb d_Printer_writeOffset_93 (lv_at hl 3 rfl) ?_
      refine lv_iconst (v := (2 : Int32)) hx hb d_Printer_writeOffset_95 (by decide) ?_
      obtain ⟨u11, e12, he⟩ := ih_b he
      refine k_v (wr := [(a_t, .inr (6, [.ref a_t_draft, .ref a_t_nest]))]) (w1 := [(a_t_draft, .inr (1, [.ref a_t_draft_cells, .int u11.1])), (a_t_draft_cells, .inl (kk 1, 200, .inl u11.2))]) (w2 := [(a_t, .inr (6, [.ref a_t_draft, .ref a_t_nest])), (a_t_draft, .inr (1, [.ref a_t_draft_cells, .int u11.1])), (a_t_draft_cells, .inl (kk 1, 200, .inl u11.2))]) (r_V (As := [.int x4, .int (2 : Int32)]) S X hA hP hD hS (c_Row_putNumber l D kk st a_t_draft a_t_draft_cells _ 200 u9.2.1 u9.2.2 x4 (2 : Int32) u11 e12) gm_3_135 gm_3_132 gm_3_133 gm_3_134 gm_1_2 ⟨rfl, rfl, by decide, by decide⟩ kd_Row_putNumber [1, 2] rfl rfl rfl 1 1 rfl rfl rfl rfl hl.1 rfl (Nat.le_of_ble_eq_true rfl) d_Printer_writeOffset_96 ⟨Nat.zero_le _, Nat.zero_le _⟩) hA hP hD hS [1, 2] [0] [0, 1, 2] rfl rfl rfl (by decide) rfl rfl rfl (fun H locs hP hD hS => ?_)
      cases he
      exact k_vre hx hb hr hlk X hP hD hS d_Printer_writeOffset_99
    · have he := ih_t hc he
      refine lv_iload hx hb d_Printer_writeOffset_84 (lv_at hl 3 rfl) ?_
      refine lv_if_eq (tgt := 99) hx hb d_Printer_writeOffset_86 rfl (fun hc => ?_) (fun hc => ?_)
      · have he := ih_t hc he
        cases he
        exact k_vre hx hb hr hlk X hP hD hS d_Printer_writeOffset_99
      · have he := ih_f hc he
        refine lv_aload_n hx hb d_Printer_writeOffset_89 rfl (lv_at hl 0 rfl) ?_
        refine k_get S X us_Printer hP 0 rfl rfl 0 (by decide) gm_1_115 rfl d_Printer_writeOffset_90 ?_
        refine lv_iload hx hb d_Printer_writeOffset_93 (lv_at hl 3 rfl) ?_
        refine lv_iconst (v := (2 : Int32)) hx hb d_Printer_writeOffset_95 (by decide) ?_
        obtain ⟨u13, e14, he⟩ := ih_b he
        refine k_v (wr := [(a_t, .inr (6, [.ref a_t_draft, .ref a_t_nest]))]) (w1 := [(a_t_draft, .inr (1, [.ref a_t_draft_cells, .int u13.1])), (a_t_draft_cells, .inl (kk 1, 200, .inl u13.2))]) (w2 := [(a_t, .inr (6, [.ref a_t_draft, .ref a_t_nest])), (a_t_draft, .inr (1, [.ref a_t_draft_cells, .int u13.1])), (a_t_draft_cells, .inl (kk 1, 200, .inl u13.2))]) (r_V (As := [.int x4, .int (2 : Int32)]) S X hA hP hD hS (c_Row_putNumber l D kk st a_t_draft a_t_draft_cells _ 200 u9.2.1 u9.2.2 x4 (2 : Int32) u13 e14) gm_3_135 gm_3_132 gm_3_133 gm_3_134 gm_1_2 ⟨rfl, rfl, by decide, by decide⟩ kd_Row_putNumber [1, 2] rfl rfl rfl 1 1 rfl rfl rfl rfl hl.1 rfl (Nat.le_of_ble_eq_true rfl) d_Printer_writeOffset_96 ⟨Nat.zero_le _, Nat.zero_le _⟩) hA hP hD hS [1, 2] [0] [0, 1, 2] rfl rfl rfl (by decide) rfl rfl rfl (fun H locs hP hD hS => ?_)
        cases he
        exact k_vre hx hb hr hlk X hP hD hS d_Printer_writeOffset_99
set_option maxHeartbeats 4000000 in
set_option maxRecDepth 100000 in
theorem w_Printer_writeOffset_21 {p : Program} {l : Launch} {e : Env} {s : State} {m : MethodId} {args : Array Value} {below : List Frame} {meth : Method} {c : Code} {A : Nat → Prop} {D : va_G} {kk : Nat → ClassId} {st : Nat → Nat} (a_t a_t_draft a_t_draft_cells a_t_nest : Nat) (t_draft_size : Int32) (t_draft_cells : Nat → Int32) (x1 : Int32) (x3 : Int32) (o : Int32 × (Nat → Int32)) (S : CallFix p m c b_Printer_writeOffset 5 s args GW y_Printer_writeOffset.cls) (hr : meth.sig.returnType = none) (hlk : meth.locks = false) (hA : ∀ q, s.heap.size ≤ q → A q) (X : KX D kk st A s) (H : Heap) (locs : List Loc) (ls : Array Slot) (he : jn_Printer_writeOffset_21 t_draft_size t_draft_cells x1 x3 = some o) (hl : lv_has ls 5 [(0, .ref a_t), (1, .int x1), (3, .int x3)]) (hP : va_P D classes [(a_t, .inr (6, [.ref a_t_draft, .ref a_t_nest])), (a_t_draft, .inr (1, [.ref a_t_draft_cells, .int t_draft_size])), (a_t_draft_cells, .inl (kk 1, 200, .inl t_draft_cells))] H) (hD : va_D A [(a_t, .inr (6, [.ref a_t_draft, .ref a_t_nest])), (a_t_draft, .inr (1, [.ref a_t_draft_cells, .int t_draft_size])), (a_t_draft_cells, .inl (kk 1, 200, .inl t_draft_cells))]) (hS : va_S A s.heap H locs) : W p l e rm_Printer_writeOffset s m args below meth c H locs 0 0 (MQ below (KQv D kk [(a_t, .inr (6, [.ref a_t_draft, .ref a_t_nest])), (a_t_draft, .inr (1, [.ref a_t_draft_cells, .int o.1])), (a_t_draft_cells, .inl (kk 1, 200, .inl o.2))] A) args s 0 0 A) (F0 m 21 ls []) := by
  have hx := S.1
  have hb := S.2.1
  unfold jn_Printer_writeOffset_21 at he
  refine lv_iload_n hx hb d_Printer_writeOffset_21 rfl (lv_at hl 1 rfl) ?_
  refine va_mabs hx hb (by rw [S.2.2.1]; exact hl.1.symm) S.2.2.2.1 (S.2.2.2.2 _ gm_3_136) (S.2.2.2.2 _ gm_3_6) (S.2.2.2.2 _ gm_1_11) (S.2.2.2.2 _ gm_3_7) (by decide) (Nat.le_of_ble_eq_true rfl) (Nat.zero_le _) (Nat.zero_le _) d_Printer_writeOffset_22 ?_
  refine lv_bipush (v := (60 : Int32)) hx hb d_Printer_writeOffset_25 (by decide) ?_
  refine lv_irem hx hb d_Printer_writeOffset_27 (by decide) ?_
  refine lv_istore hx hb d_Printer_writeOffset_28 hl (by decide) rfl (fun ls hl => ?_)
  have hl : lv_has ls 5 [(4, .int ((if 0 ≤ x1 then x1 else 0 - x1) - (if 0 ≤ x1 then x1 else 0 - x1) / (60 : Int32) * (60 : Int32))), (0, .ref a_t), (1, .int x1), (3, .int x3)] := hl
  refine lv_aload_n hx hb d_Printer_writeOffset_30 rfl (lv_at hl 1 rfl) ?_
  refine k_get S X us_Printer hP 0 rfl rfl 0 (by decide) gm_1_115 rfl d_Printer_writeOffset_31 ?_
  refine lv_iload_n hx hb d_Printer_writeOffset_34 rfl (lv_at hl 2 rfl) ?_
  refine lv_if_ge (tgt := 43) hx hb d_Printer_writeOffset_35 rfl (fun hc => ?_) (fun hc => ?_)
  · have he := ih_t hc he
    refine lv_bipush (v := (43 : Int32)) hx hb d_Printer_writeOffset_43 (by decide) ?_
    have hl : lv_has ls 5 [(0, .ref a_t), (1, .int x1), (3, .int x3), (4, .int ((if 0 ≤ x1 then x1 else 0 - x1) - (if 0 ≤ x1 then x1 else 0 - x1) / (60 : Int32) * (60 : Int32)))] := lv_sub hl [1, 2, 3, 0] rfl
    exact w_Printer_writeOffset_45 a_t a_t_draft a_t_draft_cells a_t_nest t_draft_size t_draft_cells x1 x3 ((if 0 ≤ x1 then x1 else 0 - x1) - (if 0 ≤ x1 then x1 else 0 - x1) / (60 : Int32) * (60 : Int32)) (43 : Int32) o S hr hlk hA X _ _ ls he hl hP hD hS
  · have he := ih_f hc he
    refine lv_bipush (v := (45 : Int32)) hx hb d_Printer_writeOffset_38 (by decide) ?_
    refine lv_goto (tgt := 45) hx hb d_Printer_writeOffset_40 rfl ?_
    have hl : lv_has ls 5 [(0, .ref a_t), (1, .int x1), (3, .int x3), (4, .int ((if 0 ≤ x1 then x1 else 0 - x1) - (if 0 ≤ x1 then x1 else 0 - x1) / (60 : Int32) * (60 : Int32)))] := lv_sub hl [1, 2, 3, 0] rfl
    exact w_Printer_writeOffset_45 a_t a_t_draft a_t_draft_cells a_t_nest t_draft_size t_draft_cells x1 x3 ((if 0 ≤ x1 then x1 else 0 - x1) - (if 0 ≤ x1 then x1 else 0 - x1) / (60 : Int32) * (60 : Int32)) (45 : Int32) o S hr hlk hA X _ _ ls he hl hP hD hS
set_option maxHeartbeats 4000000 in
set_option maxRecDepth 100000 in
theorem c_Printer_writeOffset (l : Launch) (D : va_G) (kk : Nat → ClassId) (st : Nat → Nat) (a_t a_t_draft a_t_draft_cells a_t_nest : Nat) (sz : Nat) (t_draft_size : Int32) (t_draft_cells : Nat → Int32) (x1 : Int32) (x2 : Int32) (x3 : Int32) (o : Int32 × (Nat → Int32)) (he : f_Printer_writeOffset t_draft_size t_draft_cells x1 x2 x3 = some o) : Met l y_Printer_writeOffset (Cond.code y_Printer_writeOffset b_Printer_writeOffset 5 none :: GW) rm_Printer_writeOffset (KPc D kk st [.ref a_t, .int x1, .int x2, .int x3] [(a_t, .inr (6, [.ref a_t_draft, .ref a_t_nest])), (a_t_draft, .inr (1, [.ref a_t_draft_cells, .int t_draft_size])), (a_t_draft_cells, .inl (kk 1, 200, .inl t_draft_cells))] sz) (KQv D kk [(a_t, .inr (6, [.ref a_t_draft, .ref a_t_nest])), (a_t_draft, .inr (1, [.ref a_t_draft_cells, .int o.1])), (a_t_draft_cells, .inl (kk 1, 200, .inl o.2))] (va_A [(a_t, .inr (6, [.ref a_t_draft, .ref a_t_nest])), (a_t_draft, .inr (1, [.ref a_t_draft_cells, .int t_draft_size])), (a_t_draft_cells, .inl (kk 1, 200, .inl t_draft_cells))] sz)) 0 0 (va_A [(a_t, .inr (6, [.ref a_t_draft, .ref a_t_nest])), (a_t_draft, .inr (1, [.ref a_t_draft_cells, .int t_draft_size])), (a_t_draft_cells, .inl (kk 1, 200, .inl t_draft_cells))] sz) := by
  refine k_start (Qc := fun A => KQv D kk [(a_t, .inr (6, [.ref a_t_draft, .ref a_t_nest])), (a_t_draft, .inr (1, [.ref a_t_draft_cells, .int o.1])), (a_t_draft_cells, .inl (kk 1, 200, .inl o.2))] A) (by decide) (Nat.le_of_ble_eq_true rfl) ?_
  intro p e s m below meth c A ls S hnm hr hlk hA X hP hD hS hl
  have hl : lv_has ls 5 [(0, .ref a_t), (1, .int x1), (2, .int x2), (3, .int x3)] := hl
  have hx := S.1
  have hb := S.2.1
  unfold f_Printer_writeOffset at he
  refine lv_iload_n hx hb d_Printer_writeOffset_0 rfl (lv_at hl 2 rfl) ?_
  refine lv_bipush (v := (13 : Int32)) hx hb d_Printer_writeOffset_1 (by decide) ?_
  refine lv_icmp_ne (tgt := 21) hx hb d_Printer_writeOffset_3 rfl (fun hc => ?_) (fun hc => ?_)
  · have he := ih_f hc he
    have hl : lv_has ls 5 [(0, .ref a_t), (1, .int x1), (3, .int x3)] := lv_sub hl [0, 1, 3] rfl
    exact w_Printer_writeOffset_21 a_t a_t_draft a_t_draft_cells a_t_nest t_draft_size t_draft_cells x1 x3 o S hr hlk hA X _ _ ls he hl hP hD hS
  · have he := ih_t hc he
    refine lv_iload_n hx hb d_Printer_writeOffset_6 rfl (lv_at hl 1 rfl) ?_
    refine lv_if_ne (tgt := 21) hx hb d_Printer_writeOffset_7 rfl (fun hc => ?_) (fun hc => ?_)
    · have he := ih_f hc he
      have hl : lv_has ls 5 [(0, .ref a_t), (1, .int x1), (3, .int x3)] := lv_sub hl [0, 1, 3] rfl
      exact w_Printer_writeOffset_21 a_t a_t_draft a_t_draft_cells a_t_nest t_draft_size t_draft_cells x1 x3 o S hr hlk hA X _ _ ls he hl hP hD hS
    · have he := ih_t hc he
      refine lv_aload_n hx hb d_Printer_writeOffset_10 rfl (lv_at hl 0 rfl) ?_
      refine k_get S X us_Printer hP 0 rfl rfl 0 (by decide) gm_1_115 rfl d_Printer_writeOffset_11 ?_
      refine lv_bipush (v := (90 : Int32)) hx hb d_Printer_writeOffset_14 (by decide) ?_
      obtain ⟨u15, e16, he⟩ := ih_b he
      refine k_i (wr := [(a_t, .inr (6, [.ref a_t_draft, .ref a_t_nest]))]) (w1 := [(a_t_draft, .inr (1, [.ref a_t_draft_cells, .int u15.2.1])), (a_t_draft_cells, .inl (kk 1, 200, .inl u15.2.2))]) (w2 := [(a_t, .inr (6, [.ref a_t_draft, .ref a_t_nest])), (a_t_draft, .inr (1, [.ref a_t_draft_cells, .int u15.2.1])), (a_t_draft_cells, .inl (kk 1, 200, .inl u15.2.2))]) (r_V (As := [.int (90 : Int32)]) S X hA hP hD hS (c_Row_put l D kk st a_t_draft a_t_draft_cells _ 200 t_draft_size t_draft_cells (90 : Int32) u15 e16) gm_2_57 gm_3_76 gm_2_55 gm_2_56 gm_1_2 ⟨rfl, rfl, by decide, by decide⟩ kd_Row_put [1, 2] rfl rfl rfl 1 1 rfl rfl rfl rfl hl.1 rfl (Nat.le_of_ble_eq_true rfl) d_Printer_writeOffset_16 ⟨Nat.zero_le _, Nat.zero_le _⟩) hA hP hD hS [1, 2] [0] [0, 1, 2] rfl rfl rfl (by decide) rfl rfl rfl (fun H locs hP hD hS => ?_)
      refine lv_pop hx hb d_Printer_writeOffset_19 rfl ?_
      cases he
      exact k_vre hx hb hr hlk X hP hD hS d_Printer_writeOffset_20
