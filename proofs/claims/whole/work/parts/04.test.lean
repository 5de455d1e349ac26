abbrev b_Row_put : ByteArray := prog_11_method_2_code
def y_Row_put : MethodName := ⟨"SkeletonClock$Row", "put", "(C)Z"⟩
theorem kd_Row_put : kd_ok y_Row_put 1 := by decide +kernel
abbrev b_Row_codeAt : ByteArray := prog_11_method_6_code
def y_Row_codeAt : MethodName := ⟨"SkeletonClock$Row", "codeAt", "(I)I"⟩
theorem kd_Row_codeAt : kd_ok y_Row_codeAt 1 := by decide +kernel
abbrev b_Row_digits : ByteArray := prog_11_method_8_code
def y_Row_digits : MethodName := ⟨"SkeletonClock$Row", "digits", "(II)I"⟩
theorem kd_Row_digits : kd_ok y_Row_digits 2 := by decide +kernel
abbrev b_Row_shorten : ByteArray := prog_11_method_5_code
def y_Row_shorten : MethodName := ⟨"SkeletonClock$Row", "shorten", "(I)V"⟩
theorem kd_Row_shorten : kd_ok y_Row_shorten 1 := by decide +kernel
abbrev b_Row_runLength : ByteArray := prog_11_method_7_code
def y_Row_runLength : MethodName := ⟨"SkeletonClock$Row", "runLength", "(I)I"⟩
theorem kd_Row_runLength : kd_ok y_Row_runLength 1 := by decide +kernel
theorem gm_1_35 : Cond.fieldLink "SkeletonClock$Row" (9 : Nat) "SkeletonClock$Row" "size" "I" ∈ GW := gw_1 (i := 35) rfl rfl
theorem gm_1_34 : Cond.fieldLink "SkeletonClock$Row" (15 : Nat) "SkeletonClock$Row" "cells" "[C" ∈ GW := gw_1 (i := 34) rfl rfl
theorem gm_2_76 : Cond.code ({ cls := "SkeletonClock$Row", name := "codeAt", desc := "(I)I" } : MethodName) prog_11_method_6_code (2 : Nat) (Option.some FieldType.int) ∈ GW := gw_2 (i := 76) rfl rfl
theorem gm_2_187 : Cond.methodLink "SkeletonClock$Row" (25 : Nat) ({ cls := "SkeletonClock$Row", name := "codeAt", desc := "(I)I" } : MethodName) ∈ GW := gw_2 (i := 187) rfl rfl
theorem gm_1_2 : Cond.initialized "SkeletonClock$Row" ∈ GW := gw_1 (i := 2) rfl rfl
theorem gm_2_74 : Cond.instanceMethod ({ cls := "SkeletonClock$Row", name := "codeAt", desc := "(I)I" } : MethodName) ∈ GW := gw_2 (i := 74) rfl rfl
theorem gm_2_75 : Cond.selects "SkeletonClock$Row" ({ cls := "SkeletonClock$Row", name := "codeAt", desc := "(I)I" } : MethodName) ({ cls := "SkeletonClock$Row", name := "codeAt", desc := "(I)I" } : MethodName) ∈ GW := gw_2 (i := 75) rfl rfl
theorem gm_2_209 : Cond.methodLink "SkeletonClock$Row" (33 : Nat) ({ cls := "java/lang/Math", name := "min", desc := "(II)I" } : MethodName) ∈ GW := gw_2 (i := 209) rfl rfl
theorem gm_2_129 : Cond.static ({ cls := "java/lang/Math", name := "min", desc := "(II)I" } : MethodName) ∈ GW := gw_2 (i := 129) rfl rfl
theorem gm_1_11 : Cond.initialized "java/lang/Math" ∈ GW := gw_1 (i := 11) rfl rfl
theorem gm_2_130 : Cond.code ({ cls := "java/lang/Math", name := "min", desc := "(II)I" } : MethodName) prog_16_method_69_code (2 : Nat) (Option.some FieldType.int) ∈ GW := gw_2 (i := 130) rfl rfl
theorem gm_2_210 : Cond.methodLink "SkeletonClock$Row" (19 : Nat) ({ cls := "java/lang/Math", name := "max", desc := "(II)I" } : MethodName) ∈ GW := gw_2 (i := 210) rfl rfl
theorem gm_2_126 : Cond.static ({ cls := "java/lang/Math", name := "max", desc := "(II)I" } : MethodName) ∈ GW := gw_2 (i := 126) rfl rfl
theorem gm_2_127 : Cond.code ({ cls := "java/lang/Math", name := "max", desc := "(II)I" } : MethodName) prog_16_method_65_code (2 : Nat) (Option.some FieldType.int) ∈ GW := gw_2 (i := 127) rfl rfl
theorem d_Row_put_0 : decode b_Row_put 0 = .ok (.aload_n 0, 1) := by decide +kernel
theorem d_Row_put_1 : decode b_Row_put 1 = .ok (.getfield 9, 3) := by decide +kernel
theorem d_Row_put_4 : decode b_Row_put 4 = .ok (.aload_n 0, 1) := by decide +kernel
theorem d_Row_put_5 : decode b_Row_put 5 = .ok (.getfield 15, 3) := by decide +kernel
theorem d_Row_put_8 : decode b_Row_put 8 = .ok (.arraylength, 1) := by decide +kernel
theorem d_Row_put_9 : decode b_Row_put 9 = .ok (.if_icmp .lt 5, 3) := by decide +kernel
theorem d_Row_put_12 : decode b_Row_put 12 = .ok (.iconst 0, 1) := by decide +kernel
theorem d_Row_put_13 : decode b_Row_put 13 = .ok (.ireturn, 1) := by decide +kernel
theorem d_Row_put_14 : decode b_Row_put 14 = .ok (.aload_n 0, 1) := by decide +kernel
theorem d_Row_put_15 : decode b_Row_put 15 = .ok (.getfield 15, 3) := by decide +kernel
theorem d_Row_put_18 : decode b_Row_put 18 = .ok (.aload_n 0, 1) := by decide +kernel
theorem d_Row_put_19 : decode b_Row_put 19 = .ok (.getfield 9, 3) := by decide +kernel
theorem d_Row_put_22 : decode b_Row_put 22 = .ok (.iload_n 1, 1) := by decide +kernel
theorem d_Row_put_23 : decode b_Row_put 23 = .ok (.castore, 1) := by decide +kernel
theorem d_Row_put_24 : decode b_Row_put 24 = .ok (.aload_n 0, 1) := by decide +kernel
theorem d_Row_put_25 : decode b_Row_put 25 = .ok (.dup, 1) := by decide +kernel
theorem d_Row_put_26 : decode b_Row_put 26 = .ok (.getfield 9, 3) := by decide +kernel
theorem d_Row_put_29 : decode b_Row_put 29 = .ok (.iconst 1, 1) := by decide +kernel
theorem d_Row_put_30 : decode b_Row_put 30 = .ok (.iadd, 1) := by decide +kernel
theorem d_Row_put_31 : decode b_Row_put 31 = .ok (.putfield 9, 3) := by decide +kernel
theorem d_Row_put_34 : decode b_Row_put 34 = .ok (.iconst 1, 1) := by decide +kernel
theorem d_Row_put_35 : decode b_Row_put 35 = .ok (.ireturn, 1) := by decide +kernel
theorem d_Row_codeAt_0 : decode b_Row_codeAt 0 = .ok (.iload_n 1, 1) := by decide +kernel
theorem d_Row_codeAt_1 : decode b_Row_codeAt 1 = .ok (.ifCond .lt 20, 3) := by decide +kernel
theorem d_Row_codeAt_4 : decode b_Row_codeAt 4 = .ok (.iload_n 1, 1) := by decide +kernel
theorem d_Row_codeAt_5 : decode b_Row_codeAt 5 = .ok (.aload_n 0, 1) := by decide +kernel
theorem d_Row_codeAt_6 : decode b_Row_codeAt 6 = .ok (.getfield 9, 3) := by decide +kernel
theorem d_Row_codeAt_9 : decode b_Row_codeAt 9 = .ok (.if_icmp .ge 12, 3) := by decide +kernel
theorem d_Row_codeAt_12 : decode b_Row_codeAt 12 = .ok (.aload_n 0, 1) := by decide +kernel
theorem d_Row_codeAt_13 : decode b_Row_codeAt 13 = .ok (.getfield 15, 3) := by decide +kernel
theorem d_Row_codeAt_16 : decode b_Row_codeAt 16 = .ok (.iload_n 1, 1) := by decide +kernel
theorem d_Row_codeAt_17 : decode b_Row_codeAt 17 = .ok (.caload, 1) := by decide +kernel
theorem d_Row_codeAt_18 : decode b_Row_codeAt 18 = .ok (.goto 4, 3) := by decide +kernel
theorem d_Row_codeAt_21 : decode b_Row_codeAt 21 = .ok (.iconst (-1), 1) := by decide +kernel
theorem d_Row_codeAt_22 : decode b_Row_codeAt 22 = .ok (.ireturn, 1) := by decide +kernel
theorem d_Row_digits_0 : decode b_Row_digits 0 = .ok (.iconst 0, 1) := by decide +kernel
theorem d_Row_digits_1 : decode b_Row_digits 1 = .ok (.istore_n 3, 1) := by decide +kernel
theorem d_Row_digits_2 : decode b_Row_digits 2 = .ok (.iload_n 3, 1) := by decide +kernel
theorem d_Row_digits_3 : decode b_Row_digits 3 = .ok (.iload_n 2, 1) := by decide +kernel
theorem d_Row_digits_4 : decode b_Row_digits 4 = .ok (.if_icmp .ge 33, 3) := by decide +kernel
theorem d_Row_digits_7 : decode b_Row_digits 7 = .ok (.aload_n 0, 1) := by decide +kernel
theorem d_Row_digits_8 : decode b_Row_digits 8 = .ok (.iload_n 1, 1) := by decide +kernel
theorem d_Row_digits_9 : decode b_Row_digits 9 = .ok (.iload_n 3, 1) := by decide +kernel
theorem d_Row_digits_10 : decode b_Row_digits 10 = .ok (.iadd, 1) := by decide +kernel
theorem d_Row_digits_11 : decode b_Row_digits 11 = .ok (.invokevirtual 25, 3) := by decide +kernel
theorem d_Row_digits_14 : decode b_Row_digits 14 = .ok (.bipush 48, 2) := by decide +kernel
theorem d_Row_digits_16 : decode b_Row_digits 16 = .ok (.if_icmp .lt 21, 3) := by decide +kernel
theorem d_Row_digits_19 : decode b_Row_digits 19 = .ok (.aload_n 0, 1) := by decide +kernel
theorem d_Row_digits_20 : decode b_Row_digits 20 = .ok (.iload_n 1, 1) := by decide +kernel
theorem d_Row_digits_21 : decode b_Row_digits 21 = .ok (.iload_n 3, 1) := by decide +kernel
theorem d_Row_digits_22 : decode b_Row_digits 22 = .ok (.iadd, 1) := by decide +kernel
theorem d_Row_digits_23 : decode b_Row_digits 23 = .ok (.invokevirtual 25, 3) := by decide +kernel
theorem d_Row_digits_26 : decode b_Row_digits 26 = .ok (.bipush 57, 2) := by decide +kernel
theorem d_Row_digits_28 : decode b_Row_digits 28 = .ok (.if_icmp .gt 9, 3) := by decide +kernel
theorem d_Row_digits_31 : decode b_Row_digits 31 = .ok (.iinc 3 1, 3) := by decide +kernel
theorem d_Row_digits_34 : decode b_Row_digits 34 = .ok (.goto (-32), 3) := by decide +kernel
theorem d_Row_digits_37 : decode b_Row_digits 37 = .ok (.iload_n 3, 1) := by decide +kernel
theorem d_Row_digits_38 : decode b_Row_digits 38 = .ok (.ireturn, 1) := by decide +kernel
theorem d_Row_shorten_0 : decode b_Row_shorten 0 = .ok (.aload_n 0, 1) := by decide +kernel
theorem d_Row_shorten_1 : decode b_Row_shorten 1 = .ok (.iconst 0, 1) := by decide +kernel
theorem d_Row_shorten_2 : decode b_Row_shorten 2 = .ok (.aload_n 0, 1) := by decide +kernel
theorem d_Row_shorten_3 : decode b_Row_shorten 3 = .ok (.getfield 9, 3) := by decide +kernel
theorem d_Row_shorten_6 : decode b_Row_shorten 6 = .ok (.iload_n 1, 1) := by decide +kernel
theorem d_Row_shorten_7 : decode b_Row_shorten 7 = .ok (.invokestatic 33, 3) := by decide +kernel
theorem d_Row_shorten_10 : decode b_Row_shorten 10 = .ok (.invokestatic 19, 3) := by decide +kernel
theorem d_Row_shorten_13 : decode b_Row_shorten 13 = .ok (.putfield 9, 3) := by decide +kernel
theorem d_Row_shorten_16 : decode b_Row_shorten 16 = .ok (.return_, 1) := by decide +kernel
theorem d_Row_runLength_0 : decode b_Row_runLength 0 = .ok (.iload_n 1, 1) := by decide +kernel
theorem d_Row_runLength_1 : decode b_Row_runLength 1 = .ok (.istore_n 2, 1) := by decide +kernel
theorem d_Row_runLength_2 : decode b_Row_runLength 2 = .ok (.iload_n 2, 1) := by decide +kernel
theorem d_Row_runLength_3 : decode b_Row_runLength 3 = .ok (.aload_n 0, 1) := by decide +kernel
theorem d_Row_runLength_4 : decode b_Row_runLength 4 = .ok (.getfield 9, 3) := by decide +kernel
theorem d_Row_runLength_7 : decode b_Row_runLength 7 = .ok (.if_icmp .ge 22, 3) := by decide +kernel
theorem d_Row_runLength_10 : decode b_Row_runLength 10 = .ok (.aload_n 0, 1) := by decide +kernel
theorem d_Row_runLength_11 : decode b_Row_runLength 11 = .ok (.iload_n 2, 1) := by decide +kernel
theorem d_Row_runLength_12 : decode b_Row_runLength 12 = .ok (.invokevirtual 25, 3) := by decide +kernel
theorem d_Row_runLength_15 : decode b_Row_runLength 15 = .ok (.aload_n 0, 1) := by decide +kernel
theorem d_Row_runLength_16 : decode b_Row_runLength 16 = .ok (.iload_n 1, 1) := by decide +kernel
theorem d_Row_runLength_17 : decode b_Row_runLength 17 = .ok (.invokevirtual 25, 3) := by decide +kernel
theorem d_Row_runLength_20 : decode b_Row_runLength 20 = .ok (.if_icmp .ne 9, 3) := by decide +kernel
theorem d_Row_runLength_23 : decode b_Row_runLength 23 = .ok (.iinc 2 1, 3) := by decide +kernel
theorem d_Row_runLength_26 : decode b_Row_runLength 26 = .ok (.goto (-24), 3) := by decide +kernel
theorem d_Row_runLength_29 : decode b_Row_runLength 29 = .ok (.iload_n 2, 1) := by decide +kernel
theorem d_Row_runLength_30 : decode b_Row_runLength 30 = .ok (.iload_n 1, 1) := by decide +kernel
theorem d_Row_runLength_31 : decode b_Row_runLength 31 = .ok (.isub, 1) := by decide +kernel
theorem d_Row_runLength_32 : decode b_Row_runLength 32 = .ok (.ireturn, 1) := by decide +kernel
def f_Row_put (n_t_cells : Nat) (t_size : Int32) (t_cells : Nat → Int32) (x1 : Int32) : Option (Int32 × Int32 × (Nat → Int32)) :=
  (if t_size < (Int32.ofNat n_t_cells) then (if ¬ (t_size < 0 ∨ n_t_cells ≤ (t_size).toNatClampNeg) then (some ((1 : Int32), (t_size + (1 : Int32)), (upd t_cells (t_size).toNatClampNeg (vp_nar .char x1)))) else none) else (some ((0 : Int32), t_size, t_cells)))
abbrev rm_Row_put : Room := { frames := 0, cells := 0, slots := 0, locals := 0 }
set_option maxHeartbeats 4000000 in
set_option maxRecDepth 100000 in
theorem c_Row_put (l : Launch) (D : va_G) (kk : Nat → ClassId) (st : Nat → Nat) (a_t a_t_cells : Nat) (sz : Nat) (n_t_cells : Nat) (t_size : Int32) (t_cells : Nat → Int32) (x1 : Int32) (o : Int32 × Int32 × (Nat → Int32)) (he : f_Row_put n_t_cells t_size t_cells x1 = some o) : Met l y_Row_put (Cond.code y_Row_put b_Row_put 2 (some .boolean) :: GW) rm_Row_put (KPc D kk st [.ref a_t, .int x1] [(a_t, .inr (1, [.ref a_t_cells, .int t_size])), (a_t_cells, .inl (kk 1, n_t_cells, .inl t_cells))] sz) (KQi D kk o.1 [(a_t, .inr (1, [.ref a_t_cells, .int o.2.1])), (a_t_cells, .inl (kk 1, n_t_cells, .inl o.2.2))] (va_A [(a_t, .inr (1, [.ref a_t_cells, .int t_size])), (a_t_cells, .inl (kk 1, n_t_cells, .inl t_cells))] sz)) 0 0 (va_A [(a_t, .inr (1, [.ref a_t_cells, .int t_size])), (a_t_cells, .inl (kk 1, n_t_cells, .inl t_cells))] sz) := by
  refine k_start (Qc := fun A => KQi D kk o.1 [(a_t, .inr (1, [.ref a_t_cells, .int o.2.1])), (a_t_cells, .inl (kk 1, n_t_cells, .inl o.2.2))] A) (by decide) (Nat.le_of_ble_eq_true rfl) ?_
  intro p e s m below meth c A ls S hnm hr hlk hA X hP hD hS hl
  have hl : lv_has ls 2 [(0, .ref a_t), (1, .int x1)] := hl
  have hx := S.1
  have hb := S.2.1
  unfold f_Row_put at he
  refine lv_aload_n hx hb d_Row_put_0 rfl (lv_at hl 0 rfl) ?_
  refine k_get S X us_Row hP 0 rfl rfl 1 (by decide) gm_1_35 rfl d_Row_put_1 ?_
  refine lv_aload_n hx hb d_Row_put_4 rfl (lv_at hl 0 rfl) ?_
  refine k_get S X us_Row hP 0 rfl rfl 0 (by decide) gm_1_34 rfl d_Row_put_5 ?_
  refine va_alen (v := (Int32.ofNat n_t_cells)) hx hb X.1 hP 1 1 rfl rfl rfl d_Row_put_8 ?_
  refine lv_icmp_lt (tgt := 14) hx hb d_Row_put_9 rfl (fun hc => ?_) (fun hc => ?_)
  · have he := ih_t hc he
    refine lv_aload_n hx hb d_Row_put_14 rfl (lv_at hl 0 rfl) ?_
    refine k_get S X us_Row hP 0 rfl rfl 0 (by decide) gm_1_34 rfl d_Row_put_15 ?_
    refine lv_aload_n hx hb d_Row_put_18 rfl (lv_at hl 0 rfl) ?_
    refine k_get S X us_Row hP 0 rfl rfl 1 (by decide) gm_1_35 rfl d_Row_put_19 ?_
    refine lv_iload_n hx hb d_Row_put_22 rfl (lv_at hl 1 rfl) ?_
    obtain ⟨hi1, he⟩ := ih_g he
    refine va_cast hx hb X.1 hP hD hS 1 1 rfl rfl hi1 d_Row_put_23 (fun H locs hP hD hS => ?_)
    have hP : va_P D classes [(a_t, .inr (1, [.ref a_t_cells, .int t_size])), (a_t_cells, .inl (kk 1, n_t_cells, .inl (upd t_cells (t_size).toNatClampNeg (vp_nar .char x1))))] H := hP
    have hD : va_D A [(a_t, .inr (1, [.ref a_t_cells, .int t_size])), (a_t_cells, .inl (kk 1, n_t_cells, .inl (upd t_cells (t_size).toNatClampNeg (vp_nar .char x1))))] := hD
    refine lv_aload_n hx hb d_Row_put_24 rfl (lv_at hl 0 rfl) ?_
    refine lv_dup hx hb d_Row_put_25 rfl ?_
    refine k_get S X us_Row hP 0 rfl rfl 1 (by decide) gm_1_35 rfl d_Row_put_26 ?_
    refine lv_iconst (v := (1 : Int32)) hx hb d_Row_put_29 (by decide) ?_
    refine lv_iadd hx hb d_Row_put_30 ?_
    refine k_put S X us_Row t_Row t_Row_ok n_Row hP hD hS 0 rfl rfl 1 (by decide) gm_1_35 rfl rfl rfl (Nat.le_of_ble_eq_true rfl) d_Row_put_31 (fun H locs hP hD hS => ?_)
    have hP : va_P D classes [(a_t, .inr (1, [.ref a_t_cells, .int (t_size + (1 : Int32))])), (a_t_cells, .inl (kk 1, n_t_cells, .inl (upd t_cells (t_size).toNatClampNeg (vp_nar .char x1))))] H := hP
    have hD : va_D A [(a_t, .inr (1, [.ref a_t_cells, .int (t_size + (1 : Int32))])), (a_t_cells, .inl (kk 1, n_t_cells, .inl (upd t_cells (t_size).toNatClampNeg (vp_nar .char x1))))] := hD
    refine lv_iconst (v := (1 : Int32)) hx hb d_Row_put_34 (by decide) ?_
    cases he
    exact k_zre hx hb hr hlk X hP hD hS (Or.inr rfl) d_Row_put_35
  · have he := ih_f hc he
    refine lv_iconst (v := (0 : Int32)) hx hb d_Row_put_12 (by decide) ?_
    cases he
    exact k_zre hx hb hr hlk X hP hD hS (Or.inl rfl) d_Row_put_13
def f_Row_codeAt (n_t_cells : Nat) (t_size : Int32) (t_cells : Nat → Int32) (x1 : Int32) : Option (Int32) :=
  (if x1 < 0 then (some (-1 : Int32)) else (if t_size ≤ x1 then (some (-1 : Int32)) else (if ¬ (x1 < 0 ∨ n_t_cells ≤ (x1).toNatClampNeg) then (some (t_cells (x1).toNatClampNeg)) else none)))
abbrev rm_Row_codeAt : Room := { frames := 0, cells := 0, slots := 0, locals := 0 }
set_option maxHeartbeats 4000000 in
set_option maxRecDepth 100000 in
theorem c_Row_codeAt (l : Launch) (D : va_G) (kk : Nat → ClassId) (st : Nat → Nat) (a_t a_t_cells : Nat) (sz : Nat) (n_t_cells : Nat) (t_size : Int32) (t_cells : Nat → Int32) (x1 : Int32) (o : Int32) (he : f_Row_codeAt n_t_cells t_size t_cells x1 = some o) : Met l y_Row_codeAt (Cond.code y_Row_codeAt b_Row_codeAt 2 (some .int) :: GW) rm_Row_codeAt (KPc D kk st [.ref a_t, .int x1] [(a_t, .inr (1, [.ref a_t_cells, .int t_size])), (a_t_cells, .inl (kk 1, n_t_cells, .inl t_cells))] sz) (KQi D kk o [(a_t, .inr (1, [.ref a_t_cells, .int t_size])), (a_t_cells, .inl (kk 1, n_t_cells, .inl t_cells))] (va_A [(a_t, .inr (1, [.ref a_t_cells, .int t_size])), (a_t_cells, .inl (kk 1, n_t_cells, .inl t_cells))] sz)) 0 0 (va_A [(a_t, .inr (1, [.ref a_t_cells, .int t_size])), (a_t_cells, .inl (kk 1, n_t_cells, .inl t_cells))] sz) := by
  refine k_start (Qc := fun A => KQi D kk o [(a_t, .inr (1, [.ref a_t_cells, .int t_size])), (a_t_cells, .inl (kk 1, n_t_cells, .inl t_cells))] A) (by decide) (Nat.le_of_ble_eq_true rfl) ?_
  intro p e s m below meth c A ls S hnm hr hlk hA X hP hD hS hl
  have hl : lv_has ls 2 [(0, .ref a_t), (1, .int x1)] := hl
  have hx := S.1
  have hb := S.2.1
  unfold f_Row_codeAt at he
  refine lv_iload_n hx hb d_Row_codeAt_0 rfl (lv_at hl 1 rfl) ?_
  refine lv_if_lt (tgt := 21) hx hb d_Row_codeAt_1 rfl (fun hc => ?_) (fun hc => ?_)
  · have he := ih_t hc he
    refine lv_iconst (v := (-1 : Int32)) hx hb d_Row_codeAt_21 (by decide) ?_
    cases he
    exact k_ire hx hb hr hlk X hP hD hS d_Row_codeAt_22
  · have he := ih_f hc he
    refine lv_iload_n hx hb d_Row_codeAt_4 rfl (lv_at hl 1 rfl) ?_
    refine lv_aload_n hx hb d_Row_codeAt_5 rfl (lv_at hl 0 rfl) ?_
    refine k_get S X us_Row hP 0 rfl rfl 1 (by decide) gm_1_35 rfl d_Row_codeAt_6 ?_
    refine lv_icmp_ge (tgt := 21) hx hb d_Row_codeAt_9 rfl (fun hc => ?_) (fun hc => ?_)
    · have he := ih_t hc he
      refine lv_iconst (v := (-1 : Int32)) hx hb d_Row_codeAt_21 (by decide) ?_
      cases he
      exact k_ire hx hb hr hlk X hP hD hS d_Row_codeAt_22
    · have he := ih_f hc he
      refine lv_aload_n hx hb d_Row_codeAt_12 rfl (lv_at hl 0 rfl) ?_
      refine k_get S X us_Row hP 0 rfl rfl 0 (by decide) gm_1_34 rfl d_Row_codeAt_13 ?_
      refine lv_iload_n hx hb d_Row_codeAt_16 rfl (lv_at hl 1 rfl) ?_
      obtain ⟨hi1, he⟩ := ih_g he
      refine va_cald hx hb X.1 hP 1 1 rfl rfl hi1 d_Row_codeAt_17 ?_
      refine lv_goto (tgt := 22) hx hb d_Row_codeAt_18 rfl ?_
      cases he
      exact k_ire hx hb hr hlk X hP hD hS d_Row_codeAt_22
def st_Row_digits_2 (n_t_cells : Nat) (t_size : Int32) (t_cells : Nat → Int32) (x1 : Int32) (x2 : Int32) (rec : Int32 → Option (Int32)) (x3 : Int32) : Option (Int32) :=
  (if x2 ≤ x3 then (some x3) else ((f_Row_codeAt n_t_cells t_size t_cells (x1 + x3)).bind fun u1 => (if u1 < (48 : Int32) then (some x3) else ((f_Row_codeAt n_t_cells t_size t_cells (x1 + x3)).bind fun u3 => (if (57 : Int32) < u3 then (some x3) else (rec (x3 + (1 : Int32))))))))
def lp_Row_digits_2 (n_t_cells : Nat) (t_size : Int32) (t_cells : Nat → Int32) (x1 : Int32) (x2 : Int32) : Nat → Int32 → Option (Int32)
  | 0, _ => none
  | n + 1, a0 => st_Row_digits_2 n_t_cells t_size t_cells x1 x2 (lp_Row_digits_2 n_t_cells t_size t_cells x1 x2 n) a0
def f_Row_digits (n_t_cells : Nat) (t_size : Int32) (t_cells : Nat → Int32) (x1 : Int32) (x2 : Int32) : Option (Int32) :=
  ((lp_Row_digits_2 n_t_cells t_size t_cells x1 x2 FU (0 : Int32)).bind fun u5 => (some u5))
abbrev rm_Row_digits : Room := { frames := 1, cells := 0, slots := 0, locals := 21 }
set_option maxHeartbeats 4000000 in
set_option maxRecDepth 100000 in
theorem w_Row_digits_2 {p : Program} {l : Launch} {e : Env} {s : State} {m : MethodId} {args : Array Value} {below : List Frame} {meth : Method} {c : Code} {Q : State → Prop} {A : Nat → Prop} {D : va_G} {kk : Nat → ClassId} {st : Nat → Nat} (a_t a_t_cells : Nat) (n_t_cells : Nat) (t_size : Int32) (t_cells : Nat → Int32) (x1 : Int32) (x2 : Int32) (S : CallFix p m c b_Row_digits 4 s args GW y_Row_digits.cls) (hr : meth.sig.returnType = (some .int)) (hlk : meth.locks = false) (hA : ∀ q, s.heap.size ≤ q → A q) (X : KX D kk st A s) : ∀ (n : Nat) (x3 : Int32) (v : Int32) (H : Heap) (locs : List Loc) (ls : Array Slot), lp_Row_digits_2 n_t_cells t_size t_cells x1 x2 n x3 = some v → lv_has ls 4 [(0, .ref a_t), (1, .int x1), (2, .int x2), (3, .int x3)] → va_P D classes [(a_t, .inr (1, [.ref a_t_cells, .int t_size])), (a_t_cells, .inl (kk 1, n_t_cells, .inl t_cells))] H → va_D A [(a_t, .inr (1, [.ref a_t_cells, .int t_size])), (a_t_cells, .inl (kk 1, n_t_cells, .inl t_cells))] → va_S A s.heap H locs → (∀ (H : Heap) (locs : List Loc) (ls : Array Slot), lv_has ls 4 [(0, .ref a_t), (1, .int x1), (2, .int x2), (3, .int v)] → va_P D classes [(a_t, .inr (1, [.ref a_t_cells, .int t_size])), (a_t_cells, .inl (kk 1, n_t_cells, .inl t_cells))] H → va_D A [(a_t, .inr (1, [.ref a_t_cells, .int t_size])), (a_t_cells, .inl (kk 1, n_t_cells, .inl t_cells))] → va_S A s.heap H locs → W p l e rm_Row_digits s m args below meth c H locs 0 0 Q (F0 m 37 ls [])) → W p l e rm_Row_digits s m args below meth c H locs 0 0 Q (F0 m 2 ls []) := by
  intro n
  induction n with
  | zero =>
    intro x3 v H locs ls he hl hP hD hS K
    exact ih_n he
  | succ n ih =>
    intro x3 v H locs ls he hl hP hD hS K
    have hx := S.1
    have hb := S.2.1
    have he : st_Row_digits_2 n_t_cells t_size t_cells x1 x2 (lp_Row_digits_2 n_t_cells t_size t_cells x1 x2 n) x3 = some v := he
    unfold st_Row_digits_2 at he
    refine lv_iload_n hx hb d_Row_digits_2 rfl (lv_at hl 3 rfl) ?_
    refine lv_iload_n hx hb d_Row_digits_3 rfl (lv_at hl 2 rfl) ?_
    refine lv_icmp_ge (tgt := 37) hx hb d_Row_digits_4 rfl (fun hc => ?_) (fun hc => ?_)
    · have he := ih_t hc he
      have hl : lv_has ls 4 [(0, .ref a_t), (1, .int x1), (2, .int x2), (3, .int x3)] := lv_sub hl [0, 1, 2, 3] rfl
      cases he
      exact K _ _ _ hl hP hD hS
    · have he := ih_f hc he
      refine lv_aload_n hx hb d_Row_digits_7 rfl (lv_at hl 0 rfl) ?_
      refine lv_iload_n hx hb d_Row_digits_8 rfl (lv_at hl 1 rfl) ?_
      refine lv_iload_n hx hb d_Row_digits_9 rfl (lv_at hl 3 rfl) ?_
      refine lv_iadd hx hb d_Row_digits_10 ?_
      obtain ⟨u1, e2, he⟩ := ih_b he
      refine k_io (r_V (As := [.int (x1 + x3)]) S X hA hP hD hS (c_Row_codeAt l D kk st a_t a_t_cells _ n_t_cells t_size t_cells (x1 + x3) u1 e2) gm_2_76 gm_2_187 gm_2_74 gm_2_75 gm_1_2 ⟨rfl, rfl, by decide, by decide⟩ kd_Row_codeAt [0, 1] rfl rfl rfl 0 1 rfl rfl rfl rfl hl.1 rfl (Nat.le_of_ble_eq_true rfl) d_Row_digits_11 ⟨Nat.zero_le _, Nat.zero_le _⟩) hA hP hD hS [0, 1] rfl (fun H locs hP hS => ?_)
      refine lv_bipush (v := (48 : Int32)) hx hb d_Row_digits_14 (by decide) ?_
      refine lv_icmp_lt (tgt := 37) hx hb d_Row_digits_16 rfl (fun hc => ?_) (fun hc => ?_)
      · have he := ih_t hc he
        have hl : lv_has ls 4 [(0, .ref a_t), (1, .int x1), (2, .int x2), (3, .int x3)] := lv_sub hl [0, 1, 2, 3] rfl
        cases he
        exact K _ _ _ hl hP hD hS
      · have he := ih_f hc he
        refine lv_aload_n hx hb d_Row_digits_19 rfl (lv_at hl 0 rfl) ?_
        refine lv_iload_n hx hb d_Row_digits_20 rfl (lv_at hl 1 rfl) ?_
        refine lv_iload_n hx hb d_Row_digits_21 rfl (lv_at hl 3 rfl) ?_
        refine lv_iadd hx hb d_Row_digits_22 ?_
        obtain ⟨u3, e4, he⟩ := ih_b he
        refine k_io (r_V (As := [.int (x1 + x3)]) S X hA hP hD hS (c_Row_codeAt l D kk st a_t a_t_cells _ n_t_cells t_size t_cells (x1 + x3) u3 e4) gm_2_76 gm_2_187 gm_2_74 gm_2_75 gm_1_2 ⟨rfl, rfl, by decide, by decide⟩ kd_Row_codeAt [0, 1] rfl rfl rfl 0 1 rfl rfl rfl rfl hl.1 rfl (Nat.le_of_ble_eq_true rfl) d_Row_digits_23 ⟨Nat.zero_le _, Nat.zero_le _⟩) hA hP hD hS [0, 1] rfl (fun H locs hP hS => ?_)
        refine lv_bipush (v := (57 : Int32)) hx hb d_Row_digits_26 (by decide) ?_
        refine lv_icmp_gt (tgt := 37) hx hb d_Row_digits_28 rfl (fun hc => ?_) (fun hc => ?_)
        · have he := ih_t hc he
          have hl : lv_has ls 4 [(0, .ref a_t), (1, .int x1), (2, .int x2), (3, .int x3)] := lv_sub hl [0, 1, 2, 3] rfl
          cases he
          exact K _ _ _ hl hP hD hS
        · have he := ih_f hc he
          refine lv_iinc (k := 3) hx hb d_Row_digits_31 hl rfl (ii_ (v := (1 : Int32)) (by decide)) (by decide) rfl (fun ls hl => ?_)
          have hl : lv_has ls 4 [(3, .int (x3 + (1 : Int32))), (0, .ref a_t), (1, .int x1), (2, .int x2)] := hl
          refine lv_goto (tgt := 2) hx hb d_Row_digits_34 rfl ?_
          have hl : lv_has ls 4 [(0, .ref a_t), (1, .int x1), (2, .int x2), (3, .int (x3 + (1 : Int32)))] := lv_sub hl [1, 2, 3, 0] rfl
          exact ih _ _ _ _ _ he hl hP hD hS K
set_option maxHeartbeats 4000000 in
set_option maxRecDepth 100000 in
theorem c_Row_digits (l : Launch) (D : va_G) (kk : Nat → ClassId) (st : Nat → Nat) (a_t a_t_cells : Nat) (sz : Nat) (n_t_cells : Nat) (t_size : Int32) (t_cells : Nat → Int32) (x1 : Int32) (x2 : Int32) (o : Int32) (he : f_Row_digits n_t_cells t_size t_cells x1 x2 = some o) : Met l y_Row_digits (Cond.code y_Row_digits b_Row_digits 4 (some .int) :: GW) rm_Row_digits (KPc D kk st [.ref a_t, .int x1, .int x2] [(a_t, .inr (1, [.ref a_t_cells, .int t_size])), (a_t_cells, .inl (kk 1, n_t_cells, .inl t_cells))] sz) (KQi D kk o [(a_t, .inr (1, [.ref a_t_cells, .int t_size])), (a_t_cells, .inl (kk 1, n_t_cells, .inl t_cells))] (va_A [(a_t, .inr (1, [.ref a_t_cells, .int t_size])), (a_t_cells, .inl (kk 1, n_t_cells, .inl t_cells))] sz)) 0 0 (va_A [(a_t, .inr (1, [.ref a_t_cells, .int t_size])), (a_t_cells, .inl (kk 1, n_t_cells, .inl t_cells))] sz) := by
  refine k_start (Qc := fun A => KQi D kk o [(a_t, .inr (1, [.ref a_t_cells, .int t_size])), (a_t_cells, .inl (kk 1, n_t_cells, .inl t_cells))] A) (by decide) (Nat.le_of_ble_eq_true rfl) ?_
  intro p e s m below meth c A ls S hnm hr hlk hA X hP hD hS hl
  have hl : lv_has ls 4 [(0, .ref a_t), (1, .int x1), (2, .int x2)] := hl
  have hx := S.1
  have hb := S.2.1
  unfold f_Row_digits at he
  refine lv_iconst (v := (0 : Int32)) hx hb d_Row_digits_0 (by decide) ?_
  refine lv_istore_n hx hb d_Row_digits_1 rfl hl (by decide) rfl (fun ls hl => ?_)
  have hl : lv_has ls 4 [(3, .int (0 : Int32)), (0, .ref a_t), (1, .int x1), (2, .int x2)] := hl
  obtain ⟨u5, e6, he⟩ := ih_b he
  have hl : lv_has ls 4 [(0, .ref a_t), (1, .int x1), (2, .int x2), (3, .int (0 : Int32))] := lv_sub hl [1, 2, 3, 0] rfl
  refine w_Row_digits_2 a_t a_t_cells n_t_cells t_size t_cells x1 x2 S hr hlk hA X FU (0 : Int32) u5 _ _ ls e6 hl hP hD hS (fun H locs ls hl hP hD hS => ?_)
  refine lv_iload_n hx hb d_Row_digits_37 rfl (lv_at hl 3 rfl) ?_
  cases he
  exact k_ire hx hb hr hlk X hP hD hS d_Row_digits_38
def f_Row_shorten (t_size : Int32) (x1 : Int32) : Option (Int32) :=
  (some (if (0 : Int32) < (if x1 < t_size then x1 else t_size) then (if x1 < t_size then x1 else t_size) else (0 : Int32)))
abbrev rm_Row_shorten : Room := { frames := 1, cells := 0, slots := 0, locals := 21 }
set_option maxHeartbeats 4000000 in
set_option maxRecDepth 100000 in
theorem c_Row_shorten (l : Launch) (D : va_G) (kk : Nat → ClassId) (st : Nat → Nat) (a_t a_t_cells : Nat) (sz : Nat) (t_size : Int32) (x1 : Int32) (o : Int32) (he : f_Row_shorten t_size x1 = some o) : Met l y_Row_shorten (Cond.code y_Row_shorten b_Row_shorten 2 none :: GW) rm_Row_shorten (KPc D kk st [.ref a_t, .int x1] [(a_t, .inr (1, [.ref a_t_cells, .int t_size]))] sz) (KQv D kk [(a_t, .inr (1, [.ref a_t_cells, .int o]))] (va_A [(a_t, .inr (1, [.ref a_t_cells, .int t_size]))] sz)) 0 0 (va_A [(a_t, .inr (1, [.ref a_t_cells, .int t_size]))] sz) := by
  refine k_start (Qc := fun A => KQv D kk [(a_t, .inr (1, [.ref a_t_cells, .int o]))] A) (by decide) (Nat.le_of_ble_eq_true rfl) ?_
  intro p e s m below meth c A ls S hnm hr hlk hA X hP hD hS hl
  have hl : lv_has ls 2 [(0, .ref a_t), (1, .int x1)] := hl
  have hx := S.1
  have hb := S.2.1
  unfold f_Row_shorten at he
  refine lv_aload_n hx hb d_Row_shorten_0 rfl (lv_at hl 0 rfl) ?_
  refine lv_iconst (v := (0 : Int32)) hx hb d_Row_shorten_1 (by decide) ?_
  refine lv_aload_n hx hb d_Row_shorten_2 rfl (lv_at hl 0 rfl) ?_
  refine k_get S X us_Row hP 0 rfl rfl 1 (by decide) gm_1_35 rfl d_Row_shorten_3 ?_
  refine lv_iload_n hx hb d_Row_shorten_6 rfl (lv_at hl 1 rfl) ?_
  refine va_mmin hx hb (by rw [S.2.2.1]; exact hl.1.symm) S.2.2.2.1 (S.2.2.2.2 _ gm_2_209) (S.2.2.2.2 _ gm_2_129) (S.2.2.2.2 _ gm_1_11) (S.2.2.2.2 _ gm_2_130) (by decide) (Nat.le_of_ble_eq_true rfl) (Nat.zero_le _) (Nat.zero_le _) d_Row_shorten_7 ?_
  refine va_mmax hx hb (by rw [S.2.2.1]; exact hl.1.symm) S.2.2.2.1 (S.2.2.2.2 _ gm_2_210) (S.2.2.2.2 _ gm_2_126) (S.2.2.2.2 _ gm_1_11) (S.2.2.2.2 _ gm_2_127) (by decide) (Nat.le_of_ble_eq_true rfl) (Nat.zero_le _) (Nat.zero_le _) d_Row_shorten_10 ?_
  refine k_put S X us_Row t_Row t_Row_ok n_Row hP hD hS 0 rfl rfl 1 (by decide) gm_1_35 rfl rfl rfl (Nat.le_of_ble_eq_true rfl) d_Row_shorten_13 (fun H locs hP hD hS => ?_)
  have hP : va_P D classes [(a_t, .inr (1, [.ref a_t_cells, .int (if (0 : Int32) < (if x1 < t_size then x1 else t_size) then (if x1 < t_size then x1 else t_size) else (0 : Int32))]))] H := hP
  have hD : va_D A [(a_t, .inr (1, [.ref a_t_cells, .int (if (0 : Int32) < (if x1 < t_size then x1 else t_size) then (if x1 < t_size then x1 else t_size) else (0 : Int32))]))] := hD
  cases he
  exact k_vre hx hb hr hlk X hP hD hS d_Row_shorten_16
def st_Row_runLength_2 (n_t_cells : Nat) (t_size : Int32) (t_cells : Nat → Int32) (x1 : Int32) (rec : Int32 → Option (Int32)) (x2 : Int32) : Option (Int32) :=
  (if t_size ≤ x2 then (some x2) else ((f_Row_codeAt n_t_cells t_size t_cells x2).bind fun u1 => ((f_Row_codeAt n_t_cells t_size t_cells x1).bind fun u3 => (if u1 = u3 then (rec (x2 + (1 : Int32))) else (some x2)))))
def lp_Row_runLength_2 (n_t_cells : Nat) (t_size : Int32) (t_cells : Nat → Int32) (x1 : Int32) : Nat → Int32 → Option (Int32)
  | 0, _ => none
  | n + 1, a0 => st_Row_runLength_2 n_t_cells t_size t_cells x1 (lp_Row_runLength_2 n_t_cells t_size t_cells x1 n) a0
def f_Row_runLength (n_t_cells : Nat) (t_size : Int32) (t_cells : Nat → Int32) (x1 : Int32) : Option (Int32) :=
  ((lp_Row_runLength_2 n_t_cells t_size t_cells x1 FU x1).bind fun u5 => (some (u5 - x1)))
abbrev rm_Row_runLength : Room := { frames := 1, cells := 0, slots := 0, locals := 21 }
set_option maxHeartbeats 4000000 in
set_option maxRecDepth 100000 in
theorem w_Row_runLength_2 {p : Program} {l : Launch} {e : Env} {s : State} {m : MethodId} {args : Array Value} {below : List Frame} {meth : Method} {c : Code} {Q : State → Prop} {A : Nat → Prop} {D : va_G} {kk : Nat → ClassId} {st : Nat → Nat} (a_t a_t_cells : Nat) (n_t_cells : Nat) (t_size : Int32) (t_cells : Nat → Int32) (x1 : Int32) (S : CallFix p m c b_Row_runLength 3 s args GW y_Row_runLength.cls) (hr : meth.sig.returnType = (some .int)) (hlk : meth.locks = false) (hA : ∀ q, s.heap.size ≤ q → A q) (X : KX D kk st A s) : ∀ (n : Nat) (x2 : Int32) (v : Int32) (H : Heap) (locs : List Loc) (ls : Array Slot), lp_Row_runLength_2 n_t_cells t_size t_cells x1 n x2 = some v → lv_has ls 3 [(0, .ref a_t), (1, .int x1), (2, .int x2)] → va_P D classes [(a_t, .inr (1, [.ref a_t_cells, .int t_size])), (a_t_cells, .inl (kk 1, n_t_cells, .inl t_cells))] H → va_D A [(a_t, .inr (1, [.ref a_t_cells, .int t_size])), (a_t_cells, .inl (kk 1, n_t_cells, .inl t_cells))] → va_S A s.heap H locs → (∀ (H : Heap) (locs : List Loc) (ls : Array Slot), lv_has ls 3 [(0, .ref a_t), (1, .int x1), (2, .int v)] → va_P D classes [(a_t, .inr (1, [.ref a_t_cells, .int t_size])), (a_t_cells, .inl (kk 1, n_t_cells, .inl t_cells))] H → va_D A [(a_t, .inr (1, [.ref a_t_cells, .int t_size])), (a_t_cells, .inl (kk 1, n_t_cells, .inl t_cells))] → va_S A s.heap H locs → W p l e rm_Row_runLength s m args below meth c H locs 0 0 Q (F0 m 29 ls [])) → W p l e rm_Row_runLength s m args below meth c H locs 0 0 Q (F0 m 2 ls []) := by
  intro n
  induction n with
  | zero =>
    intro x2 v H locs ls he hl hP hD hS K
    exact ih_n he
  | succ n ih =>
    intro x2 v H locs ls he hl hP hD hS K
    have hx := S.1
    have hb := S.2.1
    have he : st_Row_runLength_2 n_t_cells t_size t_cells x1 (lp_Row_runLength_2 n_t_cells t_size t_cells x1 n) x2 = some v := he
    unfold st_Row_runLength_2 at he
    refine lv_iload_n hx hb d_Row_runLength_2 rfl (lv_at hl 2 rfl) ?_
    refine lv_aload_n hx hb d_Row_runLength_3 rfl (lv_at hl 0 rfl) ?_
    refine k_get S X us_Row hP 0 rfl rfl 1 (by decide) gm_1_35 rfl d_Row_runLength_4 ?_
    refine lv_icmp_ge (tgt := 29) hx hb d_Row_runLength_7 rfl (fun hc => ?_) (fun hc => ?_)
    · have he := ih_t hc he
      have hl : lv_has ls 3 [(0, .ref a_t), (1, .int x1), (2, .int x2)] := lv_sub hl [0, 1, 2] rfl
      cases he
      exact K _ _ _ hl hP hD hS
    · have he := ih_f hc he
      refine lv_aload_n hx hb d_Row_runLength_10 rfl (lv_at hl 0 rfl) ?_
      refine lv_iload_n hx hb d_Row_runLength_11 rfl (lv_at hl 2 rfl) ?_
      obtain ⟨u1, e2, he⟩ := ih_b he
      refine k_io (r_V (As := [.int x2]) S X hA hP hD hS (c_Row_codeAt l D kk st a_t a_t_cells _ n_t_cells t_size t_cells x2 u1 e2) gm_2_76 gm_2_187 gm_2_74 gm_2_75 gm_1_2 ⟨rfl, rfl, by decide, by decide⟩ kd_Row_codeAt [0, 1] rfl rfl rfl 0 1 rfl rfl rfl rfl hl.1 rfl (Nat.le_of_ble_eq_true rfl) d_Row_runLength_12 ⟨Nat.zero_le _, Nat.zero_le _⟩) hA hP hD hS [0, 1] rfl (fun H locs hP hS => ?_)
      refine lv_aload_n hx hb d_Row_runLength_15 rfl (lv_at hl 0 rfl) ?_
      refine lv_iload_n hx hb d_Row_runLength_16 rfl (lv_at hl 1 rfl) ?_
      obtain ⟨u3, e4, he⟩ := ih_b he
      refine k_io (r_V (As := [.int x1]) S X hA hP hD hS (c_Row_codeAt l D kk st a_t a_t_cells _ n_t_cells t_size t_cells x1 u3 e4) gm_2_76 gm_2_187 gm_2_74 gm_2_75 gm_1_2 ⟨rfl, rfl, by decide, by decide⟩ kd_Row_codeAt [0, 1] rfl rfl rfl 0 1 rfl rfl rfl rfl hl.1 rfl (Nat.le_of_ble_eq_true rfl) d_Row_runLength_17 ⟨Nat.zero_le _, Nat.zero_le _⟩) hA hP hD hS [0, 1] rfl (fun H locs hP hS => ?_)
      refine lv_icmp_ne (tgt := 29) hx hb d_Row_runLength_20 rfl (fun hc => ?_) (fun hc => ?_)
      · have he := ih_f hc he
        have hl : lv_has ls 3 [(0, .ref a_t), (1, .int x1), (2, .int x2)] := lv_sub hl [0, 1, 2] rfl
        cases he
        exact K _ _ _ hl hP hD hS
      · have he := ih_t hc he
        refine lv_iinc (k := 2) hx hb d_Row_runLength_23 hl rfl (ii_ (v := (1 : Int32)) (by decide)) (by decide) rfl (fun ls hl => ?_)
        have hl : lv_has ls 3 [(2, .int (x2 + (1 : Int32))), (0, .ref a_t), (1, .int x1)] := hl
        refine lv_goto (tgt := 2) hx hb d_Row_runLength_26 rfl ?_
        have hl : lv_has ls 3 [(0, .ref a_t), (1, .int x1), (2, .int (x2 + (1 : Int32)))] := lv_sub hl [1, 2, 0] rfl
        exact ih _ _ _ _ _ he hl hP hD hS K
set_option maxHeartbeats 4000000 in
set_option maxRecDepth 100000 in
theorem c_Row_runLength (l : Launch) (D : va_G) (kk : Nat → ClassId) (st : Nat → Nat) (a_t a_t_cells : Nat) (sz : Nat) (n_t_cells : Nat) (t_size : Int32) (t_cells : Nat → Int32) (x1 : Int32) (o : Int32) (he : f_Row_runLength n_t_cells t_size t_cells x1 = some o) : Met l y_Row_runLength (Cond.code y_Row_runLength b_Row_runLength 3 (some .int) :: GW) rm_Row_runLength (KPc D kk st [.ref a_t, .int x1] [(a_t, .inr (1, [.ref a_t_cells, .int t_size])), (a_t_cells, .inl (kk 1, n_t_cells, .inl t_cells))] sz) (KQi D kk o [(a_t, .inr (1, [.ref a_t_cells, .int t_size])), (a_t_cells, .inl (kk 1, n_t_cells, .inl t_cells))] (va_A [(a_t, .inr (1, [.ref a_t_cells, .int t_size])), (a_t_cells, .inl (kk 1, n_t_cells, .inl t_cells))] sz)) 0 0 (va_A [(a_t, .inr (1, [.ref a_t_cells, .int t_size])), (a_t_cells, .inl (kk 1, n_t_cells, .inl t_cells))] sz) := by
  refine k_start (Qc := fun A => KQi D kk o [(a_t, .inr (1, [.ref a_t_cells, .int t_size])), (a_t_cells, .inl (kk 1, n_t_cells, .inl t_cells))] A) (by decide) (Nat.le_of_ble_eq_true rfl) ?_
  intro p e s m below meth c A ls S hnm hr hlk hA X hP hD hS hl
  have hl : lv_has ls 3 [(0, .ref a_t), (1, .int x1)] := hl
  have hx := S.1
  have hb := S.2.1
  unfold f_Row_runLength at he
  refine lv_iload_n hx hb d_Row_runLength_0 rfl (lv_at hl 1 rfl) ?_
  refine lv_istore_n hx hb d_Row_runLength_1 rfl hl (by decide) rfl (fun ls hl => ?_)
  have hl : lv_has ls 3 [(2, .int x1), (0, .ref a_t), (1, .int x1)] := hl
  obtain ⟨u5, e6, he⟩ := ih_b he
  have hl : lv_has ls 3 [(0, .ref a_t), (1, .int x1), (2, .int x1)] := lv_sub hl [1, 2, 0] rfl
  refine w_Row_runLength_2 a_t a_t_cells n_t_cells t_size t_cells x1 S hr hlk hA X FU x1 u5 _ _ ls e6 hl hP hD hS (fun H locs ls hl hP hD hS => ?_)
  refine lv_iload_n hx hb d_Row_runLength_29 rfl (lv_at hl 2 rfl) ?_
  refine lv_iload_n hx hb d_Row_runLength_30 rfl (lv_at hl 1 rfl) ?_
  refine lv_isub hx hb d_Row_runLength_31 ?_
  cases he
  exact k_ire hx hb hr hlk X hP hD hS d_Row_runLength_32
