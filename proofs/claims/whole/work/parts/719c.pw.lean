/-! The writers, piece by piece. -/
theorem fm_i {a b : Int} (ha : -2147483647 ≤ a ∧ a < 2147483648) (hb : 0 < b ∧ b < 2147483648) : f_Math_floorMod_II (iI a) (iI b) = some (iI (a % b)) := by
  have hb0 : ¬ iI b = 0 := fun q => by
    rw [k32_0, iI_eq (by omega) (by omega)] at q
    omega
  have ta : (iI a).toInt = a := iI_t (by omega)
  have tb : (iI b).toInt = b := iI_t (by omega)
  have em := Int.emod_def a b
  have x := iI_xor (a := iI a) (b := iI b) (by rw [tb]; omega)
  rw [ta] at x
  unfold f_Math_floorMod_II
  rw [if_pos hb0, iI_div ha hb, iI_mul, iI_sub]
  by_cases h : 0 ≤ a
  · rw [if_pos (x.mpr h), td_pos h, em, Int.mul_comm]
  · rw [if_neg (fun q => h (x.mp q))]
    obtain ⟨t1, t2⟩ := td_neg (a := a) (b := b) (by omega) hb.1
    have lt := Int.emod_lt_of_pos a hb.1
    have ge := Int.emod_nonneg a (b := b) (by omega)
    by_cases q : a.tdiv b * b = a
    · rw [if_pos (by rw [q, Int.sub_self]; decide), q, em, ← t1 q, Int.mul_comm b, q]
    · have w : a.tdiv b = a / b + 1 := by have := t2 q; omega
      have z : a - a.tdiv b * b = a % b - b := by
        rw [w, em, Int.add_mul, Int.mul_comm b, Int.one_mul]
        omega
      rw [z, if_neg (by
        rw [k32_0, iI_eq (by omega) (by omega)]
        omega), iI_add]
      congr 2
      omega
theorem ab_i {y : Int} (h : -2147483647 ≤ y ∧ y < 2147483648) : (if (0 : Int32) ≤ iI y then iI y else 0 - iI y) = nI y.natAbs := by
  rw [nI_iI]
  by_cases q : 0 ≤ y
  · rw [if_pos (by rw [k32_0]; exact (iI_le (by omega) (by omega)).mpr q)]
    congr 1
    omega
  · rw [if_neg (by rw [k32_0]; exact fun z => q ((iI_le (by omega) (by omega)).mp z)), k32_0, iI_sub]
    congr 1
    omega
theorem i0 {y : Int} (h : -2147483647 ≤ y ∧ y < 2147483648) : ((0 : Int32) ≤ iI y) ↔ 0 ≤ y := by
  rw [k32_0]
  exact iI_le (by omega) (by omega)
theorem j0 {y : Int} (h : -2147483647 ≤ y ∧ y < 2147483648) : ((0 : Int64) ≤ jI y) ↔ 0 ≤ y := by
  rw [k64_0]
  exact jI_le (by omega) (by omega)
theorem jN_pos {y : Int} (h : 0 ≤ y) : jI y = jN y.natAbs := by
  unfold jN
  congr 1
  omega
theorem jN_neg {y : Int} (h : y < 0) : -jI y = jN y.natAbs := by
  unfold jN
  rw [jI_neg]
  congr 1
  omega
theorem nD_2 {v : Nat} (h : v < 100) : nD v 2 = 2 := by
  obtain ⟨a, b, c, d, e⟩ := nD_c (v := v) (w := 2) (by omega) (by omega)
  rcases e with e | e
  · exact e
  · by_cases x : nD v 2 - 1 < 2
    · omega
    · have := Nat.pow_le_pow_right (n := 10) (by decide) (show 2 ≤ nD v 2 - 1 by omega)
      have h8 : (10 : Nat) ^ 2 = 100 := by decide
      omega
/-- the two writers put down the same -/
def WW (wc : Int32 → (Nat → Int32) → Option (Int32 × (Nat → Int32))) (wm : Int32 → (Nat → Int32) → Option (Int32 × (Nat → Int32))) : Prop := ∃ M : List Nat, M.length ≤ 10 ∧ (∀ L sz f, Dr L sz f → L.length + 10 ≤ 200 → ∃ sz' f', wc sz f = some (sz', f') ∧ Dr (L ++ M) sz' f') ∧ (∀ L sz f, Dr L sz f → L.length + 10 ≤ 256 → ∃ sz' f', wm sz f = some (sz', f') ∧ Dr (L ++ M) sz' f')
theorem ww_num {v c : Nat} (hv : v < 1000000000) (hc : 1 ≤ c ∧ c ≤ 9) : WW (fun sz f => f_Row_putNumber 200 sz f (nI v) (nI c)) (fun sz f => f_SkeletonClockModel_digits sz f (jN v) (nI c)) := by
  have := nD_c hv hc
  refine ⟨dgs (nD v c) v, by rw [dgs_len]; omega, fun L sz f h hL => dr_num h hv hc (by omega), fun L sz f h hL => dr_dig h hv hc (by omega)⟩
theorem ww_year {y : Int} {c : Nat} {D : Int64} {S N O : Int32} {g : Nat → Int64} (hy : -999999999 ≤ y ∧ y ≤ 999999999) (hc : c = 1 ∨ c = 2 ∨ c = 4) : WW (fun sz f => f_Printer_writeYear sz f (iI y) (nI c)) (fun sz f => jn_SkeletonClockModel_show_17 sz D S N O f g (nI c) (jI y)) := by
  by_cases c2 : c = 2
  · subst c2
    have hv : (y % 100).toNat < 1000000000 := by omega
    have n1 := nD_2 (v := (y % 100).toNat) (by omega)
    refine ⟨dgs (nD (y % 100).toNat 2) (y % 100).toNat, by rw [dgs_len]; omega, fun L sz f h hL => ?_, fun L sz f h hL => ?_⟩
    · obtain ⟨a, b, p, q⟩ := dr_num (v := (y % 100).toNat) (w := 2) h hv (by omega) (by omega)
      refine ⟨a, b, ?_, q⟩
      have k1 : (100 : Int32) = iI 100 := by decide
      have e : iI (y % 100) = nI (y % 100).toNat := by
        rw [nI_iI]
        congr 1
        omega
      dsimp only
      unfold f_Printer_writeYear
      rw [if_pos (by decide), k1, fm_i (by omega) (by decide), ob_some, e, kk2, p, ob_some]
    · obtain ⟨a, b, p, q⟩ := dr_dig (v := (y % 100).toNat) (w := 2) h hv (by omega) (by omega)
      refine ⟨a, b, ?_, q⟩
      have e : jI (y - 100 * (y / 100)) = jN (y % 100).toNat := by
        unfold jN
        congr 1
        omega
      dsimp only
      unfold jn_SkeletonClockModel_show_17
      rw [if_pos (by decide), k64_100, md_j (by omega) (by decide), ob_some, jI_mul, jI_sub, e, kk2, p, ob_some]
  · have hv : y.natAbs < 1000000000 := by omega
    have n1 := nD_c (v := y.natAbs) (w := c) hv (by omega)
    have c2n : ¬ nI c = 2 := fun q => c2 ((nI_eq (by omega) (by decide)).mp (q.trans kk2))
    by_cases ng : 0 ≤ y
    · by_cases pl : c = 4 ∧ 9999 < y
      · obtain ⟨rfl, pl⟩ := pl
        refine ⟨[43] ++ dgs (nD y.natAbs 4) y.natAbs, by rw [List.length_append, dgs_len]; simp only [List.length_cons, List.length_nil]; omega, fun L sz f h hL => ?_, fun L sz f h hL => ?_⟩
        · obtain ⟨r, s1, f1, p1, q1⟩ := dr_put (c := 43) h (by decide) (by omega)
          obtain ⟨a, b, p, q⟩ := dr_num (v := y.natAbs) (w := 4) q1 hv (by omega) (by rw [List.length_append]; simp only [List.length_cons, List.length_nil]; omega)
          refine ⟨a, b, ?_, by rw [← List.append_assoc]; exact q⟩
          have k1 : (9999 : Int32) = iI 9999 := by decide
          dsimp only
          unfold f_Printer_writeYear
          rw [if_neg c2n, if_pos ((i0 (by omega)).mpr ng), if_pos (by decide), k1, if_neg (fun z => by have := (iI_le (by omega) (by decide)).mp z; omega), ab_i (by omega), kk43, p1, ob_some]
          dsimp only
          rw [p, ob_some]
        · obtain ⟨s1, f1, p1, q1⟩ := dr_out (c := 43) h (by decide) (by omega)
          obtain ⟨a, b, p, q⟩ := dr_dig (v := y.natAbs) (w := 4) q1 hv (by omega) (by rw [List.length_append]; simp only [List.length_cons, List.length_nil]; omega)
          refine ⟨a, b, ?_, by rw [← List.append_assoc]; exact q⟩
          have k1 : (9999 : Int64) = jI 9999 := by decide
          dsimp only
          unfold jn_SkeletonClockModel_show_17
          rw [if_neg c2n, if_pos ((j0 (by omega)).mpr ng), if_pos (by decide), k1, if_neg (fun z => by have := (jI_le (by omega) (by decide)).mp z; omega), kk43, p1, ob_some, if_pos ((j0 (by omega)).mpr ng), jN_pos ng]
          dsimp only
          rw [p, ob_some]
      · refine ⟨dgs (nD y.natAbs c) y.natAbs, by rw [dgs_len]; omega, fun L sz f h hL => ?_, fun L sz f h hL => ?_⟩
        · obtain ⟨a, b, p, q⟩ := dr_num (v := y.natAbs) (w := c) h hv (by omega) (by omega)
          refine ⟨a, b, ?_, q⟩
          have k1 : (9999 : Int32) = iI 9999 := by decide
          dsimp only
          unfold f_Printer_writeYear
          rw [if_neg c2n, if_pos ((i0 (by omega)).mpr ng), ab_i (by omega), p, ob_some]
          by_cases c4 : c = 4
          · rw [if_pos (by rw [c4]; decide), k1, if_pos ((iI_le (by omega) (by decide)).mpr (by omega))]
          · rw [if_neg (fun z => c4 ((nI_eq (by omega) (by decide)).mp (z.trans kk4)))]
        · obtain ⟨a, b, p, q⟩ := dr_dig (v := y.natAbs) (w := c) h hv (by omega) (by omega)
          refine ⟨a, b, ?_, q⟩
          have k1 : (9999 : Int64) = jI 9999 := by decide
          dsimp only
          unfold jn_SkeletonClockModel_show_17
          rw [if_neg c2n, if_pos ((j0 (by omega)).mpr ng), k1]
          by_cases c4 : c = 4
          · rw [if_pos (by rw [c4]; decide), if_pos ((jI_le (by omega) (by decide)).mpr (by omega)), if_pos ((j0 (by omega)).mpr ng), jN_pos ng, p, ob_some]
          · rw [if_neg (fun z => c4 ((nI_eq (by omega) (by decide)).mp (z.trans kk4))), if_pos ((j0 (by omega)).mpr ng), jN_pos ng, p, ob_some]
    · refine ⟨[45] ++ dgs (nD y.natAbs c) y.natAbs, by rw [List.length_append, dgs_len]; simp only [List.length_cons, List.length_nil]; omega, fun L sz f h hL => ?_, fun L sz f h hL => ?_⟩
      · obtain ⟨r, s1, f1, p1, q1⟩ := dr_put (c := 45) h (by decide) (by omega)
        obtain ⟨a, b, p, q⟩ := dr_num (v := y.natAbs) (w := c) q1 hv (by omega) (by rw [List.length_append]; simp only [List.length_cons, List.length_nil]; omega)
        refine ⟨a, b, ?_, by rw [← List.append_assoc]; exact q⟩
        dsimp only
        unfold f_Printer_writeYear
        rw [if_neg c2n, if_neg (fun z => ng ((i0 (by omega)).mp z)), ab_i (by omega), kk45, p1, ob_some]
        dsimp only
        rw [p, ob_some]
      · obtain ⟨s1, f1, p1, q1⟩ := dr_out (c := 45) h (by decide) (by omega)
        obtain ⟨a, b, p, q⟩ := dr_dig (v := y.natAbs) (w := c) q1 hv (by omega) (by rw [List.length_append]; simp only [List.length_cons, List.length_nil]; omega)
        refine ⟨a, b, ?_, by rw [← List.append_assoc]; exact q⟩
        dsimp only
        unfold jn_SkeletonClockModel_show_17
        rw [if_neg c2n, if_neg (fun z => ng ((j0 (by omega)).mp z)), kk45, p1, ob_some, if_neg (fun z => ng ((j0 (by omega)).mp z)), jN_neg (by omega)]
        dsimp only
        rw [p, ob_some]
theorem wo_l {x : Int32} : ∀ m F v, m ≤ 9 → v < 2 ^ 31 → m < F → ∃ z, lp_Printer_writeNano_5 x F (nI v) (nI (9 - m)) = some (nI (v / 10 ^ m), z) := by
  intro m
  induction m with
  | zero =>
    intro F v hc hv hF
    obtain ⟨F, rfl⟩ : ∃ H, F = H + 1 := ⟨F - 1, by omega⟩
    exact ⟨nI 9, by rw [lp_Printer_writeNano_5, st_Printer_writeNano_5, if_pos (by decide), Nat.pow_zero, Nat.div_one]⟩
  | succ m ih =>
    intro F v hc hv hF
    obtain ⟨F, rfl⟩ : ∃ H, F = H + 1 := ⟨F - 1, by omega⟩
    obtain ⟨z, q⟩ := ih F (v / 10) (by omega) (by omega) (by omega)
    have e : 9 - (m + 1) + 1 = 9 - m := by omega
    refine ⟨z, ?_⟩
    rw [lp_Printer_writeNano_5, st_Printer_writeNano_5, kk9, if_neg (nI_ge (by omega) (by omega)), kk10, pk_div hv (by decide) (by decide), nI_1, e, q, Nat.div_div_eq_div_mul, ← Nat.pow_add_one']
theorem nD_w {v w : Nat} (hv : v < 1000000000) (hw : 1 ≤ w ∧ w ≤ 9) (h : v < 10 ^ w) : nD v w = w := by
  obtain ⟨a, b, c, d, e⟩ := nD_c hv hw
  rcases e with e | e
  · exact e
  · by_cases x : nD v w - 1 < w
    · omega
    · have := Nat.pow_le_pow_right (n := 10) (by decide) (show w ≤ nD v w - 1 by omega)
      omega
theorem so_l {c v : Nat} (hc : 1 ≤ c ∧ c ≤ 9) (hv : v < 1000000000) : ∀ m F (L : List Nat) (sz : Int32) (f : Nat → Int32), m ≤ c → m < F → Dr L sz f → L.length + m ≤ 256 → ∃ x y sz' f', lp_SkeletonClockModel_show_178 (nI c) (jN v) F (jN (10 ^ (9 - c + m) / 10)) (nI (c - m)) sz f = some (x, y, sz', f') ∧ Dr (L ++ dgs m (v / 10 ^ (9 - c))) sz' f' := by
  intro m
  induction m with
  | zero =>
    intro F L sz f hm hF h hL
    obtain ⟨F, rfl⟩ : ∃ H, F = H + 1 := ⟨F - 1, by omega⟩
    refine ⟨_, _, sz, f, by rw [lp_SkeletonClockModel_show_178, st_SkeletonClockModel_show_178, if_pos (nI_le (by omega) (by omega))], ?_⟩
    rw [dgs, List.append_nil]
    exact h
  | succ m ih =>
    intro F L sz f hm hF h hL
    obtain ⟨F, rfl⟩ : ∃ H, F = H + 1 := ⟨F - 1, by omega⟩
    have p1 := Nat.pow_pos (n := 9 - c + m) (show 0 < 10 by decide)
    have p2 : 10 ^ (9 - c + m) ≤ 10 ^ 9 := Nat.pow_le_pow_right (by decide) (by omega)
    have p3 : (10 : Nat) ^ 9 = 1000000000 := by decide
    have e : 10 ^ (9 - c + (m + 1)) / 10 = 10 ^ (9 - c + m) := by rw [← Nat.add_assoc, Nat.pow_add_one, Nat.mul_div_cancel _ (by decide)]
    have q := Nat.div_le_self v (10 ^ (9 - c + m))
    have e2 : v / 10 ^ (9 - c + m) = v / 10 ^ (9 - c) / 10 ^ m := by rw [Nat.div_div_eq_div_mul, ← Nat.pow_add]
    have e3 : c - (m + 1) + 1 = c - m := by omega
    obtain ⟨s1, f1, a, b⟩ := dr_out (c := 48 + v / 10 ^ (9 - c + m) % 10) h (by omega) (by omega)
    obtain ⟨x, y, sz2, f2, c1, d⟩ := ih F _ s1 f1 (by omega) (by omega) b (by rw [List.length_append]; simp only [List.length_cons, List.length_nil]; omega)
    refine ⟨x, y, sz2, f2, ?_, ?_⟩
    · rw [e, lp_SkeletonClockModel_show_178, st_SkeletonClockModel_show_178, if_neg (nI_ge (by omega) (by omega)), if_pos (by
        rw [kj0, jN_eq (by omega) (by decide)]
        omega), jN_div (by omega) p1 (by omega), kj10, jN_rem (by omega) (by decide) (by decide), kj48, jN_add, jN_i, a, ob_some, jN_div (by omega) (by decide) (by decide), nI_1, e3]
      exact c1
    · rw [dgs_hd, ← e2]
      rw [List.append_assoc] at d
      exact d
theorem ww_nano {v c : Nat} (hv : v < 1000000000) (hc : 1 ≤ c ∧ c ≤ 9) : WW (fun sz f => f_Printer_writeNano sz f (nI v) (nI c)) (fun sz f => (lp_SkeletonClockModel_show_178 (nI c) (jN v) FU (100000000 : Int64) (0 : Int32) sz f).bind fun u34 => some (u34.2.2.1, u34.2.2.2)) := by
  have hu : v / 10 ^ (9 - c) < 10 ^ c := by
    rw [Nat.div_lt_iff_lt_mul (Nat.pow_pos (by decide)), ← Nat.pow_add]
    have e : c + (9 - c) = 9 := by omega
    rw [e]
    exact hv
  have hu2 := Nat.div_le_self v (10 ^ (9 - c))
  have n := nD_w (v := v / 10 ^ (9 - c)) (w := c) (by omega) hc hu
  refine ⟨dgs c (v / 10 ^ (9 - c)), by rw [dgs_len]; omega, fun L sz f h hL => ?_, fun L sz f h hL => ?_⟩
  · obtain ⟨z, q⟩ := wo_l (x := nI c) (9 - c) FU v (by omega) (by omega) (by unfold FU; omega)
    have e : 9 - (9 - c) = c := by omega
    rw [e] at q
    obtain ⟨a, b, p, r⟩ := dr_num (v := v / 10 ^ (9 - c)) (w := c) h (by omega) hc (by omega)
    rw [n] at r
    refine ⟨a, b, ?_, r⟩
    dsimp only
    unfold f_Printer_writeNano
    rw [q, ob_some, p, ob_some]
  · obtain ⟨x, y, a, b, p, r⟩ := so_l hc hv c FU L sz f (Nat.le_refl _) (by unfold FU; omega) h (by omega)
    have e : 9 - c + c = 9 := by omega
    rw [e, Nat.sub_self] at p
    refine ⟨a, b, ?_, r⟩
    dsimp only
    have k8 : (100000000 : Int64) = jN (10 ^ 9 / 10) := by decide
    rw [k8, kk0, p, ob_some]
theorem len1 {L : List Nat} {c : Nat} : (L ++ [c]).length = L.length + 1 := by rw [List.length_append]; rfl
theorem lenD {L : List Nat} {m v : Nat} : (L ++ dgs m v).length = L.length + m := by rw [List.length_append, dgs_len]
theorem ww_off {o : Int} {c k x : Nat} (ho : -1080 ≤ o ∧ o ≤ 1080) (hc : c = 1 ∨ c = 2 ∨ c = 3) (hk : (k = 13 ∧ x = 88) ∨ (k = 14 ∧ x = 120)) : WW (fun sz f => f_Printer_writeOffset sz f (iI o) (nI k) (nI c)) (fun sz f => f_SkeletonClockModel_offset sz f (jI o) (nI x) (nI c)) := by
  have hz : iI o = 0 ↔ o = 0 := by
    rw [k32_0]
    exact iI_eq (by omega) (by omega)
  have hz2 : jI o = 0 ↔ o = 0 := by
    rw [k64_0]
    exact jI_eq (by omega) (by omega)
  by_cases z : k = 13 ∧ o = 0
  · obtain ⟨rfl, rfl⟩ := z
    have hx : x = 88 := by omega
    subst hx
    refine ⟨[90], by decide, fun L sz f h hL => ?_, fun L sz f h hL => ?_⟩
    · obtain ⟨r, a, b, p, q⟩ := dr_put (c := 90) h (by decide) (by omega)
      refine ⟨a, b, ?_, q⟩
      dsimp only
      unfold f_Printer_writeOffset
      rw [if_pos (by decide), if_pos (by decide), kk90, p, ob_some]
    · obtain ⟨a, b, p, q⟩ := dr_out (c := 90) h (by decide) (by omega)
      refine ⟨a, b, ?_, q⟩
      dsimp only
      unfold f_SkeletonClockModel_offset
      rw [if_pos (by decide), if_pos (by decide), kk90, p, ob_some]
  · have n1 := nD_2 (v := o.natAbs / 60) (by omega)
    have n2 := nD_2 (v := o.natAbs % 60) (by omega)
    have ec : ∀ sz f, f_Printer_writeOffset sz f (iI o) (nI k) (nI c) = jn_Printer_writeOffset_45 sz f (iI o) (nI c) (nI (o.natAbs % 60)) (if 0 ≤ o then 43 else 45) := by
      intro sz f
      have e0 : f_Printer_writeOffset sz f (iI o) (nI k) (nI c) = jn_Printer_writeOffset_21 sz f (iI o) (nI c) := by
        unfold f_Printer_writeOffset
        rcases hk with ⟨rfl, -⟩ | ⟨rfl, -⟩
        · rw [if_pos (by decide), if_neg (fun w => z ⟨rfl, hz.mp w⟩)]
        · rw [if_neg (by decide)]
      rw [e0]
      unfold jn_Printer_writeOffset_21
      have k60 : (60 : Int32) = nI 60 := by decide
      rw [ab_i (by omega), k60, pk_rem (by omega) (by decide) (by decide)]
      by_cases g : 0 ≤ o
      · rw [if_pos ((i0 (by omega)).mpr g), if_pos g]
      · rw [if_neg (fun w => g ((i0 (by omega)).mp w)), if_neg g]
    have em : ∀ sz f, f_SkeletonClockModel_offset sz f (jI o) (nI x) (nI c) = (f_SkeletonClockModel_out sz f (if 0 ≤ o then 43 else 45)).bind fun u1 => jn_SkeletonClockModel_offset_48 u1.1 u1.2 (nI c) (jN o.natAbs) := by
      intro sz f
      have e0 : f_SkeletonClockModel_offset sz f (jI o) (nI x) (nI c) = jn_SkeletonClockModel_offset_19 sz f (jI o) (nI c) := by
        unfold f_SkeletonClockModel_offset
        rcases hk with ⟨rfl, rfl⟩ | ⟨-, rfl⟩
        · rw [if_pos (by decide), if_neg (fun w => z ⟨rfl, hz2.mp w⟩)]
        · rw [if_neg (by decide)]
      rw [e0]
      unfold jn_SkeletonClockModel_offset_19 jn_SkeletonClockModel_offset_33
      by_cases g : 0 ≤ o
      · simp only [if_pos ((j0 (y := o) (by omega)).mpr g), if_pos g]
        simp only [jN_pos g]
      · simp only [if_neg (fun w => g ((j0 (y := o) (by omega)).mp w)), if_neg g]
        simp only [jN_neg (show o < 0 by omega)]
    obtain ⟨sg, hs1, hs2⟩ : ∃ sg : Nat, (32 ≤ sg ∧ sg ≤ 126) ∧ (if 0 ≤ o then (43 : Int32) else 45) = nI sg := by
      by_cases g : 0 ≤ o
      · exact ⟨43, by decide, by rw [if_pos g]; decide⟩
      · exact ⟨45, by decide, by rw [if_neg g]; decide⟩
    rw [hs2] at ec em
    have k60 : (60 : Int32) = nI 60 := by decide
    have hm0 : nI (o.natAbs % 60) = 0 ↔ o.natAbs % 60 = 0 := by
      rw [kk0]
      exact nI_eq (by omega) (by decide)
    have hj0 : jN (o.natAbs % 60) = 0 ↔ o.natAbs % 60 = 0 := by
      rw [kj0]
      exact jN_eq (by omega) (by decide)
    by_cases c3 : c = 3
    · subst c3
      refine ⟨[sg] ++ (dgs (nD (o.natAbs / 60) 2) (o.natAbs / 60) ++ ([58] ++ dgs (nD (o.natAbs % 60) 2) (o.natAbs % 60))), by rw [List.length_append, List.length_append, List.length_append, dgs_len, dgs_len]; simp only [List.length_cons, List.length_nil]; omega, fun L sz f h hL => ?_, fun L sz f h hL => ?_⟩
      · obtain ⟨r, s1, f1, p1, q1⟩ := dr_put h hs1 (by omega)
        obtain ⟨s2, f2, p2, q2⟩ := dr_num (v := o.natAbs / 60) (w := 2) q1 (by omega) (by decide) (by rw [len1]; omega)
        obtain ⟨r3, s3, f3, p3, q3⟩ := dr_put (c := 58) q2 (by decide) (by rw [lenD, len1]; omega)
        obtain ⟨s4, f4, p4, q4⟩ := dr_num (v := o.natAbs % 60) (w := 2) q3 (by omega) (by decide) (by rw [len1, lenD, len1]; omega)
        refine ⟨s4, f4, ?_, by rw [← List.append_assoc, ← List.append_assoc, ← List.append_assoc]; exact q4⟩
        dsimp only
        rw [ec]
        unfold jn_Printer_writeOffset_45
        rw [p1, ob_some, ab_i (by omega), k60, pk_div (by omega) (by decide) (by decide), kk2]
        dsimp only
        rw [p2, ob_some, if_pos (by decide), kk58, p3, ob_some, if_neg (by decide), p4, ob_some]
      · obtain ⟨s1, f1, p1, q1⟩ := dr_out h hs1 (by omega)
        obtain ⟨s2, f2, p2, q2⟩ := dr_dig (v := o.natAbs / 60) (w := 2) q1 (by omega) (by decide) (by rw [len1]; omega)
        obtain ⟨s3, f3, p3, q3⟩ := dr_out (c := 58) q2 (by decide) (by rw [lenD, len1]; omega)
        obtain ⟨s4, f4, p4, q4⟩ := dr_dig (v := o.natAbs % 60) (w := 2) q3 (by omega) (by decide) (by rw [len1, lenD, len1]; omega)
        refine ⟨s4, f4, ?_, by rw [← List.append_assoc, ← List.append_assoc, ← List.append_assoc]; exact q4⟩
        dsimp only
        rw [em, p1, ob_some]
        unfold jn_SkeletonClockModel_offset_48
        rw [kj60, jN_rem (by omega) (by decide) (by decide), jN_div (by omega) (by decide) (by decide), kk2]
        dsimp only
        rw [p2, ob_some, if_neg (by decide), if_pos (by decide), kk58, p3, ob_some, p4, ob_some]
    · have c3n : ¬ nI c = 3 := fun w => c3 ((nI_eq (by omega) (by decide)).mp (w.trans kk3))
      by_cases c1 : c = 1 ∧ o.natAbs % 60 = 0
      · obtain ⟨rfl, c1⟩ := c1
        refine ⟨[sg] ++ dgs (nD (o.natAbs / 60) 2) (o.natAbs / 60), by rw [List.length_append, dgs_len]; simp only [List.length_cons, List.length_nil]; omega, fun L sz f h hL => ?_, fun L sz f h hL => ?_⟩
        · obtain ⟨r, s1, f1, p1, q1⟩ := dr_put h hs1 (by omega)
          obtain ⟨s2, f2, p2, q2⟩ := dr_num (v := o.natAbs / 60) (w := 2) q1 (by omega) (by decide) (by rw [len1]; omega)
          refine ⟨s2, f2, ?_, by rw [← List.append_assoc]; exact q2⟩
          dsimp only
          rw [ec]
          unfold jn_Printer_writeOffset_45
          rw [p1, ob_some, ab_i (by omega), k60, pk_div (by omega) (by decide) (by decide), kk2]
          dsimp only
          rw [p2, ob_some, if_neg c3n, if_pos (by decide), if_pos (hm0.mpr c1)]
        · obtain ⟨s1, f1, p1, q1⟩ := dr_out h hs1 (by omega)
          obtain ⟨s2, f2, p2, q2⟩ := dr_dig (v := o.natAbs / 60) (w := 2) q1 (by omega) (by decide) (by rw [len1]; omega)
          refine ⟨s2, f2, ?_, by rw [← List.append_assoc]; exact q2⟩
          dsimp only
          rw [em, p1, ob_some]
          unfold jn_SkeletonClockModel_offset_48
          rw [kj60, jN_rem (by omega) (by decide) (by decide), jN_div (by omega) (by decide) (by decide), kk2]
          dsimp only
          rw [p2, ob_some, if_pos (by decide), if_pos (hj0.mpr c1)]
      · refine ⟨[sg] ++ (dgs (nD (o.natAbs / 60) 2) (o.natAbs / 60) ++ dgs (nD (o.natAbs % 60) 2) (o.natAbs % 60)), by rw [List.length_append, List.length_append, dgs_len, dgs_len]; simp only [List.length_cons, List.length_nil]; omega, fun L sz f h hL => ?_, fun L sz f h hL => ?_⟩
        · obtain ⟨r, s1, f1, p1, q1⟩ := dr_put h hs1 (by omega)
          obtain ⟨s2, f2, p2, q2⟩ := dr_num (v := o.natAbs / 60) (w := 2) q1 (by omega) (by decide) (by rw [len1]; omega)
          obtain ⟨s4, f4, p4, q4⟩ := dr_num (v := o.natAbs % 60) (w := 2) q2 (by omega) (by decide) (by rw [lenD, len1]; omega)
          refine ⟨s4, f4, ?_, by rw [← List.append_assoc, ← List.append_assoc]; exact q4⟩
          dsimp only
          rw [ec]
          unfold jn_Printer_writeOffset_45
          rw [p1, ob_some, ab_i (by omega), k60, pk_div (by omega) (by decide) (by decide), kk2]
          dsimp only
          rw [p2, ob_some, if_neg c3n, p4, ob_some]
          by_cases x1 : c = 1
          · rw [if_pos (by rw [x1]; decide), if_neg (fun w => c1 ⟨x1, hm0.mp w⟩)]
          · rw [if_neg (fun w => x1 ((nI_eq (by omega) (by decide)).mp (w.trans kk1)))]
        · obtain ⟨s1, f1, p1, q1⟩ := dr_out h hs1 (by omega)
          obtain ⟨s2, f2, p2, q2⟩ := dr_dig (v := o.natAbs / 60) (w := 2) q1 (by omega) (by decide) (by rw [len1]; omega)
          obtain ⟨s4, f4, p4, q4⟩ := dr_dig (v := o.natAbs % 60) (w := 2) q2 (by omega) (by decide) (by rw [lenD, len1]; omega)
          refine ⟨s4, f4, ?_, by rw [← List.append_assoc, ← List.append_assoc]; exact q4⟩
          dsimp only
          rw [em, p1, ob_some]
          unfold jn_SkeletonClockModel_offset_48
          rw [kj60, jN_rem (by omega) (by decide) (by decide), jN_div (by omega) (by decide) (by decide), kk2]
          dsimp only
          rw [p2, ob_some, if_neg c3n, p4, ob_some]
          by_cases x1 : c = 1
          · rw [if_pos (by rw [x1]; decide), if_neg (fun w => c1 ⟨x1, hj0.mp w⟩)]
          · rw [if_neg (fun w => x1 ((nI_eq (by omega) (by decide)).mp (w.trans kk1)))]
theorem ww_name {g : Nat → Int64} (hg : R_nam g) {x1 x3 : Int32} {a c c2 : Nat} (ha : a < 21) (hc : c = 1 ∨ c = 3 ∨ c = 4) (h19 : c = 3 → a < 19) (hc2 : c2 = if c = 3 then 3 else 4) (hl : ∀ k, k < 9 → f_Names_letter x1 (nI c) x3 (nI k) = some (if k < (nmC a c).length then nI ((nmC a c).getD k 0) else -1)) : WW (fun sz f => f_Printer_writeName sz f x1 (nI c) x3) (fun sz f => f_SkeletonClockModel_spell sz f g (nI a) (nI c2)) := by
  obtain ⟨k9, kc⟩ := nmC_ok (c := c) ha
  obtain ⟨t1, t2, t3⟩ := nm_tab a ha
  have hc9 : c2 < 10 := by
    rw [hc2]
    split <;> decide
  have h3 : c2 ≤ 3 → (nmC a c).length ≤ 3 := by
    intro q
    have : c = 3 := by
      by_cases w : c = 3
      · exact w
      · rw [if_neg w] at hc2
        omega
    unfold nmC
    rw [if_pos this, List.length_take]
    omega
  have hg2 : ∀ k, k < (nmC a c).length → (nmC a c).getD k 0 = (nmL.getD a []).getD k 0 := by
    intro k hk
    unfold nmC at hk ⊢
    by_cases w : c = 3
    · rw [if_pos w] at hk ⊢
      rw [List.length_take] at hk
      generalize nmL.getD a [] = Q at hk ⊢
      rw [List.getD_eq_getElem?_getD, List.getD_eq_getElem?_getD, List.getElem?_take_of_lt (by omega)]
    · rw [if_neg w]
  refine ⟨nmC a c, by omega, fun L sz f h hL => ?_, fun L sz f h hL => ?_⟩
  · obtain ⟨x, s1, f1, p, q⟩ := wn_l k9 kc hl (L := L) (by omega) (nmC a c) [] FU sz f rfl (by unfold FU; omega) (by rw [List.append_nil]; exact h)
    refine ⟨s1, f1, ?_, q⟩
    dsimp only
    unfold f_Printer_writeName
    rw [List.length_nil, ← kk0] at p
    rw [p, ob_some]
  · obtain ⟨x, s1, f1, p, q⟩ := sp_l (g := g) (a := a) (c := c2) k9 kc hc9 h3 (fun k hk => by rw [nt_m hg ha (by omega), hg2 k hk]) (fun h9 => ⟨(nmL.getD a []).getD (nmC a c).length 0, nt_m hg ha (by omega), by
        rw [List.getD_eq_getElem?_getD]
        cases e : (nmL.getD a [])[(nmC a c).length]? with
        | none => decide
        | some u =>
          have := t3 u (List.mem_of_getElem? e)
          show u < 127
          omega, by
        by_cases w : c = 3
        · refine Or.inr ⟨by rw [hc2, if_pos w]; omega, ?_⟩
          have := t2 (h19 w)
          unfold nmC
          rw [if_pos w, List.length_take]
          omega
        · refine Or.inl ?_
          unfold nmC
          rw [if_neg w, List.getD_eq_getElem?_getD, List.getElem?_eq_none (Nat.le_refl _)]
          rfl⟩) (L := L) (by omega) (nmC a c) [] FU sz f rfl (by unfold FU; omega) (by rw [List.append_nil]; exact h)
    refine ⟨s1, f1, ?_, q⟩
    dsimp only
    unfold f_SkeletonClockModel_spell
    rw [List.length_nil, ← kk0] at p
    rw [p, ob_some]
