/-! Months and days of the week, on both sides. -/
theorem lpI_01 (y : Int) : lpI y = 0 ∨ lpI y = 1 := by
  unfold lpI
  split
  · exact Or.inr rfl
  · exact Or.inl rfl
theorem lpI_c {y : Int} (h : -1000000000000 ≤ y ∧ y ≤ 1000000000000) : f_Days_isLeap (jI y) = some (iI (lpI y)) := by
  obtain ⟨h1, h2⟩ := lp_c h
  unfold lpI
  by_cases hl : leap y
  · rw [h1 hl, if_pos (show y % 4 = 0 ∧ (y % 100 ≠ 0 ∨ y % 400 = 0) from hl)]
    rfl
  · rw [h2 hl, if_neg (show ¬ (y % 4 = 0 ∧ (y % 100 ≠ 0 ∨ y % 400 = 0)) from hl)]
    rfl
theorem lpI_ny (y : Int) : ny (y + 1) = ny y + 365 + lpI y := by
  obtain ⟨h1, h2⟩ := leap_ny y
  unfold lpI
  by_cases hl : leap y
  · rw [h1 hl, if_pos (show y % 4 = 0 ∧ (y % 100 ≠ 0 ∨ y % 400 = 0) from hl)]
    omega
  · rw [h2 hl, if_neg (show ¬ (y % 4 = 0 ∧ (y % 100 ≠ 0 ∨ y % 400 = 0)) from hl)]
    omega
theorem bm_c {y : Int} (h : -1000000000000 ≤ y ∧ y ≤ 1000000000000) (m : Nat) (h1 : 1 ≤ m) (h2 : m ≤ 13) : f_Days_beforeMonth (jI y) (iI m) = some (iI (bm y m)) := by
  have hl := lpI_c h
  have hz := lpI_01 y
  unfold f_Days_beforeMonth
  rcases (show m = 1 ∨ m = 2 ∨ m = 3 ∨ m = 4 ∨ m = 5 ∨ m = 6 ∨ m = 7 ∨ m = 8 ∨ m = 9 ∨ m = 10 ∨ m = 11 ∨ m = 12 ∨ m = 13 by omega) with rfl | rfl | rfl | rfl | rfl | rfl | rfl | rfl | rfl | rfl | rfl | rfl | rfl
  · rw [if_neg (by decide), if_pos (by decide), if_pos (by decide), if_pos (by decide)]
    rfl
  · rw [if_neg (by decide), if_pos (by decide), if_pos (by decide), if_pos (by decide)]
    rfl
  · rw [if_neg (by decide), if_pos (by decide), if_pos (by decide), if_neg (by decide), hl, ob_some]
    unfold bm
    rcases hz with e | e <;> rw [e] <;> rfl
  · rw [if_neg (by decide), if_pos (by decide), if_pos (by decide), if_neg (by decide), hl, ob_some]
    unfold bm
    rcases hz with e | e <;> rw [e] <;> rfl
  · rw [if_neg (by decide), if_pos (by decide), if_pos (by decide), if_neg (by decide), hl, ob_some]
    unfold bm
    rcases hz with e | e <;> rw [e] <;> rfl
  · rw [if_neg (by decide), if_pos (by decide), if_pos (by decide), if_neg (by decide), hl, ob_some]
    unfold bm
    rcases hz with e | e <;> rw [e] <;> rfl
  · rw [if_neg (by decide), if_pos (by decide), if_pos (by decide), if_neg (by decide), hl, ob_some]
    unfold bm
    rcases hz with e | e <;> rw [e] <;> rfl
  · rw [if_neg (by decide), if_pos (by decide), if_pos (by decide), if_neg (by decide), hl, ob_some]
    unfold bm
    rcases hz with e | e <;> rw [e] <;> rfl
  · rw [if_neg (by decide), if_pos (by decide), if_pos (by decide), if_neg (by decide), hl, ob_some]
    unfold bm
    rcases hz with e | e <;> rw [e] <;> rfl
  · rw [if_neg (by decide), if_pos (by decide), if_pos (by decide), if_neg (by decide), hl, ob_some]
    unfold bm
    rcases hz with e | e <;> rw [e] <;> rfl
  · rw [if_neg (by decide), if_pos (by decide), if_pos (by decide), if_neg (by decide), hl, ob_some]
    unfold bm
    rcases hz with e | e <;> rw [e] <;> rfl
  · rw [if_neg (by decide), if_pos (by decide), if_pos (by decide), if_neg (by decide), hl, ob_some]
    unfold bm
    rcases hz with e | e <;> rw [e] <;> rfl
  · rw [if_neg (by decide), if_pos (by decide), if_pos (by decide), if_neg (by decide), hl, ob_some]
    unfold bm
    rcases hz with e | e <;> rw [e] <;> rfl
theorem bm_12 (y : Int) : bm y 13 = 365 + lpI y := rfl
theorem bm_1 (y : Int) : bm y 1 = 0 := rfl
theorem bm_bd (y : Int) (m : Nat) (h1 : 1 ≤ m) (h2 : m ≤ 13) : 0 ≤ bm y m ∧ bm y m ≤ 366 := by
  have hz := lpI_01 y
  unfold bm bmT
  rcases (show m = 1 ∨ m = 2 ∨ m = 3 ∨ m = 4 ∨ m = 5 ∨ m = 6 ∨ m = 7 ∨ m = 8 ∨ m = 9 ∨ m = 10 ∨ m = 11 ∨ m = 12 ∨ m = 13 by omega) with rfl | rfl | rfl | rfl | rfl | rfl | rfl | rfl | rfl | rfl | rfl | rfl | rfl <;> rcases hz with e | e <;> rw [e] <;> decide
theorem ml_m {y : Int} (h : -1000000000000 ≤ y ∧ y < 1000000000000) (m : Nat) (h1 : 1 ≤ m) (h2 : m ≤ 12) : f_SkeletonClockModel_monthLength (jI y) (iI m) = some (iI (bm y (m + 1) - bm y m)) := by
  have hz := lpI_01 y
  have hn := lpI_ny y
  have b1 := ny_bd (y := y) (by omega)
  have b2 := ny_bd (y := y + 1) (by omega)
  unfold f_SkeletonClockModel_monthLength
  rcases (show m = 1 ∨ m = 2 ∨ m = 3 ∨ m = 4 ∨ m = 5 ∨ m = 6 ∨ m = 7 ∨ m = 8 ∨ m = 9 ∨ m = 10 ∨ m = 11 ∨ m = 12 by omega) with rfl | rfl | rfl | rfl | rfl | rfl | rfl | rfl | rfl | rfl | rfl | rfl
  · rw [if_neg (by decide), if_neg (by decide), if_neg (by decide), if_neg (by decide), if_neg (by decide)]
    unfold bm
    rcases hz with e | e <;> rw [e] <;> rfl
  · rw [if_pos (by decide), k64_1, jI_add, fy_m (by omega), ob_some, fy_m (by omega), ob_some, jI_sub, k64_366]
    unfold bm
    rcases hz with e | e
    · rw [if_neg (fun hh => by have := (jI_eq (by omega) (by omega)).mp hh; omega), e]
      rfl
    · rw [if_pos ((jI_eq (by omega) (by omega)).mpr (by omega)), e]
      rfl
  · rw [if_neg (by decide), if_neg (by decide), if_neg (by decide), if_neg (by decide), if_neg (by decide)]
    unfold bm
    rcases hz with e | e <;> rw [e] <;> rfl
  · rw [if_neg (by decide), if_pos (by decide)]
    unfold bm
    rcases hz with e | e <;> rw [e] <;> rfl
  · rw [if_neg (by decide), if_neg (by decide), if_neg (by decide), if_neg (by decide), if_neg (by decide)]
    unfold bm
    rcases hz with e | e <;> rw [e] <;> rfl
  · rw [if_neg (by decide), if_neg (by decide), if_pos (by decide)]
    unfold bm
    rcases hz with e | e <;> rw [e] <;> rfl
  · rw [if_neg (by decide), if_neg (by decide), if_neg (by decide), if_neg (by decide), if_neg (by decide)]
    unfold bm
    rcases hz with e | e <;> rw [e] <;> rfl
  · rw [if_neg (by decide), if_neg (by decide), if_neg (by decide), if_neg (by decide), if_neg (by decide)]
    unfold bm
    rcases hz with e | e <;> rw [e] <;> rfl
  · rw [if_neg (by decide), if_neg (by decide), if_neg (by decide), if_pos (by decide)]
    unfold bm
    rcases hz with e | e <;> rw [e] <;> rfl
  · rw [if_neg (by decide), if_neg (by decide), if_neg (by decide), if_neg (by decide), if_neg (by decide)]
    unfold bm
    rcases hz with e | e <;> rw [e] <;> rfl
  · rw [if_neg (by decide), if_neg (by decide), if_neg (by decide), if_neg (by decide), if_pos (by decide)]
    unfold bm
    rcases hz with e | e <;> rw [e] <;> rfl
  · rw [if_neg (by decide), if_neg (by decide), if_neg (by decide), if_neg (by decide), if_neg (by decide)]
    unfold bm
    rcases hz with e | e <;> rw [e] <;> rfl
theorem nm_m {y : Int} (h : -1000000000000 ≤ y ∧ y < 1000000000000) (m : Nat) (h2 : m ≤ 13) (n : Nat) : ∀ (j k : Nat), 1 ≤ k → k + j = m → lp_SkeletonClockModel_newMonth_8 (jI y) (iI m) (n + j + 1) (jI (ny y + bm y k)) (iI k) = some (jI (ny y + bm y m), iI m) := by
  intro j
  induction j with
  | zero =>
    intro k hk he
    have he : k = m := by omega
    subst he
    show st_SkeletonClockModel_newMonth_8 (jI y) (iI k) (lp_SkeletonClockModel_newMonth_8 (jI y) (iI k) (n + 0)) (jI (ny y + bm y k)) (iI k) = _
    unfold st_SkeletonClockModel_newMonth_8
    rw [if_pos ((iI_le (by omega) (by omega)).mpr (by omega))]
  | succ j ih =>
    intro k hk he
    show st_SkeletonClockModel_newMonth_8 (jI y) (iI m) (lp_SkeletonClockModel_newMonth_8 (jI y) (iI m) (n + j + 1)) (jI (ny y + bm y k)) (iI k) = _
    unfold st_SkeletonClockModel_newMonth_8
    have b1 := bm_bd y k (by omega) (by omega)
    have b2 := bm_bd y (k + 1) (by omega) (by omega)
    rw [if_neg (fun hh => by have := (iI_le (by omega) (by omega)).mp hh; omega), ml_m h k (by omega) (by omega), ob_some, i2j (by omega), jI_add, k32_1, iI_add]
    have e1 : ny y + bm y k + (bm y (k + 1) - bm y k) = ny y + bm y (k + 1) := by omega
    have e2 : ((k : Int) + 1) = ((k + 1 : Nat) : Int) := by omega
    rw [e1, e2]
    exact ih (k + 1) (by omega) (by omega)
theorem nmo_m {y : Int} (h : -1000000000000 ≤ y ∧ y < 1000000000000) (m : Nat) (h1 : 1 ≤ m) (h2 : m ≤ 13) : f_SkeletonClockModel_newMonth (jI y) (iI m) = some (jI (ny y + bm y m)) := by
  unfold f_SkeletonClockModel_newMonth
  have e : FU = (1000 - m) + (m - 1) + 1 := by
    unfold FU
    omega
  have e1 : jI (ny y) = jI (ny y + bm y 1) := by rw [bm_1, Int.add_zero]
  rw [fy_m (by omega), ob_some, e, e1, k32_1]
  have h3 := nm_m h m h2 (1000 - m) (m - 1) 1 (by omega) (by omega)
  have h4 : iI ((1 : Nat) : Int) = iI 1 := rfl
  rw [h4] at h3
  rw [h3, ob_some]
/-- the month of a year's day: from the month 12 - j on -/
def mof (y yd : Int) : Nat → Nat
  | 0 => 12
  | j + 1 => if yd ≤ bm y (12 - j) then 11 - j else mof y yd j
theorem mof_bd (y yd : Int) (j : Nat) (h : j ≤ 11) : 12 - j ≤ mof y yd j ∧ mof y yd j ≤ 12 := by
  induction j with
  | zero => exact ⟨Nat.le_refl _, Nat.le_refl _⟩
  | succ j ih =>
    have := ih (by omega)
    unfold mof
    split <;> omega
theorem mo_c {y yd : Int} {x1 : Int64} (h : -1000000000000 ≤ y ∧ y ≤ 1000000000000) (hy : -1000 ≤ yd ∧ yd ≤ 1000) (n : Nat) : ∀ j : Nat, j ≤ 11 → lp_Moment_settleDate_19 x1 (jI y) (iI yd) (n + j + 1) (iI ((12 - j : Nat) : Int)) = some (iI (mof y yd j)) := by
  intro j
  induction j with
  | zero =>
    intro hj
    show st_Moment_settleDate_19 x1 (jI y) (iI yd) (lp_Moment_settleDate_19 x1 (jI y) (iI yd) (n + 0)) (iI ((12 : Nat) : Int)) = _
    unfold st_Moment_settleDate_19
    rw [if_pos (by decide)]
    rfl
  | succ j ih =>
    intro hj
    show st_Moment_settleDate_19 x1 (jI y) (iI yd) (lp_Moment_settleDate_19 x1 (jI y) (iI yd) (n + j + 1)) (iI ((12 - (j + 1) : Nat) : Int)) = _
    unfold st_Moment_settleDate_19
    have e2 : ((12 - (j + 1) : Nat) : Int) + 1 = ((12 - j : Nat) : Int) := by omega
    have b := bm_bd y (12 - j) (by omega) (by omega)
    rw [k32_12, if_neg (fun hh => by have := (iI_le (by omega) (by omega)).mp hh; omega), k32_1, iI_add, e2, bm_c h (12 - j) (by omega) (by omega), ob_some]
    unfold mof
    by_cases hc : yd ≤ bm y (12 - j)
    · rw [if_pos ((iI_le (by omega) (by omega)).mpr hc), if_pos hc]
      have e3 : ((12 - (j + 1) : Nat) : Int) = ((11 - j : Nat) : Int) := by omega
      rw [e3]
    · rw [if_neg (fun hh => hc ((iI_le (by omega) (by omega)).mp hh)), if_neg hc]
      exact ih (by omega)
theorem mo_m {y d : Int} {x2 : Int32} (h : -1000000000 * 10 ≤ y ∧ y < 1000000000 * 10) (hd : -100000000000000 ≤ d ∧ d ≤ 100000000000000) (n : Nat) : ∀ j : Nat, j ≤ 11 → lp_SkeletonClockModel_dateField_8 (jI d) x2 (jI y) (n + j + 1) (iI ((12 - j : Nat) : Int)) = some (iI (mof y (d - ny y + 1) j)) := by
  intro j
  induction j with
  | zero =>
    intro hj
    show st_SkeletonClockModel_dateField_8 (jI d) x2 (jI y) (lp_SkeletonClockModel_dateField_8 (jI d) x2 (jI y) (n + 0)) (iI ((12 : Nat) : Int)) = _
    unfold st_SkeletonClockModel_dateField_8
    rw [if_pos (by decide)]
    rfl
  | succ j ih =>
    intro hj
    show st_SkeletonClockModel_dateField_8 (jI d) x2 (jI y) (lp_SkeletonClockModel_dateField_8 (jI d) x2 (jI y) (n + j + 1)) (iI ((12 - (j + 1) : Nat) : Int)) = _
    unfold st_SkeletonClockModel_dateField_8
    have e2 : ((12 - (j + 1) : Nat) : Int) + 1 = ((12 - j : Nat) : Int) := by omega
    have b := bm_bd y (12 - j) (by omega) (by omega)
    have b1 := ny_bd (y := y) (by omega)
    rw [k32_12, if_neg (fun hh => by have := (iI_le (by omega) (by omega)).mp hh; omega), k32_1, iI_add, e2, nmo_m (by omega) (12 - j) (by omega) (by omega), ob_some]
    unfold mof
    by_cases hc : d - ny y + 1 ≤ bm y (12 - j)
    · rw [if_pos ((jI_lt (by omega) (by omega)).mpr (by omega)), if_pos hc]
      have e3 : ((12 - (j + 1) : Nat) : Int) = ((11 - j : Nat) : Int) := by omega
      rw [e3]
    · rw [if_neg (fun hh => hc (by have := (jI_lt (by omega) (by omega)).mp hh; omega)), if_neg hc]
      exact ih (by omega)
/-- the day of the week, Monday 1 -/
def wd (d : Int) : Int := (d + 3) % 7 + 1
theorem wd_bd (d : Int) : 1 ≤ wd d ∧ wd d ≤ 7 := by
  unfold wd
  omega
theorem fm_j {a b : Int} (ha : -9223372036854775807 ≤ a ∧ a < 9223372036854775808) (hb : 0 < b ∧ b < 4611686018427387904) : f_Math_floorMod_JJ (jI a) (jI b) = some (jI (a % b)) := by
  unfold f_Math_floorMod_JJ
  have h0 : ¬ jI b = 0 := by
    rw [k64_0, jI_eq (by omega) (by omega)]
    omega
  have h8 : (a.tmod b).natAbs ≤ a.natAbs := by
    rw [Int.natAbs_tmod]
    exact Nat.mod_le _ _
  have h9 : (a.tmod b).natAbs < b.natAbs := by
    rw [Int.natAbs_tmod]
    exact Nat.mod_lt _ (by omega)
  have h1 : a - a.tdiv b * b = a.tmod b := by
    have := Int.tmod_def a b
    rw [Int.mul_comm]
    omega
  have h3 := Int.emod_add_mul_ediv a b
  rw [if_pos h0, jI_div ha (by omega), jI_mul, jI_sub, h1, k64_0]
  by_cases hs : 0 ≤ a
  · rw [if_pos (by
      have := (jI_xor (a := jI a) (b := jI b) (by rw [jI_t (by omega)]; omega)).mpr (by rw [jI_t (by omega)]; exact hs)
      rw [k64_0] at this
      exact this)]
    rw [← h1, td_pos hs, Int.mul_comm]
    have : a - b * (a / b) = a % b := by omega
    rw [this]
  · rw [if_neg (fun hh => hs (by
      have := (jI_xor (a := jI a) (b := jI b) (by rw [jI_t (by omega)]; omega)).mp (by rw [k64_0]; exact hh)
      rw [jI_t (by omega)] at this
      exact this))]
    obtain ⟨t1, t2⟩ := td_neg (a := a) (b := b) (by omega) hb.1
    by_cases he : a.tmod b = 0
    · rw [if_pos (by rw [he])]
      have h5 : a.tdiv b * b = a := by omega
      have h6 := t1 h5
      rw [h6, Int.mul_comm] at h5
      have : a % b = a.tmod b := by omega
      rw [this]
    · rw [if_neg (fun hh => he ((jI_eq (by omega) (by omega)).mp hh)), jI_add]
      have h5 : a.tdiv b * b ≠ a := by omega
      have h6 := t2 h5
      have h7 : a.tdiv b = a / b + 1 := by omega
      have h10 : a.tdiv b * b = b * (a / b) + b := by
        rw [h7, Int.add_mul, Int.mul_comm]
        omega
      have : a.tmod b + b = a % b := by omega
      rw [this]
theorem wd_c {d : Int} (h : -100000000000000 ≤ d ∧ d ≤ 100000000000000) : f_Days_weekday (jI d) = some (iI (wd d)) := by
  unfold f_Days_weekday
  rw [k64_3, k64_7, jI_add, fm_j (by omega) (by omega), ob_some, j2i, k32_1, iI_add]
  rfl
theorem wd_m {d : Int} (h : -100000000000000 ≤ d ∧ d ≤ 100000000000000) : f_SkeletonClockModel_weekday (jI d) = some (iI (wd d)) := by
  unfold f_SkeletonClockModel_weekday
  rw [k64_3, k64_7, jI_add, md_j (by omega) (by omega), ob_some, jI_mul, jI_sub, j2i, k32_1, iI_add]
  have : d + 3 - 7 * ((d + 3) / 7) + 1 = wd d := by
    unfold wd
    omega
  rw [this]
theorem fM_c {y : Int} (h : -100000000000 ≤ y ∧ y ≤ 100000000000) : f_Days_firstMonday (jI y) = some (jI (ny y + 3 - wd (ny y + 3) + 1)) := by
  have b := ny_bd (y := y) (by omega)
  have b2 : -40000000000000 ≤ ny y ∧ ny y ≤ 40000000000000 := by
    unfold ny
    omega
  have b3 := wd_bd (ny y + 3)
  unfold f_Days_firstMonday
  rw [fy_c (by omega), ob_some, k64_3, jI_add, wd_c (by omega), ob_some, i2j (by omega), jI_sub, k64_1, jI_add]
theorem fM_m {y : Int} (h : -100000000000 ≤ y ∧ y ≤ 100000000000) : f_SkeletonClockModel_firstMonday (jI y) = some (jI (ny y + 3 - wd (ny y + 3) + 1)) := by
  have b := ny_bd (y := y) (by omega)
  have b2 : -40000000000000 ≤ ny y ∧ ny y ≤ 40000000000000 := by
    unfold ny
    omega
  have b3 := wd_bd (ny y + 3)
  unfold f_SkeletonClockModel_firstMonday
  rw [fy_m (by omega), ob_some, k64_3, jI_add, wd_m (by omega), ob_some, i2j (by omega), jI_sub, k64_1, jI_add]
