/-! Model's year of a day; leap years, months, days of the week. -/
theorem FU_s (k : Nat) (h : k ≤ 1000) : FU = (1000 - k) + k := by
  unfold FU
  omega
theorem yo_m1 {d g : Int} (hd : -100000000000000 ≤ d ∧ d ≤ 100000000000000) (hg : -900000000000 ≤ g ∧ g ≤ 900000000000) (h1 : ny (g - 1) ≤ d) (n : Nat) : lp_SkeletonClockModel_yearOf_16 (jI d) (n + 2) (jI g) = some (jI (if d < ny g then g - 1 else g)) := by
  have b1 := ny_bd (y := g) (by omega)
  have b2 := ny_bd (y := g - 1) (by omega)
  show st_SkeletonClockModel_yearOf_16 (jI d) (lp_SkeletonClockModel_yearOf_16 (jI d) (n + 1)) (jI g) = _
  unfold st_SkeletonClockModel_yearOf_16
  rw [fy_m (by omega), ob_some]
  by_cases ha : d < ny g
  · rw [if_neg (fun hh => by have := (jI_le (by omega) (by omega)).mp hh; omega), if_pos ha]
    show st_SkeletonClockModel_yearOf_16 (jI d) (lp_SkeletonClockModel_yearOf_16 (jI d) n) (jI g - 1) = _
    unfold st_SkeletonClockModel_yearOf_16
    rw [k64_1, jI_sub, fy_m (by omega), ob_some, if_pos ((jI_le (by omega) (by omega)).mpr h1)]
  · rw [if_pos ((jI_le (by omega) (by omega)).mpr (by omega)), if_neg ha]
theorem yo_m2 {d g : Int} (hd : -100000000000000 ≤ d ∧ d ≤ 100000000000000) (hg : -900000000000 ≤ g ∧ g ≤ 900000000000) (h1 : d < ny (g + 2)) (n : Nat) : lp_SkeletonClockModel_yearOf_32 (jI d) (n + 2) (jI g) = some (jI (if ny (g + 1) ≤ d then g + 1 else g)) := by
  have b1 := ny_bd (y := g + 1) (by omega)
  have b2 := ny_bd (y := g + 2) (by omega)
  show st_SkeletonClockModel_yearOf_32 (jI d) (lp_SkeletonClockModel_yearOf_32 (jI d) (n + 1)) (jI g) = _
  unfold st_SkeletonClockModel_yearOf_32
  rw [k64_1, jI_add, fy_m (by omega), ob_some]
  by_cases ha : ny (g + 1) ≤ d
  · rw [if_neg (fun hh => by have := (jI_lt (by omega) (by omega)).mp hh; omega), if_pos ha]
    show st_SkeletonClockModel_yearOf_32 (jI d) (lp_SkeletonClockModel_yearOf_32 (jI d) n) (jI (g + 1)) = _
    unfold st_SkeletonClockModel_yearOf_32
    rw [k64_1, jI_add, show g + 1 + 1 = g + 2 by omega, fy_m (by omega), ob_some, if_pos ((jI_lt (by omega) (by omega)).mpr h1)]
  · rw [if_pos ((jI_lt (by omega) (by omega)).mpr (by omega)), if_neg ha]
theorem yo_m {d : Int} (h : -100000000000000 ≤ d ∧ d ≤ 100000000000000) : f_SkeletonClockModel_yearOf (jI d) = some (jI (yr d)) := by
  unfold f_SkeletonClockModel_yearOf
  have hg : -300000000000 ≤ d * 400 / 146097 ∧ d * 400 / 146097 ≤ 300000000000 := by omega
  obtain ⟨h1, h2⟩ := ny_guess d
  have e : FU = 998 + 2 := rfl
  rw [k64_400, k64_146097, k64_1970, jI_mul, md_j (by omega) (by omega), ob_some, jI_add, e, yo_m1 h (by omega) h1, ob_some]
  by_cases ha : d < ny (1970 + d * 400 / 146097)
  · rw [if_pos ha, yo_m2 h (by omega) (by
      have := ny_up (show 1970 + d * 400 / 146097 ≤ 1970 + d * 400 / 146097 - 1 + 2 by omega)
      omega), ob_some, if_neg (by
      rw [show 1970 + d * 400 / 146097 - 1 + 1 = 1970 + d * 400 / 146097 by omega]
      omega)]
    unfold yr
    rw [if_pos ha]
  · rw [if_neg ha, yo_m2 h (by omega) h2, ob_some]
    unfold yr
    rw [if_neg ha]
theorem tz {a b : Int} : a - a.tdiv b * b = 0 ↔ a % b = 0 := by
  have h1 : a - a.tdiv b * b = a.tmod b := by
    have := Int.tmod_def a b
    rw [Int.mul_comm]
    omega
  rw [h1]
  constructor
  · intro h
    exact Int.emod_eq_zero_of_dvd (Int.dvd_of_tmod_eq_zero h)
  · intro h
    exact Int.tmod_eq_zero_of_dvd (Int.dvd_of_emod_eq_zero h)
def leap (y : Int) : Prop := y % 4 = 0 ∧ (y % 100 ≠ 0 ∨ y % 400 = 0)
theorem leap_ny (y : Int) : (leap y → ny (y + 1) = ny y + 366) ∧ (¬ leap y → ny (y + 1) = ny y + 365) := by
  unfold leap ny
  omega
theorem k32_0 : (0 : Int32) = iI 0 := by decide
theorem k32_1 : (1 : Int32) = iI 1 := by decide
theorem k32_2 : (2 : Int32) = iI 2 := by decide
theorem k32_7 : (7 : Int32) = iI 7 := by decide
theorem k32_12 : (12 : Int32) = iI 12 := by decide
theorem k32_13 : (13 : Int32) = iI 13 := by decide
theorem jz {a b : Int} (ha : -9223372036854775807 ≤ a ∧ a < 9223372036854775808) (hb : 0 < b ∧ b < 9223372036854775808) : (jI a - jI a / jI b * jI b = 0) ↔ a % b = 0 := by
  have h7 : (a.tdiv b * b).natAbs ≤ a.natAbs := by
    rw [Int.natAbs_mul, Int.natAbs_tdiv]
    exact Nat.div_mul_le_self _ _
  have h8 : (a.tmod b).natAbs ≤ a.natAbs := by
    rw [Int.natAbs_tmod]
    exact Nat.mod_le _ _
  have h1 : a - a.tdiv b * b = a.tmod b := by
    have := Int.tmod_def a b
    rw [Int.mul_comm]
    omega
  rw [jI_div ha hb, jI_mul, jI_sub, k64_0, jI_eq (by omega) (by omega), tz]
theorem lp_c {y : Int} (h : -1000000000000 ≤ y ∧ y ≤ 1000000000000) : (leap y → f_Days_isLeap (jI y) = some 1) ∧ (¬ leap y → f_Days_isLeap (jI y) = some 0) := by
  unfold f_Days_isLeap leap
  rw [k64_4, k64_100, k64_400]
  by_cases h4 : y % 4 = 0
  · rw [if_pos ((jz (by omega) (by omega)).mpr h4)]
    by_cases h1 : y % 100 = 0
    · rw [if_pos ((jz (by omega) (by omega)).mpr h1)]
      by_cases h2 : y % 400 = 0
      · rw [if_pos ((jz (by omega) (by omega)).mpr h2)]
        exact ⟨fun _ => rfl, fun hn => absurd ⟨h4, Or.inr h2⟩ hn⟩
      · rw [if_neg (fun hh => h2 ((jz (by omega) (by omega)).mp hh))]
        exact ⟨fun hn => by omega, fun _ => rfl⟩
    · rw [if_neg (fun hh => h1 ((jz (by omega) (by omega)).mp hh))]
      exact ⟨fun _ => rfl, fun hn => absurd ⟨h4, Or.inl h1⟩ hn⟩
  · rw [if_neg (fun hh => h4 ((jz (by omega) (by omega)).mp hh))]
    exact ⟨fun hn => absurd hn.1 h4, fun _ => rfl⟩
/-- days before a month 1 .. 13 -/
def bmT (m : Nat) : Int := ([0, 0, 31, 59, 90, 120, 151, 181, 212, 243, 273, 304, 334, 365] : List Int).getD m 0
def lpI (y : Int) : Int := if y % 4 = 0 ∧ (y % 100 ≠ 0 ∨ y % 400 = 0) then 1 else 0
def bm (y : Int) (m : Nat) : Int := bmT m + (if 2 < m then lpI y else 0)
