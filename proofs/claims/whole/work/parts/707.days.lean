/-! The calendar, in whole numbers, and both sides' functions by it. -/
theorem k64_0 : (0 : Int64) = jI 0 := by decide
theorem k64_1 : (1 : Int64) = jI 1 := by decide
theorem k64_3 : (3 : Int64) = jI 3 := by decide
theorem k64_4 : (4 : Int64) = jI 4 := by decide
theorem k64_7 : (7 : Int64) = jI 7 := by decide
theorem k64_60 : (60 : Int64) = jI 60 := by decide
theorem k64_100 : (100 : Int64) = jI 100 := by decide
theorem k64_365 : (365 : Int64) = jI 365 := by decide
theorem k64_366 : (366 : Int64) = jI 366 := by decide
theorem k64_400 : (400 : Int64) = jI 400 := by decide
theorem k64_477 : (477 : Int64) = jI 477 := by decide
theorem k64_1970 : (1970 : Int64) = jI 1970 := by decide
theorem k64_86400 : (86400 : Int64) = jI 86400 := by decide
theorem k64_146097 : (146097 : Int64) = jI 146097 := by decide
theorem ob_some {α β : Type} (a : α) (f : α → Option β) : (some a).bind f = f a := rfl
/-- the first day of a year, counted from 1970-01-01 -/
def ny (y : Int) : Int := 365 * (y - 1970) + ((y - 1) / 4 - (y - 1) / 100 + (y - 1) / 400) - 477
theorem ny_step (y : Int) : ny y + 365 ≤ ny (y + 1) ∧ ny (y + 1) ≤ ny y + 366 := by
  unfold ny
  omega
theorem ny_up {a b : Int} (h : a ≤ b) : ny a + 365 * (b - a) ≤ ny b := by
  obtain ⟨n, hn⟩ : ∃ n : Nat, b = a + n := ⟨(b - a).toNat, by omega⟩
  subst hn
  clear h
  induction n with
  | zero => simp
  | succ n ih =>
    have h1 := (ny_step (a + n)).1
    have h2 : a + ((n + 1 : Nat) : Int) = a + n + 1 := by omega
    rw [h2]
    omega
theorem ny_one {y z d : Int} (h1 : ny y ≤ d) (h2 : d < ny (y + 1)) (h3 : ny z ≤ d) (h4 : d < ny (z + 1)) : y = z := by
  rcases Int.lt_trichotomy y z with h | h | h
  · have := ny_up (show y + 1 ≤ z by omega)
    omega
  · exact h
  · have := ny_up (show z + 1 ≤ y by omega)
    omega
/-- the mean year's guess is never more than one year off -/
theorem ny_guess (d : Int) : ny (1970 + d * 400 / 146097 - 1) ≤ d ∧ d < ny (1970 + d * 400 / 146097 + 2) := by
  generalize hg : d * 400 / 146097 = g
  have h1 : 146097 * g ≤ d * 400 ∧ d * 400 < 146097 * g + 146097 := by omega
  unfold ny
  omega
/-- the year of a day -/
def yr (d : Int) : Int := if d < ny (1970 + d * 400 / 146097) then 1970 + d * 400 / 146097 - 1 else if ny (1970 + d * 400 / 146097 + 1) ≤ d then 1970 + d * 400 / 146097 + 1 else 1970 + d * 400 / 146097
theorem yr_spec (d : Int) : ny (yr d) ≤ d ∧ d < ny (yr d + 1) := by
  obtain ⟨h1, h2⟩ := ny_guess d
  unfold yr
  by_cases ha : d < ny (1970 + d * 400 / 146097)
  · rw [if_pos ha]
    exact ⟨h1, by rw [show 1970 + d * 400 / 146097 - 1 + 1 = 1970 + d * 400 / 146097 by omega]; exact ha⟩
  · rw [if_neg ha]
    by_cases hb : ny (1970 + d * 400 / 146097 + 1) ≤ d
    · rw [if_pos hb]
      exact ⟨hb, by rw [show 1970 + d * 400 / 146097 + 1 + 1 = 1970 + d * 400 / 146097 + 2 by omega]; exact h2⟩
    · rw [if_neg hb]
      omega
theorem yr_eq {d y : Int} (h1 : ny y ≤ d) (h2 : d < ny (y + 1)) : yr d = y := ny_one (yr_spec d).1 (yr_spec d).2 h1 h2
theorem yr_near (d : Int) : 1970 + d * 400 / 146097 - 1 ≤ yr d ∧ yr d ≤ 1970 + d * 400 / 146097 + 1 := by
  unfold yr
  split
  · omega
  · split <;> omega
theorem ny_bd {y : Int} (h : -1000000000000 ≤ y ∧ y ≤ 1000000000000) : -400000000000000 ≤ ny y ∧ ny y ≤ 400000000000000 := by
  unfold ny
  omega
theorem fy_c {y : Int} (h : -1000000000000 ≤ y ∧ y ≤ 1000000000000) : f_Days_firstOfYear (jI y) = some (jI (ny y)) := by
  unfold f_Days_firstOfYear
  rw [k64_1, k64_4, k64_100, k64_400, k64_365, k64_1970, k64_477, jI_sub, fd_j (by omega) (by omega), ob_some, fd_j (by omega) (by omega), ob_some, fd_j (by omega) (by omega), ob_some, jI_sub, jI_sub, jI_mul, jI_add, jI_add, jI_sub]
  rfl
theorem fy_m {y : Int} (h : -1000000000000 ≤ y ∧ y ≤ 1000000000000) : f_SkeletonClockModel_newYear (jI y) = some (jI (ny y)) := by
  have h1 : ∀ z : Int, (-1000000000000 ≤ z ∧ z ≤ 1000000000000) → f_SkeletonClockModel_leaps (jI z) = some (jI ((z - 1) / 4 - (z - 1) / 100 + (z - 1) / 400)) := by
    intro z hz
    unfold f_SkeletonClockModel_leaps
    rw [k64_1, k64_4, k64_100, k64_400, jI_sub, md_j (by omega) (by omega), ob_some, md_j (by omega) (by omega), ob_some, md_j (by omega) (by omega), ob_some, jI_sub, jI_add]
  unfold f_SkeletonClockModel_newYear
  rw [k64_1970, k64_365, h1 y h, ob_some, h1 1970 (by omega), ob_some, jI_sub, jI_mul, jI_add, jI_sub]
  rfl
theorem yo_c {d : Int} (h : -100000000000000 ≤ d ∧ d ≤ 100000000000000) : f_Days_yearOf (jI d) = some (jI (yr d)) := by
  unfold f_Days_yearOf
  have hg : -300000000000 ≤ d * 400 / 146097 ∧ d * 400 / 146097 ≤ 300000000000 := by omega
  rw [k64_400, k64_146097, k64_1970, k64_1, jI_mul, fd_j (by omega) (by omega), ob_some, jI_add, fy_c (by omega), ob_some]
  have b1 := ny_bd (y := 1970 + d * 400 / 146097) (by omega)
  have b2 := ny_bd (y := 1970 + d * 400 / 146097 + 1) (by omega)
  unfold yr
  by_cases ha : d < ny (1970 + d * 400 / 146097)
  · rw [if_neg (fun hh => by have := (jI_le (by omega) (by omega)).mp hh; omega), if_pos ha, jI_sub]
  · rw [if_pos ((jI_le (by omega) (by omega)).mpr (by omega)), if_neg ha, jI_add, fy_c (by omega), ob_some]
    by_cases hb : ny (1970 + d * 400 / 146097 + 1) ≤ d
    · rw [if_neg (fun hh => by have := (jI_lt (by omega) (by omega)).mp hh; omega), if_pos hb]
    · rw [if_pos ((jI_lt (by omega) (by omega)).mpr (by omega)), if_neg hb]
