/-! The reference's fields of a moment. -/
def FV (d s n o : Int) (k : Nat) : Int := match k with
  | 0 => yr d
  | 1 => fWY d
  | 2 => fMo d
  | 3 => fDa d
  | 4 => yd d
  | 5 => wd d
  | 6 => fW d
  | 7 => s / 3600
  | 8 => fh s
  | 9 => s / 3600 / 12
  | 10 => s / 60 % 60
  | 11 => s % 60
  | 12 => n
  | _ => o
theorem VV_FV (d s n o : Int) (k : Nat) (h : k < 14) : VV d s (iI n) (iI o) k = iI (FV d s n o k) := by
  rcases (show k = 0 ∨ k = 1 ∨ k = 2 ∨ k = 3 ∨ k = 4 ∨ k = 5 ∨ k = 6 ∨ k = 7 ∨ k = 8 ∨ k = 9 ∨ k = 10 ∨ k = 11 ∨ k = 12 ∨ k = 13 by omega) with rfl | rfl | rfl | rfl | rfl | rfl | rfl | rfl | rfl | rfl | rfl | rfl | rfl | rfl <;> rfl
/-- the reference's number of a field, and the class's -/
def cix (f : Nat) : Nat := match f with
  | 0 => 0
  | 1 => 2
  | 2 => 3
  | 3 => 4
  | 4 => 5
  | 5 => 6
  | 6 => 1
  | k => k
theorem df_m {d : Int} (h : -1000000000000 ≤ d ∧ d ≤ 1000000000000) (s n o : Int) (f : Nat) (hf : f ≤ 6) : f_SkeletonClockModel_dateField (jI d) (iI f) = some (jI (FV d s n o (cix f))) := by
  have hy : -10000000000 < yr d ∧ yr d < 10000000000 := by
    have := yr_near d
    omega
  have hw := wd_bd d
  have hth : -1000000000010 ≤ th d ∧ th d ≤ 1000000000010 := by
    unfold th
    omega
  have hwy : -10000000000 < yr (th d) ∧ yr (th d) < 10000000000 := by
    have := yr_near (th d)
    omega
  have hyd := yd_bd d
  have hm := fMo_bd d
  have hb := bm_bd (yr d) (fMo d) (by omega) (by omega)
  have hs := yr_spec (th d)
  have hst := ny_step (yr (th d))
  have hny2 := ny_bd (y := yr (th d)) (by omega)
  unfold f_SkeletonClockModel_dateField
  have e : FU = 988 + 11 + 1 := rfl
  have e12 : (1 : Int32) = iI ((12 - 11 : Nat) : Int) := by decide
  have emo : mof (yr d) (d - ny (yr d) + 1) 11 = fMo d := rfl
  rw [yo_m (by omega), ob_some, e, e12, mo_m (by omega) (by omega) 988 11 (by decide), ob_some, emo]
  unfold jn_SkeletonClockModel_dateField_34
  have eth : d - wd d + 4 = th d := rfl
  rw [wd_m (by omega), ob_some, i2j (by omega), jI_sub, k64_4, jI_add, eth, yo_m (by omega), ob_some]
  rcases (show f = 0 ∨ f = 1 ∨ f = 2 ∨ f = 3 ∨ f = 4 ∨ f = 5 ∨ f = 6 by omega) with rfl | rfl | rfl | rfl | rfl | rfl | rfl
  · rw [if_pos (by decide)]
    rfl
  · rw [if_neg (by decide), if_pos (by decide), i2j (by omega)]
    rfl
  · rw [if_neg (by decide), if_neg (by decide), if_pos (by decide), nmo_m (by omega) (fMo d) (by omega) (by omega), ob_some, jI_sub, k64_1, jI_add]
    have : d - (ny (yr d) + bm (yr d) (fMo d)) + 1 = fDa d := by
      unfold fDa yd
      omega
    rw [this]
    rfl
  · rw [if_neg (by decide), if_neg (by decide), if_neg (by decide), if_pos (by decide), fy_m (by omega), ob_some, jI_sub, k64_1, jI_add]
    rfl
  · rw [if_neg (by decide), if_neg (by decide), if_neg (by decide), if_neg (by decide), if_pos (by decide), ob_some, i2j (by omega)]
    rfl
  · rw [if_neg (by decide), if_neg (by decide), if_neg (by decide), if_neg (by decide), if_neg (by decide), if_neg (by decide), fy_m (by omega), ob_some, jI_sub, k64_7, jI_div (by omega) (by omega), td_pos (by omega), k64_1, jI_add]
    rfl
  · rw [if_neg (by decide), if_neg (by decide), if_neg (by decide), if_neg (by decide), if_neg (by decide), if_pos (by decide)]
    rfl
theorem fh_bd {s : Int} (h : 0 ≤ s ∧ s < 86400) : 1 ≤ fh s ∧ fh s ≤ 12 := by
  unfold fh
  split <;> omega
theorem tf_m {s : Int} (h : 0 ≤ s ∧ s < 86400) (d n o : Int) (f : Nat) (hf : 7 ≤ f ∧ f ≤ 11) : f_SkeletonClockModel_timeField (iI s) (iI f) = some (iI (FV d s n o f)) := by
  unfold f_SkeletonClockModel_timeField
  have k36 : (3600 : Int32) = iI 3600 := by decide
  have k60 : (60 : Int32) = iI 60 := by decide
  rcases (show f = 7 ∨ f = 8 ∨ f = 9 ∨ f = 10 ∨ f = 11 by omega) with rfl | rfl | rfl | rfl | rfl
  · rw [if_pos (by decide), k36, iI_divn (by omega) (by omega)]
    rfl
  · rw [if_neg (by decide), if_pos (by decide), k36, k32_12, iI_divn (by omega) (by omega), iI_modn (by omega) (by omega)]
    show _ = some (iI (fh s))
    unfold fh
    by_cases hz : s / 3600 % 12 = 0
    · rw [if_pos (by rw [hz]; decide), if_pos hz]
    · rw [if_neg (fun hh => hz (by rw [k32_0] at hh; exact (iI_eq (by omega) (by omega)).mp hh)), if_neg hz]
  · rw [if_neg (by decide), if_neg (by decide), if_pos (by decide), k36, k32_12, iI_divn (by omega) (by omega)]
    show _ = some (iI (s / 3600 / 12))
    by_cases hz : 12 ≤ s / 3600
    · rw [if_pos ((iI_le (by omega) (by omega)).mpr hz), k32_1]
      have : s / 3600 / 12 = 1 := by omega
      rw [this]
    · rw [if_neg (fun hh => hz ((iI_le (by omega) (by omega)).mp hh)), k32_0]
      have : s / 3600 / 12 = 0 := by omega
      rw [this]
  · rw [if_neg (by decide), if_neg (by decide), if_neg (by decide), if_pos (by decide), k60, iI_divn (by omega) (by omega), iI_modn (by omega) (by omega)]
    rfl
  · rw [if_neg (by decide), if_neg (by decide), if_neg (by decide), if_neg (by decide), k60, iI_modn (by omega) (by omega)]
    rfl
theorem FV_t {s : Int} (h : 0 ≤ s ∧ s < 86400) (d n o : Int) (f : Nat) (hf : 7 ≤ f ∧ f ≤ 11) : 0 ≤ FV d s n o f ∧ FV d s n o f < 86400 := by
  have h8 := fh_bd h
  rcases (show f = 7 ∨ f = 8 ∨ f = 9 ∨ f = 10 ∨ f = 11 by omega) with rfl | rfl | rfl | rfl | rfl
  · show 0 ≤ s / 3600 ∧ s / 3600 < 86400
    omega
  · show 0 ≤ fh s ∧ fh s < 86400
    omega
  · show 0 ≤ s / 3600 / 12 ∧ s / 3600 / 12 < 86400
    omega
  · show 0 ≤ s / 60 % 60 ∧ s / 60 % 60 < 86400
    omega
  · show 0 ≤ s % 60 ∧ s % 60 < 86400
    omega
theorem pr_m {d s n o : Int} (h : -1000000000000 ≤ d ∧ d ≤ 1000000000000) (hs : 0 ≤ s ∧ s < 86400) (hn : -2147483648 ≤ n ∧ n < 2147483648) (ho : -2147483648 ≤ o ∧ o < 2147483648) (f : Nat) (hf : f ≤ 13) : f_SkeletonClockModel_present (jI d) (iI s) (iI n) (iI o) (iI f) = some (jI (FV d s n o (cix f))) := by
  unfold f_SkeletonClockModel_present
  have k6 : (6 : Int32) = iI 6 := by decide
  by_cases h6 : f ≤ 6
  · rw [k6, if_neg (fun hh => by have := (iI_lt (by omega) (by omega)).mp hh; omega), df_m h s n o f h6, ob_some]
  · rw [k6, if_pos ((iI_lt (by omega) (by omega)).mpr (by omega)), k32_13, k32_12]
    by_cases h13 : f = 13
    · subst h13
      rw [if_pos (by decide), i2j ho]
      rfl
    · rw [if_neg (fun hh => h13 (by have := (iI_eq (by omega) (by omega)).mp hh; omega))]
      by_cases h12 : f = 12
      · subst h12
        rw [if_pos (by decide), i2j hn]
        rfl
      · rw [if_neg (fun hh => h12 (by have := (iI_eq (by omega) (by omega)).mp hh; omega)), tf_m hs d n o f (by omega), ob_some]
        have b := FV_t hs d n o f (by omega)
        rw [i2j (by omega)]
        have e : cix f = f := by
          rcases (show f = 7 ∨ f = 8 ∨ f = 9 ∨ f = 10 ∨ f = 11 by omega) with rfl | rfl | rfl | rfl | rfl <;> rfl
        rw [e]
theorem yf_m {d : Int} (h : -1000000000000 ≤ d ∧ d ≤ 1000000000000) : ((-999999999 ≤ yr d ∧ yr d ≤ 999999999) → f_SkeletonClockModel_yearFits (jI d) = some 1) ∧ (¬ (-999999999 ≤ yr d ∧ yr d ≤ 999999999) → f_SkeletonClockModel_yearFits (jI d) = some 0) := by
  have hy : -10000000000 < yr d ∧ yr d < 10000000000 := by
    have := yr_near d
    omega
  unfold f_SkeletonClockModel_yearFits
  have k1 : (-999999999 : Int64) = jI (-999999999) := by decide
  have k2 : (999999999 : Int64) = jI 999999999 := by decide
  rw [yo_m (by omega), ob_some, k1, k2]
  constructor
  · intro hh
    rw [if_neg (fun q => by have := (jI_lt (by omega) (by omega)).mp q; omega), if_neg (fun q => by have := (jI_lt (by omega) (by omega)).mp q; omega)]
  · intro hh
    by_cases h1 : yr d < -999999999
    · rw [if_pos ((jI_lt (by omega) (by omega)).mpr h1)]
    · rw [if_neg (fun q => h1 ((jI_lt (by omega) (by omega)).mp q)), if_pos ((jI_lt (by omega) (by omega)).mpr (by omega))]
/-- a year within the bounds: its days lie within these -/
theorem day_bd {d : Int} (h : -1000000000 ≤ yr d ∧ yr d ≤ 1000000000) : -400000000000 ≤ d ∧ d ≤ 400000000000 := by
  have h1 := yr_spec d
  have h2 := ny_step (yr d)
  have h3 : -390000000000 ≤ ny (yr d) ∧ ny (yr d) ≤ 390000000000 := by
    unfold ny
    omega
  omega
