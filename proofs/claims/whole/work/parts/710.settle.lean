/-! The fields of a day and a second; what settle leaves; what the reference answers. -/
def yd (d : Int) : Int := d - ny (yr d) + 1
def fMo (d : Int) : Nat := mof (yr d) (yd d) 11
def fDa (d : Int) : Int := yd d - bm (yr d) (fMo d)
def th (d : Int) : Int := d - wd d + 4
def fWY (d : Int) : Int := yr (th d)
def fW (d : Int) : Int := (th d - ny (fWY d)) / 7 + 1
def fh (s : Int) : Int := if s / 3600 % 12 = 0 then 12 else s / 3600 % 12
def VV (d s : Int) (nano off : Int32) (k : Nat) : Int32 := match k with
  | 0 => iI (yr d)
  | 1 => iI (fWY d)
  | 2 => iI (fMo d)
  | 3 => iI (fDa d)
  | 4 => iI (yd d)
  | 5 => iI (wd d)
  | 6 => iI (fW d)
  | 7 => iI (s / 3600)
  | 8 => iI (fh s)
  | 9 => iI (s / 3600 / 12)
  | 10 => iI (s / 60 % 60)
  | 11 => iI (s % 60)
  | 12 => nano
  | _ => off
theorem yd_bd (d : Int) : 1 ≤ yd d ∧ yd d ≤ 366 := by
  have h1 := yr_spec d
  have h2 := ny_step (yr d)
  unfold yd
  omega
theorem fMo_bd (d : Int) : 1 ≤ fMo d ∧ fMo d ≤ 12 := mof_bd _ _ 11 (by decide)
theorem yr_bd {d : Int} (h : -10000000000000 ≤ d ∧ d ≤ 10000000000000) : -100000000000 ≤ yr d ∧ yr d ≤ 100000000000 := by
  have := yr_near d
  omega
theorem iI_divn {a b : Int} (ha : 0 ≤ a ∧ a < 2147483648) (hb : 0 < b ∧ b < 2147483648) : iI a / iI b = iI (a / b) := by
  rw [iI_div (by omega) hb, td_pos ha.1]
theorem iI_modn {a b : Int} (ha : 0 ≤ a ∧ a < 2147483648) (hb : 0 < b ∧ b < 2147483648) : iI a - iI a / iI b * iI b = iI (a % b) := by
  rw [iI_divn ha hb, iI_mul, iI_sub]
  have h3 := Int.emod_add_mul_ediv a b
  rw [Int.mul_comm]
  have : a - b * (a / b) = a % b := by omega
  rw [this]
theorem sd_c {d : Int} (h : -1000000000000 ≤ d ∧ d ≤ 1000000000000) (f : Nat → Int32) : ∃ v : Nat → Int32, f_Moment_settleDate f (jI d) = some v ∧ (∀ k, k < 7 → v k = VV d 0 0 0 k) ∧ ∀ k, 7 ≤ k → v k = f k := by
  have hy := yr_bd (d := d) (by omega)
  have hw := wd_bd d
  have hth : -1000000000010 ≤ th d ∧ th d ≤ 1000000000010 := by
    unfold th
    omega
  have hwy := yr_bd (d := th d) (by omega)
  have hyd := yd_bd d
  have hm := fMo_bd d
  have hb := bm_bd (yr d) (fMo d) (by omega) (by omega)
  have hs := yr_spec (th d)
  have hst := ny_step (yr (th d))
  have hny := ny_bd (y := yr d) (by omega)
  have hny2 := ny_bd (y := yr (th d)) (by omega)
  unfold f_Moment_settleDate
  have e : FU = 988 + 11 + 1 := rfl
  have e12 : (1 : Int32) = iI ((12 - 11 : Nat) : Int) := by decide
  have ey : d - ny (yr d) + 1 = yd d := rfl
  rw [yo_c (by omega), ob_some, fy_c (by omega), ob_some, jI_sub, j2i, k32_1, iI_add, ey, e, ← k32_1, e12, mo_c (by omega) (by omega) 988 11 (by decide), ob_some]
  unfold jn_Moment_settleDate_45
  have eth : d - wd d + 4 = th d := rfl
  have emo : mof (yr d) (yd d) 11 = fMo d := rfl
  rw [wd_c (by omega), ob_some, i2j (by omega), jI_sub, k64_4, jI_add, eth, yo_c (by omega), ob_some, emo, bm_c (by omega) (fMo d) (by omega) (by omega), ob_some, ob_some, fy_c (by omega), ob_some, iI_sub, jI_sub, j2i, j2i, j2i, k32_7, iI_divn (by omega) (by omega), k32_1, iI_add]
  refine ⟨_, rfl, fun k hk => ?_, fun k hk => ?_⟩
  · rcases (show k = 0 ∨ k = 1 ∨ k = 2 ∨ k = 3 ∨ k = 4 ∨ k = 5 ∨ k = 6 by omega) with rfl | rfl | rfl | rfl | rfl | rfl | rfl <;> rfl
  · simp only [upd]
    rw [if_neg, if_neg, if_neg, if_neg, if_neg, if_neg, if_neg] <;> (intro hh; have : k ≤ 6 := by rw [hh]; decide) <;> omega
theorem st_c {s : Int} (h : 0 ≤ s ∧ s < 86400) (f : Nat → Int32) : ∃ v : Nat → Int32, f_Moment_settleTime f (iI s) = some v ∧ (∀ k, 7 ≤ k → k < 12 → v k = VV 0 s 0 0 k) ∧ (∀ k, k < 7 → v k = f k) := by
  unfold f_Moment_settleTime
  have k36 : (3600 : Int32) = iI 3600 := by decide
  rw [k36, k32_12, iI_divn (by omega) (by omega), iI_modn (by omega) (by omega)]
  have hj : ∀ z : Int32, ∃ v : Nat → Int32, jn_Moment_settleTime_36 (upd f ((7 : Int32)).toNatClampNeg (iI (s / 3600))) (iI s) (iI (s / 3600)) (8 : Int32) z = some v ∧ (v 7 = iI (s / 3600) ∧ v 8 = z ∧ v 9 = iI (s / 3600 / 12) ∧ v 10 = iI (s / 60 % 60) ∧ v 11 = iI (s % 60)) ∧ (∀ k, k < 7 → v k = f k) := by
    intro z
    unfold jn_Moment_settleTime_36
    have k60 : (60 : Int32) = iI 60 := by decide
    rw [if_pos (by decide), k32_12, k60, iI_divn (by omega) (by omega), iI_divn (by omega) (by omega), iI_modn (by omega) (by omega)]
    have e1 : iI s - iI (s / 60) * iI 60 = iI (s % 60) := by
      rw [iI_mul, iI_sub]
      have : s - s / 60 * 60 = s % 60 := by omega
      rw [this]
    rw [e1]
    refine ⟨_, rfl, ⟨rfl, rfl, rfl, rfl, rfl⟩, fun k hk => ?_⟩
    simp only [upd]
    rw [if_neg, if_neg, if_neg, if_neg, if_neg] <;> (intro hh; have : 7 ≤ k := by rw [hh]; decide) <;> omega
  by_cases hz : s / 3600 % 12 = 0
  · rw [if_pos (by rw [hz]; decide)]
    obtain ⟨v, h1, ⟨h7, h8, h9, h10, h11⟩, h2⟩ := hj (iI 12)
    refine ⟨v, h1, fun k hk hk2 => ?_, h2⟩
    rcases (show k = 7 ∨ k = 8 ∨ k = 9 ∨ k = 10 ∨ k = 11 by omega) with rfl | rfl | rfl | rfl | rfl
    · exact h7
    · rw [h8]
      show iI 12 = iI (fh s)
      unfold fh
      rw [if_pos hz]
    · exact h9
    · exact h10
    · exact h11
  · rw [if_neg (fun hh => hz (by rw [k32_0] at hh; exact (iI_eq (by omega) (by omega)).mp hh))]
    obtain ⟨v, h1, ⟨h7, h8, h9, h10, h11⟩, h2⟩ := hj (iI (s / 3600 % 12))
    refine ⟨v, h1, fun k hk hk2 => ?_, h2⟩
    rcases (show k = 7 ∨ k = 8 ∨ k = 9 ∨ k = 10 ∨ k = 11 by omega) with rfl | rfl | rfl | rfl | rfl
    · exact h7
    · rw [h8]
      show iI (s / 3600 % 12) = iI (fh s)
      unfold fh
      rw [if_neg hz]
    · exact h9
    · exact h10
    · exact h11
theorem se_c {sc o : Int} (h : -80000000000000000 ≤ sc ∧ sc ≤ 80000000000000000) (ho : -2000 ≤ o ∧ o ≤ 2000) (a : Int64) (b : Int32) (f : Nat → Int32) (nano parts : Int32) : ∃ v : Nat → Int32, f_Moment_settle a b f (jI sc) nano (iI o) parts = some (jI sc, parts, v) ∧ ∀ k, k < 14 → v k = VV ((sc + 60 * o) / 86400) ((sc + 60 * o) % 86400) nano (iI o) k := by
  unfold f_Moment_settle
  rw [i2j (by omega), k64_60, jI_mul, jI_add, k64_86400, fd_j (by omega) (by omega), ob_some]
  obtain ⟨v1, e1, h1, -⟩ := sd_c (d := (sc + 60 * o) / 86400) (by omega) f
  rw [e1, ob_some, fm_j (by omega) (by omega), ob_some, j2i]
  obtain ⟨v2, e2, h2, h3⟩ := st_c (s := (sc + 60 * o) % 86400) (by omega) v1
  rw [e2, ob_some]
  refine ⟨_, rfl, fun k hk => ?_⟩
  rcases (show k < 7 ∨ (7 ≤ k ∧ k < 12) ∨ k = 12 ∨ k = 13 by omega) with hk1 | ⟨hk1, hk2⟩ | rfl | rfl
  · simp only [upd]
    rw [if_neg (by intro hh; have : 13 ≤ k := by rw [hh]; decide
                   omega), if_neg (by intro hh; have : 12 ≤ k := by rw [hh]; decide
                                      omega), h3 k hk1, h1 k hk1]
    rcases (show k = 0 ∨ k = 1 ∨ k = 2 ∨ k = 3 ∨ k = 4 ∨ k = 5 ∨ k = 6 by omega) with rfl | rfl | rfl | rfl | rfl | rfl | rfl <;> rfl
  · simp only [upd]
    rw [if_neg (by intro hh; have : 13 ≤ k := by rw [hh]; decide
                   omega), if_neg (by intro hh; have : 12 ≤ k := by rw [hh]; decide
                                      omega), h2 k hk1 hk2]
    rcases (show k = 7 ∨ k = 8 ∨ k = 9 ∨ k = 10 ∨ k = 11 by omega) with rfl | rfl | rfl | rfl | rfl <;> rfl
  · rfl
  · rfl
