/-! Whole numbers behind the machine's: jI, iI. -/
def jI (i : Int) : Int64 := Int64.ofInt i
def iI (i : Int) : Int32 := Int32.ofInt i
theorem jI_of (x : Int64) : jI x.toInt = x := Int64.ofInt_toInt x
theorem iI_of (x : Int32) : iI x.toInt = x := Int32.ofInt_toInt x
theorem jI_t {i : Int} (h : -9223372036854775808 ≤ i ∧ i < 9223372036854775808) : (jI i).toInt = i := Int64.toInt_ofInt_of_le h.1 h.2
theorem iI_t {i : Int} (h : -2147483648 ≤ i ∧ i < 2147483648) : (iI i).toInt = i := Int32.toInt_ofInt_of_le h.1 h.2
theorem jI_add (a b : Int) : jI a + jI b = jI (a + b) := (Int64.ofInt_add a b).symm
theorem jI_sub (a b : Int) : jI a - jI b = jI (a - b) := (Int64.ofInt_sub a b).symm
theorem jI_mul (a b : Int) : jI a * jI b = jI (a * b) := (Int64.ofInt_mul a b).symm
theorem jI_neg (a : Int) : -jI a = jI (-a) := (Int64.ofInt_neg a).symm
theorem iI_add (a b : Int) : iI a + iI b = iI (a + b) := (Int32.ofInt_add a b).symm
theorem iI_sub (a b : Int) : iI a - iI b = iI (a - b) := (Int32.ofInt_sub a b).symm
theorem iI_mul (a b : Int) : iI a * iI b = iI (a * b) := (Int32.ofInt_mul a b).symm
theorem iI_neg (a : Int) : -iI a = iI (-a) := (Int32.ofInt_neg a).symm
theorem jI_lt {a b : Int} (ha : -9223372036854775808 ≤ a ∧ a < 9223372036854775808) (hb : -9223372036854775808 ≤ b ∧ b < 9223372036854775808) : jI a < jI b ↔ a < b := by
  rw [Int64.lt_iff_toInt_lt, jI_t ha, jI_t hb]
theorem jI_le {a b : Int} (ha : -9223372036854775808 ≤ a ∧ a < 9223372036854775808) (hb : -9223372036854775808 ≤ b ∧ b < 9223372036854775808) : jI a ≤ jI b ↔ a ≤ b := by
  rw [Int64.le_iff_toInt_le, jI_t ha, jI_t hb]
theorem jI_eq {a b : Int} (ha : -9223372036854775808 ≤ a ∧ a < 9223372036854775808) (hb : -9223372036854775808 ≤ b ∧ b < 9223372036854775808) : jI a = jI b ↔ a = b := by
  rw [← Int64.toInt_inj, jI_t ha, jI_t hb]
theorem iI_lt {a b : Int} (ha : -2147483648 ≤ a ∧ a < 2147483648) (hb : -2147483648 ≤ b ∧ b < 2147483648) : iI a < iI b ↔ a < b := by
  rw [Int32.lt_iff_toInt_lt, iI_t ha, iI_t hb]
theorem iI_le {a b : Int} (ha : -2147483648 ≤ a ∧ a < 2147483648) (hb : -2147483648 ≤ b ∧ b < 2147483648) : iI a ≤ iI b ↔ a ≤ b := by
  rw [Int32.le_iff_toInt_le, iI_t ha, iI_t hb]
theorem iI_eq {a b : Int} (ha : -2147483648 ≤ a ∧ a < 2147483648) (hb : -2147483648 ≤ b ∧ b < 2147483648) : iI a = iI b ↔ a = b := by
  rw [← Int32.toInt_inj, iI_t ha, iI_t hb]
theorem j2i (a : Int) : Int64.toInt32 (jI a) = iI a := Int64.toInt32_ofInt
theorem i2j {a : Int} (h : -2147483648 ≤ a ∧ a < 2147483648) : Int32.toInt64 (iI a) = jI a := by
  rw [← Int64.toInt_inj, Int32.toInt_toInt64, iI_t h, jI_t (by omega)]
theorem nI_iI (n : Nat) : nI n = iI (n : Int) := by
  unfold nI iI
  exact (Int32.ofInt_eq_ofNat (n := n)).symm
/-- division with a divisor above 0 -/
theorem jI_div {a b : Int} (ha : -9223372036854775807 ≤ a ∧ a < 9223372036854775808) (hb : 0 < b ∧ b < 9223372036854775808) : jI a / jI b = jI (a.tdiv b) := by
  have h1 : jI b ≠ -1 := by
    intro h
    have h2 := congrArg Int64.toInt h
    rw [jI_t (by omega)] at h2
    have h3 : (-1 : Int64).toInt = -1 := by decide
    rw [h3] at h2
    omega
  have h4 : -9223372036854775808 ≤ a.tdiv b ∧ a.tdiv b < 9223372036854775808 := by
    have h5 : (a.tdiv b).natAbs ≤ a.natAbs := Int.natAbs_tdiv_le_natAbs a b
    omega
  rw [← Int64.toInt_inj, Int64.toInt_div_of_ne_right _ _ h1, jI_t (by omega), jI_t (by omega), jI_t h4]
theorem iI_div {a b : Int} (ha : -2147483647 ≤ a ∧ a < 2147483648) (hb : 0 < b ∧ b < 2147483648) : iI a / iI b = iI (a.tdiv b) := by
  have h1 : iI b ≠ -1 := by
    intro h
    have h2 := congrArg Int32.toInt h
    rw [iI_t (by omega)] at h2
    have h3 : (-1 : Int32).toInt = -1 := by decide
    rw [h3] at h2
    omega
  have h4 : -2147483648 ≤ a.tdiv b ∧ a.tdiv b < 2147483648 := by
    have h5 : (a.tdiv b).natAbs ≤ a.natAbs := Int.natAbs_tdiv_le_natAbs a b
    omega
  rw [← Int32.toInt_inj, Int32.toInt_div_of_ne_right _ _ h1, iI_t (by omega), iI_t (by omega), iI_t h4]
/-- the sign of an exclusive or with a number above 0 -/
theorem jI_xor {a b : Int64} (hb : 0 < b.toInt) : (0 : Int64) ≤ (a ^^^ b) ↔ 0 ≤ a.toInt := by
  have h0 : (0 : Int64).toInt = 0 := by decide
  rw [Int64.le_iff_toInt_le, h0]
  have hb1 : b.toBitVec.msb = false := by
    cases h : b.toBitVec.msb with
    | false => rfl
    | true =>
      have h2 : b.toInt < 0 := BitVec.toInt_neg_of_msb_true h
      omega
  have hx : (a ^^^ b).toBitVec.msb = a.toBitVec.msb := by
    rw [Int64.toBitVec_xor, BitVec.msb_xor, hb1]
    cases a.toBitVec.msb <;> rfl
  cases h : a.toBitVec.msb with
  | false =>
    have h1 : 0 ≤ a.toInt := BitVec.toInt_nonneg_of_msb_false h
    have h2 : 0 ≤ (a ^^^ b).toInt := BitVec.toInt_nonneg_of_msb_false (by rw [hx]; exact h)
    omega
  | true =>
    have h1 : a.toInt < 0 := BitVec.toInt_neg_of_msb_true h
    have h2 : (a ^^^ b).toInt < 0 := BitVec.toInt_neg_of_msb_true (by rw [hx]; exact h)
    omega
theorem iI_xor {a b : Int32} (hb : 0 < b.toInt) : (0 : Int32) ≤ (a ^^^ b) ↔ 0 ≤ a.toInt := by
  have h0 : (0 : Int32).toInt = 0 := by decide
  rw [Int32.le_iff_toInt_le, h0]
  have hb1 : b.toBitVec.msb = false := by
    cases h : b.toBitVec.msb with
    | false => rfl
    | true =>
      have h2 : b.toInt < 0 := BitVec.toInt_neg_of_msb_true h
      omega
  have hx : (a ^^^ b).toBitVec.msb = a.toBitVec.msb := by
    rw [Int32.toBitVec_xor, BitVec.msb_xor, hb1]
    cases a.toBitVec.msb <;> rfl
  cases h : a.toBitVec.msb with
  | false =>
    have h1 : 0 ≤ a.toInt := BitVec.toInt_nonneg_of_msb_false h
    have h2 : 0 ≤ (a ^^^ b).toInt := BitVec.toInt_nonneg_of_msb_false (by rw [hx]; exact h)
    omega
  | true =>
    have h1 : a.toInt < 0 := BitVec.toInt_neg_of_msb_true h
    have h2 : (a ^^^ b).toInt < 0 := BitVec.toInt_neg_of_msb_true (by rw [hx]; exact h)
    omega
/-- truncated against floored, and the rest -/
theorem td_pos {a b : Int} (h : 0 ≤ a) : a.tdiv b = a / b := Int.tdiv_eq_ediv_of_nonneg h
theorem td_neg {a b : Int} (ha : a < 0) (hb : 0 < b) : (a.tdiv b * b = a → a.tdiv b = a / b) ∧ (a.tdiv b * b ≠ a → a.tdiv b - 1 = a / b) := by
  have h1 : a.tdiv b = -((-a) / b) := by
    have h2 : a.tdiv b = -((-a).tdiv b) := by rw [Int.neg_tdiv, Int.neg_neg]
    rw [h2, Int.tdiv_eq_ediv_of_nonneg (by omega)]
  have h3 := Int.emod_add_mul_ediv a b
  have h4 := Int.emod_nonneg a (by omega : b ≠ 0)
  have h5 := Int.emod_lt_of_pos a hb
  have h6 := Int.emod_add_mul_ediv (-a) b
  have h7 := Int.emod_nonneg (-a) (by omega : b ≠ 0)
  have h8 := Int.emod_lt_of_pos (-a) hb
  generalize hq : a / b = q at *
  generalize hr : a % b = r at *
  generalize hs : (-a) / b = t at *
  generalize hu : (-a) % b = u at *
  -- a = r + b q, -a = u + b t
  have h9 : r + u = b * (-(q + t)) := by
    have : b * (-(q + t)) = -(b * q) - b * t := by rw [Int.mul_neg, Int.mul_add]; omega
    omega
  have h10 : q + t = 0 ∧ r = 0 ∨ q + t = -1 := by
    have h11 : 0 ≤ b * (-(q + t)) ∧ b * (-(q + t)) < 2 * b := by omega
    have h12 : -(q + t) < 2 := by
      rcases Int.lt_or_le (-(q + t)) 2 with h | h
      · exact h
      · have := Int.mul_le_mul_of_nonneg_left h (by omega : 0 ≤ b)
        omega
    have h13 : 0 ≤ -(q + t) := by
      rcases Int.lt_or_le (-(q + t)) 0 with h | h
      · have h' : -(q + t) ≤ -1 := by omega
        have := Int.mul_le_mul_of_nonneg_left h' (by omega : 0 ≤ b)
        omega
      · exact h
    rcases (show -(q + t) = 0 ∨ -(q + t) = 1 by omega) with h | h
    · left
      rw [h] at h9
      omega
    · right
      omega
  rw [h1]
  constructor
  · intro h
    rcases h10 with h10 | h10
    · omega
    · have h14 : t = -1 - q := by omega
      have h15 : -t * b = b * q + b := by
        rw [h14, show -(-1 - q) = q + 1 by omega, Int.add_mul, Int.mul_comm q b]
        omega
      omega
  · intro h
    rcases h10 with h10 | h10
    · exfalso
      apply h
      have h14 : t = -q := by omega
      rw [h14, Int.neg_neg, Int.mul_comm]
      omega
    · omega
theorem fd_j {a b : Int} (ha : -9223372036854775807 ≤ a ∧ a < 9223372036854775808) (hb : 0 < b ∧ b < 9223372036854775808) : f_Math_floorDiv_JJ (jI a) (jI b) = some (jI (a / b)) := by
  unfold f_Math_floorDiv_JJ
  have h0 : ¬ jI b = 0 := by
    have h1 : (0 : Int64) = jI 0 := by decide
    rw [h1, jI_eq (by omega) (by omega)]
    omega
  rw [if_pos h0, jI_div ha hb]
  have hq : -9223372036854775808 ≤ a.tdiv b ∧ a.tdiv b < 9223372036854775808 := by
    have h5 : (a.tdiv b).natAbs ≤ a.natAbs := Int.natAbs_tdiv_le_natAbs a b
    omega
  by_cases hs : 0 ≤ a
  · rw [if_pos ((jI_xor (by rw [jI_t (by omega)]; omega)).mpr (by rw [jI_t (by omega)]; exact hs)), td_pos hs]
  · rw [if_neg (fun h => hs (by have := (jI_xor (by rw [jI_t (by omega)]; omega)).mp h; rw [jI_t (by omega)] at this; exact this))]
    obtain ⟨t1, t2⟩ := td_neg (a := a) (b := b) (by omega) hb.1
    rw [jI_mul]
    have hp : -9223372036854775808 ≤ a.tdiv b * b ∧ a.tdiv b * b < 9223372036854775808 := by
      have h7 : (a.tdiv b * b).natAbs ≤ a.natAbs := by
        rw [Int.natAbs_mul, Int.natAbs_tdiv]
        exact Nat.div_mul_le_self _ _
      omega
    by_cases he : a.tdiv b * b = a
    · rw [if_pos (by rw [he]), t1 he]
    · rw [if_neg (by rw [jI_eq hp (by omega)]; exact he)]
      have h1 : (1 : Int64) = jI 1 := by decide
      rw [h1, jI_sub, t2 he]
theorem md_j {a b : Int} (ha : -9223372036854775807 ≤ a ∧ a < 9223372036854775808) (hb : 0 < b ∧ b < 9223372036854775808) : f_SkeletonClockModel_div (jI a) (jI b) = some (jI (a / b)) := by
  unfold f_SkeletonClockModel_div
  have h0 : ¬ jI b = 0 := by
    have h1 : (0 : Int64) = jI 0 := by decide
    rw [h1, jI_eq (by omega) (by omega)]
    omega
  have hq : -9223372036854775808 ≤ a.tdiv b ∧ a.tdiv b < 9223372036854775808 := by
    have h5 : (a.tdiv b).natAbs ≤ a.natAbs := Int.natAbs_tdiv_le_natAbs a b
    omega
  have h7 : (a.tdiv b * b).natAbs ≤ a.natAbs := by
    rw [Int.natAbs_mul, Int.natAbs_tdiv]
    exact Nat.div_mul_le_self _ _
  rw [if_pos h0, if_pos h0, jI_div ha hb, jI_mul, jI_sub]
  have h1 : (0 : Int64) = jI 0 := by decide
  have h2 : (1 : Int64) = jI 1 := by decide
  rw [h1, h2]
  by_cases hs : 0 ≤ a
  · have h3 : 0 ≤ a - a.tdiv b * b := by
      have h4 := Int.emod_add_mul_ediv a b
      have h5 := Int.emod_nonneg a (by omega : b ≠ 0)
      rw [td_pos hs, Int.mul_comm]
      omega
    have h4 : a - a.tdiv b * b ≤ a := by
      have h8 : 0 ≤ a.tdiv b * b := Int.mul_nonneg (by rw [td_pos hs]; exact Int.ediv_nonneg hs (by omega)) (by omega)
      omega
    rw [if_pos ((jI_le (by omega) (by omega)).mpr h3), td_pos hs]
  · obtain ⟨t1, t2⟩ := td_neg (a := a) (b := b) (by omega) hb.1
    have h8 : a.tdiv b * b ≤ 0 := by
      have h9 : a.tdiv b ≤ 0 := by
        by_cases he : a.tdiv b * b = a
        · rw [t1 he]
          have := Int.ediv_neg_of_neg_of_pos (by omega : a < 0) hb.1
          omega
        · have h10 := t2 he
          have := Int.ediv_neg_of_neg_of_pos (by omega : a < 0) hb.1
          omega
      exact Int.mul_nonpos_of_nonpos_of_nonneg h9 (by omega)
    by_cases he : a.tdiv b * b = a
    · rw [if_pos ((jI_le (by omega) (by omega)).mpr (by omega)), t1 he]
    · rw [if_neg (fun h => by
        have h := (jI_le (by omega) (by omega)).mp h
        omega), jI_sub, t2 he]
