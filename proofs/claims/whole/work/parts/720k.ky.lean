/-! read: what is known, as whole numbers; the date. -/
def KY (fl vals kn : Nat → Int32) (va : Nat → Int64) (Y : Nat → Int) : Prop := ∀ i, i < 14 → (fl i = 0 ∧ kn (fx i) = 0) ∨ (fl i = 1 ∧ kn (fx i) = 1 ∧ bnd i (Y i) ∧ vals i = iI (Y i) ∧ va (fx i) = jI (Y i))
theorem ky_of {fl vals kn : Nat → Int32} {va : Nat → Int64} (h : KV fl vals kn va) : ∃ Y, KY fl vals kn va Y := by
  have hh : ∀ i, ∃ y : Int, i < 14 → (fl i = 0 ∧ kn (fx i) = 0) ∨ (fl i = 1 ∧ kn (fx i) = 1 ∧ bnd i y ∧ vals i = iI y ∧ va (fx i) = jI y) := by
    intro i
    by_cases hi : i < 14
    · rcases h i hi with a | ⟨a1, a2, y, a3⟩
      · exact ⟨0, fun _ => Or.inl a⟩
      · exact ⟨y, fun _ => Or.inr ⟨a1, a2, a3⟩⟩
    · exact ⟨0, fun c => absurd c hi⟩
  obtain ⟨Y, hY⟩ := Classical.skolem.mp hh
  exact ⟨Y, fun i hi => hY i hi⟩
theorem ky_01 {fl vals kn : Nat → Int32} {va : Nat → Int64} {Y : Nat → Int} (h : KY fl vals kn va Y) (i : Nat) (hi : i < 14) : (fl i = 0 ∨ fl i = 1) ∧ kn (fx i) = fl i := by
  rcases h i hi with a | a
  · exact ⟨Or.inl a.1, by rw [a.1, a.2]⟩
  · exact ⟨Or.inr a.1, by rw [a.1, a.2.1]⟩
theorem ky_1 {fl vals kn : Nat → Int32} {va : Nat → Int64} {Y : Nat → Int} (h : KY fl vals kn va Y) (i : Nat) (hi : i < 14) (h1 : fl i = 1) : kn (fx i) = 1 ∧ bnd i (Y i) ∧ vals i = iI (Y i) ∧ va (fx i) = jI (Y i) := by
  rcases h i hi with a | a
  · rw [a.1] at h1
    exact absurd h1 (by decide)
  · exact a.2
theorem ha_c {fl : Nat → Int32} {i : Nat} (hi : i < 14) (h : fl i = 0 ∨ fl i = 1) : f_Known_has fl (nI i) = some (fl i) := by
  unfold f_Known_has
  rw [if_neg (nI_pos (by omega)), kk14, if_neg (nI_ge hi (by decide)), if_pos (sN hi (by decide)), nI_clamp (by omega)]
  rcases h with a | a
  · rw [if_pos a, a]
  · rw [if_neg (by rw [a]; decide), a]
/-- the value of a field, 0 where none is known -/
def val (fl : Nat → Int32) (Y : Nat → Int) (i : Nat) : Int := if fl i = 1 then Y i else 0
theorem va_c {fl vals kn : Nat → Int32} {va : Nat → Int64} {Y : Nat → Int} (h : KY fl vals kn va Y) {i : Nat} (hi : i < 14) : f_Known_value vals fl (nI i) = some (iI (val fl Y i)) := by
  unfold f_Known_value val
  rw [ha_c hi (ky_01 h i hi).1, ob_some]
  rcases h i hi with a | a
  · rw [if_pos a.1, a.1, if_neg (by decide)]
    rfl
  · rw [if_neg (by rw [a.1]; decide), if_pos (sN hi (by decide)), nI_clamp (by omega), a.2.2.2.1, if_pos a.1]
theorem us_c {fl vals kn : Nat → Int32} {va : Nat → Int64} {Y : Nat → Int} (h : KY fl vals kn va Y) {i : Nat} (hi : i < 14) (u : Int32) : f_Resolver_use u vals fl (nI i) = some (iI (val fl Y i), u ||| ((1 : Int32) <<< (nI i &&& 31))) := by
  unfold f_Resolver_use
  rw [va_c h hi, ob_some]
theorem wi_c {kn : Nat → Int32} {va : Nat → Int64} {k : Nat} {y lo hi : Int} (hk : k < 14) (h1 : kn k = 1) (hv : va k = jI y) (hy : -2000000000000 ≤ y ∧ y ≤ 2000000000000) (hl : -2000000000000 ≤ lo ∧ lo ≤ 2000000000000) (hh : -2000000000000 ≤ hi ∧ hi ≤ 2000000000000) : f_SkeletonClockModel_within kn va (nI k) (jI lo) (jI hi) = some (if lo ≤ y ∧ y ≤ hi then 1 else 0) := by
  unfold f_SkeletonClockModel_within
  have s : ¬ (nI k < 0 ∨ 14 ≤ (nI k).toNatClampNeg) := sN hk (by decide)
  rw [if_pos s, if_pos s, if_pos s, nI_clamp (by omega), h1, if_neg (by decide), hv]
  by_cases a : y < lo
  · rw [if_pos ((jI_lt (by omega) (by omega)).mpr a), if_neg (by omega)]
  · rw [if_neg (fun q => a ((jI_lt (by omega) (by omega)).mp q))]
    by_cases b : hi < y
    · rw [if_pos ((jI_lt (by omega) (by omega)).mpr b), if_neg (by omega)]
    · rw [if_neg (fun q => b ((jI_lt (by omega) (by omega)).mp q)), if_pos (by omega)]
theorem fdi_c {a b : Int} (ha : -2147483647 ≤ a ∧ a < 2147483648) (hb : 0 < b ∧ b < 2147483648) : f_Math_floorDiv_II (iI a) (iI b) = some (iI (a / b)) := by
  have hb0 : ¬ iI b = 0 := fun q => by
    rw [k32_0, iI_eq (by omega) (by omega)] at q
    omega
  have ta : (iI a).toInt = a := iI_t (by omega)
  have tb : (iI b).toInt = b := iI_t (by omega)
  have x := iI_xor (a := iI a) (b := iI b) (by rw [tb]; omega)
  rw [ta] at x
  unfold f_Math_floorDiv_II
  rw [if_pos hb0, iI_div ha hb, iI_mul]
  by_cases h : 0 ≤ a
  · rw [if_pos (x.mpr h), td_pos h]
  · rw [if_neg (fun q => h (x.mp q))]
    obtain ⟨t1, t2⟩ := td_neg (a := a) (b := b) (by omega) hb.1
    have bd : -2147483648 ≤ a.tdiv b * b ∧ a.tdiv b * b < 2147483648 := by
      have e := Int.emod_def a b
      have l := Int.emod_lt_of_pos a hb.1
      have g := Int.emod_nonneg a (b := b) (by omega)
      have c : b * (a / b) = a / b * b := Int.mul_comm _ _
      by_cases q : a.tdiv b * b = a
      · omega
      · have w : a.tdiv b = a / b + 1 := by have := t2 q; omega
        rw [w, Int.add_mul, Int.one_mul]
        omega
    by_cases q : a.tdiv b * b = a
    · rw [if_pos (by rw [q]), t1 q]
    · rw [if_neg (fun w => q ((iI_eq bd (by omega)).mp w)), k32_1, iI_sub, t2 q]
theorem mlb (y : Int) (m : Nat) (h : 1 ≤ m ∧ m ≤ 12) : 28 ≤ bm y (m + 1) - bm y m ∧ bm y (m + 1) - bm y m ≤ 31 := by
  have l := lpI_01 y
  rcases (show m = 1 ∨ m = 2 ∨ m = 3 ∨ m = 4 ∨ m = 5 ∨ m = 6 ∨ m = 7 ∨ m = 8 ∨ m = 9 ∨ m = 10 ∨ m = 11 ∨ m = 12 by omega) with rfl | rfl | rfl | rfl | rfl | rfl | rfl | rfl | rfl | rfl | rfl | rfl <;> simp only [bm, bmT, List.getD_cons_succ, List.getD_cons_zero, Nat.reduceAdd, Nat.reduceLT, ↓reduceIte] <;> omega
/-- the first day of a month that may lie in another year -/
def fom (y m : Int) : Int := ny (y + (m - 1) / 12) + bm (y + (m - 1) / 12) ((m - 1) % 12 + 1).toNat
theorem fo_c {y m : Int} (hy : -999999999 ≤ y ∧ y ≤ 999999999) (hm : 0 ≤ m ∧ m ≤ 999) : f_Days_firstOfMonth (Int32.toInt64 (iI y)) (iI m) = some (jI (fom y m)) := by
  have e : ((m - 1) % 12 + 1) = (((m - 1) % 12 + 1).toNat : Int) := by omega
  have b := bm_bd (y + (m - 1) / 12) ((m - 1) % 12 + 1).toNat (by omega) (by omega)
  unfold f_Days_firstOfMonth fom
  rw [k32_1, iI_sub, k32_12, fdi_c (by omega) (by omega), ob_some, i2j (by omega), i2j (by omega), jI_add, fy_c (by omega), ob_some, fm_i (by omega) (by omega), ob_some, iI_add, e, bm_c (by omega) _ (by omega) (by omega), ob_some, i2j (by omega), jI_add]
  rfl
theorem mL_c {y : Int} (hy : -999999999 ≤ y ∧ y ≤ 999999999) (m : Nat) (hm : 1 ≤ m ∧ m ≤ 12) : f_Days_monthLength (Int32.toInt64 (iI y)) (iI m) = some (iI (bm y (m + 1) - bm y m)) := by
  unfold f_Days_monthLength
  rw [i2j (by omega), k32_1, iI_add]
  have e : ((m : Int) + 1) = ((m + 1 : Nat) : Int) := by omega
  rw [e, bm_c (by omega) (m + 1) (by omega) (by omega), ob_some, bm_c (by omega) m (by omega) (by omega), ob_some, iI_sub]
theorem yL_c {y : Int} (hy : -999999999 ≤ y ∧ y ≤ 999999999) : f_Days_yearLength (Int32.toInt64 (iI y)) = some (iI (365 + lpI y)) := by
  unfold f_Days_yearLength
  rw [i2j (by omega), lpI_c (by omega), ob_some]
  rcases lpI_01 y with a | a
  · rw [a, if_pos (by decide)]
    rfl
  · rw [a, if_neg (by decide)]
    rfl
theorem k64_12 : (12 : Int64) = jI 12 := by decide
theorem k64_31 : (31 : Int64) = jI 31 := by decide
theorem k32_31 : (31 : Int32) = iI 31 := by decide
def fMo1 (y : Int) : Int := ny y + 3 - wd (ny y + 3) + 1
theorem fMo1_bd {y : Int} (h : -1000000000 ≤ y ∧ y ≤ 1000000010) : -366000000000 ≤ ny y ∧ ny y ≤ 366000000000 ∧ ny y - 7 ≤ fMo1 y ∧ fMo1 y ≤ ny y + 7 := by
  unfold fMo1 wd ny
  omega
theorem fMo1_7 (y : Int) : (fMo1 (y + 1) - fMo1 y) % 7 = 0 ∧ 0 ≤ fMo1 (y + 1) - fMo1 y := by
  have := ny_step y
  unfold fMo1 wd
  omega
/-- by month -/
theorem fbm_c {y m dd : Int} {st : Nat} (hy : -999999999 ≤ y ∧ y ≤ 999999999) (hm : 0 ≤ m ∧ m ≤ 999) (hd : 0 ≤ dd ∧ dd ≤ 999) (hst : st ≤ 2) {kn : Nat → Int32} {va : Nat → Int64} (k0 : va 0 = jI y) (k1 : kn 1 = 1) (k1' : va 1 = jI m) (k2 : kn 2 = 1) (k2' : va 2 = jI dd) : ((∃ dy, f_Resolver_findByMonth (nI st) 0 (iI y) (iI m) (iI dd) = some (0, dy)) ∧ st < 2 ∧ f_SkeletonClockModel_proper kn va 1 (nI st) = some 0) ∨ ∃ d, f_Resolver_findByMonth (nI st) 0 (iI y) (iI m) (iI dd) = some (1, jI d) ∧ (st < 2 → f_SkeletonClockModel_proper kn va 1 (nI st) = some 1) ∧ f_SkeletonClockModel_dayBy va 1 (nI st) = some (jI d) ∧ -390000000000 ≤ d ∧ d ≤ 390000000000 := by
  have c0 : (0 : Int32).toNatClampNeg = 0 := by decide
  have c1 : (1 : Int32).toNatClampNeg = 1 := by decide
  have c2 : (2 : Int32).toNatClampNeg = 2 := by decide
  have mm : (m - 1) % 12 + 1 = (((m - 1) % 12 + 1).toNat : Int) := by omega
  have hbm := bm_bd (y + (m - 1) / 12) ((m - 1) % 12 + 1).toNat (by omega) (by omega)
  have fb : -366000000000 ≤ fom y m ∧ fom y m ≤ 366000000000 := by
    unfold fom ny
    omega
  have mon : 12 * y + m - 1 - 12 * ((12 * y + m - 1) / 12) + 1 = (((m - 1) % 12 + 1).toNat : Int) := by omega
  have yy : (12 * y + m - 1) / 12 = y + (m - 1) / 12 := by omega
  -- the reference's day
  have dayR : f_SkeletonClockModel_dayBy va 1 (nI st) = some (jI (fom y m + (if st = 1 ∧ bm (y + (m - 1) / 12) (((m - 1) % 12 + 1).toNat + 1) - bm (y + (m - 1) / 12) ((m - 1) % 12 + 1).toNat < dd then bm (y + (m - 1) / 12) (((m - 1) % 12 + 1).toNat + 1) - bm (y + (m - 1) / 12) ((m - 1) % 12 + 1).toNat else dd) - 1)) := by
    unfold f_SkeletonClockModel_dayBy
    have hml := mlb (y + (m - 1) / 12) ((m - 1) % 12 + 1).toNat (by omega)
    rw [if_neg (by decide), if_neg (by decide), c0, c1, c2, k0, k1', k2', k64_12, k64_1, jI_mul, jI_add, jI_sub, md_j (by omega) (by omega), ob_some, jI_mul, jI_sub, j2i, k32_1, iI_add, mon, yy, nmo_m (by omega) _ (by omega) (by omega), ml_m (by omega) _ (by omega) (by omega), ob_some, ob_some, ob_some, ob_some, i2j (by omega), jI_add, jI_add, jI_sub, jI_sub]
    have sq : nI st = iI 1 ↔ st = 1 := by
      have : iI 1 = nI 1 := by decide
      rw [this]
      exact nI_eq (by omega) (by decide)
    by_cases s1 : st = 1
    · rw [if_pos (sq.mpr s1)]
      by_cases q : dd ≤ bm (y + (m - 1) / 12) (((m - 1) % 12 + 1).toNat + 1) - bm (y + (m - 1) / 12) ((m - 1) % 12 + 1).toNat
      · rw [if_pos ((jI_le (by omega) (by omega)).mpr q), if_neg (by omega)]
        rfl
      · rw [if_neg (fun w => q ((jI_le (by omega) (by omega)).mp w)), if_pos (by omega)]
        rfl
    · rw [if_neg (fun w => s1 (sq.mp w)), if_neg (fun w => s1 w.1)]
      rfl
  by_cases s2 : st = 2
  · subst s2
    refine Or.inr ⟨fom y m + dd - 1, ?_, fun w => absurd w (by decide), ?_, by omega⟩
    · unfold f_Resolver_findByMonth
      rw [if_pos (by decide), fo_c hy hm, ob_some, i2j (by omega), jI_add, k64_1, jI_sub]
    · rw [dayR, if_neg (fun w => absurd w.1 (by decide))]
  · have sl : st < 2 := by omega
    have sn : ¬ nI st = 2 := fun w => s2 ((nI_eq (by omega) (by decide)).mp (w.trans kk2))
    have sq : nI st = 1 ↔ st = 1 := by
      rw [kk1]
      exact nI_eq (by omega) (by decide)
    have w1 := wi_c (kn := kn) (va := va) (k := 1) (lo := 1) (hi := 12) (by decide) k1 k1' (by omega) (by omega) (by omega)
    rw [← k64_1, ← k64_12] at w1
    have w1' : f_SkeletonClockModel_within kn va 1 1 12 = some (if 1 ≤ m ∧ m ≤ 12 then 1 else 0) := w1
    by_cases mok : 1 ≤ m ∧ m ≤ 12
    · obtain ⟨M, hM⟩ : ∃ M : Nat, m = (M : Int) := ⟨m.toNat, by omega⟩
      have e1 : y + (m - 1) / 12 = y := by omega
      have e2 : ((m - 1) % 12 + 1).toNat = M := by omega
      rw [e1, e2] at dayR
      have hml := mlb y M (by omega)
      generalize hL : bm y (M + 1) - bm y M = ml at *
      have ml_r : f_SkeletonClockModel_monthLength (jI y) (iI m) = some (iI ml) := by
        rw [hM, ml_m (by omega) M (by omega) (by omega), hL]
      have ml_cl : f_Days_monthLength (Int32.toInt64 (iI y)) (iI m) = some (iI ml) := by
        rw [hM, mL_c hy M (by omega), hL]
      have w2 := fun hi hh => wi_c (kn := kn) (va := va) (k := 2) (lo := 1) (hi := hi) (by decide) k2 k2' (by omega) (by omega) hh
      have pr : f_SkeletonClockModel_proper kn va 1 (nI st) = some (if 1 ≤ dd ∧ dd ≤ (if st = 1 then 31 else ml) then 1 else 0) := by
        unfold f_SkeletonClockModel_proper
        rw [if_pos rfl, w1', if_pos mok, ob_some, if_neg (by decide), c0, c1, k0, k1', j2i, ml_r, ob_some, i2j (by omega)]
        by_cases s1 : st = 1
        · have w3 : f_SkeletonClockModel_within kn va 2 1 31 = _ := w2 31 (by omega)
          rw [if_pos (sq.mpr s1), w3, ob_some, if_pos s1]
          split <;> rfl
        · have w3 : f_SkeletonClockModel_within kn va 2 1 (jI ml) = _ := w2 ml (by omega)
          rw [if_neg (fun w => s1 (sq.mp w)), w3, ob_some, if_neg s1]
          split <;> rfl
      have j54 : ∀ a : Int, 0 ≤ a ∧ a ≤ 999 → jn_Resolver_findByMonth_54 (nI st) 0 (iI y) (iI m) (iI a) (iI ml) = if 1 ≤ a ∧ a ≤ ml then some (1, jI (fom y m + a - 1)) else some (0, 0) := by
        intro a ha
        unfold jn_Resolver_findByMonth_54
        by_cases q1 : a < 1
        · rw [k32_1, if_pos ((iI_lt (by omega) (by omega)).mpr q1), if_neg (by omega)]
        · rw [k32_1, if_neg (fun w => q1 ((iI_lt (by omega) (by omega)).mp w))]
          by_cases q2 : a ≤ ml
          · rw [if_pos ((iI_le (by omega) (by omega)).mpr q2), if_pos (by omega), fo_c hy hm, ob_some, i2j (by omega), jI_add, k64_1, jI_sub]
          · rw [if_neg (fun w => q2 ((iI_le (by omega) (by omega)).mp w)), if_neg (by omega)]
      have cls : f_Resolver_findByMonth (nI st) 0 (iI y) (iI m) (iI dd) = if 1 ≤ dd ∧ dd ≤ (if st = 1 then 31 else ml) then some (1, jI (fom y m + (if st = 1 ∧ ml < dd then ml else dd) - 1)) else some (0, 0) := by
        unfold f_Resolver_findByMonth
        rw [if_neg sn, if_neg (by rw [k32_1]; exact fun w => by have := (iI_lt (by omega) (by omega)).mp w; omega), if_pos (by rw [k32_12]; exact (iI_le (by omega) (by omega)).mpr mok.2), ml_cl, ob_some]
        by_cases s1 : st = 1
        · rw [if_pos (sq.mpr s1), if_pos s1]
          by_cases q : 31 < dd
          · rw [if_pos (by rw [k32_31]; exact (iI_lt (by omega) (by omega)).mpr q), j54 dd hd, if_neg (by omega), if_neg (by omega)]
          · rw [if_neg (by rw [k32_31]; exact fun w => q ((iI_lt (by omega) (by omega)).mp w))]
            by_cases r : ml < dd
            · rw [if_pos ((iI_lt (by omega) (by omega)).mpr r), j54 ml (by omega), if_pos (by omega), if_pos (by omega), if_pos ⟨s1, r⟩]
            · have hr : ¬ (st = 1 ∧ ml < dd) := fun w => r w.2
              rw [if_neg (fun w => r ((iI_lt (by omega) (by omega)).mp w)), j54 dd hd]
              by_cases t : 1 ≤ dd
              · rw [if_pos (show 1 ≤ dd ∧ dd ≤ ml by omega), if_pos (show 1 ≤ dd ∧ dd ≤ 31 by omega), if_neg hr]
              · rw [if_neg (show ¬ (1 ≤ dd ∧ dd ≤ ml) by omega), if_neg (show ¬ (1 ≤ dd ∧ dd ≤ 31) by omega)]
        · have hr : ¬ (st = 1 ∧ ml < dd) := fun w => s1 w.1
          rw [if_neg (fun w => s1 (sq.mp w)), if_neg s1, j54 dd hd]
          by_cases t : 1 ≤ dd ∧ dd ≤ ml
          · rw [if_pos t, if_pos t, if_neg hr]
          · rw [if_neg t, if_neg t]
      by_cases ok : 1 ≤ dd ∧ dd ≤ (if st = 1 then 31 else ml)
      · rw [if_pos ok] at cls pr
        refine Or.inr ⟨_, cls, fun _ => pr, dayR, ?_⟩
        split <;> omega
      · rw [if_neg ok] at cls pr
        exact Or.inl ⟨⟨_, cls⟩, sl, pr⟩
    · refine Or.inl ⟨?_, sl, ?_⟩
      · unfold f_Resolver_findByMonth
        rw [if_neg sn]
        by_cases q : m < 1
        · rw [if_pos (by rw [k32_1]; exact (iI_lt (by omega) (by omega)).mpr q)]
          exact ⟨_, rfl⟩
        · rw [if_neg (by rw [k32_1]; exact fun w => q ((iI_lt (by omega) (by omega)).mp w)), if_neg (by rw [k32_12]; exact fun w => by have := (iI_le (by omega) (by omega)).mp w; omega)]
          exact ⟨_, rfl⟩
      · unfold f_SkeletonClockModel_proper
        rw [if_pos rfl, w1', if_neg mok, ob_some, if_pos rfl]
