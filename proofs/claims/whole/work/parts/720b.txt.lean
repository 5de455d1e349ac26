/-! read: characters, digits and numbers of the text, on both sides. -/
def lowc (c : Nat) : Nat := if 65 ≤ c ∧ c ≤ 90 then c + 32 else c
theorem sm_tab : ∀ c, c < 127 → f_TextReader_small (nI c) = some (nI (lowc c)) ∧ f_SkeletonClockModel_small (nI c) = some (nI (lowc c)) ∧ lowc c < 127 := by decide +kernel
theorem al_c {n p c : Nat} {T : Nat → Nat} {f g : Nat → Int32} {lo : Int32} (hn : n ≤ 60) (hf : Tx n T f) (hg : Tx n T g) (hp : p < 1000) (hc : 32 ≤ c ∧ c ≤ 126) : ∃ b u, f_Row_codeAt 60 (nI n) f (nI p) = some u ∧ f_TextReader_isAlike lo u (nI c) = some b ∧ f_SkeletonClockModel_stands (nI n) lo g (nI p) (nI c) = some b ∧ ((b = 1 ∧ p < n) ∨ b = 0) := by
  unfold f_TextReader_isAlike f_SkeletonClockModel_stands
  obtain ⟨a1, a2, a3⟩ := sm_tab c (by omega)
  by_cases q : p < n
  · have t := hg p q
    obtain ⟨b1, b2, b3⟩ := sm_tab (T p) (by omega)
    rw [ca_n hn hf q, if_neg (nI_ge q (by omega)), at_n hn hg q, ob_some]
    by_cases e : nI (T p) = nI c
    · exact ⟨1, _, rfl, by rw [if_pos e], by rw [if_pos e], Or.inl ⟨rfl, q⟩⟩
    · by_cases l : lo = 0
      · exact ⟨0, _, rfl, by rw [if_neg e, if_pos l], by rw [if_neg e, if_pos l], Or.inr rfl⟩
      · rw [if_neg e, if_neg l, ob_some, b2, ob_some, a2, ob_some]
        by_cases s : nI (lowc (T p)) = nI (lowc c)
        · exact ⟨1, _, rfl, by rw [if_neg e, if_neg l, b1, ob_some, a1, ob_some, if_pos s], by rw [if_pos s], Or.inl ⟨rfl, q⟩⟩
        · exact ⟨0, _, rfl, by rw [if_neg e, if_neg l, b1, ob_some, a1, ob_some, if_neg s], by rw [if_neg s], Or.inr rfl⟩
  · have m1 : ∀ d, d < 127 → ¬ (-1 : Int32) = nI d := fun d hd w => nI_m1 (by omega) w.symm
    refine ⟨0, -1, ca_o hn (by omega) hp, ?_, by rw [if_pos (nI_le (by omega) (by omega))], Or.inr rfl⟩
    rw [if_neg (m1 c (by omega))]
    by_cases l : lo = 0
    · rw [if_pos l]
    · have s1 : f_TextReader_small (-1) = some (-1) := by decide
      rw [if_neg l, s1, ob_some, a1, ob_some, if_neg (m1 _ a3)]
theorem dg_l {n p M : Nat} {T : Nat → Nat} {f g : Nat → Int32} (hn : n ≤ 60) (hf : Tx n T f) (hg : Tx n T g) (hp : p + M < 1000) : ∀ m k F, k + m = M → m < F → ∃ r, k ≤ r ∧ r ≤ M ∧ lp_Row_digits_2 60 (nI n) f (nI p) (nI M) F (nI k) = some (nI r) ∧ lp_SkeletonClockModel_digitsAt_2 (nI n) g (nI p) (nI M) F (nI k) = some (nI r) ∧ ∀ j, k ≤ j → j < r → p + j < n ∧ 48 ≤ T (p + j) ∧ T (p + j) ≤ 57 := by
  intro m
  induction m with
  | zero =>
    intro k F hk hF
    obtain ⟨F, rfl⟩ : ∃ H, F = H + 1 := ⟨F - 1, by omega⟩
    exact ⟨k, Nat.le_refl _, by omega, by rw [lp_Row_digits_2, st_Row_digits_2, if_pos (nI_le (by omega) (by omega))], by rw [lp_SkeletonClockModel_digitsAt_2, st_SkeletonClockModel_digitsAt_2, if_pos (nI_le (by omega) (by omega))], fun j _ _ => by omega⟩
  | succ m ih =>
    intro k F hk hF
    obtain ⟨F, rfl⟩ : ∃ H, F = H + 1 := ⟨F - 1, by omega⟩
    rw [lp_Row_digits_2, st_Row_digits_2, lp_SkeletonClockModel_digitsAt_2, st_SkeletonClockModel_digitsAt_2, if_neg (nI_ge (by omega) (by omega)), if_neg (nI_ge (by omega) (by omega)), nI_add]
    by_cases q : p + k < n
    · have t := hg (p + k) q
      have x1 : nI (T (p + k)) < (48 : Int32) ↔ T (p + k) < 48 := by
        rw [kk48]
        exact nI_ltI (by omega) (by decide)
      have x2 : (57 : Int32) < nI (T (p + k)) ↔ 57 < T (p + k) := by
        rw [kk57]
        exact nI_ltI (by decide) (by omega)
      simp only [ca_n hn hf q, at_n hn hg q, ob_some, x1, x2]
      by_cases a : T (p + k) < 48
      · simp only [a, ↓reduceIte]
        exact ⟨k, Nat.le_refl _, by omega, rfl, rfl, fun j _ _ => by omega⟩
      · by_cases b : 57 < T (p + k)
        · simp only [a, b, ↓reduceIte]
          exact ⟨k, Nat.le_refl _, by omega, rfl, rfl, fun j _ _ => by omega⟩
        · simp only [a, b, ↓reduceIte, nI_1]
          obtain ⟨r, r1, r2, r3, r4, r5⟩ := ih (k + 1) F (by omega) (by omega)
          refine ⟨r, by omega, r2, r3, r4, fun j j1 j2 => ?_⟩
          by_cases e : j = k
          · subst e
            omega
          · exact r5 j (by omega) j2
    · have y1 : (-1 : Int32) < 48 := by decide
      have y2 : (0 : Int32) < 48 := by decide
      simp only [ca_o (f := f) hn (show n ≤ p + k by omega) (show p + k < 1000 by omega), at_o (f := g) hn (show n ≤ p + k by omega) (show p + k < 1000 by omega), ob_some, y1, y2, ↓reduceIte]
      exact ⟨k, Nat.le_refl _, by omega, rfl, rfl, fun j _ _ => by omega⟩
theorem dg_c {n p M : Nat} {T : Nat → Nat} {f g : Nat → Int32} (hn : n ≤ 60) (hf : Tx n T f) (hg : Tx n T g) (hp : p + M < 1000) : ∃ r, r ≤ M ∧ f_Row_digits 60 (nI n) f (nI p) (nI M) = some (nI r) ∧ f_SkeletonClockModel_digitsAt (nI n) g (nI p) (nI M) = some (nI r) ∧ ∀ j, j < r → p + j < n ∧ 48 ≤ T (p + j) ∧ T (p + j) ≤ 57 := by
  obtain ⟨r, r1, r2, r3, r4, r5⟩ := dg_l hn hf hg hp M 0 FU (by omega) (by unfold FU; omega)
  refine ⟨r, r2, ?_, ?_, fun j hj => r5 j (Nat.zero_le _) hj⟩
  · unfold f_Row_digits
    rw [kk0, r3, ob_some]
  · unfold f_SkeletonClockModel_digitsAt
    rw [kk0, r4, ob_some]
/-- the number that w digits make -/
def vl (T : Nat → Nat) (p : Nat) : Nat → Nat
  | 0 => 0
  | k + 1 => vl T p k * 10 + (T (p + k) - 48)
theorem vl_lt {T : Nat → Nat} {p : Nat} : ∀ w, (∀ j, j < w → 48 ≤ T (p + j) ∧ T (p + j) ≤ 57) → vl T p w < 10 ^ w
  | 0, _ => Nat.zero_lt_one
  | w + 1, h => by
    have a := vl_lt w (fun j hj => h j (by omega))
    have b := h w (by omega)
    rw [vl, Nat.pow_add_one]
    omega
theorem jN_n {a : Nat} (h : a < 2 ^ 31) : Int32.toInt64 (nI a) = jN a := by
  rw [nI_iI]
  exact i2j (by omega)
theorem nu_l {n p w : Nat} {T : Nat → Nat} {f g : Nat → Int32} (hn : n ≤ 60) (hf : Tx n T f) (hg : Tx n T g) (hw : w < 100) (hd : ∀ j, j < w → p + j < n ∧ 48 ≤ T (p + j) ∧ T (p + j) ≤ 57) : ∀ m k F, k + m = w → m < F → ∃ z1 z2, lp_Row_number_5 60 (nI n) f (nI p) (nI w) F (nI (vl T p k)) (nI k) = some (nI (vl T p w), z1) ∧ lp_SkeletonClockModel_numberAt_5 (nI n) g (nI p) (nI w) F (jN (vl T p k)) (nI k) = some (jN (vl T p w), z2) := by
  intro m
  induction m with
  | zero =>
    intro k F hk hF
    obtain ⟨F, rfl⟩ : ∃ H, F = H + 1 := ⟨F - 1, by omega⟩
    have : k = w := by omega
    subst this
    exact ⟨_, _, by rw [lp_Row_number_5, st_Row_number_5, if_pos (nI_le (Nat.le_refl _) (by omega))], by rw [lp_SkeletonClockModel_numberAt_5, st_SkeletonClockModel_numberAt_5, if_pos (nI_le (Nat.le_refl _) (by omega))]⟩
  | succ m ih =>
    intro k F hk hF
    obtain ⟨F, rfl⟩ : ∃ H, F = H + 1 := ⟨F - 1, by omega⟩
    obtain ⟨d1, d2, d3⟩ := hd k (by omega)
    obtain ⟨z1, z2, a, b⟩ := ih (k + 1) F (by omega) (by omega)
    have e1 : nI (vl T p k) * 10 + nI (T (p + k)) - 48 = nI (vl T p (k + 1)) := by
      rw [kk10, pk_mul, nI_add, kk48, pk_sub (by omega), vl]
      congr 1
      omega
    have e2 : 10 * jN (vl T p k) + jN (T (p + k)) - 48 = jN (vl T p (k + 1)) := by
      rw [kj10, jN_mul, jN_add, kj48, jN_sub (by omega), vl]
      congr 1
      omega
    refine ⟨z1, z2, ?_, ?_⟩
    · rw [lp_Row_number_5, st_Row_number_5, if_neg (nI_ge (by omega) (by omega)), nI_add, ca_n hn hf d1, ob_some, e1, nI_1]
      exact a
    · rw [lp_SkeletonClockModel_numberAt_5, st_SkeletonClockModel_numberAt_5, if_neg (nI_ge (by omega) (by omega)), nI_add, at_n hn hg d1, ob_some, jN_n (by omega), e2, nI_1]
      exact b
theorem nu_c {n p w : Nat} {T : Nat → Nat} {f g : Nat → Int32} (hn : n ≤ 60) (hf : Tx n T f) (hg : Tx n T g) (hw : w < 100) (hd : ∀ j, j < w → p + j < n ∧ 48 ≤ T (p + j) ∧ T (p + j) ≤ 57) : f_Row_number 60 (nI n) f (nI p) (nI w) = some (nI (vl T p w)) ∧ f_SkeletonClockModel_numberAt (nI n) g (nI p) (nI w) = some (jN (vl T p w)) ∧ vl T p w < 10 ^ w := by
  obtain ⟨z1, z2, a, b⟩ := nu_l hn hf hg hw hd w 0 FU (by omega) (by unfold FU; omega)
  refine ⟨?_, ?_, vl_lt w (fun j hj => (hd j hj).2)⟩
  · unfold f_Row_number
    rw [vl, ← kk0] at a
    rw [a, ob_some]
  · unfold f_SkeletonClockModel_numberAt
    rw [vl, ← kk0, ← kj0] at b
    rw [b, ob_some]
