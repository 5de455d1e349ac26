/-! match: the sums of distances. -/
def smN (t : Nat → Nat) : Nat → Nat
  | 0 => 0
  | m + 1 => smN t m + t m
theorem sm_gap (u : Nat → Nat) (a : Nat) : ∀ k, (∀ c, a ≤ c → c < a + k → u c = 0) → smN u (a + k) = smN u a := by
  intro k
  induction k with
  | zero => exact fun _ => rfl
  | succ k ih =>
    intro h
    have e : smN u (a + (k + 1)) = smN u (a + k) + u (a + k) := rfl
    rw [e, ih (fun c h1 h2 => h c h1 (by omega)), h (a + k) (by omega) (by omega), Nat.add_zero]
theorem sm_le (t : Nat → Nat) (b m : Nat) (h : ∀ c, c < m → t c ≤ b) : smN t m ≤ m * b := by
  induction m with
  | zero => exact Nat.zero_le _
  | succ m ih =>
    have a := ih (fun c hc => h c (by omega))
    have e := h m (by omega)
    have e2 : smN t (m + 1) = smN t m + t m := rfl
    rw [e2, Nat.succ_mul]
    omega
theorem gapT : ∀ c, c < 128 → (c = 68 ∨ c = 69 ∨ c = 72 ∨ c = 77 ∨ c = 83 ∨ c = 88 ∨ c = 89 ∨ c = 97 ∨ c = 100 ∨ c = 104 ∨ c = 109 ∨ c = 115 ∨ c = 117 ∨ c = 119 ∨ c = 120) ∨ ∀ i, i < 15 → lixL.getD i 0 ≠ c := by decide
theorem ld_2 (i a b : Nat) (h : i ≠ 2) : ld i a b = ld 0 a b := by
  unfold ld
  rw [if_neg (fun q => h q.1 : ¬ (i = 2 ∧ ¬ (2 < a ↔ 2 < b))), if_neg (fun q => by omega : ¬ (0 = 2 ∧ ¬ (2 < a ↔ 2 < b)))]
theorem sm_eq (u t : Nat → Nat) (h : ∀ c, c < 128 → (∀ i, i < 15 → lixL.getD i 0 ≠ c) → u c = 0) (h2 : ∀ i, i < 15 → u (lixL.getD i 0) = t i) : smN u 128 = smN t 15 := by
  have z : ∀ c, c < 128 → (c = 68 ∨ c = 69 ∨ c = 72 ∨ c = 77 ∨ c = 83 ∨ c = 88 ∨ c = 89 ∨ c = 97 ∨ c = 100 ∨ c = 104 ∨ c = 109 ∨ c = 115 ∨ c = 117 ∨ c = 119 ∨ c = 120) ∨ u c = 0 := fun c hc => (gapT c hc).imp_right (h c hc)
  have g0 : smN u 68 = smN u 0 := sm_gap u 0 68 (fun c h1 h2 => by rcases z c (by omega) with a | a <;> omega)
  have s0 : smN u 69 = smN u 68 + u 68 := rfl
  have t0 : u 68 = t 4 := h2 4 (by decide)
  have g1 : smN u 69 = smN u 69 := sm_gap u 69 0 (fun c h1 h2 => by rcases z c (by omega) with a | a <;> omega)
  have s1 : smN u 70 = smN u 69 + u 69 := rfl
  have t1 : u 69 = t 5 := h2 5 (by decide)
  have g2 : smN u 72 = smN u 70 := sm_gap u 70 2 (fun c h1 h2 => by rcases z c (by omega) with a | a <;> omega)
  have s2 : smN u 73 = smN u 72 + u 72 := rfl
  have t2 : u 72 = t 7 := h2 7 (by decide)
  have g3 : smN u 77 = smN u 73 := sm_gap u 73 4 (fun c h1 h2 => by rcases z c (by omega) with a | a <;> omega)
  have s3 : smN u 78 = smN u 77 + u 77 := rfl
  have t3 : u 77 = t 2 := h2 2 (by decide)
  have g4 : smN u 83 = smN u 78 := sm_gap u 78 5 (fun c h1 h2 => by rcases z c (by omega) with a | a <;> omega)
  have s4 : smN u 84 = smN u 83 + u 83 := rfl
  have t4 : u 83 = t 12 := h2 12 (by decide)
  have g5 : smN u 88 = smN u 84 := sm_gap u 84 4 (fun c h1 h2 => by rcases z c (by omega) with a | a <;> omega)
  have s5 : smN u 89 = smN u 88 + u 88 := rfl
  have t5 : u 88 = t 13 := h2 13 (by decide)
  have g6 : smN u 89 = smN u 89 := sm_gap u 89 0 (fun c h1 h2 => by rcases z c (by omega) with a | a <;> omega)
  have s6 : smN u 90 = smN u 89 + u 89 := rfl
  have t6 : u 89 = t 1 := h2 1 (by decide)
  have g7 : smN u 97 = smN u 90 := sm_gap u 90 7 (fun c h1 h2 => by rcases z c (by omega) with a | a <;> omega)
  have s7 : smN u 98 = smN u 97 + u 97 := rfl
  have t7 : u 97 = t 9 := h2 9 (by decide)
  have g8 : smN u 100 = smN u 98 := sm_gap u 98 2 (fun c h1 h2 => by rcases z c (by omega) with a | a <;> omega)
  have s8 : smN u 101 = smN u 100 + u 100 := rfl
  have t8 : u 100 = t 3 := h2 3 (by decide)
  have g9 : smN u 104 = smN u 101 := sm_gap u 101 3 (fun c h1 h2 => by rcases z c (by omega) with a | a <;> omega)
  have s9 : smN u 105 = smN u 104 + u 104 := rfl
  have t9 : u 104 = t 8 := h2 8 (by decide)
  have g10 : smN u 109 = smN u 105 := sm_gap u 105 4 (fun c h1 h2 => by rcases z c (by omega) with a | a <;> omega)
  have s10 : smN u 110 = smN u 109 + u 109 := rfl
  have t10 : u 109 = t 10 := h2 10 (by decide)
  have g11 : smN u 115 = smN u 110 := sm_gap u 110 5 (fun c h1 h2 => by rcases z c (by omega) with a | a <;> omega)
  have s11 : smN u 116 = smN u 115 + u 115 := rfl
  have t11 : u 115 = t 11 := h2 11 (by decide)
  have g12 : smN u 117 = smN u 116 := sm_gap u 116 1 (fun c h1 h2 => by rcases z c (by omega) with a | a <;> omega)
  have s12 : smN u 118 = smN u 117 + u 117 := rfl
  have t12 : u 117 = t 0 := h2 0 (by decide)
  have g13 : smN u 119 = smN u 118 := sm_gap u 118 1 (fun c h1 h2 => by rcases z c (by omega) with a | a <;> omega)
  have s13 : smN u 120 = smN u 119 + u 119 := rfl
  have t13 : u 119 = t 6 := h2 6 (by decide)
  have g14 : smN u 120 = smN u 120 := sm_gap u 120 0 (fun c h1 h2 => by rcases z c (by omega) with a | a <;> omega)
  have s14 : smN u 121 = smN u 120 + u 120 := rfl
  have t14 : u 120 = t 14 := h2 14 (by decide)
  have gz : smN u 128 = smN u 121 := sm_gap u 121 7 (fun c h1 h2 => by rcases z c (by omega) with a | a <;> omega)
  have e0 : smN u 0 = 0 := rfl
  have e : smN t 15 = (((((((((((((((0 + t 0) + t 1) + t 2) + t 3) + t 4) + t 5) + t 6) + t 7) + t 8) + t 9) + t 10) + t 11) + t 12) + t 13) + t 14) := rfl
  omega
theorem dc_l {n n2 : Nat} (hn : n ≤ 20) (hn2 : n2 ≤ 20) (kd nb kd2 nb2 : Nat → Int32) (A B : Nat → Nat) (hA : ∀ i, i < 15 → A i < 10 ∧ fcF kd nb (nI i) n 0 = nI (A i)) (hB : ∀ i, i < 15 → B i < 10 ∧ fcF kd2 nb2 (nI i) n2 0 = nI (B i)) : ∀ (m i F : Nat), i + m = 15 → m < F → lp_Pattern_distanceTo_4 (nI n) kd nb (nI n2) kd2 nb2 F (nI (smN (fun i => ld i (A i) (B i)) i)) (nI i) = some (nI (smN (fun i => ld i (A i) (B i)) 15), nI 15) := by
  have k14 : (14 : Int32) = nI 14 := by decide
  intro m
  induction m with
  | zero =>
    intro i F hi hF
    obtain ⟨F, rfl⟩ : ∃ H, F = H + 1 := ⟨F - 1, by omega⟩
    have e : i = 15 := by omega
    subst e
    rw [lp_Pattern_distanceTo_4, st_Pattern_distanceTo_4, if_pos (by decide)]
  | succ m ih =>
    intro i F hi hF
    obtain ⟨F, rfl⟩ : ∃ H, F = H + 1 := ⟨F - 1, by omega⟩
    have a := hA i (by omega)
    have b := hB i (by omega)
    rw [lp_Pattern_distanceTo_4, st_Pattern_distanceTo_4, k14, if_neg (nI_nlt (by omega) (by omega)), fc_c hn, fc_c hn2, ob_some, ob_some, a.2, b.2, ld_c i (by omega) _ a.1 _ b.1, ob_some, nI_add, nI_1]
    exact ih (i + 1) F (by omega) (by omega)
/-- the reference's distance of one code -/
def md (c a b : Nat) : Nat := ld (if c = 77 then 2 else 0) b a
theorem m81 {c a b S : Nat} (hc : c < 128) (ha : a < 10) (hb : b < 10) (w h : Nat → Int32) (hw : w c = nI a) (hh : h c = nI b) (rec : Int32 → Int32 → Option (Int32 × Int32)) : st_SkeletonClockModel_distanceTo_81 w h rec (nI S) (nI c) = rec (nI (S + md c a b)) (nI (c + 1)) := by
  have k77 : (77 : Int32) = nI 77 := by decide
  have k128 : (128 : Int32) = nI 128 := by decide
  have k1000 : (1000 : Int32) = nI 1000 := by decide
  have k100 : (100 : Int32) = nI 100 := by decide
  unfold st_SkeletonClockModel_distanceTo_81
  rw [k128, if_neg (nI_ge hc (by omega)), if_pos (sN hc (by omega)), if_pos (sN hc (by omega)), nI_clamp (by omega), hw, hh]
  have fa : (nI a = 0) ↔ a = 0 := nI_eq (a := a) (b := 0) (by omega) (by omega)
  have fb : (nI b = 0) ↔ b = 0 := nI_eq (a := b) (b := 0) (by omega) (by omega)
  have fc : (nI c = 77) ↔ c = 77 := nI_eq (a := c) (b := 77) (by omega) (by omega)
  have ga : (nI a ≤ 0) ↔ a ≤ 0 := nI_leI (a := a) (b := 0) (by omega) (by omega)
  have gb : (nI b ≤ 0) ↔ b ≤ 0 := nI_leI (a := b) (b := 0) (by omega) (by omega)
  have ga2 : (nI a ≤ 2) ↔ a ≤ 2 := nI_leI (a := a) (b := 2) (by omega) (by omega)
  have gb2 : (nI b ≤ 2) ↔ b ≤ 2 := nI_leI (a := b) (b := 2) (by omega) (by omega)
  have fab : (nI a ≤ nI b) ↔ a ≤ b := nI_leI (by omega) (by omega)
  by_cases a0 : a = 0
  · by_cases b0 : b = 0
    · have e : md c a b = 0 := by
        unfold md ld
        (repeat' split) <;> omega
      simp only [↓reduceIte, eq_true (fa.mpr a0), eq_true (ga.mpr (Nat.le_of_eq a0)), eq_true (fb.mpr b0), eq_true (gb.mpr (Nat.le_of_eq b0))]
      rw [e, nI_1]
      rfl
    · by_cases c7 : c = 77
      · have e : md c a b = 1000 := by
          unfold md ld
          (repeat' split) <;> omega
        simp only [↓reduceIte, eq_true (fa.mpr a0), eq_true (ga.mpr (Nat.le_of_eq a0)), eq_false (mt fb.mp b0), eq_false (mt gb.mp (fun q => b0 (Nat.le_zero.mp q))), eq_true (fc.mpr c7)]
        rw [e, nI_1, k1000, nI_add]
      · have e : md c a b = 1000 := by
          unfold md ld
          (repeat' split) <;> omega
        simp only [↓reduceIte, eq_true (fa.mpr a0), eq_true (ga.mpr (Nat.le_of_eq a0)), eq_false (mt fb.mp b0), eq_false (mt gb.mp (fun q => b0 (Nat.le_zero.mp q))), eq_false (mt fc.mp c7)]
        rw [e, nI_1, k1000, nI_add]
  · by_cases b0 : b = 0
    · by_cases c7 : c = 77
      · have e : md c a b = 1000 := by
          unfold md ld
          (repeat' split) <;> omega
        simp only [↓reduceIte, eq_false (mt fa.mp a0), eq_false (mt ga.mp (fun q => a0 (Nat.le_zero.mp q))), eq_true (fb.mpr b0), eq_true (gb.mpr (Nat.le_of_eq b0)), eq_true (fc.mpr c7)]
        rw [e, nI_1, k1000, nI_add]
      · have e : md c a b = 1000 := by
          unfold md ld
          (repeat' split) <;> omega
        simp only [↓reduceIte, eq_false (mt fa.mp a0), eq_false (mt ga.mp (fun q => a0 (Nat.le_zero.mp q))), eq_true (fb.mpr b0), eq_true (gb.mpr (Nat.le_of_eq b0)), eq_false (mt fc.mp c7)]
        rw [e, nI_1, k1000, nI_add]
    · by_cases ab : a ≤ b
      · by_cases c7 : c = 77
        · by_cases a2 : a ≤ 2
          · by_cases b2 : b ≤ 2
            · have e : md c a b = b - a := by
                unfold md ld
                (repeat' split) <;> omega
              simp only [↓reduceIte, eq_false (mt fa.mp a0), eq_false (mt ga.mp (fun q => a0 (Nat.le_zero.mp q))), eq_false (mt fb.mp b0), eq_false (mt gb.mp (fun q => b0 (Nat.le_zero.mp q))), eq_true (fab.mpr ab), eq_true (fc.mpr c7), eq_true (ga2.mpr a2), eq_true (gb2.mpr b2)]
              rw [e, nI_1, pk_sub (by omega), nI_add]
            · have e : md c a b = b - a + 100 := by
                unfold md ld
                (repeat' split) <;> omega
              simp only [↓reduceIte, eq_false (mt fa.mp a0), eq_false (mt ga.mp (fun q => a0 (Nat.le_zero.mp q))), eq_false (mt fb.mp b0), eq_false (mt gb.mp (fun q => b0 (Nat.le_zero.mp q))), eq_true (fab.mpr ab), eq_true (fc.mpr c7), eq_true (ga2.mpr a2), eq_false (mt gb2.mp b2)]
              rw [e, nI_1, pk_sub (by omega), nI_add, k100, nI_add, Nat.add_assoc]
          · by_cases b2 : b ≤ 2
            · have e : md c a b = b - a + 100 := by
                unfold md ld
                (repeat' split) <;> omega
              simp only [↓reduceIte, eq_false (mt fa.mp a0), eq_false (mt ga.mp (fun q => a0 (Nat.le_zero.mp q))), eq_false (mt fb.mp b0), eq_false (mt gb.mp (fun q => b0 (Nat.le_zero.mp q))), eq_true (fab.mpr ab), eq_true (fc.mpr c7), eq_false (mt ga2.mp a2), eq_true (gb2.mpr b2)]
              rw [e, nI_1, pk_sub (by omega), nI_add, k100, nI_add, Nat.add_assoc]
            · have e : md c a b = b - a := by
                unfold md ld
                (repeat' split) <;> omega
              simp only [↓reduceIte, eq_false (mt fa.mp a0), eq_false (mt ga.mp (fun q => a0 (Nat.le_zero.mp q))), eq_false (mt fb.mp b0), eq_false (mt gb.mp (fun q => b0 (Nat.le_zero.mp q))), eq_true (fab.mpr ab), eq_true (fc.mpr c7), eq_false (mt ga2.mp a2), eq_false (mt gb2.mp b2)]
              rw [e, nI_1, pk_sub (by omega), nI_add]
        · have e : md c a b = b - a := by
            unfold md ld
            (repeat' split) <;> omega
          simp only [↓reduceIte, eq_false (mt fa.mp a0), eq_false (mt ga.mp (fun q => a0 (Nat.le_zero.mp q))), eq_false (mt fb.mp b0), eq_false (mt gb.mp (fun q => b0 (Nat.le_zero.mp q))), eq_true (fab.mpr ab), eq_false (mt fc.mp c7)]
          rw [e, nI_1, pk_sub (by omega), nI_add]
      · by_cases c7 : c = 77
        · by_cases a2 : a ≤ 2
          · by_cases b2 : b ≤ 2
            · have e : md c a b = a - b := by
                unfold md ld
                (repeat' split) <;> omega
              simp only [↓reduceIte, eq_false (mt fa.mp a0), eq_false (mt ga.mp (fun q => a0 (Nat.le_zero.mp q))), eq_false (mt fb.mp b0), eq_false (mt gb.mp (fun q => b0 (Nat.le_zero.mp q))), eq_false (mt fab.mp ab), eq_true (fc.mpr c7), eq_true (ga2.mpr a2), eq_true (gb2.mpr b2)]
              rw [e, nI_1, pk_sub (by omega), nI_add]
            · have e : md c a b = a - b + 100 := by
                unfold md ld
                (repeat' split) <;> omega
              simp only [↓reduceIte, eq_false (mt fa.mp a0), eq_false (mt ga.mp (fun q => a0 (Nat.le_zero.mp q))), eq_false (mt fb.mp b0), eq_false (mt gb.mp (fun q => b0 (Nat.le_zero.mp q))), eq_false (mt fab.mp ab), eq_true (fc.mpr c7), eq_true (ga2.mpr a2), eq_false (mt gb2.mp b2)]
              rw [e, nI_1, pk_sub (by omega), nI_add, k100, nI_add, Nat.add_assoc]
          · by_cases b2 : b ≤ 2
            · have e : md c a b = a - b + 100 := by
                unfold md ld
                (repeat' split) <;> omega
              simp only [↓reduceIte, eq_false (mt fa.mp a0), eq_false (mt ga.mp (fun q => a0 (Nat.le_zero.mp q))), eq_false (mt fb.mp b0), eq_false (mt gb.mp (fun q => b0 (Nat.le_zero.mp q))), eq_false (mt fab.mp ab), eq_true (fc.mpr c7), eq_false (mt ga2.mp a2), eq_true (gb2.mpr b2)]
              rw [e, nI_1, pk_sub (by omega), nI_add, k100, nI_add, Nat.add_assoc]
            · have e : md c a b = a - b := by
                unfold md ld
                (repeat' split) <;> omega
              simp only [↓reduceIte, eq_false (mt fa.mp a0), eq_false (mt ga.mp (fun q => a0 (Nat.le_zero.mp q))), eq_false (mt fb.mp b0), eq_false (mt gb.mp (fun q => b0 (Nat.le_zero.mp q))), eq_false (mt fab.mp ab), eq_true (fc.mpr c7), eq_false (mt ga2.mp a2), eq_false (mt gb2.mp b2)]
              rw [e, nI_1, pk_sub (by omega), nI_add]
        · have e : md c a b = a - b := by
            unfold md ld
            (repeat' split) <;> omega
          simp only [↓reduceIte, eq_false (mt fa.mp a0), eq_false (mt ga.mp (fun q => a0 (Nat.le_zero.mp q))), eq_false (mt fb.mp b0), eq_false (mt gb.mp (fun q => b0 (Nat.le_zero.mp q))), eq_false (mt fab.mp ab), eq_false (mt fc.mp c7)]
          rw [e, nI_1, pk_sub (by omega), nI_add]
theorem z_l : ∀ (m c F : Nat) (w : Nat → Int32), c + m = 128 → m < F → (∀ j, j < c → w j = 0) → ∃ w2, lp_SkeletonClockModel_wished_2 F (nI c) w = some (nI 128, w2) ∧ ∀ j, j < 128 → w2 j = 0 := by
  have k128 : (128 : Int32) = nI 128 := by decide
  intro m
  induction m with
  | zero =>
    intro c F w hc hF h
    obtain ⟨F, rfl⟩ : ∃ H, F = H + 1 := ⟨F - 1, by omega⟩
    have e : c = 128 := by omega
    subst e
    exact ⟨w, by rw [lp_SkeletonClockModel_wished_2, st_SkeletonClockModel_wished_2, if_pos (by decide)], h⟩
  | succ m ih =>
    intro c F w hc hF h
    obtain ⟨F, rfl⟩ : ∃ H, F = H + 1 := ⟨F - 1, by omega⟩
    rw [lp_SkeletonClockModel_wished_2, st_SkeletonClockModel_wished_2, k128, if_neg (nI_ge (by omega) (by omega)), if_pos (sN (by omega) (by omega)), nI_clamp (by omega), nI_1]
    refine ih (c + 1) F _ (by omega) (by omega) (fun j hj => ?_)
    by_cases e : j = c
    · subst e
      exact pk_us
    · rw [pk_un e]
      exact h j (by omega)
