/-! read: which fields must agree with the moment, on both sides. -/
def usB (r t i : Nat) : Bool := (r == 1 && (i == 0 || i == 2 || i == 3)) || (r == 2 && (i == 0 || i == 4)) || (r == 3 && (i == 1 || i == 5 || i == 6)) || (decide (1 ≤ t) && decide (10 ≤ i)) || (t == 1 && i == 7) || (t == 2 && (i == 8 || i == 9))
def MM (r t : Nat) : Int32 := mT t (maskD r)
theorem mm_tab : ∀ r, r < 4 → ∀ t, t < 4 → ∀ i, i < 13 → (((MM r t) >>> (nI i &&& 31)) &&& 1 = 0 ↔ usB r t i = false) := by decide +kernel
theorem ub_tab : ∀ r, r < 4 → 1 ≤ r → ∀ f, f < 7 → f_SkeletonClockModel_usedBy (nI r) (nI f) = some (if usB r 0 (cix f) = true then 1 else 0) := by decide +kernel
theorem us_lo : ∀ r, r < 4 → ∀ t, t < 4 → ∀ i, i < 7 → usB r t i = usB r 0 i := by decide +kernel
theorem us_hi : ∀ r, r < 4 → ∀ t, t < 4 → (usB r t 8 = (t == 2)) ∧ (usB r t 9 = (t == 2)) ∧ (usB r t 7 = (t == 1)) ∧ (1 ≤ t → usB r t 10 = true ∧ usB r t 11 = true ∧ usB r t 12 = true) := by decide +kernel
theorem cx_tab : ∀ f, f < 7 → fx (cix f) = f ∧ cix f < 7 := by decide
theorem cx_on : ∀ i, i < 7 → cix (fx i) = i ∧ fx i < 7 := by decide
theorem FV_i {d s n o : Int} (hd : -400000000000 ≤ d ∧ d ≤ 400000000000) (hs : 0 ≤ s ∧ s < 86400) (hn : 0 ≤ n ∧ n ≤ 999999999) (ho : -1080 ≤ o ∧ o ≤ 1080) {k : Nat} (hk : k < 14) : -2147483648 ≤ FV d s n o k ∧ FV d s n o k < 2147483648 := by
  rcases (show k = 0 ∨ k = 1 ∨ (2 ≤ k ∧ k ≤ 11) ∨ k = 12 ∨ k = 13 by omega) with rfl | rfl | h | rfl | rfl
  · have := yr_near d
    show -2147483648 ≤ yr d ∧ yr d < 2147483648
    omega
  · have := yr_near (th d)
    have td : th d = d - wd d + 4 := rfl
    have w := wd_bd d
    show -2147483648 ≤ yr (th d) ∧ yr (th d) < 2147483648
    omega
  · have := FV_nn (d := d) (n := n) (o := o) hs h
    omega
  · show -2147483648 ≤ n ∧ n < 2147483648
    omega
  · show -2147483648 ≤ o ∧ o < 2147483648
    omega
theorem ag_l {fl vals kn v : Nat → Int32} {va : Nat → Int64} {Y : Nat → Int} {r t : Nat} {d s nn o : Int} (h : KY fl vals kn va Y) (hr : r < 4) (ht : t < 4) (hv : ∀ i, i < 14 → v i = iI (FV d s nn o i)) (hb : ∀ i, i < 14 → -2147483648 ≤ FV d s nn o i ∧ FV d s nn o i < 2147483648) : ∀ m k F, k + m = 13 → m < F → (lp_Resolver_agrees_2 (MM r t) v vals fl F (nI k) = some (.inr (nI 13)) ∧ ∀ i, k ≤ i → i < 13 → fl i = 1 → usB r t i = false → Y i = FV d s nn o i) ∨ (lp_Resolver_agrees_2 (MM r t) v vals fl F (nI k) = some (.inl 0) ∧ ∃ i, k ≤ i ∧ i < 13 ∧ fl i = 1 ∧ usB r t i = false ∧ Y i ≠ FV d s nn o i) := by
  intro m
  induction m with
  | zero =>
    intro k F hk hF
    obtain ⟨F, rfl⟩ : ∃ H, F = H + 1 := ⟨F - 1, by omega⟩
    have : k = 13 := by omega
    subst this
    exact Or.inl ⟨by rw [lp_Resolver_agrees_2, st_Resolver_agrees_2, if_pos (by decide)], fun i _ _ => by omega⟩
  | succ m ih =>
    intro k F hk hF
    obtain ⟨F, rfl⟩ : ∃ H, F = H + 1 := ⟨F - 1, by omega⟩
    have i1 := ih (k + 1) F (by omega) (by omega)
    have skip : (fl k = 1 → usB r t k = false → Y k = FV d s nn o k) → (lp_Resolver_agrees_2 (MM r t) v vals fl F (nI (k + 1)) = some (.inr (nI 13)) ∧ ∀ i, k ≤ i → i < 13 → fl i = 1 → usB r t i = false → Y i = FV d s nn o i) ∨ (lp_Resolver_agrees_2 (MM r t) v vals fl F (nI (k + 1)) = some (.inl 0) ∧ ∃ i, k ≤ i ∧ i < 13 ∧ fl i = 1 ∧ usB r t i = false ∧ Y i ≠ FV d s nn o i) := by
      intro hq
      rcases i1 with ⟨a, b⟩ | ⟨a, i, b⟩
      · refine Or.inl ⟨a, fun i j1 j2 j3 j4 => ?_⟩
        by_cases e : i = k
        · subst e
          exact hq j3 j4
        · exact b i (by omega) j2 j3 j4
      · exact Or.inr ⟨a, i, by omega, b.2⟩
    have mv : f_Moment_value v (nI k) = some (v k) := by
      rw [nI_iI]
      exact mv_c v k (by omega)
    rw [lp_Resolver_agrees_2, st_Resolver_agrees_2, kk12, if_neg (nI_nlt (by omega) (by omega)), ha_c (by omega) (ky_01 h k (by omega)).1, ob_some, nI_1]
    rcases (ky_01 h k (by omega)).1 with a | a
    · rw [if_pos a]
      exact skip (fun q => by rw [a] at q; exact absurd q (by decide))
    · rw [if_neg (by rw [a]; decide)]
      have mt := mm_tab r hr t ht k (by omega)
      by_cases u : usB r t k = false
      · rw [if_pos (mt.mpr u), va_c h (by omega), ob_some, mv, ob_some, hv k (by omega)]
        have vk : val fl Y k = Y k := by
          unfold val
          rw [if_pos a]
        have bk := bnd_i (show k < 14 by omega) (ky_1 h k (by omega) a).2.1
        rw [vk]
        by_cases e : Y k = FV d s nn o k
        · rw [if_pos (by rw [e])]
          exact skip (fun _ _ => e)
        · rw [if_neg (fun w => e ((iI_eq (by omega) (hb k (by omega))).mp w))]
          exact Or.inr ⟨rfl, k, Nat.le_refl _, by omega, a, u, e⟩
      · rw [if_neg (fun w => u (mt.mp w))]
        exact skip (fun _ q => absurd q u)
theorem d191_l {fl vals kn : Nat → Int32} {va : Nat → Int64} {Y : Nat → Int} {r : Nat} {d s nn o : Int} {RP RS RN RO x2 x3 x9 : Int32} {RD : Int64} (h : KY fl vals kn va Y) (hr : r < 4) (hd : -400000000000 ≤ d ∧ d ≤ 400000000000) (hb : ∀ i, i < 14 → -2147483648 ≤ FV d s nn o i ∧ FV d s nn o i < 2147483648) (h0 : r = 0 → ∀ i, i < 7 → fl i = 0) : ∀ m k F, k + m = 7 → m < F → ((∃ z, lp_SkeletonClockModel_resolve_191 RP RD RS RN RO kn va x2 x3 (nI r) (jI d) x9 F (nI k) = some (.inr z)) ∧ ∀ f, k ≤ f → f < 7 → fl (cix f) = 1 → usB r 0 (cix f) = false → Y (cix f) = FV d s nn o (cix f)) ∨ (lp_SkeletonClockModel_resolve_191 RP RD RS RN RO kn va x2 x3 (nI r) (jI d) x9 F (nI k) = some (.inl (0, RP, RD, RS, RN, RO)) ∧ ∃ f, k ≤ f ∧ f < 7 ∧ fl (cix f) = 1 ∧ usB r 0 (cix f) = false ∧ Y (cix f) ≠ FV d s nn o (cix f)) := by
  intro m
  induction m with
  | zero =>
    intro k F hk hF
    obtain ⟨F, rfl⟩ : ∃ H, F = H + 1 := ⟨F - 1, by omega⟩
    have : k = 7 := by omega
    subst this
    exact Or.inl ⟨⟨nI 7, by rw [lp_SkeletonClockModel_resolve_191, st_SkeletonClockModel_resolve_191, if_pos (by decide)]⟩, fun i _ _ => by omega⟩
  | succ m ih =>
    intro k F hk hF
    obtain ⟨F, rfl⟩ : ∃ H, F = H + 1 := ⟨F - 1, by omega⟩
    have i1 := ih (k + 1) F (by omega) (by omega)
    have skip : (fl (cix k) = 1 → usB r 0 (cix k) = false → Y (cix k) = FV d s nn o (cix k)) → ((∃ z, lp_SkeletonClockModel_resolve_191 RP RD RS RN RO kn va x2 x3 (nI r) (jI d) x9 F (nI (k + 1)) = some (.inr z)) ∧ ∀ f, k ≤ f → f < 7 → fl (cix f) = 1 → usB r 0 (cix f) = false → Y (cix f) = FV d s nn o (cix f)) ∨ (lp_SkeletonClockModel_resolve_191 RP RD RS RN RO kn va x2 x3 (nI r) (jI d) x9 F (nI (k + 1)) = some (.inl (0, RP, RD, RS, RN, RO)) ∧ ∃ f, k ≤ f ∧ f < 7 ∧ fl (cix f) = 1 ∧ usB r 0 (cix f) = false ∧ Y (cix f) ≠ FV d s nn o (cix f)) := by
      intro hq
      rcases i1 with ⟨a, b⟩ | ⟨a, i, b⟩
      · refine Or.inl ⟨a, fun i j1 j2 j3 j4 => ?_⟩
        by_cases e : i = k
        · subst e
          exact hq j3 j4
        · exact b i (by omega) j2 j3 j4
      · exact Or.inr ⟨a, i, by omega, b.2⟩
    obtain ⟨c1, c2⟩ := cx_tab k (by omega)
    have kk := (ky_01 h (cix k) (by omega)).2
    rw [c1] at kk
    have sk : ¬ (nI k < 0 ∨ 14 ≤ (nI k).toNatClampNeg) := sN (by omega) (by decide)
    rw [lp_SkeletonClockModel_resolve_191, st_SkeletonClockModel_resolve_191, kk6, if_neg (nI_nlt (by omega) (by omega)), if_pos sk, if_pos sk, nI_clamp (by omega), kk, nI_1]
    rcases (ky_01 h (cix k) (by omega)).1 with a | a
    · rw [if_pos a]
      exact skip (fun q => by rw [a] at q; exact absurd q (by decide))
    · rw [if_neg (by rw [a]; decide)]
      have r1 : 1 ≤ r := by
        by_cases q : r = 0
        · have := h0 q (cix k) c2
          rw [a] at this
          exact absurd this (by decide)
        · omega
      rw [ub_tab r hr r1 k (by omega), ob_some]
      by_cases u : usB r 0 (cix k) = true
      · rw [if_pos u, if_neg (by decide)]
        exact skip (fun _ q => by rw [u] at q; exact absurd q (by decide))
      · have dfe : f_SkeletonClockModel_dateField (jI d) (nI k) = some (jI (FV d s nn o (cix k))) := by
          rw [nI_iI]
          exact df_m (by omega) s nn o k (by omega)
        have zk := (ky_1 h (cix k) (by omega) a).2.2.2
        rw [c1] at zk
        have bk := bnd_i (show cix k < 14 by omega) (ky_1 h (cix k) (by omega) a).2.1
        have fb := hb (cix k) (by omega)
        rw [if_neg u, if_pos rfl, dfe, ob_some, zk]
        by_cases e : Y (cix k) = FV d s nn o (cix k)
        · rw [if_pos (by rw [e])]
          exact skip (fun _ _ => e)
        · rw [if_neg (fun w => e ((jI_eq (by omega) (by omega)).mp w))]
          exact Or.inr ⟨rfl, k, Nat.le_refl _, by omega, a, by revert u; cases usB r 0 (cix k) <;> simp, e⟩
theorem d285_l {fl vals kn : Nat → Int32} {va : Nat → Int64} {Y : Nat → Int} {d s nn o : Int} {RP RS RN RO x2 x3 hf : Int32} {RD x5 : Int64} (h : KY fl vals kn va Y) (hs : 0 ≤ s ∧ s < 86400) (hb : ∀ i, i < 14 → -2147483648 ≤ FV d s nn o i ∧ FV d s nn o i < 2147483648) : ∀ m k F, k + m = 10 → 8 ≤ k → m < F → ((∃ z, lp_SkeletonClockModel_resolve_285 RP RD RS RN RO kn va x2 x3 x5 (iI s) hf F (nI k) = some (.inr z)) ∧ ∀ f, k ≤ f → f < 10 → fl f = 1 → hf = 0 → Y f = FV d s nn o f) ∨ (lp_SkeletonClockModel_resolve_285 RP RD RS RN RO kn va x2 x3 x5 (iI s) hf F (nI k) = some (.inl (0, RP, RD, RS, RN, RO)) ∧ ∃ f, k ≤ f ∧ f < 10 ∧ fl f = 1 ∧ hf = 0 ∧ Y f ≠ FV d s nn o f) := by
  intro m
  induction m with
  | zero =>
    intro k F hk hk8 hF
    obtain ⟨F, rfl⟩ : ∃ H, F = H + 1 := ⟨F - 1, by omega⟩
    have : k = 10 := by omega
    subst this
    exact Or.inl ⟨⟨nI 10, by rw [lp_SkeletonClockModel_resolve_285, st_SkeletonClockModel_resolve_285, if_pos (by decide)]⟩, fun i _ _ => by omega⟩
  | succ m ih =>
    intro k F hk hk8 hF
    obtain ⟨F, rfl⟩ : ∃ H, F = H + 1 := ⟨F - 1, by omega⟩
    have i1 := ih (k + 1) F (by omega) (by omega) (by omega)
    have skip : (fl k = 1 → hf = 0 → Y k = FV d s nn o k) → ((∃ z, lp_SkeletonClockModel_resolve_285 RP RD RS RN RO kn va x2 x3 x5 (iI s) hf F (nI (k + 1)) = some (.inr z)) ∧ ∀ f, k ≤ f → f < 10 → fl f = 1 → hf = 0 → Y f = FV d s nn o f) ∨ (lp_SkeletonClockModel_resolve_285 RP RD RS RN RO kn va x2 x3 x5 (iI s) hf F (nI (k + 1)) = some (.inl (0, RP, RD, RS, RN, RO)) ∧ ∃ f, k ≤ f ∧ f < 10 ∧ fl f = 1 ∧ hf = 0 ∧ Y f ≠ FV d s nn o f) := by
      intro hq
      rcases i1 with ⟨a, b⟩ | ⟨a, i, b⟩
      · refine Or.inl ⟨a, fun i j1 j2 j3 j4 => ?_⟩
        by_cases e : i = k
        · subst e
          exact hq j3 j4
        · exact b i (by omega) j2 j3 j4
      · exact Or.inr ⟨a, i, by omega, b.2⟩
    have c1 := fx_7 k (by omega) (by omega)
    have kk := (ky_01 h k (by omega)).2
    rw [c1] at kk
    have sk : ¬ (nI k < 0 ∨ 14 ≤ (nI k).toNatClampNeg) := sN (by omega) (by decide)
    rw [lp_SkeletonClockModel_resolve_285, st_SkeletonClockModel_resolve_285, kk9, if_neg (nI_nlt (by omega) (by omega)), if_pos sk, if_pos sk, nI_clamp (by omega), kk, nI_1]
    rcases (ky_01 h k (by omega)).1 with a | a
    · rw [if_pos a]
      exact skip (fun q => by rw [a] at q; exact absurd q (by decide))
    · rw [if_neg (by rw [a]; decide)]
      by_cases u : hf = 0
      · have tfe : f_SkeletonClockModel_timeField (iI s) (nI k) = some (iI (FV d s nn o k)) := by
          rw [nI_iI]
          exact tf_m hs d nn o k (by omega)
        have zk := (ky_1 h k (by omega) a).2.2.2
        rw [c1] at zk
        have bk := bnd_i (show k < 14 by omega) (ky_1 h k (by omega) a).2.1
        have fb := hb k (by omega)
        rw [if_pos u, tfe, ob_some, zk, i2j fb]
        by_cases e : Y k = FV d s nn o k
        · rw [if_pos (by rw [e])]
          exact skip (fun _ _ => e)
        · rw [if_neg (fun w => e ((jI_eq (by omega) (by omega)).mp w))]
          exact Or.inr ⟨rfl, k, Nat.le_refl _, by omega, a, u, e⟩
      · rw [if_neg u]
        exact skip (fun _ q => absurd q u)
theorem ho_l {fl : Nat → Int32} {b : Nat} (hb : b < 14) (h : ∀ i, i < 14 → fl i = 0 ∨ fl i = 1) : ∀ m k F, k + m = b + 1 → m < F → ((∃ z, lp_Known_hasOneOf_2 fl (nI b) F (nI k) = some (.inr z)) ∧ ∀ i, k ≤ i → i ≤ b → fl i = 0) ∨ (lp_Known_hasOneOf_2 fl (nI b) F (nI k) = some (.inl 1) ∧ ∃ i, k ≤ i ∧ i ≤ b ∧ fl i = 1) := by
  intro m
  induction m with
  | zero =>
    intro k F hk hF
    obtain ⟨F, rfl⟩ : ∃ H, F = H + 1 := ⟨F - 1, by omega⟩
    exact Or.inl ⟨⟨nI k, by rw [lp_Known_hasOneOf_2, st_Known_hasOneOf_2, if_pos (nI_lt (by omega) (by omega))]⟩, fun i _ _ => by omega⟩
  | succ m ih =>
    intro k F hk hF
    obtain ⟨F, rfl⟩ : ∃ H, F = H + 1 := ⟨F - 1, by omega⟩
    rw [lp_Known_hasOneOf_2, st_Known_hasOneOf_2, if_neg (nI_nlt (by omega) (by omega)), ha_c (by omega) (h k (by omega)), ob_some, nI_1]
    rcases h k (by omega) with a | a
    · rw [if_pos a]
      rcases ih (k + 1) F (by omega) (by omega) with ⟨p, q⟩ | ⟨p, i, q⟩
      · refine Or.inl ⟨p, fun i j1 j2 => ?_⟩
        by_cases e : i = k
        · rw [e]
          exact a
        · exact q i (by omega) j2
      · exact Or.inr ⟨p, i, by omega, q.2⟩
    · rw [if_neg (by rw [a]; decide)]
      exact Or.inr ⟨rfl, k, Nat.le_refl _, by omega, a⟩
theorem ho_c {fl : Nat → Int32} {a b : Nat} (hab : a ≤ b) (hb : b < 14) (h : ∀ i, i < 14 → fl i = 0 ∨ fl i = 1) : (f_Known_hasOneOf fl (nI a) (nI b) = some 0 ∧ ∀ i, a ≤ i → i ≤ b → fl i = 0) ∨ (f_Known_hasOneOf fl (nI a) (nI b) = some 1 ∧ ∃ i, a ≤ i ∧ i ≤ b ∧ fl i = 1) := by
  unfold f_Known_hasOneOf
  rcases ho_l hb h (b + 1 - a) a FU (by omega) (by unfold FU; omega) with ⟨⟨z, p⟩, q⟩ | ⟨p, q⟩
  · exact Or.inl ⟨by rw [p, ob_some]; rfl, q⟩
  · exact Or.inr ⟨by rw [p, ob_some]; rfl, q⟩
theorem so_l2 {kn : Nat → Int32} {b : Nat} (hb : b < 14) (h : ∀ i, i < 14 → kn i = 0 ∨ kn i = 1) : ∀ m k F (c : Int32), k + m = b + 1 → m < F → c = 0 ∨ c = 1 → ∃ r z, lp_SkeletonClockModel_some_5 kn (nI b) F c (nI k) = some (r, z) ∧ ((r = 0 ∧ c = 0 ∧ ∀ i, k ≤ i → i ≤ b → kn i = 0) ∨ (r = 1 ∧ (c = 1 ∨ ∃ i, k ≤ i ∧ i ≤ b ∧ kn i = 1))) := by
  intro m
  induction m with
  | zero =>
    intro k F c hk hF hc
    obtain ⟨F, rfl⟩ : ∃ H, F = H + 1 := ⟨F - 1, by omega⟩
    refine ⟨c, nI k, by rw [lp_SkeletonClockModel_some_5, st_SkeletonClockModel_some_5, if_pos (nI_lt (by omega) (by omega))], ?_⟩
    rcases hc with rfl | rfl
    · exact Or.inl ⟨rfl, rfl, fun i _ _ => by omega⟩
    · exact Or.inr ⟨rfl, Or.inl rfl⟩
  | succ m ih =>
    intro k F c hk hF hc
    obtain ⟨F, rfl⟩ : ∃ H, F = H + 1 := ⟨F - 1, by omega⟩
    rw [lp_SkeletonClockModel_some_5, st_SkeletonClockModel_some_5, if_neg (nI_nlt (by omega) (by omega)), if_pos (sN (by omega) (by decide)), nI_clamp (by omega), nI_1]
    rcases hc with rfl | rfl
    · rw [if_pos rfl]
      rcases h k (by omega) with a | a
      · rw [if_pos a]
        obtain ⟨r, z, p, q⟩ := ih (k + 1) F 0 (by omega) (by omega) (Or.inl rfl)
        refine ⟨r, z, p, ?_⟩
        rcases q with ⟨q1, q2, q3⟩ | ⟨q1, q2⟩
        · refine Or.inl ⟨q1, q2, fun i j1 j2 => ?_⟩
          by_cases e : i = k
          · rw [e]
            exact a
          · exact q3 i (by omega) j2
        · rcases q2 with q2 | ⟨i, q2⟩
          · exact absurd q2 (by decide)
          · exact Or.inr ⟨q1, Or.inr ⟨i, by omega, q2.2⟩⟩
      · rw [if_neg (by rw [a]; decide)]
        obtain ⟨r, z, p, q⟩ := ih (k + 1) F 1 (by omega) (by omega) (Or.inr rfl)
        refine ⟨r, z, p, ?_⟩
        rcases q with ⟨q1, q2, q3⟩ | ⟨q1, q2⟩
        · exact absurd q2 (by decide)
        · exact Or.inr ⟨q1, Or.inr ⟨k, Nat.le_refl _, by omega, a⟩⟩
    · rw [if_neg (by decide)]
      obtain ⟨r, z, p, q⟩ := ih (k + 1) F 1 (by omega) (by omega) (Or.inr rfl)
      refine ⟨r, z, p, ?_⟩
      rcases q with ⟨q1, q2, q3⟩ | ⟨q1, q2⟩
      · exact absurd q2 (by decide)
      · exact Or.inr ⟨q1, Or.inl rfl⟩
theorem so_c2 {kn : Nat → Int32} {a b : Nat} (hab : a ≤ b) (hb : b < 14) (h : ∀ i, i < 14 → kn i = 0 ∨ kn i = 1) : (f_SkeletonClockModel_some kn (nI a) (nI b) = some 0 ∧ ∀ i, a ≤ i → i ≤ b → kn i = 0) ∨ (f_SkeletonClockModel_some kn (nI a) (nI b) = some 1 ∧ ∃ i, a ≤ i ∧ i ≤ b ∧ kn i = 1) := by
  unfold f_SkeletonClockModel_some
  obtain ⟨r, z, p, q⟩ := so_l2 hb h (b + 1 - a) a FU 0 (by omega) (by unfold FU; omega) (Or.inl rfl)
  rw [p, ob_some]
  rcases q with ⟨rfl, -, q3⟩ | ⟨rfl, q2⟩
  · exact Or.inl ⟨by rw [if_pos (Or.inl rfl)], q3⟩
  · rcases q2 with q2 | q2
    · exact absurd q2 (by decide)
    · exact Or.inr ⟨by rw [if_pos (Or.inr rfl)], q2⟩
