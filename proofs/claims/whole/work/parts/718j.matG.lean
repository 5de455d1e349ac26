/-! match: the six slots. -/
theorem nI_m1 {D : Nat} (h : D < 2 ^ 31) : ¬ nI D = -1 := fun q => by
  have a := congrArg Int32.toInt q
  rw [nI_toInt h] at a
  have h0 : (-1 : Int32).toInt = -1 := by decide
  omega
theorem sl_l {s : Nat} (hs : s ≤ 20) {ps : Nat → Option PSt} {kd nb so co cn ar en sz tr w : Nat → Int32} (hQ : R_pat ps so co cn ar en sz tr) (hw : ∀ i, i < 15 → w (lixL.getD i 0) = fcF kd nb (nI i) s 0 ∧ ∃ v, v < 10 ∧ fcF kd nb (nI i) s 0 = nI v) (hw2 : ∀ c, c < 128 → (∀ i, i < 15 → lixL.getD i 0 ≠ c) → w c = 0) (far0 : Int32) : ∀ (m k F G : Nat) (x2 x3 far : Int32) (hv : Nat → Int32), k + m = 6 → m < F → m < G → ((x2 = -1 ∧ far = far0) ∨ ((∃ b, b < 6 ∧ x2 = nI b) ∧ x3 = far ∧ ∃ D, D ≤ 15000 ∧ far = nI D)) → ∃ y z far' hv', lp_SkeletonClock_match_M_48 ps (nI s) kd nb F x2 x3 (nI k) = some (y, z, nI 6) ∧ lp_SkeletonClockModel_match_21 so co cn sz tr w G x2 (nI k) far hv = some (y, nI 6, far', hv') ∧ ((y = -1 ∧ far' = far0) ∨ ((∃ b, b < 6 ∧ y = nI b) ∧ z = far')) := by
  intro m
  induction m with
  | zero =>
    intro k F G x2 x3 far hv hk hF hG h
    obtain ⟨F, rfl⟩ : ∃ H, F = H + 1 := ⟨F - 1, by omega⟩
    obtain ⟨G, rfl⟩ : ∃ H, G = H + 1 := ⟨G - 1, by omega⟩
    have e : k = 6 := by omega
    subst e
    refine ⟨x2, x3, far, hv, by rw [lp_SkeletonClock_match_M_48, st_SkeletonClock_match_M_48, if_pos (by decide)], by rw [lp_SkeletonClockModel_match_21, st_SkeletonClockModel_match_21, if_pos (by decide)], ?_⟩
    rcases h with h | ⟨h1, h2, -⟩
    · exact Or.inl h
    · exact Or.inr ⟨h1, h2⟩
  | succ m ih =>
    intro k F G x2 x3 far hv hk hF hG h
    obtain ⟨F, rfl⟩ : ∃ H, F = H + 1 := ⟨F - 1, by omega⟩
    obtain ⟨G, rfl⟩ : ∃ H, G = H + 1 := ⟨G - 1, by omega⟩
    rw [lp_SkeletonClock_match_M_48, st_SkeletonClock_match_M_48, lp_SkeletonClockModel_match_21, st_SkeletonClockModel_match_21, kk6, if_neg (nI_ge (by omega) (by omega)), if_neg (nI_ge (by omega) (by omega)), if_pos (sN (by omega) (by omega)), if_pos (sN (by omega) (by omega)), nI_clamp (by omega), nI_1]
    rcases hQ k (by omega) with ⟨a, b⟩ | ⟨a, q, n, b, c, d, e, f⟩
    · rw [a, b, if_pos rfl]
      exact ih (k + 1) F G x2 x3 far hv (by omega) (by omega) (by omega) h
    · obtain ⟨D, h', g1, g2, g3⟩ := di_c c hs (by omega : k < 6) e f hw hw2 hv
      rw [a, b, if_neg (by decide), g2, ob_some]
      unfold mps
      dsimp only
      rw [d, g3, ob_some, if_neg (nI_m1 (by omega))]
      have hnew : ((nI k = -1 ∧ nI D = far0) ∨ ((∃ b, b < 6 ∧ nI k = nI b) ∧ nI D = nI D ∧ ∃ D2, D2 ≤ 15000 ∧ nI D = nI D2)) := Or.inr ⟨⟨k, by omega, rfl⟩, rfl, D, g1, rfl⟩
      rcases h with ⟨h1, h2⟩ | ⟨⟨j, hj, h1⟩, h2, D2, h3, h4⟩
      · subst h1
        rw [if_pos rfl, if_pos (by decide)]
        exact ih (k + 1) F G _ _ _ _ (by omega) (by omega) (by omega) hnew
      · subst h1 h2
        rw [if_neg (nI_m1 (by omega)), if_neg (nI_pos (by omega))]
        by_cases hle : x3 ≤ nI D
        · rw [if_pos hle, if_pos hle]
          exact ih (k + 1) F G _ _ _ _ (by omega) (by omega) (by omega) (Or.inr ⟨⟨j, hj, rfl⟩, rfl, D2, h3, h4⟩)
        · rw [if_neg hle, if_neg hle]
          exact ih (k + 1) F G _ _ _ _ (by omega) (by omega) (by omega) hnew
