/-! read: the reference's small loops. -/
theorem ix14 (e k : Nat) : (14 : Int32) * nI e + nI k = nI (14 * e + k) := by rw [kk14, pk_mul, nI_add]
theorem vb_01 {u : Int32} (h : u = 0 ∨ u = 1) : vp_nar .boolean u = u := by
  rcases h with rfl | rfl
  · exact vb_0
  · exact vb_1
theorem t10_l {a b c d : Int32} : ∀ m k F (kn : Nat → Int32), k + m = 14 → m < F → ∃ z kn', lp_SkeletonClockModel_through_10 a b c d F (nI k) kn = some (z, kn') ∧ (∀ f, k ≤ f → f < 14 → kn' f = 0) ∧ ∀ f, f < k → kn' f = kn f := by
  intro m
  induction m with
  | zero =>
    intro k F kn hk hF
    obtain ⟨F, rfl⟩ : ∃ H, F = H + 1 := ⟨F - 1, by omega⟩
    exact ⟨nI k, kn, by rw [lp_SkeletonClockModel_through_10, st_SkeletonClockModel_through_10, kk14, if_pos (nI_le (by omega) (by omega))], fun f _ _ => by omega, fun f _ => rfl⟩
  | succ m ih =>
    intro k F kn hk hF
    obtain ⟨F, rfl⟩ : ∃ H, F = H + 1 := ⟨F - 1, by omega⟩
    obtain ⟨z, kn', a1, a2, a3⟩ := ih (k + 1) F (upd kn k 0) (by omega) (by omega)
    refine ⟨z, kn', ?_, fun f f1 f2 => ?_, fun f f1 => by rw [a3 f (by omega), pk_un (by omega)]⟩
    · rw [lp_SkeletonClockModel_through_10, st_SkeletonClockModel_through_10, kk14, if_neg (nI_ge (by omega) (by omega)), if_pos (sN (by omega) (by decide)), nI_clamp (by omega), vb_0, nI_1]
      exact a1
    · by_cases e : f = k
      · rw [e, a3 k (by omega), pk_us]
      · exact a2 f (by omega) f2
theorem t75_l {a b c : Int32} {e : Nat} {kn : Nat → Int32} (he : e < 20) (hk : ∀ f, f < 14 → kn f = 0 ∨ kn f = 1) : ∀ m k F (bf : Nat → Int32), k + m = 14 → m < F → ∃ z bf', lp_SkeletonClockModel_through_75 kn a b c (nI e) F (nI k) bf = some (z, bf') ∧ (∀ f, k ≤ f → f < 14 → bf' (14 * e + f) = kn f) ∧ ∀ j, j < 14 * e + k ∨ 14 * e + 14 ≤ j → bf' j = bf j := by
  intro m
  induction m with
  | zero =>
    intro k F bf hm hF
    obtain ⟨F, rfl⟩ : ∃ H, F = H + 1 := ⟨F - 1, by omega⟩
    exact ⟨nI k, bf, by rw [lp_SkeletonClockModel_through_75, st_SkeletonClockModel_through_75, kk14, if_pos (nI_le (by omega) (by omega))], fun f _ _ => by omega, fun f _ => rfl⟩
  | succ m ih =>
    intro k F bf hm hF
    obtain ⟨F, rfl⟩ : ∃ H, F = H + 1 := ⟨F - 1, by omega⟩
    obtain ⟨z, bf', a1, a2, a3⟩ := ih (k + 1) F (upd bf (14 * e + k) (kn k)) (by omega) (by omega)
    refine ⟨z, bf', ?_, fun f f1 f2 => ?_, fun j hj => by rw [a3 j (by omega), pk_un (by omega)]⟩
    · rw [lp_SkeletonClockModel_through_75, st_SkeletonClockModel_through_75, ix14, kk14, if_neg (nI_ge (by omega) (by omega)), if_pos (sN (by omega) (by decide)), if_pos (sN (by omega) (by decide)), nI_clamp (by omega), nI_clamp (by omega), vb_01 (hk k (by omega)), nI_1]
      exact a1
    · by_cases q : f = k
      · rw [q, a3 _ (by omega), pk_us]
      · exact a2 f (by omega) f2
theorem t183_l {a b c : Int32} {e : Nat} {bf : Nat → Int32} (he : e < 20) (hb : ∀ f, f < 14 → bf (14 * e + f) = 0 ∨ bf (14 * e + f) = 1) : ∀ m k F (kn : Nat → Int32), k + m = 14 → m < F → ∃ z kn', lp_SkeletonClockModel_through_183 bf a b c (nI e) F (nI k) kn = some (z, kn') ∧ (∀ f, k ≤ f → f < 14 → kn' f = bf (14 * e + f)) ∧ ∀ f, f < k → kn' f = kn f := by
  intro m
  induction m with
  | zero =>
    intro k F kn hm hF
    obtain ⟨F, rfl⟩ : ∃ H, F = H + 1 := ⟨F - 1, by omega⟩
    exact ⟨nI k, kn, by rw [lp_SkeletonClockModel_through_183, st_SkeletonClockModel_through_183, kk14, if_pos (nI_le (by omega) (by omega))], fun f _ _ => by omega, fun f _ => rfl⟩
  | succ m ih =>
    intro k F kn hm hF
    obtain ⟨F, rfl⟩ : ∃ H, F = H + 1 := ⟨F - 1, by omega⟩
    obtain ⟨z, kn', a1, a2, a3⟩ := ih (k + 1) F (upd kn k (bf (14 * e + k))) (by omega) (by omega)
    refine ⟨z, kn', ?_, fun f f1 f2 => ?_, fun f f1 => by rw [a3 f (by omega), pk_un (by omega)]⟩
    · rw [lp_SkeletonClockModel_through_183, st_SkeletonClockModel_through_183, ix14, kk14, if_neg (nI_ge (by omega) (by omega)), if_pos (sN (by omega) (by decide)), if_pos (sN (by omega) (by decide)), nI_clamp (by omega), nI_clamp (by omega), vb_01 (hb k (by omega)), nI_1]
      exact a1
    · by_cases q : f = k
      · rw [q, a3 _ (by omega), pk_us]
      · exact a2 f (by omega) f2
theorem ns_pop {p d : Nat} {so ends : Nat → Int32} {E q : Nat → Nat} (h : NS so E p (d + 1) q ends) (hd : ¬ p < E (q d)) : NS so E p d q ends := by
  obtain ⟨s1, s2, s3, s4⟩ := h
  refine ⟨by omega, fun i hi => s2 i (by omega), fun i j a b => s3 i j a (by omega), fun a a1 a2 a3 => ?_⟩
  obtain ⟨i, i1, i2⟩ := s4 a a1 a2 a3
  refine ⟨i, ?_, i2⟩
  by_cases y : i = d
  · rw [y] at i2
    rw [i2] at hd
    exact absurd a3 hd
  · omega
theorem ns_uniq {p a b : Nat} {so ends : Nat → Int32} {E q : Nat → Nat} (ha : NS so E p a q ends) (hao : ∀ i, i < a → p < E (q i)) (hb : NS so E p b q ends) (hbo : ∀ i, i < b → p < E (q i)) : a = b := by
  by_cases x : a < b
  · obtain ⟨i, i1, i2⟩ := ha.2.2.2 (q a) (hb.2.1 a x).1 (hb.2.1 a x).2.1 (hbo a x)
    have := (hb.2.2.1 i a i1 x).1
    omega
  · by_cases y : b < a
    · obtain ⟨i, i1, i2⟩ := hb.2.2.2 (q b) (ha.2.1 b y).1 (ha.2.1 b y).2.1 (hao b y)
      have := (ha.2.2.1 i b i1 y).1
      omega
    · omega
theorem t222_l {x p' N : Nat} {so ar ends op en : Nat → Int32} {E q : Nat → Nat} {y : Int32} (hS : SP N so ar E) (hx : x < 6) (hN : N ≤ 20) (hp : p' ≤ N) : ∀ d F, d < F → NS so E p' d q ends → (∀ i, i < d → p' ≤ E (q i) ∧ E (q i) ≤ N ∧ op i = nI (q i) ∧ en (20 * x + q i) = nI (E (q i))) → ∃ e, e ≤ d ∧ lp_SkeletonClockModel_through_222 en op (nI x) y (nI p') F (nI d) = some (nI e) ∧ NS so E p' e q ends ∧ ∀ i, i < e → p' < E (q i) := by
  intro d
  induction d with
  | zero =>
    intro F hF hs ho
    obtain ⟨F, rfl⟩ : ∃ H, F = H + 1 := ⟨F - 1, by omega⟩
    exact ⟨0, Nat.le_refl _, by rw [lp_SkeletonClockModel_through_222, st_SkeletonClockModel_through_222, if_pos (by decide)], hs, fun i hi => by omega⟩
  | succ d ih =>
    intro F hF hs ho
    obtain ⟨F, rfl⟩ : ∃ H, F = H + 1 := ⟨F - 1, by omega⟩
    obtain ⟨o1, o2, o3, o4⟩ := ho d (by omega)
    have qd := (hs.2.1 d (by omega)).1
    have dn := hs.1
    rw [lp_SkeletonClockModel_through_222, st_SkeletonClockModel_through_222, if_neg (nI_nle (by omega) (by omega)), nI_pred, if_pos (sN (by omega) (by decide)), nI_clamp (show d < 2 ^ 31 by omega), o3, ix20, if_pos (sN (by omega) (by decide)), nI_clamp (by omega), o4, pk_m1]
    by_cases z : E (q d) = p'
    · rw [z, if_pos rfl]
      obtain ⟨e, e1, e2, e3, e4⟩ := ih F (by omega) (ns_pop hs (by omega)) (fun i hi => ho i (by omega))
      exact ⟨e, by omega, e2, e3, e4⟩
    · rw [if_neg (fun w => z ((nI_eq (by omega) (by omega)).mp w))]
      refine ⟨d + 1, Nat.le_refl _, rfl, hs, fun i hi => ?_⟩
      by_cases y : i = d
      · rw [y]
        omega
      · have a := hs.2.2.1 i d (by omega) (by omega)
        have b := (ho i (by omega)).1
        have c := hS.2.2 (q i) (q d) a.1 (by omega) (hs.2.1 i (by omega)).2.1 (hs.2.1 d (by omega)).2.1 a.2
        omega
