/-! match: the wish on both sides. -/
theorem fc_nf (kd nb : Nat → Int32) (x : Int32) : ∀ m p, (∀ j, p ≤ j → j < p + m → kd j ≠ x) → fcF kd nb x m p = 0 := by
  intro m
  induction m with
  | zero => exact fun p h => rfl
  | succ m ih =>
    intro p h
    rw [fcF, if_neg (h p (by omega) (by omega))]
    exact ih (p + 1) (fun j h1 h2 => h j (by omega) (by omega))
theorem fc_a1 {s : Nat} (kd nb : Nat → Int32) (u v x : Int32) : ∀ m p, p + m = s → (∃ j, p ≤ j ∧ j < s ∧ kd j = x) → fcF (upd kd s u) (upd nb s v) x (m + 1) p = fcF kd nb x m p := by
  intro m
  induction m with
  | zero =>
    intro p hp h
    obtain ⟨j, a, b, -⟩ := h
    omega
  | succ m ih =>
    intro p hp h
    rw [fcF, pk_un (by omega), pk_un (by omega)]
    conv => rhs; rw [fcF]
    by_cases e : kd p = x
    · rw [if_pos e, if_pos e]
    · rw [if_neg e, if_neg e]
      refine ih (p + 1) (by omega) ?_
      obtain ⟨j, a, b, c⟩ := h
      refine ⟨j, ?_, b, c⟩
      by_cases ej : j = p
      · rw [ej] at c
        exact absurd c e
      · omega
theorem fc_a2 {s : Nat} (kd nb : Nat → Int32) (u v x : Int32) : ∀ m p, p + m = s → (∀ j, p ≤ j → j < s → kd j ≠ x) → fcF (upd kd s u) (upd nb s v) x (m + 1) p = if u = x then v else 0 := by
  intro m
  induction m with
  | zero =>
    intro p hp h
    have e : p = s := by omega
    subst e
    rw [fcF, pk_us, pk_us, fcF]
  | succ m ih =>
    intro p hp h
    rw [fcF, pk_un (by omega), if_neg (h p (by omega) (by omega))]
    exact ih (p + 1) (by omega) (fun j h1 h2 => h j (by omega) h2)
/-- the wish array -/
def WI (w : Nat → Int32) (s : Nat) (kd nb : Nat → Int32) : Prop := (∀ i, i < 15 → w (lixL.getD i 0) = fcF kd nb (nI i) s 0) ∧ ∀ c, c < 128 → (∀ i, i < 15 → lixL.getD i 0 ≠ c) → w c = 0
theorem WI_add {w kd nb : Nat → Int32} {s i0 r : Nat} (h : WI w s kd nb) (hi : i0 < 15) (hn : ∀ j, j < s → kd j ≠ nI i0) : WI (upd w (lixL.getD i0 0) (nI r)) (s + 1) (upd kd s (nI i0)) (upd nb s (nI r)) := by
  refine ⟨fun i hi2 => ?_, fun c hc hc2 => ?_⟩
  · by_cases e : i = i0
    · subst e
      rw [pk_us, fc_a2 kd nb _ _ _ s 0 (by omega) (fun j _ hj => hn j hj), if_pos rfl]
    · rw [pk_un (fun q => e (lix_inj i hi2 i0 hi q)), h.1 i hi2]
      by_cases q : ∃ j, j < s ∧ kd j = nI i
      · obtain ⟨j, a, b⟩ := q
        exact (fc_a1 kd nb _ _ _ s 0 (by omega) ⟨j, by omega, a, b⟩).symm
      · rw [fc_a2 kd nb _ _ _ s 0 (by omega) (fun j _ hj q2 => q ⟨j, hj, q2⟩), if_neg (fun q => e ((nI_eq (by omega) (by omega)).mp q).symm), fc_nf kd nb _ s 0 (fun j _ hj q2 => q ⟨j, by omega, q2⟩)]
  · rw [pk_un (fun q => hc2 i0 hi q.symm)]
    exact h.2 c hc hc2
theorem GD_add {kd : Nat → Int32} {s i0 : Nat} (h : GD s kd) (hi : i0 < 15) (hn : ∀ j, j < s → kd j ≠ nI i0) : GD (s + 1) (upd kd s (nI i0)) := by
  refine ⟨fun j hj => ?_, fun i j hij hj => ?_⟩
  · by_cases e : j = s
    · exact ⟨i0, hi, by rw [e, pk_us]⟩
    · rw [pk_un e]
      exact h.1 j (by omega)
  · rw [pk_un (by omega : i ≠ s)]
    by_cases e : j = s
    · rw [e, pk_us]
      exact hn i (by omega)
    · rw [pk_un e]
      exact h.2 i j hij (by omega)
theorem GD_15 {kd : Nat → Int32} {s : Nat} (h : GD s kd) : s ≤ 15 := by
  refine pigeon 15 s (fun j => (kd j).toNatClampNeg) (fun j hj => ?_) (fun i j hij hj q => ?_)
  · obtain ⟨i, hi, e⟩ := h.1 j hj
    show (kd j).toNatClampNeg < 15
    rw [e, nI_clamp (by omega)]
    exact hi
  · obtain ⟨a, ha, ea⟩ := h.1 i (by omega)
    obtain ⟨b, hb, eb⟩ := h.1 j hj
    have q2 : (kd i).toNatClampNeg = (kd j).toNatClampNeg := q
    rw [ea, eb, nI_clamp (by omega), nI_clamp (by omega)] at q2
    exact h.2 i j hij hj (by rw [ea, eb, q2])
/-- a letter met before has a count -/
theorem fc_in {n : Nat} {kd nb so co cn ar en : Nat → Int32} {E : Nat → Nat} (h : PV n kd nb so co cn ar en E) {i0 : Nat} (hi : i0 < 15) : ∀ (m p : Nat), p + m = n → (∃ j, p ≤ j ∧ j < n ∧ kd j = nI i0) → ∃ c : Nat, 1 ≤ c ∧ c < 10 ∧ fcF kd nb (nI i0) m p = nI c := by
  intro m
  induction m with
  | zero =>
    intro p hp h
    obtain ⟨j, a, b, -⟩ := h
    omega
  | succ m ih =>
    intro p hp hj
    rw [fcF]
    by_cases e : kd p = nI i0
    · rw [if_pos e]
      rcases h.1 p (by omega) with (⟨a1, a2, -⟩ | ⟨a1, i1, c0, a2, a3, a4, a5, a6, a7, a8, a9⟩) | ⟨a1, a2, -⟩
      · rw [a2, kk15] at e
        have := (nI_eq (by omega) (by omega)).mp e
        omega
      · exact ⟨c0, a3, by omega, a7⟩
      · rw [a2, kk16] at e
        have := (nI_eq (by omega) (by omega)).mp e
        omega
    · rw [if_neg e]
      refine ih (p + 1) (by omega) ?_
      obtain ⟨j, a, b, c⟩ := hj
      refine ⟨j, ?_, b, c⟩
      by_cases ej : j = p
      · rw [ej] at c
        exact absurd c e
      · omega
