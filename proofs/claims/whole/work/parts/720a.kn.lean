/-! read: what is known, on both sides. -/
theorem kk14 : (14 : Int32) = nI 14 := by decide
theorem vb_1 : vp_nar .boolean (1 : Int32) = 1 := by decide
theorem vb_0 : vp_nar .boolean (0 : Int32) = 0 := by decide
theorem cnt_le (fl : Nat → Int32) : ∀ k, cnt fl k ≤ k
  | 0 => Nat.le_refl _
  | k + 1 => by
    have := cnt_le fl k
    rw [cnt]
    split <;> omega
theorem cnt_lt {fl : Nat → Int32} {f : Nat} (h : fl f = 0) : ∀ k, f < k → cnt fl k < k
  | 0, hk => by omega
  | k + 1, hk => by
    rw [cnt]
    by_cases e : f = k
    · rw [← e, if_pos h]
      have := cnt_le fl f
      omega
    · have := cnt_lt h k (by omega)
      split <;> omega
theorem cnt_cg {fl gl : Nat → Int32} : ∀ k, (∀ i, i < k → gl i = fl i) → cnt gl k = cnt fl k
  | 0, _ => rfl
  | k + 1, h => by rw [cnt, cnt, h k (by omega), cnt_cg k (fun i hi => h i (by omega))]
theorem cnt_up {fl : Nat → Int32} {f : Nat} (h : fl f = 0) : ∀ k, f < k → cnt (upd fl f 1) k = cnt fl k + 1
  | 0, hk => by omega
  | k + 1, hk => by
    rw [cnt, cnt]
    by_cases e : f = k
    · subst e
      rw [pk_us, if_neg (by decide), if_pos h, cnt_cg f (fun i hi => pk_un (by omega))]
    · rw [pk_un (by omega), cnt_up h k (by omega)]
      omega
theorem cnt_dn {fl : Nat → Int32} {f : Nat} (h : fl f = 1) : ∀ k, f < k → cnt (upd fl f 0) k + 1 = cnt fl k
  | 0, hk => by omega
  | k + 1, hk => by
    rw [cnt, cnt]
    by_cases e : f = k
    · subst e
      rw [pk_us, if_pos rfl, h, if_neg (by decide), cnt_cg f (fun i hi => pk_un (by omega))]
    · have := cnt_dn h k (by omega)
      rw [pk_un (by omega)]
      omega
/-- a field of the class is newly known -/
theorem kn_up {z f : Nat} {fl od : Nat → Int32} (h : KN z fl od) (hf : f < 14) (h0 : fl f = 0) : z < 14 ∧ KN (z + 1) (upd fl f 1) (upd od z (nI f)) := by
  obtain ⟨a1, a2, a3, a4, a5⟩ := h
  have zl : z < 14 := by
    rw [a1]
    exact cnt_lt h0 14 hf
  refine ⟨zl, by rw [cnt_up h0 14 hf, a1], fun g hg => ?_, fun i hi => ?_, fun i j hi hj => ?_, fun g hg g1 => ?_⟩
  · by_cases e : g = f
    · rw [e, pk_us]
      exact Or.inr rfl
    · rw [pk_un e]
      exact a2 g hg
  · by_cases e : i = z
    · rw [e, pk_us]
      exact ⟨f, hf, rfl, pk_us⟩
    · rw [pk_un e]
      obtain ⟨g, g1, g2, g3⟩ := a3 i (by omega)
      refine ⟨g, g1, g2, ?_⟩
      rw [pk_un (fun q => ?_), g3]
      rw [q, h0] at g3
      exact absurd g3 (by decide)
  · by_cases e : j = z
    · rw [e, pk_us, pk_un (by omega)]
      obtain ⟨g, g1, g2, g3⟩ := a3 i (by omega)
      rw [g2]
      intro q
      have : g = f := (nI_eq (by omega) (by omega)).mp q
      rw [this, h0] at g3
      exact absurd g3 (by decide)
    · rw [pk_un e, pk_un (by omega)]
      exact a4 i j hi (by omega)
  · by_cases e : g = f
    · exact ⟨z, by omega, by rw [pk_us, e]⟩
    · rw [pk_un e] at g1
      obtain ⟨i, i1, i2⟩ := a5 g hg g1
      exact ⟨i, by omega, by rw [pk_un (by omega), i2]⟩
/-- the last known field is forgotten -/
theorem kn_dn {z : Nat} {fl od : Nat → Int32} (h : KN (z + 1) fl od) : ∃ f, f < 14 ∧ od z = nI f ∧ KN z (upd fl f 0) od := by
  obtain ⟨a1, a2, a3, a4, a5⟩ := h
  obtain ⟨f, f1, f2, f3⟩ := a3 z (by omega)
  have c := cnt_dn f3 14 f1
  refine ⟨f, f1, f2, by omega, fun g hg => ?_, fun i hi => ?_, fun i j hi hj => a4 i j hi (by omega), fun g hg g1 => ?_⟩
  · by_cases e : g = f
    · rw [e, pk_us]
      exact Or.inl rfl
    · rw [pk_un e]
      exact a2 g hg
  · obtain ⟨g, g1, g2, g3⟩ := a3 i (by omega)
    refine ⟨g, g1, g2, ?_⟩
    rw [pk_un (fun q => ?_), g3]
    apply a4 i z hi (by omega)
    rw [g2, f2, q]
  · by_cases e : g = f
    · rw [e, pk_us] at g1
      exact absurd g1 (by decide)
    · rw [pk_un e] at g1
      obtain ⟨i, i1, i2⟩ := a5 g hg g1
      refine ⟨i, ?_, i2⟩
      by_cases q : i = z
      · rw [q, f2] at i2
        exact absurd ((nI_eq (by omega) (by omega)).mp i2).symm e
      · omega
/-- forgetting down to y -/
theorem fg_l {y : Nat} {od : Nat → Int32} : ∀ m F (z : Nat) (fl : Nat → Int32), z = y + m → z < 100 → m < F → KN z fl od → ∃ fl', lp_Known_forget_0 od (nI y) F (nI z) fl = some (nI y, fl') ∧ KN y fl' od ∧ ∀ f, f < 14 → fl' f = 1 → fl f = 1 := by
  intro m
  induction m with
  | zero =>
    intro F z fl hz hz2 hF h
    obtain ⟨F, rfl⟩ : ∃ H, F = H + 1 := ⟨F - 1, by omega⟩
    have : z = y := by omega
    subst this
    refine ⟨fl, ?_, h, fun f _ e => e⟩
    rw [lp_Known_forget_0, st_Known_forget_0]
    by_cases q : z = 0
    · subst q
      rw [if_pos (by decide)]
    · rw [if_neg (nI_nle (by omega) (by omega)), if_pos (nI_le (Nat.le_refl _) (by omega))]
  | succ m ih =>
    intro F z fl hz hz2 hF h
    obtain ⟨F, rfl⟩ : ∃ H, F = H + 1 := ⟨F - 1, by omega⟩
    obtain ⟨w, rfl⟩ : ∃ w, z = w + 1 := ⟨z - 1, by omega⟩
    have zl : w + 1 ≤ 14 := by
      rw [h.1]
      exact cnt_le fl 14
    obtain ⟨f, f1, f2, f3⟩ := kn_dn h
    obtain ⟨fl', a, b, c⟩ := ih F w (upd fl f 0) (by omega) (by omega) (by omega) f3
    refine ⟨fl', ?_, b, fun g hg g1 => ?_⟩
    · rw [lp_Known_forget_0, st_Known_forget_0, if_neg (nI_nle (by omega) (by omega)), if_neg (nI_ge (by omega) (by omega)), nI_pred, if_pos (sN (by omega) (by decide)), nI_clamp (by omega), f2, if_pos (sN f1 (by decide)), nI_clamp (by omega), vb_0]
      exact a
    · have := c g hg g1
      by_cases e : g = f
      · rw [e, pk_us] at this
        exact absurd this (by decide)
      · rw [pk_un e] at this
        exact this
theorem fg_c {z y : Nat} {fl od : Nat → Int32} (h : KN z fl od) (hy : y ≤ z) : ∃ fl', f_Known_forget (nI z) fl od (nI y) = some (nI y, fl') ∧ KN y fl' od ∧ ∀ f, f < 14 → fl' f = 1 → fl f = 1 := by
  have zl : z ≤ 14 := by
    rw [h.1]
    exact cnt_le fl 14
  obtain ⟨fl', a, b, c⟩ := fg_l (y := y) (od := od) (z - y) FU z fl (by omega) (by omega) (by unfold FU; omega) h
  refine ⟨fl', ?_, b, c⟩
  unfold f_Known_forget
  rw [a, ob_some]
/-- what a value of a field of the class may be -/
def bnd (i : Nat) (y : Int) : Prop := (i ≤ 1 → -999999999 ≤ y ∧ y ≤ 999999999) ∧ (2 ≤ i → i ≤ 11 → 0 ≤ y ∧ y ≤ 999) ∧ (i = 5 → 1 ≤ y ∧ y ≤ 7) ∧ (i = 9 → y ≤ 1) ∧ (i = 12 → 0 ≤ y ∧ y ≤ 999999999) ∧ (i = 13 → -1080 ≤ y ∧ y ≤ 1080)
theorem bnd_i {i : Nat} {y : Int} (hi : i < 14) (h : bnd i y) : -999999999 ≤ y ∧ y ≤ 999999999 := by
  obtain ⟨h1, h2, h3, h4, h5, h6⟩ := h
  by_cases a : i ≤ 1
  · exact h1 a
  · by_cases b : i ≤ 11
    · have := h2 (by omega) b
      omega
    · by_cases c : i = 12
      · have := h5 c
        omega
      · have := h6 (by omega)
        omega
def fx (i : Nat) : Nat := fxL.getD i 0
theorem fx_lt : ∀ i, i < 14 → fx i < 14 := by decide
theorem fx_ne : ∀ i, i < 14 → ∀ j, j < 14 → fx i = fx j → i = j := by decide
theorem fx_on : ∀ k, k < 14 → ∃ i, i < 14 ∧ fx i = k := by decide
/-- the same is known on both sides -/
def KV (fl vals kn : Nat → Int32) (va : Nat → Int64) : Prop := ∀ i, i < 14 → (fl i = 0 ∧ kn (fx i) = 0) ∨ (fl i = 1 ∧ kn (fx i) = 1 ∧ ∃ y : Int, bnd i y ∧ vals i = iI y ∧ va (fx i) = jI y)
abbrev RC := Int32 × Int32 × (Nat → Int32) × (Nat → Int32) × (Nat → Int32)
abbrev RM := Int32 × (Nat → Int32) × (Nat → Int64)
/-- both readers fail, or both go on to the same place with the same known -/
def RO (L z : Nat) (vals fl od kn : Nat → Int32) (va : Nat → Int64) (rc : RC) (rm : RM) : Prop :=
  (rc = (-1, nI z, vals, fl, od) ∧ rm = (-1, kn, va)) ∨ ∃ p z' : Nat, p ≤ L ∧ z ≤ z' ∧ rc.1 = nI p ∧ rm.1 = nI p ∧ rc.2.1 = nI z' ∧ (∀ j, j < z → rc.2.2.2.2 j = od j) ∧ KN z' rc.2.2.2.1 rc.2.2.2.2 ∧ KV rc.2.2.2.1 rc.2.2.1 rm.2.1 rm.2.2
theorem ro_fail {L z : Nat} {vals fl od kn : Nat → Int32} {va : Nat → Int64} : RO L z vals fl od kn va (-1, nI z, vals, fl, od) (-1, kn, va) := Or.inl ⟨rfl, rfl⟩
theorem le_c {L z i p : Nat} {vals fl od kn : Nat → Int32} {va : Nat → Int64} {y : Int} (h : KN z fl od) (hk : KV fl vals kn va) (hi : i < 14) (hy : bnd i y) (hp : p ≤ L) : ∃ rc rm, f_TextReader_endWith (nI z) vals fl od (nI i) (iI y) (nI p) = some rc ∧ f_SkeletonClockModel_learn kn va (nI (fx i)) (jI y) (nI p) = some rm ∧ RO L z vals fl od kn va rc rm := by
  have fl1 := fx_lt i hi
  have bi := bnd_i hi hy
  have zl : z ≤ 14 := by
    rw [h.1]
    exact cnt_le fl 14
  unfold f_TextReader_endWith f_Known_learn f_SkeletonClockModel_learn
  rw [if_neg (nI_pos (by omega)), kk14, if_pos (nI_lt hi (by decide)), if_pos (sN hi (by decide)), nI_clamp (show i < 2 ^ 31 by omega), nI_clamp (show fx i < 2 ^ 31 by omega)]
  have s1 : ¬ (nI i < 0 ∨ 14 ≤ i) := by
    rintro (a | a)
    · exact nI_pos (by omega) a
    · omega
  have s2 : ¬ (nI (fx i) < 0 ∨ 14 ≤ fx i) := by
    rintro (a | a)
    · exact nI_pos (by omega) a
    · omega
  rcases hk i hi with ⟨k1, k2⟩ | ⟨k1, k2, w, w1, w2, w3⟩
  · obtain ⟨z1, z2⟩ := kn_up h hi k1
    have s3 : ¬ (nI z < 0 ∨ 14 ≤ z) := by
      rintro (a | a)
      · exact nI_pos (by omega) a
      · omega
    simp only [↓reduceIte, k1, k2, eq_true s1, eq_true s2, eq_true s3, eq_true (nI_lt z1 (show 14 < 2 ^ 31 by decide)), nI_clamp (show z < 2 ^ 31 by omega), ob_some, vb_1, eq_false (show ¬ (1 : Int32) = 0 by decide), nI_1]
    refine ⟨_, _, rfl, rfl, Or.inr ⟨p, z + 1, hp, by omega, rfl, rfl, rfl, fun j hj => pk_un (by omega), z2, fun j hj => ?_⟩⟩
    dsimp only
    by_cases e : j = i
    · subst e
      refine Or.inr ⟨pk_us, pk_us, y, hy, pk_us, pk_uLs⟩
    · have e2 : fx j ≠ fx i := fun q => e (fx_ne j hj i hi q)
      rw [pk_un e, pk_un e, pk_un e2, pk_uLn e2]
      exact hk j hj
  · have o1 : ¬ (1 : Int32) = 0 := by decide
    have bw := bnd_i hi w1
    have v1 : iI w = iI y ↔ w = y := iI_eq (by omega) (by omega)
    have v2 : jI w = jI y ↔ w = y := jI_eq (by omega) (by omega)
    by_cases e : w = y
    · subst e
      simp only [↓reduceIte, k1, k2, eq_true s1, eq_true s2, eq_false o1, w2, w3, ob_some, vb_1]
      refine ⟨_, _, rfl, rfl, Or.inr ⟨p, z, hp, Nat.le_refl _, rfl, rfl, rfl, fun j hj => rfl, h, fun j hj => ?_⟩⟩
      dsimp only
      by_cases e : j = i
      · subst e
        exact Or.inr ⟨k1, pk_us, w, w1, w2, pk_uLs⟩
      · have e2 : fx j ≠ fx i := fun q => e (fx_ne j hj i hi q)
        rw [pk_un e2, pk_uLn e2]
        exact hk j hj
    · simp only [↓reduceIte, k1, k2, eq_true s1, eq_true s2, eq_false o1, w2, w3, ob_some, eq_false (fun q => e (v1.mp q)), eq_false (fun q => e (v2.mp q))]
      exact ⟨_, _, rfl, rfl, ro_fail⟩
