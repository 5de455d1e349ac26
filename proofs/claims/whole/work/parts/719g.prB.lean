/-! print: the reference's walk. -/
theorem ix20 (x k : Nat) : (20 : Int32) * nI x + nI k = nI (20 * x + k) := by rw [kk20, pk_mul, nI_add]
theorem ix20' (x : Nat) : (20 : Int32) * nI x = nI (20 * x) := by rw [kk20, pk_mul]
theorem mi_c {P : Int32} {n x k : Nat} {kd nb so co cn ar en : Nat → Int32} {E : Nat → Nat} (h : PV n kd nb (fun j => so (20 * x + j)) (fun j => co (20 * x + j)) cn ar en E) (hx : x < 6) (hn : n ≤ 20) (hk : k < n) : (ms P kd k → f_SkeletonClockModel_missing P so co (nI (20 * x + k)) = some 1) ∧ (¬ ms P kd k → f_SkeletonClockModel_missing P so co (nI (20 * x + k)) = some 0) := by
  unfold f_SkeletonClockModel_missing
  rw [if_pos (sN (by omega) (by decide)), if_pos (sN (by omega) (by decide)), nI_clamp (by omega)]
  rcases h.1 k hk with q | ⟨q1, q2, -⟩
  · dsimp only at q
    rcases q with ⟨q1, q2, -⟩ | ⟨q1, i, c, i1, c1, c2, q2, q3, -⟩
    · have nm : ¬ ms P kd k := fun ⟨i, i1, i2, _⟩ => (i15 i1).2 (i2.symm.trans q2)
      exact ⟨fun z => absurd z nm, fun _ => by rw [q1, if_neg (by decide)]⟩
    · rw [q1, if_pos rfl, q3, (fx_tab i i1).1, ob_some, (pt_tab i i1).2, ob_some]
      refine ⟨fun ⟨j, j1, j2, j3⟩ => ?_, fun z => if_neg (fun w => z ⟨i, i1, q2, w⟩)⟩
      have : j = i := (nI_eq (by omega) (by omega)).mp (j2.symm.trans q2)
      rw [this] at j3
      rw [if_pos j3]
  · dsimp only at q1
    have nm : ¬ ms P kd k := fun ⟨i, i1, i2, _⟩ => (i15 i1).1 (i2.symm.trans q2)
    exact ⟨fun z => absurd z nm, fun _ => by rw [q1, if_neg (by decide)]⟩
theorem la_l {P y : Int32} {n x : Nat} {kd nb so co cn ar sz en : Nat → Int32} {E : Nat → Nat} (h : PV n kd nb (fun j => so (20 * x + j)) (fun j => co (20 * x + j)) cn (fun j => ar (20 * x + j)) en E) (hx : x < 6) (hn : n ≤ 20) (hz : sz x = nI n) : ∀ m k F (b : Int32), k + m = n → m < F → b = 0 ∨ b = 1 → ∃ r z, lp_SkeletonClockModel_lacks_8 P so co ar sz (nI x) y F b (nI (20 * x + k)) = some (r, z) ∧ ((r = 1 ∧ (b = 1 ∨ ∃ j, k ≤ j ∧ j < n ∧ ar (20 * x + j) = y ∧ ms P kd j)) ∨ (r = 0 ∧ b = 0 ∧ ∀ j, k ≤ j → j < n → ar (20 * x + j) = y → ¬ ms P kd j)) := by
  intro m
  induction m with
  | zero =>
    intro k F b hk hF hb
    obtain ⟨F, rfl⟩ : ∃ H, F = H + 1 := ⟨F - 1, by omega⟩
    rw [lp_SkeletonClockModel_lacks_8, st_SkeletonClockModel_lacks_8, if_pos (sN (by omega) (by decide)), nI_clamp (by omega), hz, ix20, if_pos (nI_le (by omega) (by omega))]
    refine ⟨_, _, rfl, ?_⟩
    rcases hb with hb | hb
    · exact Or.inr ⟨hb, hb, fun j _ _ => by omega⟩
    · exact Or.inl ⟨hb, Or.inl hb⟩
  | succ m ih =>
    intro k F b hk hF hb
    obtain ⟨F, rfl⟩ : ∃ H, F = H + 1 := ⟨F - 1, by omega⟩
    rw [lp_SkeletonClockModel_lacks_8, st_SkeletonClockModel_lacks_8, if_pos (sN (by omega) (by decide)), nI_clamp (by omega), hz, ix20, if_neg (nI_ge (by omega) (by omega)), if_pos (sN (by omega) (by decide)), nI_clamp (by omega), nI_1, Nat.add_assoc]
    rcases hb with hb | hb
    · subst hb
      rw [if_pos rfl]
      by_cases y1 : ar (20 * x + k) = y
      · rw [if_pos y1]
        obtain ⟨mc1, mc2⟩ := mi_c (P := P) h hx hn (show k < n by omega)
        by_cases y2 : ms P kd k
        · rw [mc1 y2, ob_some, if_neg (by decide)]
          obtain ⟨r, z, a, b⟩ := ih (k + 1) F 1 (by omega) (by omega) (Or.inr rfl)
          refine ⟨r, z, a, ?_⟩
          rcases b with b | b
          · exact Or.inl ⟨b.1, Or.inr ⟨k, Nat.le_refl _, by omega, y1, y2⟩⟩
          · exact absurd b.2.1 (by decide)
        · rw [mc2 y2, ob_some, if_pos rfl]
          obtain ⟨r, z, a, b⟩ := ih (k + 1) F 0 (by omega) (by omega) (Or.inl rfl)
          refine ⟨r, z, a, ?_⟩
          rcases b with ⟨b1, b2⟩ | ⟨b1, b2, b3⟩
          · rcases b2 with b2 | ⟨j, b2, b3⟩
            · exact absurd b2 (by decide)
            · exact Or.inl ⟨b1, Or.inr ⟨j, by omega, b3⟩⟩
          · refine Or.inr ⟨b1, b2, fun j j1 j2 j3 => ?_⟩
            by_cases w : j = k
            · rw [w]
              exact y2
            · exact b3 j (by omega) j2 j3
      · rw [if_neg y1]
        obtain ⟨r, z, a, b⟩ := ih (k + 1) F 0 (by omega) (by omega) (Or.inl rfl)
        refine ⟨r, z, a, ?_⟩
        rcases b with ⟨b1, b2⟩ | ⟨b1, b2, b3⟩
        · rcases b2 with b2 | ⟨j, b2, b3⟩
          · exact absurd b2 (by decide)
          · exact Or.inl ⟨b1, Or.inr ⟨j, by omega, b3⟩⟩
        · refine Or.inr ⟨b1, b2, fun j j1 j2 j3 => ?_⟩
          by_cases w : j = k
          · rw [w] at j3
            exact absurd j3 y1
          · exact b3 j (by omega) j2 j3
    · subst hb
      rw [if_neg (by decide)]
      obtain ⟨r, z, a, b⟩ := ih (k + 1) F 1 (by omega) (by omega) (Or.inr rfl)
      refine ⟨r, z, a, ?_⟩
      rcases b with b | b
      · exact Or.inl ⟨b.1, Or.inl rfl⟩
      · exact absurd b.2.1 (by decide)
theorem la_c {P y : Int32} {n x : Nat} {kd nb so co cn ar sz en : Nat → Int32} {E : Nat → Nat} (h : PV n kd nb (fun j => so (20 * x + j)) (fun j => co (20 * x + j)) cn (fun j => ar (20 * x + j)) en E) (hx : x < 6) (hn : n ≤ 20) (hz : sz x = nI n) : (f_SkeletonClockModel_lacks P so co ar sz (nI x) y = some 1 ∧ ∃ j, j < n ∧ ar (20 * x + j) = y ∧ ms P kd j) ∨ (f_SkeletonClockModel_lacks P so co ar sz (nI x) y = some 0 ∧ ∀ j, j < n → ar (20 * x + j) = y → ¬ ms P kd j) := by
  obtain ⟨r, z, a, b⟩ := la_l (P := P) (y := y) h hx hn hz n 0 FU 0 (by omega) (by unfold FU; omega) (Or.inl rfl)
  unfold f_SkeletonClockModel_lacks
  rw [Nat.add_zero] at a
  rw [ix20', a, ob_some]
  rcases b with ⟨b1, b2⟩ | ⟨b1, b2, b3⟩
  · subst b1
    rcases b2 with b2 | ⟨j, j1, j2⟩
    · exact absurd b2 (by decide)
    · exact Or.inl ⟨if_pos (Or.inr rfl), j, j2⟩
  · subst b1
    exact Or.inr ⟨if_pos (Or.inl rfl), fun j j1 => b3 j (Nat.zero_le _) j1⟩
theorem sc_l {P w : Int32} {n x : Nat} {kd nb so co cn ar sz en : Nat → Int32} {E : Nat → Nat} (h : PV n kd nb (fun j => so (20 * x + j)) (fun j => co (20 * x + j)) cn (fun j => ar (20 * x + j)) en E) (hS : SP n (fun j => so (20 * x + j)) (fun j => ar (20 * x + j)) E) (hx : x < 6) (hn : n ≤ 20) (hz : sz x = nI n) : ∀ J j F (b : Int32), j ≤ J → j < n → J < F → b = 0 ∨ b = 1 → ∃ r z, lp_SkeletonClockModel_print_67 P so co ar sz (nI x) w F b (ar (20 * x + j)) = some (r, z) ∧ ((r = 1 ∧ b = 1 ∧ inc n (fun j => so (20 * x + j)) (fun j => ar (20 * x + j)) E (ms P kd) n j) ∨ (r = 0 ∧ ¬ (b = 1 ∧ inc n (fun j => so (20 * x + j)) (fun j => ar (20 * x + j)) E (ms P kd) n j))) := by
  intro J
  induction J with
  | zero =>
    intro j F b hj hjn hF hb
    obtain ⟨F, rfl⟩ : ∃ H, F = H + 1 := ⟨F - 1, by omega⟩
    rcases hS.2.1 j hjn with ⟨a1, a2⟩ | ⟨a, a1, -⟩
    · dsimp only at a1 a2
      rw [a1, lp_SkeletonClockModel_print_67, st_SkeletonClockModel_print_67, if_pos (by decide)]
      have ii : inc n (fun j => so (20 * x + j)) (fun j => ar (20 * x + j)) E (ms P kd) n j := fun a b1 b2 b3 => by
        have := a2 a b1 b2
        omega
      refine ⟨_, _, rfl, ?_⟩
      rcases hb with hb | hb
      · exact Or.inr ⟨hb, fun c => by rw [hb] at c; exact absurd c.1 (by decide)⟩
      · exact Or.inl ⟨hb, hb, ii⟩
    · omega
  | succ J ih =>
    intro j F b hj hjn hF hb
    obtain ⟨F, rfl⟩ : ∃ H, F = H + 1 := ⟨F - 1, by omega⟩
    rcases hS.2.1 j hjn with ⟨a1, a2⟩ | ⟨a, a1, a2, a3, a4, a5⟩
    · dsimp only at a1 a2
      rw [a1, lp_SkeletonClockModel_print_67, st_SkeletonClockModel_print_67, if_pos (by decide)]
      have ii : inc n (fun j => so (20 * x + j)) (fun j => ar (20 * x + j)) E (ms P kd) n j := fun a b1 b2 b3 => by
        have := a2 a b1 b2
        omega
      refine ⟨_, _, rfl, ?_⟩
      rcases hb with hb | hb
      · exact Or.inr ⟨hb, fun c => by rw [hb] at c; exact absurd c.1 (by decide)⟩
      · exact Or.inl ⟨hb, hb, ii⟩
    · dsimp only at a2 a3 a5
      have ae := hS.1 a (by omega) a3
      have e1 : inc n (fun j => so (20 * x + j)) (fun j => ar (20 * x + j)) E (ms P kd) n j ↔ (¬ lk n (fun j => ar (20 * x + j)) (ms P kd) a ∧ inc n (fun j => so (20 * x + j)) (fun j => ar (20 * x + j)) E (ms P kd) n a) := by
        constructor
        · intro hc
          refine ⟨hc a a1 a3 a4 ae.2, fun b b1 b2 b3 b4 => ?_⟩
          have := hS.2.2 b a b1 (by omega) b2 a3 b3
          exact hc b (by omega) b2 (by omega) b4
        · rintro ⟨c1, c2⟩ b b1 b2 b3 b4
          by_cases y : b = a
          · rw [y]
            exact c1
          · by_cases z : b < a
            · exact c2 b z b2 (by omega) b4
            · have := a5 b (by omega) b1 b2
              omega
      rw [a2, lp_SkeletonClockModel_print_67, st_SkeletonClockModel_print_67, if_neg (nI_pos (by omega)), ix20, if_pos (sN (by omega) (by decide)), nI_clamp (by omega)]
      rcases hb with hb | hb
      · subst hb
        rw [if_pos rfl]
        obtain ⟨r, z, p, q⟩ := ih a F 0 (by omega) (by omega) (by omega) (Or.inl rfl)
        refine ⟨r, z, p, ?_⟩
        rcases q with q | q
        · exact absurd q.2.1 (by decide)
        · exact Or.inr ⟨q.1, fun c => absurd c.1 (by decide)⟩
      · subst hb
        rw [if_neg (by decide)]
        rcases la_c (P := P) (y := nI a) h hx hn hz with ⟨l1, j', l2, l3, l4⟩ | ⟨l1, l2⟩
        · rw [l1, ob_some, if_neg (by decide)]
          obtain ⟨r, z, p, q⟩ := ih a F 0 (by omega) (by omega) (by omega) (Or.inl rfl)
          refine ⟨r, z, p, ?_⟩
          rcases q with q | q
          · exact absurd q.2.1 (by decide)
          · exact Or.inr ⟨q.1, fun c => (e1.mp c.2).1 ⟨j', l2, l3, l4⟩⟩
        · rw [l1, ob_some, if_pos rfl, if_pos (by
            rintro (c | c)
            · exact nI_pos (by omega) c
            · omega)]
          obtain ⟨r, z, p, q⟩ := ih a F 1 (by omega) (by omega) (by omega) (Or.inr rfl)
          refine ⟨r, z, p, ?_⟩
          rcases q with q | q
          · exact Or.inl ⟨q.1, rfl, e1.mpr ⟨fun ⟨k, k1, k2, k3⟩ => l2 k k1 k2 k3, q.2.2⟩⟩
          · exact Or.inr ⟨q.1, fun c => q.2 ⟨rfl, (e1.mp c.2).2⟩⟩
theorem ml_l {P : Int32} {v : Nat → Int32} {D : Int64} {S N O : Int32} {g : Nat → Int64} {n x : Nat} {kd nb so co cn ar sz en : Nat → Int32} {E : Nat → Nat} {out : Nat → List Nat} (h : PV n kd nb (fun j => so (20 * x + j)) (fun j => co (20 * x + j)) (fun j => cn (20 * x + j)) (fun j => ar (20 * x + j)) en E) (hS : SP n (fun j => so (20 * x + j)) (fun j => ar (20 * x + j)) E) (h3 : K3 n kd nb (fun j => so (20 * x + j)) E) (hx : x < 6) (hn : n ≤ 20) (hz : sz x = nI n) (hw : ∀ k, k < n → QW v D S N O g n kd nb (fun j => so (20 * x + j)) (fun j => co (20 * x + j)) (fun j => cn (20 * x + j)) k (out k)) : ∀ m k F us pg, k + m = n → m < F → Dr (cat out (inc n (fun j => so (20 * x + j)) (fun j => ar (20 * x + j)) E (ms P kd) n) k) us pg → ∃ z us' pg', lp_SkeletonClockModel_print_42 P D S N O g so co cn ar sz (nI x) F (nI (20 * x + k)) us pg = some (z, us', pg') ∧ Dr (Vd n (fun j => so (20 * x + j)) (fun j => ar (20 * x + j)) E (ms P kd) out n) us' pg' := by
  intro m
  induction m with
  | zero =>
    intro k F us pg hk hF hD
    obtain ⟨F, rfl⟩ : ∃ H, F = H + 1 := ⟨F - 1, by omega⟩
    have : k = n := by omega
    subst this
    rw [lp_SkeletonClockModel_print_42, st_SkeletonClockModel_print_42, if_pos (sN (by omega) (by decide)), nI_clamp (by omega), hz, ix20, if_pos (nI_le (by omega) (by omega))]
    exact ⟨_, _, _, rfl, hD⟩
  | succ m ih =>
    intro k F us pg hk hF hD
    obtain ⟨F, rfl⟩ : ∃ H, F = H + 1 := ⟨F - 1, by omega⟩
    have hkn : k < n := by omega
    have ll := cat_len (out := out) (I := inc n (fun j => so (20 * x + j)) (fun j => ar (20 * x + j)) E (ms P kd) n) k (fun i hi => (hw i (by omega)).1)
    obtain ⟨r, z, p, q⟩ := sc_l (P := P) (w := nI (20 * x + k)) h hS hx hn hz k k FU 1 (Nat.le_refl _) hkn (by unfold FU; omega) (Or.inr rfl)
    rw [lp_SkeletonClockModel_print_42, st_SkeletonClockModel_print_42, if_pos (sN (by omega) (by decide)), nI_clamp (show x < 2 ^ 31 by omega), hz, ix20, if_neg (nI_ge (by omega) (by omega)), if_pos (sN (by omega) (by decide)), nI_clamp (show 20 * x + k < 2 ^ 31 by omega), p, ob_some, nI_1, Nat.add_assoc]
    have sn : ¬ (nI (20 * x + k) < 0 ∨ 140 ≤ 20 * x + k) := by
      rintro (a | a)
      · exact nI_pos (by omega) a
      · omega
    have o0 : ¬ (1 : Int32) = 0 := by decide
    rcases q with ⟨q1, -, q2⟩ | ⟨q1, q2⟩
    · subst q1
      have cy := cat_y (out := out) q2
      rcases h3 k hkn with ⟨s1, -⟩ | ⟨s1, -⟩ | ⟨s1, -⟩
      · have oe := (hw k hkn).2.1 s1
        dsimp only at s1
        simp only [↓reduceIte, eq_false o0, eq_true sn, s1, eq_false (show ¬ (2 : Int32) = 0 by decide), eq_false (show ¬ (2 : Int32) = 1 by decide)]
        exact ih (k + 1) F us pg (by omega) (by omega) (by rw [cy, oe, List.append_nil]; exact hD)
      · obtain ⟨us', pg', w1, w2⟩ := (hw k hkn).2.2.2.1 s1 _ us pg hD (by omega)
        dsimp only at s1 w1
        simp only [↓reduceIte, eq_false o0, eq_true sn, s1, eq_false (show ¬ (0 : Int32) = 1 by decide), w1, ob_some]
        exact ih (k + 1) F us' pg' (by omega) (by omega) (by rw [cy]; exact w2)
      · obtain ⟨j, j1, j2⟩ := (hw k hkn).2.2.2.2 s1
        obtain ⟨us', pg', w1, w2⟩ := j2 _ us pg hD (by omega)
        dsimp only at s1 w1 j1
        simp only [↓reduceIte, eq_false o0, eq_true sn, s1, j1, w1, ob_some]
        exact ih (k + 1) F us' pg' (by omega) (by omega) (by rw [cy]; exact w2)
    · subst q1
      have cn := cat_n (out := out) (fun c => q2 ⟨rfl, c⟩)
      rw [if_pos rfl, if_pos rfl]
      exact ih (k + 1) F us pg (by omega) (by omega) (by rw [cn]; exact hD)
