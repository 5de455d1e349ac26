/-! read: fixed pieces, and how many digits are fixed behind a piece. -/
def fxd (i c : Nat) : Bool := i == 12 || (i == 4 && c == 3) || (decide (i < 12) && i != 4 && c == 2)
theorem fd_1 : ∀ i, i < 15 → ∀ c, c < 10 → 1 ≤ c → (tb_allowed i >>> (nI c &&& 31)) &&& 1 = 1 → f_Pattern_isFixed 1 (fun _ => nI i) (fun _ => nI c) 0 = some (if fxd i c then 1 else 0) ∧ f_SkeletonClockModel_fixed (fun _ => 1) (fun _ => nI (lixL.getD i 0)) (fun _ => nI c) 0 = some (nI (if fxd i c then c else 0)) := by decide +kernel
theorem kd_0 (u : Int32) : f_Pattern_kind 1 (fun _ => u) 0 = some u ∧ f_Pattern_number 1 (fun _ => u) 0 = some u := by
  unfold f_Pattern_kind f_Pattern_number
  constructor
  · rw [if_neg (by decide), if_neg (by decide), if_pos (by decide)]
  · rw [if_neg (by decide), if_neg (by decide), if_pos (by decide)]
theorem fd_2 {N q : Nat} (hN : N ≤ 20) (hq : q < N) (kd nb : Nat → Int32) : f_Pattern_isFixed (nI N) kd nb (nI q) = f_Pattern_isFixed 1 (fun _ => kd q) (fun _ => nb q) 0 := by
  unfold f_Pattern_isFixed
  rw [(pk_c hN hq kd).1, (pk_c hN hq nb).2, (kd_0 (kd q)).1, (kd_0 (nb q)).2]
theorem fd_3 {K : Nat} (hK : K < 140) (so co cn : Nat → Int32) : f_SkeletonClockModel_fixed so co cn (nI K) = f_SkeletonClockModel_fixed (fun _ => so K) (fun _ => co K) (fun _ => cn K) 0 := by
  unfold f_SkeletonClockModel_fixed
  have a : ¬ ((0 : Int32) < 0 ∨ 140 ≤ (0 : Int32).toNatClampNeg) := by decide
  rw [nI_clamp (by omega)]
  have b : ¬ (nI K < 0 ∨ 140 ≤ K) := by
    rintro (c | c)
    · exact nI_pos (by omega) c
    · omega
  simp only [eq_true a, eq_true b, ↓reduceIte]
theorem fd_c {N x q : Nat} {kd nb so co cn ar en : Nat → Int32} {E : Nat → Nat} (h : PV N kd nb (fun j => so (20 * x + j)) (fun j => co (20 * x + j)) (fun j => cn (20 * x + j)) ar en E) (hx : x < 6) (hN : N ≤ 20) (hq : q < N) : (f_Pattern_isFixed (nI N) kd nb (nI q) = some 0 ∧ f_SkeletonClockModel_fixed so co cn (nI (20 * x + q)) = some 0) ∨ ∃ w, 1 ≤ w ∧ w ≤ 9 ∧ nb q = nI w ∧ so (20 * x + q) ≠ 2 ∧ f_Pattern_isFixed (nI N) kd nb (nI q) = some 1 ∧ f_SkeletonClockModel_fixed so co cn (nI (20 * x + q)) = some (nI w) := by
  rw [fd_2 hN hq, fd_3 (by omega)]
  rcases h.1 q hq with a | ⟨a1, a2, -⟩
  · dsimp only at a
    rcases a with ⟨a1, a2, -⟩ | ⟨a1, i, c, i1, c1, c2, a2, a3, a4, a5, a6⟩
    · rw [a1, a2]
      refine Or.inl ⟨?_, ?_⟩
      · unfold f_Pattern_isFixed
        rw [(kd_0 15).1, ob_some, if_neg (by decide), if_neg (by decide), if_pos (by decide)]
      · unfold f_SkeletonClockModel_fixed
        rw [if_pos (by decide), if_neg (by decide)]
    · obtain ⟨t1, t2⟩ := fd_1 i i1 c (by omega) c1 a6
      rw [a1, a2, a3, a4, a5, t1, t2]
      by_cases b : fxd i c = true
      · rw [if_pos b, if_pos b]
        exact Or.inr ⟨c, c1, c2, rfl, by decide, rfl, rfl⟩
      · rw [if_neg b, if_neg b]
        exact Or.inl ⟨rfl, rfl⟩
  · dsimp only at a1
    rw [a1, a2]
    refine Or.inl ⟨?_, ?_⟩
    · unfold f_Pattern_isFixed
      rw [(kd_0 16).1, ob_some, if_neg (by decide), if_neg (by decide), if_pos (by decide)]
    · unfold f_SkeletonClockModel_fixed
      rw [if_pos (by decide), if_neg (by decide)]
/-- a piece behind p before the end of its section, no section between -/
theorem ar_same {N p q lim : Nat} {so ar : Nat → Int32} {E : Nat → Nat} (h : SP N so ar E) (hN : N ≤ 20) (hpq : p < q) (hq : q < N) (hb : ∀ j, p ≤ j → j < q → so j ≠ 2) (hl : (ar p = -1 ∧ lim = N) ∨ ∃ a, a < N ∧ ar p = nI a ∧ lim = E a) : (q < lim → ar q = ar p) ∧ (lim ≤ q → ar q ≠ ar p) := by
  rcases hl with ⟨l1, rfl⟩ | ⟨a, a0, l1, rfl⟩
  · refine ⟨fun _ => ?_, fun w => by omega⟩
    rw [l1]
    rcases h.2.1 p (by omega) with ⟨-, c2⟩ | ⟨c, c1, c2, -⟩
    · rcases h.2.1 q hq with ⟨d1, -⟩ | ⟨b, b1, b2, b3, b4, -⟩
      · exact d1
      · exfalso
        by_cases w : b < p
        · have := c2 b w b3
          omega
        · exact hb b (by omega) b1 b3
    · rw [c2] at l1
      exact absurd l1 (nI_m1 (by omega))
  · obtain ⟨s1, s2, s3, s4⟩ := sp_ar h hN (show p < N by omega) (by omega) l1
    refine ⟨fun w => ?_, fun w e => ?_⟩
    · rw [l1]
      rcases h.2.1 q hq with ⟨d1, d2⟩ | ⟨b, b1, b2, b3, b4, b5⟩
      · have := d2 a (by omega) s2
        omega
      · rw [b2]
        congr 1
        have bp : b < p := by
          by_cases y : b < p
          · exact y
          · exact absurd b3 (hb b (by omega) b1)
        by_cases y : b = a
        · exact y
        · by_cases z : b < a
          · have := b5 a z (by omega) s2
            omega
          · have := s4 b (by omega) bp b3
            omega
    · rw [l1] at e
      have := sp_ar h hN hq (by omega) e
      omega
theorem fb_l {N x p lim : Nat} {kd nb so co cn ar en sz : Nat → Int32} {E : Nat → Nat} {y3 y4 y5 y6 y7 : Int32} (h : PV N kd nb (fun j => so (20 * x + j)) (fun j => co (20 * x + j)) (fun j => cn (20 * x + j)) (fun j => ar (20 * x + j)) en E) (hS : SP N (fun j => so (20 * x + j)) (fun j => ar (20 * x + j)) E) (hx : x < 6) (hN : N ≤ 20) (hz : sz x = nI N) (hp : p < N) (hln : lim ≤ N) (hl : (ar (20 * x + p) = -1 ∧ lim = N) ∨ ∃ a, a < N ∧ ar (20 * x + p) = nI a ∧ lim = E a) : ∀ m q F S, q + m = N → m < F → p < q → q ≤ lim → S + 9 * m < 1000 → (∀ j, p ≤ j → j < q → so (20 * x + j) ≠ 2) → ∃ R z1 z2, R ≤ S + 9 * m ∧ lp_Pattern_fixedBehind_7 (nI N) kd nb (nI lim) F (nI S) (nI q) = some (nI R, z1) ∧ lp_SkeletonClockModel_freely_83 so co cn ar sz (nI x) (nI (20 * x + p)) y3 y4 y5 y6 y7 F (nI S) (nI (20 * x + q)) = some (nI R, z2) := by
  intro m
  induction m with
  | zero =>
    intro q F S hq hF hpq hql hS2 hb
    obtain ⟨F, rfl⟩ : ∃ H, F = H + 1 := ⟨F - 1, by omega⟩
    refine ⟨S, nI q, nI (20 * x + q), by omega, ?_, ?_⟩
    · rw [lp_Pattern_fixedBehind_7, st_Pattern_fixedBehind_7, if_pos (nI_le (by omega) (by omega))]
    · rw [lp_SkeletonClockModel_freely_83, st_SkeletonClockModel_freely_83, if_pos (sN (by omega) (by decide)), nI_clamp (by omega), hz, ix20, if_pos (nI_le (by omega) (by omega))]
  | succ m ih =>
    intro q F S hq hF hpq hql hS2 hb
    obtain ⟨F, rfl⟩ : ∃ H, F = H + 1 := ⟨F - 1, by omega⟩
    have qN : q < N := by omega
    obtain ⟨as1, as2⟩ := ar_same hS hN hpq qN hb hl
    have s1 : ¬ (nI (20 * x + q) < 0 ∨ 140 ≤ (nI (20 * x + q)).toNatClampNeg) := sN (by omega) (by decide)
    have s2 : ¬ (nI (20 * x + p) < 0 ∨ 140 ≤ (nI (20 * x + p)).toNatClampNeg) := sN (by omega) (by decide)
    have ref0 : ∀ (X : Option (Int32 × Int32)), lp_SkeletonClockModel_freely_83 so co cn ar sz (nI x) (nI (20 * x + p)) y3 y4 y5 y6 y7 (F + 1) (nI S) (nI (20 * x + q)) = (if ar (20 * x + q) = ar (20 * x + p) then ((f_SkeletonClockModel_fixed so co cn (nI (20 * x + q))).bind fun u7 => (if u7 ≤ 0 then some (nI S, nI (20 * x + q)) else ((f_SkeletonClockModel_fixed so co cn (nI (20 * x + q))).bind fun u9 => lp_SkeletonClockModel_freely_83 so co cn ar sz (nI x) (nI (20 * x + p)) y3 y4 y5 y6 y7 F (nI S + u9) (nI (20 * x + (q + 1)))))) else some (nI S, nI (20 * x + q))) := by
      intro X
      rw [lp_SkeletonClockModel_freely_83, st_SkeletonClockModel_freely_83, if_pos (sN (by omega) (by decide)), nI_clamp (show x < 2 ^ 31 by omega), hz, ix20, if_neg (nI_ge (by omega) (by omega)), if_pos s1, if_pos s2, nI_clamp (by omega), nI_clamp (by omega), nI_1, Nat.add_assoc]
    rw [ref0 none]
    by_cases ql : q < lim
    · rw [if_pos (as1 ql)]
      rcases fd_c h hx hN qN with ⟨f1, f2⟩ | ⟨w, w1, w2, w3, w4, f1, f2⟩
      · refine ⟨S, nI q, nI (20 * x + q), by omega, ?_, ?_⟩
        · rw [lp_Pattern_fixedBehind_7, st_Pattern_fixedBehind_7, if_neg (nI_ge (by omega) (by omega)), f1, ob_some, if_pos rfl]
        · rw [f2, ob_some, if_pos (by decide)]
      · obtain ⟨R, z1, z2, r1, r2, r3⟩ := ih (q + 1) F (S + w) (by omega) (by omega) (by omega) (by omega) (by omega) (fun j j1 j2 => by
          by_cases e : j = q
          · rw [e]
            exact w4
          · exact hb j j1 (by omega))
        refine ⟨R, z1, z2, by omega, ?_, ?_⟩
        · rw [lp_Pattern_fixedBehind_7, st_Pattern_fixedBehind_7, if_neg (nI_ge (by omega) (by omega)), f1, ob_some, if_neg (by decide), (pk_c hN qN nb).2, ob_some, w3, nI_add, nI_1]
          exact r2
        · rw [f2, ob_some, if_neg (nI_nle (by omega) (by omega)), ob_some, nI_add]
          exact r3
    · rw [if_neg (as2 (by omega))]
      refine ⟨S, nI q, _, by omega, ?_, rfl⟩
      rw [lp_Pattern_fixedBehind_7, st_Pattern_fixedBehind_7, if_pos (nI_le (by omega) (by omega))]
theorem fb_c {N x p lim : Nat} {kd nb so co cn ar en sz : Nat → Int32} {E : Nat → Nat} {y3 y4 y5 y6 y7 : Int32} (h : PV N kd nb (fun j => so (20 * x + j)) (fun j => co (20 * x + j)) (fun j => cn (20 * x + j)) (fun j => ar (20 * x + j)) en E) (hS : SP N (fun j => so (20 * x + j)) (fun j => ar (20 * x + j)) E) (hx : x < 6) (hN : N ≤ 20) (hz : sz x = nI N) (hp : p < N) (hso : so (20 * x + p) ≠ 2) (hln : lim ≤ N) (hpl : p < lim) (hl : (ar (20 * x + p) = -1 ∧ lim = N) ∨ ∃ a, a < N ∧ ar (20 * x + p) = nI a ∧ lim = E a) : ∃ R z2, R ≤ 180 ∧ f_Pattern_fixedBehind (nI N) kd nb (nI p) (nI lim) = some (nI R) ∧ lp_SkeletonClockModel_freely_83 so co cn ar sz (nI x) (nI (20 * x + p)) y3 y4 y5 y6 y7 FU 0 (nI (20 * x + p) + 1) = some (nI R, z2) := by
  obtain ⟨R, z1, z2, r1, r2, r3⟩ := fb_l (y3 := y3) (y4 := y4) (y5 := y5) (y6 := y6) (y7 := y7) h hS hx hN hz hp hln hl (N - (p + 1)) (p + 1) FU 0 (by omega) (by unfold FU; omega) (by omega) (by omega) (by omega) (fun j j1 j2 => by
    have : j = p := by omega
    rw [this]
    exact hso)
  refine ⟨R, z2, by omega, ?_, ?_⟩
  · unfold f_Pattern_fixedBehind
    rw [nI_1, kk0, r2, ob_some]
  · rw [nI_1, kk0, Nat.add_assoc]
    exact r3
/-! Fixed pieces. -/
def RFx (n : Nat) (g kn : Nat → Int32) (va : Nat → Int64) (p c : Nat) (K : Int64 → Option RM) : Option RM := (f_SkeletonClockModel_digitsAt (nI n) g (nI p) (nI c)).bind fun u8 => if nI c ≤ u8 then (f_SkeletonClockModel_numberAt (nI n) g (nI p) (nI c)).bind K else some (-1, kn, va)
theorem fi_c {n p c i L z : Nat} {T : Nat → Nat} {f g vals fl od kn : Nat → Int32} {va : Nat → Int64} {K : Int64 → Option RM} (hn : n ≤ 60) (hf : Tx n T f) (hg : Tx n T g) (hp : p ≤ n) (hL : n ≤ L) (hc : 1 ≤ c ∧ c ≤ 9) (hi : i < 14) (hKN : KN z fl od) (hKV : KV fl vals kn va) (hW : ∀ v, v < 10 ^ c → ∃ y, bnd i y ∧ ((f_SkeletonClock_isYearField (nI i)).bind fun u5 => (if u5 = 0 then (jn_TextReader_endOfFixed_39 60 (nI p) (nI z) vals fl od (nI n) f (nI i) (nI c) (nI v)) else (jn_TextReader_endOfFixed_39 60 (nI p) (nI z) vals fl od (nI n) f (nI i) (nI c) (nI v + (2000 : Int32))))) = f_TextReader_endWith (nI z) vals fl od (nI i) (iI y) (nI (p + c)) ∧ K (jN v) = f_SkeletonClockModel_learn kn va (nI (fx i)) (jI y) (nI (p + c))) : RR L z vals fl od kn va (f_TextReader_endOfFixed 60 (nI p) (nI z) vals fl od (nI n) f (nI i) (nI c)) (RFx n g kn va p c K) := by
  unfold f_TextReader_endOfFixed RFx
  obtain ⟨r, r1, r2, r3, r4⟩ := dg_c (p := p) (M := c) hn hf hg (by omega)
  rw [r2, r3, ob_some, ob_some]
  by_cases e : r = c
  · subst e
    obtain ⟨n1, n2, n3⟩ := nu_c (p := p) (w := r) hn hf hg (by omega) r4
    rw [if_pos (nI_le (Nat.le_refl _) (by omega)), if_pos (nI_le (Nat.le_refl _) (by omega)), n1, n2, ob_some, ob_some]
    obtain ⟨y, y1, y2, y3⟩ := hW _ n3
    rw [y2, y3]
    have pe : p + r ≤ n := by
      have := (r4 (r - 1) (by omega)).1
      omega
    exact le_c (L := L) hKN hKV hi y1 (by omega)
  · rw [if_neg (nI_ge (by omega) (by omega)), if_neg (nI_ge (by omega) (by omega))]
    exact rr_fail
theorem fx48 {a b : Int32} : ∀ m F v, m ≤ 9 → m < F → ∃ z', lp_TextReader_endOfFixed_48 60 a b F (nI v) (nI (9 - m)) = some (nI (v * 10 ^ m), z') := by
  intro m
  induction m with
  | zero =>
    intro F v hm hF
    obtain ⟨F, rfl⟩ : ∃ H, F = H + 1 := ⟨F - 1, by omega⟩
    exact ⟨nI 9, by rw [lp_TextReader_endOfFixed_48, st_TextReader_endOfFixed_48, if_pos (by decide), Nat.pow_zero, Nat.mul_one]⟩
  | succ m ih =>
    intro F v hm hF
    obtain ⟨F, rfl⟩ : ∃ H, F = H + 1 := ⟨F - 1, by omega⟩
    obtain ⟨z', q⟩ := ih F (v * 10) (by omega) (by omega)
    have e : 9 - (m + 1) + 1 = 9 - m := by omega
    refine ⟨z', ?_⟩
    rw [lp_TextReader_endOfFixed_48, st_TextReader_endOfFixed_48, kk9, if_neg (nI_ge (by omega) (by omega)), kk10, pk_mul, nI_1, e, q, Nat.mul_assoc, ← Nat.pow_add_one']
theorem ps206 {a b : Int32} : ∀ m F v, m ≤ 9 → m < F → ∃ z', lp_SkeletonClockModel_pass_206 a 12 b F (jN v) (nI (9 - m)) = some (jN (v * 10 ^ m), z') := by
  intro m
  induction m with
  | zero =>
    intro F v hm hF
    obtain ⟨F, rfl⟩ : ∃ H, F = H + 1 := ⟨F - 1, by omega⟩
    exact ⟨nI 9, by rw [lp_SkeletonClockModel_pass_206, st_SkeletonClockModel_pass_206, if_pos (by decide), if_pos (by decide), Nat.pow_zero, Nat.mul_one]⟩
  | succ m ih =>
    intro F v hm hF
    obtain ⟨F, rfl⟩ : ∃ H, F = H + 1 := ⟨F - 1, by omega⟩
    obtain ⟨z', q⟩ := ih F (v * 10) (by omega) (by omega)
    have e : 9 - (m + 1) + 1 = 9 - m := by omega
    refine ⟨z', ?_⟩
    rw [lp_SkeletonClockModel_pass_206, st_SkeletonClockModel_pass_206, if_pos (by decide), kk9, if_neg (nI_ge (by omega) (by omega)), kj10, jN_mul, nI_1, e, Nat.mul_comm 10, q, Nat.mul_assoc, ← Nat.pow_add_one']
