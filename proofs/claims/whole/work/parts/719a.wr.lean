/-! Rows that hold lists of codes; numbers put down in digits. -/
def jN (n : Nat) : Int64 := jI n
theorem jN_div {a b : Nat} (ha : a < 2 ^ 62) (h0 : 0 < b) (hb : b < 2 ^ 62) : jN a / jN b = jN (a / b) := by
  unfold jN
  rw [jI_div (by omega) (by omega), td_pos (by omega), ← Int.natCast_ediv]
theorem jN_mul (a b : Nat) : jN a * jN b = jN (a * b) := by
  unfold jN
  rw [jI_mul, Int.natCast_mul]
theorem jN_add (a b : Nat) : jN a + jN b = jN (a + b) := by
  unfold jN
  rw [jI_add, Int.natCast_add]
theorem jN_sub {a b : Nat} (h : b ≤ a) : jN a - jN b = jN (a - b) := by
  unfold jN
  rw [jI_sub, ← Int.ofNat_sub h]
theorem jN_rem {a b : Nat} (ha : a < 2 ^ 62) (h0 : 0 < b) (hb : b < 2 ^ 62) : jN a - jN a / jN b * jN b = jN (a % b) := by
  rw [jN_div ha h0 hb, jN_mul, jN_sub (Nat.div_mul_le_self a b), Nat.mul_comm, ← Nat.mod_eq_sub]
theorem jN_i (a : Nat) : Int64.toInt32 (jN a) = nI a := by
  unfold jN
  rw [j2i, nI_iI]
theorem jN_lt {a b : Nat} (ha : a < 2 ^ 62) (hb : b < 2 ^ 62) : jN a < jN b ↔ a < b := by
  unfold jN
  rw [jI_lt (by omega) (by omega)]
  omega
theorem jN_le {a b : Nat} (ha : a < 2 ^ 62) (hb : b < 2 ^ 62) : jN a ≤ jN b ↔ a ≤ b := by
  unfold jN
  rw [jI_le (by omega) (by omega)]
  omega
theorem jN_eq {a b : Nat} (ha : a < 2 ^ 62) (hb : b < 2 ^ 62) : jN a = jN b ↔ a = b := by
  unfold jN
  rw [jI_eq (by omega) (by omega)]
  omega
theorem kj0 : (0 : Int64) = jN 0 := by decide
theorem kj1 : (1 : Int64) = jN 1 := by decide
theorem kj10 : (10 : Int64) = jN 10 := by decide
theorem kj48 : (48 : Int64) = jN 48 := by decide
theorem kj60 : (60 : Int64) = jN 60 := by decide
theorem kj8 : (100000000 : Int64) = jN 100000000 := by decide
theorem kk10 : (10 : Int32) = nI 10 := by decide
/-- a row holds the codes L -/
def Dr (L : List Nat) (sz : Int32) (f : Nat → Int32) : Prop := sz = nI L.length ∧ (∀ x, x ∈ L → 32 ≤ x ∧ x ≤ 126) ∧ ∀ j, j < L.length → f j = nI (L.getD j 0)
theorem gd_l {L M : List Nat} {j : Nat} (h : j < L.length) : (L ++ M).getD j 0 = L.getD j 0 := by
  rw [List.getD_eq_getElem?_getD, List.getD_eq_getElem?_getD, List.getElem?_append_left h]
theorem gd_r {L M : List Nat} {j : Nat} (h : L.length ≤ j) : (L ++ M).getD j 0 = M.getD (j - L.length) 0 := by
  rw [List.getD_eq_getElem?_getD, List.getD_eq_getElem?_getD, List.getElem?_append_right h]
theorem dr_app {L M : List Nat} {sz : Int32} {f g : Nat → Int32} (h : Dr L sz f) (hM : ∀ x, x ∈ M → 32 ≤ x ∧ x ≤ 126) (h1 : ∀ j, j < L.length → g j = f j) (h2 : ∀ j, j < M.length → g (L.length + j) = nI (M.getD j 0)) : Dr (L ++ M) (nI (L.length + M.length)) g := by
  refine ⟨by rw [List.length_append], fun x hx => ?_, fun j hj => ?_⟩
  · rcases List.mem_append.mp hx with a | a
    · exact h.2.1 x a
    · exact hM x a
  · rw [List.length_append] at hj
    by_cases a : j < L.length
    · rw [h1 j a, h.2.2 j a, gd_l a]
    · obtain ⟨i, rfl⟩ : ∃ i, j = L.length + i := ⟨j - L.length, by omega⟩
      rw [h2 i (by omega), gd_r (by omega), Nat.add_sub_cancel_left]
theorem dr_one {L : List Nat} {sz : Int32} {f : Nat → Int32} {c : Nat} (h : Dr L sz f) (hc : 32 ≤ c ∧ c ≤ 126) : Dr (L ++ [c]) (nI (L.length + 1)) (upd f L.length (nI c)) := by
  refine dr_app (M := [c]) h (fun x hx => ?_) (fun j hj => pk_un (by omega)) (fun j hj => ?_)
  · rw [List.mem_singleton.mp hx]
    exact hc
  · have : j = 0 := by simp only [List.length_cons, List.length_nil] at hj; omega
    subst this
    exact pk_us
theorem dr_put {L : List Nat} {sz : Int32} {f : Nat → Int32} {c : Nat} (h : Dr L sz f) (hc : 32 ≤ c ∧ c ≤ 126) (hL : L.length < 200) : ∃ r sz' f', f_Row_put 200 sz f (nI c) = some (r, sz', f') ∧ Dr (L ++ [c]) sz' f' := by
  rw [h.1]
  exact ⟨_, _, _, (put_c (by omega) (by decide) f (by omega)).1 hL, dr_one h hc⟩
theorem dr_out {L : List Nat} {sz : Int32} {f : Nat → Int32} {c : Nat} (h : Dr L sz f) (hc : 32 ≤ c ∧ c ≤ 126) (hL : L.length < 256) : ∃ sz' f', f_SkeletonClockModel_out sz f (nI c) = some (sz', f') ∧ Dr (L ++ [c]) sz' f' := by
  rw [h.1]
  refine ⟨_, _, ?_, dr_one h hc⟩
  unfold f_SkeletonClockModel_out
  rw [if_pos (sN hL (by decide)), m16 (by omega), vc_n (by omega), nI_clamp (by omega), nI_1]
theorem dr_cut {L M : List Nat} {sz : Int32} {f : Nat → Int32} (h : Dr (L ++ M) sz f) (hl : (L ++ M).length ≤ 200) : f_Row_shorten sz (nI L.length) = some (nI L.length) ∧ Dr L (nI L.length) f := by
  have e := List.length_append (as := L) (bs := M)
  refine ⟨?_, rfl, fun x hx => h.2.1 x (List.mem_append.mpr (Or.inl hx)), fun j hj => ?_⟩
  · unfold f_Row_shorten
    rw [h.1]
    have i : (if nI L.length < nI (L ++ M).length then nI L.length else nI (L ++ M).length) = nI L.length := by
      by_cases a : L.length < (L ++ M).length
      · rw [if_pos (nI_lt a (by omega))]
      · rw [if_neg (nI_nlt (by omega) (by omega))]
        congr 1
        omega
    rw [i]
    by_cases a : 0 < L.length
    · rw [if_pos (by rw [kk0]; exact nI_lt a (by omega))]
    · rw [if_neg (by rw [kk0]; exact nI_nlt (by omega) (by omega)), kk0]
      congr 2
      omega
  · rw [h.2.2 j (by omega), gd_l hj]
/-- the last m digits of v -/
def dgs : Nat → Nat → List Nat
  | 0, _ => []
  | m + 1, v => dgs m (v / 10) ++ [48 + v % 10]
theorem dgs_len : ∀ m v, (dgs m v).length = m
  | 0, _ => rfl
  | m + 1, v => by rw [dgs, List.length_append, dgs_len m]; rfl
theorem dgs_cd : ∀ m v x, x ∈ dgs m v → 48 ≤ x ∧ x ≤ 57
  | 0, _, _, h => by cases h
  | m + 1, v, x, h => by
    rw [dgs] at h
    rcases List.mem_append.mp h with a | a
    · exact dgs_cd m _ x a
    · rw [List.mem_singleton.mp a]
      omega
theorem dgs_hd : ∀ m v, dgs (m + 1) v = (48 + v / 10 ^ m % 10) :: dgs m v
  | 0, v => by
    show [] ++ [48 + v % 10] = [48 + v / 10 ^ 0 % 10]
    rw [Nat.pow_zero, Nat.div_one]
    rfl
  | m + 1, v => by
    show dgs (m + 1) (v / 10) ++ [48 + v % 10] = _
    rw [dgs_hd m (v / 10), Nat.div_div_eq_div_mul, ← Nat.pow_add_one']
    rfl
/-- how many digits, none for 0 -/
def dcF : Nat → Nat → Nat
  | 0, _ => 0
  | k + 1, r => if r = 0 then 0 else 1 + dcF k (r / 10)
theorem dc_hi : ∀ k r, r < 10 ^ k → r < 10 ^ dcF k r
  | 0, r, h => h
  | k + 1, r, h => by
    rw [dcF]
    by_cases a : r = 0
    · rw [if_pos a, a]
      decide
    · rw [if_neg a, Nat.add_comm, Nat.pow_add_one]
      have := dc_hi k (r / 10) (by rw [Nat.pow_add_one] at h; omega)
      omega
theorem dc_lo : ∀ k r, 0 < r → r < 10 ^ k → ∃ e, dcF k r = e + 1 ∧ 10 ^ e ≤ r
  | 0, r, h0, h => by
    rw [Nat.pow_zero] at h
    omega
  | k + 1, r, h0, h => by
    rw [dcF, if_neg (by omega)]
    by_cases a : r / 10 = 0
    · refine ⟨0, ?_, by rw [Nat.pow_zero]; omega⟩
      rw [a]
      cases k <;> rfl
    · obtain ⟨e, b, c⟩ := dc_lo k (r / 10) (by omega) (by rw [Nat.pow_add_one] at h; omega)
      refine ⟨e + 1, by omega, ?_⟩
      rw [Nat.pow_add_one]
      omega
/-- the width of a number -/
def nD (v w : Nat) : Nat := if 1 + dcF 9 (v / 10) < w then w else 1 + dcF 9 (v / 10)
theorem nD_c {v w : Nat} (hv : v < 1000000000) (hw : 1 ≤ w ∧ w ≤ 9) : w ≤ nD v w ∧ nD v w ≤ 9 ∧ 1 ≤ nD v w ∧ v < 10 ^ nD v w ∧ (nD v w = w ∨ 10 ^ (nD v w - 1) ≤ v) := by
  have h9 : v / 10 < 10 ^ 9 := by
    have : (10 : Nat) ^ 9 = 1000000000 := by decide
    omega
  have a := dc_hi 9 (v / 10) h9
  have b : dcF 9 (v / 10) ≤ 8 ∧ (dcF 9 (v / 10) = 0 ∨ 10 ^ dcF 9 (v / 10) ≤ v) := by
    by_cases z : v / 10 = 0
    · rw [z]
      exact ⟨by decide, Or.inl (by decide)⟩
    · obtain ⟨e, c, d⟩ := dc_lo 9 (v / 10) (by omega) h9
      rw [c]
      refine ⟨?_, Or.inr (by rw [Nat.pow_add_one]; omega)⟩
      by_cases x : e < 8
      · omega
      · have := Nat.pow_le_pow_right (n := 10) (by decide) (show 8 ≤ e by omega)
        have h8 : (10 : Nat) ^ 8 = 100000000 := by decide
        omega
  have c : v < 10 ^ (1 + dcF 9 (v / 10)) := by
    rw [Nat.add_comm, Nat.pow_add_one]
    omega
  unfold nD
  by_cases x : 1 + dcF 9 (v / 10) < w
  · rw [if_pos x]
    refine ⟨Nat.le_refl _, hw.2, hw.1, Nat.lt_of_lt_of_le c (Nat.pow_le_pow_right (by decide) (by omega)), Or.inl rfl⟩
  · rw [if_neg x]
    refine ⟨by omega, by omega, by omega, c, ?_⟩
    rcases b.2 with d | d
    · exact Or.inl (by omega)
    · exact Or.inr (by rw [Nat.add_sub_cancel_left]; exact d)
theorem pn8 {cap : Nat} {a b : Int32} : ∀ k F r x, r < 10 ^ k → r < 2 ^ 31 → k < F → ∃ z, lp_Row_putNumber_8 cap a b F (nI x) (nI r) = some (nI (x + dcF k r), z) := by
  intro k
  induction k with
  | zero =>
    intro F r x h h2 hF
    obtain ⟨F, rfl⟩ : ∃ H, F = H + 1 := ⟨F - 1, by omega⟩
    have : r = 0 := by rw [Nat.pow_zero] at h; omega
    subst this
    exact ⟨nI 0, by rw [lp_Row_putNumber_8, st_Row_putNumber_8, if_pos (by decide)]; rfl⟩
  | succ k ih =>
    intro F r x h h2 hF
    obtain ⟨F, rfl⟩ : ∃ H, F = H + 1 := ⟨F - 1, by omega⟩
    rw [lp_Row_putNumber_8, st_Row_putNumber_8, dcF]
    by_cases e : r = 0
    · subst e
      exact ⟨nI 0, by rw [if_pos (by decide)]; rfl⟩
    · rw [if_neg (nI_nle (by omega) h2), if_neg e, kk10, pk_div h2 (by decide) (by decide), nI_1]
      obtain ⟨z, q⟩ := ih F (r / 10) (x + 1) (by rw [Nat.pow_add_one] at h; omega) (by omega) (by omega)
      exact ⟨z, by rw [q, Nat.add_assoc]⟩
theorem pn62 {e : Int32} {s : Nat} : ∀ m F v (g : Nat → Int32), s + m ≤ 200 → v < 2 ^ 31 → m < F → ∃ x y g', lp_Row_putNumber_62 200 (nI s) e F (nI v) (nI (s + m) - 1) g = some (x, y, g') ∧ (∀ j, j < m → g' (s + j) = nI ((dgs m v).getD j 0)) ∧ ∀ j, j < s ∨ s + m ≤ j → g' j = g j := by
  intro m
  induction m with
  | zero =>
    intro F v g h1 h2 hF
    obtain ⟨F, rfl⟩ : ∃ H, F = H + 1 := ⟨F - 1, by omega⟩
    refine ⟨nI v, nI (s + 0) - 1, g, ?_, fun j hj => by omega, fun j _ => rfl⟩
    rw [lp_Row_putNumber_62, st_Row_putNumber_62, if_pos]
    by_cases z : s = 0
    · rw [z]
      decide
    · obtain ⟨t, rfl⟩ : ∃ t, s = t + 1 := ⟨s - 1, by omega⟩
      rw [Nat.add_zero, nI_pred]
      exact nI_lt (by omega) (by omega)
  | succ m ih =>
    intro F v g h1 h2 hF
    obtain ⟨F, rfl⟩ : ∃ H, F = H + 1 := ⟨F - 1, by omega⟩
    rw [lp_Row_putNumber_62, st_Row_putNumber_62, ← Nat.add_assoc, nI_pred, if_neg (nI_nlt (by omega) (by omega)), if_pos (sN (by omega) (by decide)), kk10, pk_rem h2 (by decide) (by decide), pk_div h2 (by decide) (by decide), kk48, nI_add, m16 (by omega), vc_n (by omega), nI_clamp (by omega)]
    have em : nI (s + m) + (-1 : Int32) = nI (s + m) - 1 := (Int32.sub_eq_add_neg _ _).symm
    rw [em]
    obtain ⟨x, y, g', a, b, c⟩ := ih F (v / 10) (upd g (s + m) (nI (48 + v % 10))) (by omega) (by omega) (by omega)
    refine ⟨x, y, g', a, fun j hj => ?_, fun j hj => by rw [c j (by omega), pk_un (by omega)]⟩
    rw [dgs]
    by_cases q : j < m
    · rw [b j q, gd_l (by rw [dgs_len]; exact q)]
    · have : j = m := by omega
      subst this
      rw [c _ (by omega), pk_us, gd_r (by rw [dgs_len]; omega), dgs_len, Nat.sub_self]
      rfl
theorem dg_ok (m v : Nat) : ∀ x, x ∈ dgs m v → 32 ≤ x ∧ x ≤ 126 := fun x hx => by
  have := dgs_cd m v x hx
  omega
theorem dr_num {L : List Nat} {sz : Int32} {f : Nat → Int32} {v w : Nat} (h : Dr L sz f) (hv : v < 1000000000) (hw : 1 ≤ w ∧ w ≤ 9) (hL : L.length + nD v w ≤ 200) : ∃ sz' f', f_Row_putNumber 200 sz f (nI v) (nI w) = some (sz', f') ∧ Dr (L ++ dgs (nD v w) v) sz' f' := by
  obtain ⟨c1, c2, c3, c4, c5⟩ := nD_c hv hw
  rw [h.1]
  unfold f_Row_putNumber
  have h10 : v / 10 < 10 ^ 9 := by
    have : (10 : Nat) ^ 9 = 1000000000 := by decide
    omega
  obtain ⟨z, q⟩ := pn8 (cap := 200) (a := nI v) (b := nI w) 9 FU (v / 10) 1 h10 (by omega) (by unfold FU; omega)
  have e : (if nI (1 + dcF 9 (v / 10)) < nI w then nI w else nI (1 + dcF 9 (v / 10))) = nI (nD v w) := by
    unfold nD at c2 ⊢
    by_cases x : 1 + dcF 9 (v / 10) < w
    · rw [if_pos x, if_pos (nI_lt x (by omega))]
    · rw [if_neg x] at c2 ⊢
      rw [if_neg (nI_nlt (by omega) (by omega))]
  rw [kk10, pk_div (by omega) (by decide) (by decide), kk1, q, ob_some]
  dsimp only
  have k200 : Int32.ofNat 200 = nI 200 := rfl
  rw [e, nI_add, k200, if_pos (nI_le hL (by decide)), ← kk1]
  obtain ⟨x, y, g', a1, a2, a3⟩ := pn62 (e := nI (L.length + nD v w)) (s := L.length) (nD v w) FU v f hL (by omega) (by unfold FU; omega)
  rw [a1, ob_some]
  refine ⟨_, _, rfl, ?_⟩
  have := dr_app (M := dgs (nD v w) v) (g := g') h (dg_ok _ _) (fun j hj => a3 j (Or.inl hj)) (fun j hj => a2 j (by rw [dgs_len] at hj; exact hj))
  rw [dgs_len] at this
  exact this
theorem md6 {v w : Nat} (hv : v < 1000000000) (hw : 1 ≤ w ∧ w ≤ 9) : ∀ m n F, n + 1 + m = nD v w → m < F → lp_SkeletonClockModel_digits_6 (jN v) (nI w) F (jN (10 ^ n)) (nI (n + 1)) = some (jN (10 ^ (nD v w - 1)), nI (nD v w)) := by
  obtain ⟨c1, c2, c3, c4, c5⟩ := nD_c hv hw
  intro m
  induction m with
  | zero =>
    intro n F h hF
    obtain ⟨F, rfl⟩ : ∃ H, F = H + 1 := ⟨F - 1, by omega⟩
    have p1 := Nat.pow_pos (n := n) (show 0 < 10 by decide)
    have p2 : 10 ^ n ≤ 10 ^ 9 := Nat.pow_le_pow_right (by decide) (by omega)
    have p3 : (10 : Nat) ^ 9 = 1000000000 := by decide
    rw [← h, Nat.add_zero] at c4
    rw [lp_SkeletonClockModel_digits_6, st_SkeletonClockModel_digits_6, if_neg (nI_nlt (by omega) (by omega)), if_pos (by
      rw [kj0, jN_eq (by omega) (by decide)]
      omega), jN_div (by omega) p1 (by omega), kj10, if_pos ((jN_lt (by have := Nat.div_le_self v (10 ^ n); omega) (by decide)).mpr (by
      rw [Nat.div_lt_iff_lt_mul p1, Nat.mul_comm, ← Nat.pow_add_one]
      exact c4)), ← h]
    rfl
  | succ m ih =>
    intro n F h hF
    obtain ⟨F, rfl⟩ : ∃ H, F = H + 1 := ⟨F - 1, by omega⟩
    have p1 := Nat.pow_pos (n := n) (show 0 < 10 by decide)
    have p2 : 10 ^ n ≤ 10 ^ 9 := Nat.pow_le_pow_right (by decide) (by omega)
    have p3 : (10 : Nat) ^ 9 = 1000000000 := by decide
    have r := ih (n + 1) F (by omega) (by omega)
    rw [lp_SkeletonClockModel_digits_6, st_SkeletonClockModel_digits_6, kj10, jN_mul, nI_1, ← Nat.pow_add_one', r]
    by_cases x : n + 1 < w
    · rw [if_pos (nI_lt x (by omega))]
    · rw [if_neg (nI_nlt (by omega) (by omega)), if_pos (by
        rw [kj0, jN_eq (by omega) (by decide)]
        omega), jN_div (by omega) p1 (by omega), if_neg (by
        rw [jN_lt (by have := Nat.div_le_self v (10 ^ n); omega) (by decide), Nat.not_lt, Nat.le_div_iff_mul_le p1, ← Nat.pow_add_one']
        rcases c5 with d | d
        · omega
        · exact Nat.le_trans (Nat.pow_le_pow_right (by decide) (by omega)) d)]
theorem md37 {v : Nat} (hv : v < 1000000000) : ∀ m F (L : List Nat) (sz : Int32) (f : Nat → Int32), m ≤ 9 → m < F → Dr L sz f → L.length + m ≤ 256 → ∃ x sz' f', lp_SkeletonClockModel_digits_37 (jN v) F (jN (10 ^ m / 10)) sz f = some (x, sz', f') ∧ Dr (L ++ dgs m v) sz' f' := by
  intro m
  induction m with
  | zero =>
    intro F L sz f h9 hF h hL
    obtain ⟨F, rfl⟩ : ∃ H, F = H + 1 := ⟨F - 1, by omega⟩
    refine ⟨_, sz, f, by rw [lp_SkeletonClockModel_digits_37, st_SkeletonClockModel_digits_37, if_pos (by decide)], ?_⟩
    rw [dgs, List.append_nil]
    exact h
  | succ m ih =>
    intro F L sz f h9 hF h hL
    obtain ⟨F, rfl⟩ : ∃ H, F = H + 1 := ⟨F - 1, by omega⟩
    have p1 := Nat.pow_pos (n := m) (show 0 < 10 by decide)
    have p2 : 10 ^ m ≤ 10 ^ 9 := Nat.pow_le_pow_right (by decide) (by omega)
    have p3 : (10 : Nat) ^ 9 = 1000000000 := by decide
    have e : 10 ^ (m + 1) / 10 = 10 ^ m := by rw [Nat.pow_add_one, Nat.mul_div_cancel _ (by decide)]
    have q := Nat.div_le_self v (10 ^ m)
    obtain ⟨sz', f', a, b⟩ := dr_out (c := 48 + v / 10 ^ m % 10) h (by omega) (by omega)
    obtain ⟨x, sz2, f2, c, d⟩ := ih F _ sz' f' (by omega) (by omega) b (by rw [List.length_append]; simp only [List.length_cons, List.length_nil]; omega)
    refine ⟨x, sz2, f2, ?_, ?_⟩
    · rw [e, lp_SkeletonClockModel_digits_37, st_SkeletonClockModel_digits_37, if_neg (by
        rw [kj0, jN_le (by omega) (by decide)]
        omega), if_pos (by
        rw [kj0, jN_eq (by omega) (by decide)]
        omega), jN_div (by omega) p1 (by omega), kj10, jN_rem (by omega) (by decide) (by decide), kj48, jN_add, jN_i, a, ob_some, jN_div (by omega) (by decide) (by decide)]
      exact c
    · rw [dgs_hd]
      rw [List.append_assoc] at d
      exact d
theorem dr_dig {L : List Nat} {sz : Int32} {f : Nat → Int32} {v w : Nat} (h : Dr L sz f) (hv : v < 1000000000) (hw : 1 ≤ w ∧ w ≤ 9) (hL : L.length + nD v w ≤ 256) : ∃ sz' f', f_SkeletonClockModel_digits sz f (jN v) (nI w) = some (sz', f') ∧ Dr (L ++ dgs (nD v w) v) sz' f' := by
  obtain ⟨c1, c2, c3, c4, c5⟩ := nD_c hv hw
  have a := md6 hv hw (nD v w - 1) 0 FU (by omega) (by unfold FU; omega)
  obtain ⟨x, sz', f', b, c⟩ := md37 hv (nD v w) FU L sz f (by omega) (by unfold FU; omega) h hL
  have e : 10 ^ nD v w / 10 = 10 ^ (nD v w - 1) := by
    have : nD v w = (nD v w - 1) + 1 := by omega
    rw [this, Nat.pow_add_one, Nat.mul_div_cancel _ (by decide)]
    rfl
  rw [e] at b
  refine ⟨sz', f', ?_, c⟩
  unfold f_SkeletonClockModel_digits
  rw [kj1, kk1]
  rw [Nat.pow_zero] at a
  rw [a, ob_some, b, ob_some]
