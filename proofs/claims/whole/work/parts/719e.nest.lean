/-! Sections: how they lie in one another, and the class's nest of those that are open. -/
def SP (n : Nat) (so ar : Nat → Int32) (E : Nat → Nat) : Prop :=
  (∀ j, j < n → so j = 2 → j < E j ∧ E j ≤ n) ∧
  (∀ j, j < n → (ar j = -1 ∧ ∀ a, a < j → so a = 2 → E a ≤ j) ∨ ∃ a, a < j ∧ ar j = nI a ∧ so a = 2 ∧ j < E a ∧ ∀ b, a < b → b < j → so b = 2 → E b ≤ j) ∧
  (∀ a b, a < b → b < n → so a = 2 → so b = 2 → b < E a → E b ≤ E a)
theorem sp_of {n : Nat} {kd nb so co cn ar en : Nat → Int32} {E : Nat → Nat} (h : PV n kd nb so co cn ar en E) (hE : ∀ j, j < n → so j = 2 → E j ≤ n) : SP n so ar E := by
  refine ⟨fun j hj h2 => ⟨?_, hE j hj h2⟩, h.2.1, h.2.2⟩
  rcases h.1 j hj with q | q
  · rcases q with q | q
    · rw [q.1] at h2
      exact absurd h2 (by decide)
    · rw [q.1] at h2
      exact absurd h2 (by decide)
  · exact q.2.2.1
theorem sp_ar {n : Nat} {so ar : Nat → Int32} {E : Nat → Nat} (h : SP n so ar E) (hn : n ≤ 20) {j a : Nat} (hj : j < n) (ha : a < 2 ^ 31) (e : ar j = nI a) : a < j ∧ so a = 2 ∧ j < E a ∧ ∀ b, a < b → b < j → so b = 2 → E b ≤ j := by
  rcases h.2.1 j hj with ⟨q, -⟩ | ⟨b, q1, q2, q3, q4, q5⟩
  · rw [q] at e
    exact absurd e.symm (nI_m1 ha)
  · rw [q2] at e
    have : b = a := (nI_eq (by omega) ha).mp e
    subst this
    exact ⟨q1, q3, q4, q5⟩
/-- the sections on the nest before piece p, from the outermost: q; those that have ended may still lie on top -/
def NS (so : Nat → Int32) (E : Nat → Nat) (p dp : Nat) (q : Nat → Nat) (ends : Nat → Int32) : Prop :=
  dp ≤ p ∧ (∀ i, i < dp → q i < p ∧ so (q i) = 2 ∧ ends i = nI (E (q i))) ∧ (∀ i j, i < j → j < dp → q i < q j ∧ q j < E (q i)) ∧ ∀ a, a < p → so a = 2 → p < E a → ∃ i, i < dp ∧ q i = a
theorem cb_l {n p : Nat} {so ar ends : Nat → Int32} {E q : Nat → Nat} (h : SP n so ar E) (hn : n ≤ 20) (hp : p < n) : ∀ dp F, dp < F → NS so E p dp q ends → ∃ e, e ≤ dp ∧ lp_Nest_closeBefore_0 ends (nI p) F (nI dp) = some (nI e) ∧ NS so E p e q ends ∧ ∀ i, i < e → p < E (q i) := by
  intro dp
  induction dp with
  | zero =>
    intro F hF hs
    obtain ⟨F, rfl⟩ : ∃ H, F = H + 1 := ⟨F - 1, by omega⟩
    exact ⟨0, Nat.le_refl _, by rw [lp_Nest_closeBefore_0, st_Nest_closeBefore_0, if_pos (by decide)], hs, fun i hi => by omega⟩
  | succ dp ih =>
    intro F hF hs
    obtain ⟨F, rfl⟩ : ∃ H, F = H + 1 := ⟨F - 1, by omega⟩
    obtain ⟨s1, s2, s3, s4⟩ := hs
    obtain ⟨d1, d2, d3⟩ := s2 dp (by omega)
    have d4 := h.1 (q dp) (by omega) d2
    rw [lp_Nest_closeBefore_0, st_Nest_closeBefore_0, if_neg (nI_nle (by omega) (by omega)), nI_pred, if_pos (sN (by omega) (by decide)), nI_clamp (by omega), d3]
    by_cases x : p < E (q dp)
    · rw [if_pos (nI_lt x (by omega))]
      refine ⟨dp + 1, Nat.le_refl _, rfl, ⟨s1, s2, s3, s4⟩, fun i hi => ?_⟩
      by_cases y : i = dp
      · rw [y]
        exact x
      · have a := s3 i dp (by omega) (by omega)
        have b := h.2.2 (q i) (q dp) a.1 (by omega) (s2 i (by omega)).2.1 d2 a.2
        omega
    · rw [if_neg (nI_nlt (by omega) (by omega))]
      obtain ⟨e, e1, e2, e3, e4⟩ := ih F (by omega) ⟨by omega, fun i hi => s2 i (by omega), fun i j a b => s3 i j a (by omega), fun a a1 a2 a3 => by
        obtain ⟨i, i1, i2⟩ := s4 a a1 a2 a3
        refine ⟨i, ?_, i2⟩
        by_cases y : i = dp
        · rw [y] at i2
          rw [i2] at x
          omega
        · omega⟩
      exact ⟨e, by omega, e2, e3, e4⟩
theorem cb_c {n p dp : Nat} {so ar ends : Nat → Int32} {E q : Nat → Nat} (h : SP n so ar E) (hn : n ≤ 20) (hp : p < n) (hs : NS so E p dp q ends) : ∃ e, e ≤ dp ∧ f_Nest_closeBefore (nI dp) ends (nI p) = some (nI e) ∧ NS so E p e q ends ∧ ∀ i, i < e → p < E (q i) := by
  obtain ⟨e, e1, e2, e3, e4⟩ := cb_l h hn hp dp FU (by have := hs.1; unfold FU; omega) hs
  refine ⟨e, e1, ?_, e3, e4⟩
  unfold f_Nest_closeBefore
  rw [e2, ob_some]
/-- the innermost open section -/
theorem ns_top {n p dp : Nat} {so ar ends : Nat → Int32} {E q : Nat → Nat} (h : SP n so ar E) (hp : p < n) (hs : NS so E p dp q ends) (ho : ∀ i, i < dp → p < E (q i)) : (ar p = -1 ∧ dp = 0) ∨ ∃ e, dp = e + 1 ∧ ar p = nI (q e) := by
  obtain ⟨s1, s2, s3, s4⟩ := hs
  rcases h.2.1 p hp with ⟨a1, a2⟩ | ⟨a, a1, a2, a3, a4, a5⟩
  · refine Or.inl ⟨a1, ?_⟩
    by_cases z : dp = 0
    · exact z
    · have b := s2 0 (by omega)
      have c := a2 (q 0) b.1 b.2.1
      have d := ho 0 (by omega)
      omega
  · obtain ⟨i, i1, i2⟩ := s4 a a1 a3 a4
    refine Or.inr ⟨dp - 1, by omega, ?_⟩
    rw [a2]
    congr 1
    by_cases y : i = dp - 1
    · rw [← y, i2]
    · have b := s3 i (dp - 1) (by omega) (by omega)
      have c := s2 (dp - 1) (by omega)
      have d := a5 (q (dp - 1)) (by omega) c.1 c.2.1
      have e := ho (dp - 1) (by omega)
      omega
def qU (q : Nat → Nat) (k x : Nat) : Nat → Nat := fun i => if i = k then x else q i
theorem ns_open {n p dp : Nat} {so ar ends : Nat → Int32} {E q : Nat → Nat} (h : SP n so ar E) (hp : p < n) (hs : NS so E p dp q ends) (ho : ∀ i, i < dp → p < E (q i)) (h2 : so p = 2) : NS so E (p + 1) (dp + 1) (qU q dp p) (upd ends dp (nI (E p))) := by
  obtain ⟨s1, s2, s3, s4⟩ := hs
  refine ⟨by omega, fun i hi => ?_, fun i j a b => ?_, fun a a1 a2 a3 => ?_⟩
  · unfold qU
    by_cases y : i = dp
    · rw [if_pos y, y]
      exact ⟨by omega, h2, pk_us⟩
    · rw [if_neg y, pk_un y]
      have := s2 i (by omega)
      exact ⟨by omega, this.2.1, this.2.2⟩
  · unfold qU
    rw [if_neg (by omega)]
    by_cases y : j = dp
    · rw [if_pos y]
      exact ⟨(s2 i (by omega)).1, ho i (by omega)⟩
    · rw [if_neg y]
      exact s3 i j a (by omega)
  · by_cases y : a = p
    · exact ⟨dp, by omega, by unfold qU; rw [if_pos rfl, y]⟩
    · obtain ⟨i, i1, i2⟩ := s4 a (by omega) a2 (by omega)
      exact ⟨i, by omega, by unfold qU; rw [if_neg (by omega), i2]⟩
theorem ns_step {p dp : Nat} {so ends : Nat → Int32} {E q : Nat → Nat} (hs : NS so E p dp q ends) (h2 : so p ≠ 2) : NS so E (p + 1) dp q ends := by
  obtain ⟨s1, s2, s3, s4⟩ := hs
  refine ⟨by omega, fun i hi => ?_, s3, fun a a1 a2 a3 => ?_⟩
  · have := s2 i hi
    exact ⟨by omega, this.2⟩
  · by_cases y : a = p
    · rw [y] at a2
      exact absurd a2 h2
    · exact s4 a (by omega) a2 (by omega)
theorem ns_jump {n p dp a : Nat} {so ar ends : Nat → Int32} {E q : Nat → Nat} (h : SP n so ar E) (hp : p < n) (hs : NS so E p dp q ends) (h2 : so p ≠ 2) (ha : a < p) (ha2 : so a = 2) (ha3 : p < E a) : NS so E (E a) dp q ends := by
  obtain ⟨s1, s2, s3, s4⟩ := hs
  refine ⟨by omega, fun i hi => ?_, s3, fun b b1 b2 b3 => ?_⟩
  · have := s2 i hi
    exact ⟨by omega, this.2⟩
  · have en := (h.1 a (by omega) ha2).2
    by_cases y : b < p
    · exact s4 b y b2 (by omega)
    · by_cases z : b = p
      · rw [z] at b2
        exact absurd b2 h2
      · have := h.2.2 a b (by omega) (by omega) ha2 b2 b1
        omega
theorem no_c {dp : Nat} (h : dp < 20) (e pl mk : Nat → Int32) (x y z : Int32) : f_Nest_open (nI dp) e pl mk x y z = some (nI (dp + 1), upd e dp x, upd pl dp y, upd mk dp z) := by
  unfold f_Nest_open
  rw [kk20, if_neg (nI_ge h (by decide)), if_pos (sN h (by decide)), if_pos (sN h (by decide)), if_pos (sN h (by decide)), nI_clamp (by omega), nI_1]
theorem nl_c {e : Nat} (h : e < 20) (f : Nat → Int32) (x : Int32) : f_Nest_limit (nI (e + 1)) f x = some (f e) ∧ f_Nest_place (nI (e + 1)) f = some (f e) ∧ f_Nest_mark (nI (e + 1)) f = some (f e) ∧ f_Nest_isEmpty (nI (e + 1)) = some 0 := by
  unfold f_Nest_limit f_Nest_place f_Nest_mark f_Nest_isEmpty
  have a : ¬ nI (e + 1) ≤ 0 := nI_nle (by omega) (by omega)
  rw [if_neg a, if_neg a, nI_pred, if_pos (sN h (by decide)), nI_clamp (by omega), if_neg (nI_ne0 (by omega) (by omega))]
  exact ⟨rfl, rfl, rfl, rfl⟩
/-! Concatenation over the pieces that are shown. -/
noncomputable def cat (out : Nat → List Nat) (I : Nat → Prop) : Nat → List Nat
  | 0 => []
  | i + 1 => cat out I i ++ (@ite (List Nat) (I i) (Classical.propDecidable _) (out i) [])
theorem cat_y {out : Nat → List Nat} {I : Nat → Prop} {i : Nat} (h : I i) : cat out I (i + 1) = cat out I i ++ out i := by rw [cat, if_pos h]
theorem cat_n {out : Nat → List Nat} {I : Nat → Prop} {i : Nat} (h : ¬ I i) : cat out I (i + 1) = cat out I i := by rw [cat, if_neg h, List.append_nil]
theorem cat_cg {out : Nat → List Nat} {I J : Nat → Prop} : ∀ k, (∀ i, i < k → (I i ↔ J i)) → cat out I k = cat out J k
  | 0, _ => rfl
  | k + 1, h => by
    have a := cat_cg (out := out) k (fun i hi => h i (by omega))
    have b := h k (by omega)
    by_cases x : I k
    · rw [cat_y x, cat_y (b.mp x), a]
    · rw [cat_n x, cat_n (fun y => x (b.mpr y)), a]
theorem cat_ext {out : Nat → List Nat} {I : Nat → Prop} {k : Nat} : ∀ m, ∃ M, cat out I (k + m) = cat out I k ++ M
  | 0 => ⟨[], by rw [List.append_nil]; rfl⟩
  | m + 1 => by
    obtain ⟨M, e⟩ := cat_ext m
    rw [← Nat.add_assoc, cat, e, List.append_assoc]
    exact ⟨_, rfl⟩
theorem cat_no {out : Nat → List Nat} {I : Nat → Prop} {k : Nat} : ∀ m, (∀ i, k ≤ i → i < k + m → out i = [] ∨ ¬ I i) → cat out I (k + m) = cat out I k
  | 0, _ => rfl
  | m + 1, h => by
    have a := cat_no m (fun i h1 h2 => h i h1 (by omega))
    rw [← Nat.add_assoc]
    rcases h (k + m) (by omega) (by omega) with x | x
    · by_cases y : I (k + m)
      · rw [cat_y y, x, List.append_nil, a]
      · rw [cat_n y, a]
    · rw [cat_n x, a]
theorem cat_len {out : Nat → List Nat} {I : Nat → Prop} : ∀ k, (∀ i, i < k → (out i).length ≤ 10) → (cat out I k).length ≤ 10 * k
  | 0, _ => Nat.le_refl _
  | k + 1, h => by
    have a := cat_len (I := I) k (fun i hi => h i (by omega))
    have b := h k (by omega)
    by_cases x : I k
    · rw [cat_y x, List.length_append]
      omega
    · rw [cat_n x]
      omega
/-- section a lacks a field that stands in it directly -/
def lk (n : Nat) (ar : Nat → Int32) (miss : Nat → Prop) (a : Nat) : Prop := ∃ k, k < n ∧ ar k = nI a ∧ miss k
/-- piece i is shown so far: no section around it that has ended lacks anything -/
def inc (n : Nat) (so ar : Nat → Int32) (E : Nat → Nat) (miss : Nat → Prop) (p i : Nat) : Prop := ∀ a, a < i → so a = 2 → i < E a → E a ≤ p → ¬ lk n ar miss a
noncomputable def Vd (n : Nat) (so ar : Nat → Int32) (E : Nat → Nat) (miss : Nat → Prop) (out : Nat → List Nat) (p : Nat) : List Nat := cat out (inc n so ar E miss p) p
/-- nothing is missing before p outside of the sections that have ended -/
def IV (so ar : Nat → Int32) (E : Nat → Nat) (miss : Nat → Prop) (p : Nat) : Prop := (∀ a, a < p → so a = 2 → p < E a → ∀ k, k < p → ar k = nI a → ¬ miss k) ∧ ∀ k, k < p → ar k = -1 → ¬ miss k
theorem iv_step {n p : Nat} {so ar : Nat → Int32} {E : Nat → Nat} {miss : Nat → Prop} {out : Nat → List Nat} (h : SP n so ar E) (hn : n ≤ 20) (hp : p < n) (hi : IV so ar E miss p) (hm : ¬ miss p) : IV so ar E miss (p + 1) ∧ Vd n so ar E miss out (p + 1) = Vd n so ar E miss out p ++ out p := by
  refine ⟨⟨fun a a1 a2 a3 k k1 k2 => ?_, fun k k1 k2 => ?_⟩, ?_⟩
  · have b := sp_ar h hn (show k < n by omega) (by omega) k2
    by_cases x : k = p
    · rw [x]
      exact hm
    · exact hi.1 a (by omega) a2 (by omega) k (by omega) k2
  · by_cases x : k = p
    · rw [x]
      exact hm
    · exact hi.2 k (by omega) k2
  · have up : ∀ i, i ≤ p → inc n so ar E miss p i → inc n so ar E miss (p + 1) i := by
      intro i hip hc a a1 a2 a3 a4 hl
      by_cases x : E a ≤ p
      · exact hc a a1 a2 a3 x hl
      · obtain ⟨k, k1, k2, k3⟩ := hl
        have b := sp_ar h hn k1 (by omega) k2
        by_cases y : k = p
        · rw [y] at k3
          exact hm k3
        · exact hi.1 a (by omega) a2 (by omega) k (by omega) k2 k3
    have pp : inc n so ar E miss p p := fun a a1 a2 a3 a4 => by omega
    unfold Vd
    rw [cat_y (up p (Nat.le_refl _) pp), cat_cg p (fun i hip => ⟨fun hc a a1 a2 a3 a4 => hc a a1 a2 a3 (by omega), up i (by omega)⟩)]
theorem iv_jump {n p a : Nat} {so ar : Nat → Int32} {E : Nat → Nat} {miss : Nat → Prop} {out : Nat → List Nat} (h : SP n so ar E) (hn : n ≤ 20) (hp : p < n) (hi : IV so ar E miss p) (hm : miss p) (ha : ar p = nI a) (h31 : a < 2 ^ 31) (hs : so p ≠ 2) (ho : ∀ k, k < n → so k = 2 → out k = []) : IV so ar E miss (E a) ∧ Vd n so ar E miss out (E a) = Vd n so ar E miss out a ∧ ∃ M, Vd n so ar E miss out p = Vd n so ar E miss out a ++ M := by
  obtain ⟨a1, a2, a3, a4⟩ := sp_ar h hn hp h31 ha
  have ae := h.1 a (by omega) a2
  -- a piece between p and the end of a stands directly in a or deeper
  have dp : ∀ k b, p ≤ k → k < E a → b < a → ar k = nI b → False := by
    intro k b k1 k2 b1 b2
    have c := sp_ar h hn (show k < n by omega) (by omega) b2
    have := c.2.2.2 a b1 (by omega) a2
    omega
  refine ⟨⟨fun b b1 b2 b3 k k1 k2 => ?_, fun k k1 k2 => ?_⟩, ?_, ?_⟩
  · have bp : b < p := by
      by_cases x : b < p
      · exact x
      · by_cases y : b = p
        · rw [y] at b2
          exact absurd b2 hs
        · have := h.2.2 a b (by omega) (by omega) a2 b2 b1
          omega
    by_cases x : k < p
    · exact hi.1 b bp b2 (by omega) k x k2
    · exfalso
      by_cases y : b < a
      · exact dp k b (by omega) k1 y k2
      · by_cases z : b = a
        · rw [z] at b3
          omega
        · have := h.2.2 a b (by omega) (by omega) a2 b2 b1
          omega
  · by_cases x : k < p
    · exact hi.2 k x k2
    · exfalso
      rcases h.2.1 k (by omega) with ⟨c1, c2⟩ | ⟨c, c1, c2, c3⟩
      · have := c2 a (by omega) a2
        omega
      · rw [c2] at k2
        exact nI_m1 (by omega) k2
  · have lka : lk n ar miss a := ⟨p, hp, ha, hm⟩
    unfold Vd
    obtain ⟨m, e⟩ : ∃ m, E a = a + m := ⟨E a - a, by omega⟩
    rw [e, cat_no m (fun i i1 i2 => ?_), ← e]
    · refine cat_cg a (fun i i1 => ⟨fun hc b b1 b2 b3 b4 => hc b b1 b2 b3 (by omega), fun hc b b1 b2 b3 b4 hl => ?_⟩)
      by_cases x : E b ≤ a
      · exact hc b b1 b2 b3 x hl
      · have c := h.2.2 b a (by omega) (by omega) b2 a2 (by omega)
        obtain ⟨k, k1, k2, k3⟩ := hl
        have d := sp_ar h hn k1 (by omega) k2
        by_cases y : k < p
        · exact hi.1 b (by omega) b2 (by omega) k y k2 k3
        · exact dp k b (by omega) (by omega) (by omega) k2
    · by_cases x : i = a
      · rw [x]
        exact Or.inl (ho a (by omega) a2)
      · exact Or.inr (fun hc => hc a (by omega) a2 (by omega) (by omega) lka)
  · unfold Vd
    obtain ⟨m, e⟩ : ∃ m, p = a + m := ⟨p - a, by omega⟩
    obtain ⟨M, e2⟩ := cat_ext (out := out) (I := inc n so ar E miss p) (k := a) m
    refine ⟨M, ?_⟩
    rw [← e] at e2
    rw [e2]
    congr 1
    refine cat_cg a (fun i i1 => ⟨fun hc b b1 b2 b3 b4 => hc b b1 b2 b3 (by omega), fun hc b b1 b2 b3 b4 hl => ?_⟩)
    by_cases x : E b ≤ a
    · exact hc b b1 b2 b3 x hl
    · have c := h.2.2 b a (by omega) (by omega) b2 a2 (by omega)
      omega
