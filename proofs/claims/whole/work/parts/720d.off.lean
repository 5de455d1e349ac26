/-! read: offsets and fixed numbers, on both sides. -/
theorem cw_c {n q : Nat} {T : Nat → Nat} {f g : Nat → Int32} (hn : n ≤ 60) (hf : Tx n T f) (hg : Tx n T g) (hq : q < 1000) : ∃ u w, f_Row_codeAt 60 (nI n) f (nI q) = some u ∧ f_SkeletonClockModel_at (nI n) g (nI q) = some w ∧ ((q < n ∧ u = nI (T q) ∧ w = nI (T q)) ∨ (n ≤ q ∧ u = -1 ∧ w = 0)) := by
  by_cases a : q < n
  · exact ⟨_, _, ca_n hn hf a, at_n hn hg a, Or.inl ⟨a, rfl, rfl⟩⟩
  · exact ⟨_, _, ca_o hn (by omega) hq, at_o hn (by omega) hq, Or.inr ⟨by omega, rfl, rfl⟩⟩
theorem kk59 : (59 : Int32) = nI 59 := by decide
theorem kk1080 : (1080 : Int32) = nI 1080 := by decide
theorem kk2000 : (2000 : Int32) = nI 2000 := by decide
theorem kj2000 : (2000 : Int64) = jN 2000 := by decide
theorem kj59 : (59 : Int64) = jN 59 := by decide
theorem kj1080 : (1080 : Int64) = jN 1080 := by decide
theorem ng_i (w : Nat) : -nI w = iI (-(w : Int)) := by rw [nI_iI, iI_neg]
theorem ng_j (w : Nat) : -jN w = jI (-(w : Int)) := by
  unfold jN
  rw [jI_neg]
theorem bnd13 {y : Int} (h : -1080 ≤ y ∧ y ≤ 1080) : bnd 13 y := ⟨fun q => by omega, fun _ q => by omega, fun q => by omega, fun q => by omega, fun q => by omega, fun _ => h⟩
/-- the end of an offset: v1 hours, v2 minutes -/
theorem ot_c {n p e t v1 v2 L z : Nat} {T : Nat → Nat} {f g vals fl od kn : Nat → Int32} {va : Nat → Int64} {lo : Int32} (hn : n ≤ 60) (hf : Tx n T f) (hg : Tx n T g) (hp : p < n) (hKN : KN z fl od) (hKV : KV fl vals kn va) (he : e ≤ L) (ht : T p = t) (ht2 : t = 43 ∨ t = 45) (hv1 : f_Row_number 60 (nI n) f (nI (p + 1)) (nI 2) = some (nI v1)) (h1 : v1 < 100) (h2 : v2 < 60) : RR L z vals fl od kn va (jn_TextReader_endOfOffset_137 60 lo (nI p) (nI z) vals fl od (nI n) f (nI t) (nI e) (nI v2)) (jn_SkeletonClockModel_offsetAt_172 (nI n) lo g kn va (nI p) (jN (60 * v1 + v2)) (nI e)) := by
  unfold jn_TextReader_endOfOffset_137 jn_SkeletonClockModel_offsetAt_172
  have k60 : (60 : Int32) = nI 60 := by decide
  have k13 : (13 : Int32) = nI (fx 13) := by decide
  rw [nI_1, kk2, hv1, ob_some, kk59, if_neg (nI_nlt (by omega) (by omega)), k60, pk_mul, nI_add, kk1080, kj1080, at_n hn hg hp, ob_some, ht]
  by_cases a : 60 * v1 + v2 ≤ 1080
  · rw [if_pos (nI_le a (by decide)), if_pos ((jN_le (by omega) (by decide)).mpr a)]
    rcases ht2 with rfl | rfl
    · rw [if_neg (by decide), if_neg (by decide), eta5, eta3]
      have := le_c (L := L) (i := 13) (p := e) (y := ((60 * v1 + v2 : Nat) : Int)) hKN hKV (by decide) (bnd13 (by omega)) he
      rw [← nI_iI] at this
      exact this
    · rw [if_pos (by decide), if_pos (by decide), eta5, eta3, ng_i, ng_j]
      exact le_c (L := L) (i := 13) (p := e) (y := -((60 * v1 + v2 : Nat) : Int)) hKN hKV (by decide) (bnd13 (by omega)) he
  · rw [if_neg (nI_ge (by omega) (by omega)), if_neg (fun q => a ((jN_le (by omega) (by decide)).mp q))]
    exact rr_fail
theorem of_c {n p k x c L z : Nat} {T : Nat → Nat} {f g vals fl od kn : Nat → Int32} {va : Nat → Int64} {lo : Int32} (hn : n ≤ 60) (hf : Tx n T f) (hg : Tx n T g) (hp : p ≤ n) (hL : n ≤ L) (hKN : KN z fl od) (hKV : KV fl vals kn va) (hk : (k = 13 ∧ x = 88) ∨ (k = 14 ∧ x = 120)) (hc : c = 1 ∨ c = 2 ∨ c = 3) : RR L z vals fl od kn va (f_TextReader_endOfOffset 60 lo (nI p) (nI z) vals fl od (nI n) f (nI k) (nI c)) (f_SkeletonClockModel_offsetAt (nI n) lo g kn va (nI p) (nI x) (nI c)) := by
  have kk7 : (90 : Int32) = nI 90 := kk90
  obtain ⟨u, w, hu, hw, huw⟩ := cw_c (q := p) hn hf hg (by omega)
  -- behind the Z
  have tail : RR L z vals fl od kn va (jn_TextReader_endOfOffset_41 60 lo (nI p) (nI z) vals fl od (nI n) f (nI c) u) (jn_SkeletonClockModel_offsetAt_27 (nI n) lo g kn va (nI p) (nI c)) := by
    unfold jn_TextReader_endOfOffset_41 jn_SkeletonClockModel_offsetAt_27
    rw [hw, ob_some, ob_some]
    rcases huw with ⟨q1, rfl, rfl⟩ | ⟨q1, rfl, rfl⟩
    · have tp := hg p q1
      have body : ∀ t, T p = t → (t = 43 ∨ t = 45) → RR L z vals fl od kn va (jn_TextReader_endOfOffset_55 60 lo (nI p) (nI z) vals fl od (nI n) f (nI c) (nI t)) (jn_SkeletonClockModel_offsetAt_47 (nI n) lo g kn va (nI p) (nI c)) := by
        intro t ht ht2
        unfold jn_TextReader_endOfOffset_55 jn_SkeletonClockModel_offsetAt_47
        obtain ⟨r, r1, r2, r3, r4⟩ := dg_c (p := p + 1) (M := 2) hn hf hg (by omega)
        rw [nI_1, kk2, r2, r3, ob_some, ob_some]
        by_cases r5 : r = 2
        · subst r5
          obtain ⟨n1, n2, n3⟩ := nu_c (p := p + 1) (w := 2) hn hf hg (by decide) r4
          have p3 : p + 3 ≤ n := by have := (r4 1 (by decide)).1; omega
          have v100 : vl T (p + 1) 2 < 100 := n3
          have e101 : ∀ e, e ≤ n + 1 → (c = 1 → e ≤ n) → RR L z vals fl od kn va (jn_TextReader_endOfOffset_101 60 lo (nI p) (nI z) vals fl od (nI n) f (nI c) (nI t) (nI e)) (jn_SkeletonClockModel_offsetAt_112 (nI n) lo g kn va (nI p) (nI c) (jN (60 * vl T (p + 1) 2)) (nI e)) := by
            intro e he he2
            unfold jn_TextReader_endOfOffset_101 jn_SkeletonClockModel_offsetAt_112 jn_SkeletonClockModel_offsetAt_136
            obtain ⟨s, s1, s2, s3, s4⟩ := dg_c (p := e) (M := 2) hn hf hg (by omega)
            rw [kk2, s2, s3, ob_some, ob_some]
            by_cases s5 : s = 2
            · subst s5
              obtain ⟨m1, m2, m3⟩ := nu_c (p := e) (w := 2) hn hf hg (by decide) s4
              have m100 : vl T e 2 < 100 := m3
              have e2 : e + 2 ≤ n := by have := (s4 1 (by decide)).1; omega
              rw [if_pos rfl, m1, ob_some, if_pos (nI_le (Nat.le_refl _) (by decide)), if_pos rfl, m2, ob_some, nI_add, jN_add, kj59]
              by_cases w : vl T e 2 ≤ 59
              · rw [if_pos ((jN_le (by omega) (by decide)).mpr w)]
                exact ot_c hn hf hg q1 hKN hKV (by omega) ht ht2 n1 v100 (by omega)
              · rw [if_neg (fun q => w ((jN_le (by omega) (by decide)).mp q))]
                unfold jn_TextReader_endOfOffset_137
                rw [nI_1, kk2, n1, ob_some, kk59, if_pos (nI_lt (by omega) (by omega))]
                exact rr_fail
            · have ns : ¬ nI s = nI 2 := fun q => s5 ((nI_eq (by omega) (by decide)).mp q)
              rw [if_neg ns, if_neg (nI_ge (by omega) (by decide))]
              by_cases c1 : c = 1
              · rw [if_pos (by rw [c1]; decide), if_pos (by rw [c1]; decide), if_neg ns]
                have := ot_c (v2 := 0) (lo := lo) hn hf hg q1 hKN hKV (show e ≤ L by have := he2 c1; omega) ht ht2 n1 v100 (by decide)
                rw [Nat.add_zero] at this
                exact this
              · rw [if_neg (fun q => c1 ((nI_eq (by omega) (by decide)).mp (q.trans kk1))), kk1, if_neg (nI_ge (by omega) (by omega))]
                exact rr_fail
          rw [if_pos (nI_le (Nat.le_refl _) (by decide)), if_pos (nI_le (Nat.le_refl _) (by decide)), n2, ob_some, kj60, jN_mul]
          unfold jn_SkeletonClockModel_offsetAt_98
          have k3 : nI p + (3 : Int32) = nI (p + 3) := by rw [kk3, nI_add]
          rw [k3]
          by_cases c3 : c = 3
          · subst c3
            obtain ⟨u2, w2, hu2, hw2, huw2⟩ := cw_c (q := p + 3) hn hf hg (by omega)
            rw [if_pos (by decide), if_pos (by decide), hu2, hw2, ob_some, ob_some, nI_1]
            rcases huw2 with ⟨y1, rfl, rfl⟩ | ⟨y1, rfl, rfl⟩
            · by_cases y2 : nI (T (p + 3)) = 58
              · rw [if_pos y2, if_pos y2, if_pos (by decide)]
                exact e101 (p + 3 + 1) (by omega) (fun q => absurd q (by decide))
              · rw [if_neg y2, if_neg y2]
                exact rr_fail
            · rw [if_neg (by decide), if_neg (by decide)]
              exact rr_fail
          · have nc : ¬ nI c = 3 := fun q => c3 ((nI_eq (by omega) (by decide)).mp (q.trans kk3))
            rw [if_neg nc, if_neg nc, if_neg nc]
            exact e101 (p + 3) (by omega) (fun _ => p3)
        · rw [if_neg (nI_ge (by omega) (by decide)), if_neg (nI_ge (by omega) (by decide))]
          exact rr_fail
      by_cases e1 : T p = 43
      · rw [e1, if_pos (by decide), if_pos (by decide)]
        exact body 43 e1 (Or.inl rfl)
      · have n1 : ¬ nI (T p) = 43 := fun q => e1 ((nI_eq (by omega) (by decide)).mp (q.trans kk43))
        rw [if_neg n1, if_neg n1]
        by_cases e2 : T p = 45
        · rw [e2, if_pos (by decide), if_pos (by decide)]
          exact body 45 e2 (Or.inr rfl)
        · have n2 : ¬ nI (T p) = 45 := fun q => e2 ((nI_eq (by omega) (by decide)).mp (q.trans kk45))
          rw [if_neg n2, if_neg n2]
          exact rr_fail
    · rw [if_neg (by decide), if_neg (by decide), if_neg (by decide), if_neg (by decide)]
      exact rr_fail
  unfold f_TextReader_endOfOffset f_SkeletonClockModel_offsetAt
  rw [hu, ob_some]
  rcases hk with ⟨rfl, rfl⟩ | ⟨rfl, rfl⟩
  · obtain ⟨b, u', a1, a2, a3, a4⟩ := al_c (lo := lo) (p := p) (c := 90) hn hf hg (by omega) (by decide)
    have : u' = u := Option.some.inj (a1.symm.trans hu)
    subst this
    rw [if_pos (by decide), if_pos (by decide), kk90, a2, a3, ob_some, ob_some]
    rcases a4 with ⟨rfl, a5⟩ | rfl
    · rw [if_neg (by decide), if_neg (by decide), nI_1, eta5, eta3]
      exact le_c (L := L) (i := 13) (p := p + 1) (y := 0) hKN hKV (by decide) (bnd13 (by decide)) (by omega)
    · rw [if_pos rfl, if_pos rfl]
      exact tail
  · rw [if_neg (by decide), if_neg (by decide)]
    exact tail
