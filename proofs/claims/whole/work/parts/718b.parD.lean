/-! The parser on both sides: quoted texts, and the whole loop. -/
theorem m_8 {n p q G : Nat} {T : Nat → Nat} {g : Nat → Int32} (hn : n ≤ 60) (hg : Tx n T g) (hp : p < q) (hq : q < n) (x1 : Int32) (so co cn ar en : Nat → Int32) {sz : Nat → Int32} : (sz 6 = nI 20 → lp_SkeletonClockModel_pattern_108 (nI n) g x1 (nI q) (G + 1) (nI p) so co cn ar en sz = some (.inl (nI p, so, co, cn, ar, en, sz))) ∧ ∀ s, sz 6 = nI s → s < 20 → lp_SkeletonClockModel_pattern_108 (nI n) g x1 (nI q) (G + 1) (nI p) so co cn ar en sz = lp_SkeletonClockModel_pattern_108 (nI n) g x1 (nI q) G (nI (if T p = 39 then p + 2 else p + 1)) (upd so (120 + s) 0) (upd co (120 + s) (nI (T p))) (upd cn (120 + s) 0) (upd ar (120 + s) x1) (upd en (120 + s) (nI (s + 1))) (upd sz 6 (nI (s + 1))) := by
  have tp := hg p (by omega)
  have hpn : p < n := by omega
  constructor
  · intro hz
    rw [lp_SkeletonClockModel_pattern_108, st_SkeletonClockModel_pattern_108, if_neg (nI_ge hp (by omega)), at_n hn hg hpn, ob_some, pi_0 hz]
    simp only [ob_some]
    rw [if_pos (by decide)]
  · intro s hz hs
    rw [lp_SkeletonClockModel_pattern_108, st_SkeletonClockModel_pattern_108, if_neg (nI_ge hp (by omega)), at_n hn hg hpn, ob_some, pi_1 hz hs]
    simp only [ob_some]
    rw [if_neg (by decide)]
    by_cases e : T p = 39
    · rw [e, if_pos (by decide), if_pos rfl, kk2, nI_add]
    · rw [if_neg (ne39 (by omega) e), if_neg e, nI_1]
/-- kinds below the size stay -/
def KK (s : Nat) (kd : Nat → Int32) (s' : Nat) (kd' : Nat → Int32) : Prop := s ≤ s' ∧ ∀ j, j < s → kd' j = kd j
theorem K_rf {s : Nat} {kd : Nat → Int32} : KK s kd s kd := ⟨Nat.le_refl _, fun _ _ => rfl⟩
theorem K_up {s : Nat} {kd : Nat → Int32} {v : Int32} : KK s kd (s + 1) (upd kd s v) := ⟨by omega, fun j hj => pk_un (by omega)⟩
theorem K_tr {s s' s2 : Nat} {kd kd' kd2 : Nat → Int32} (h : KK s kd s' kd') (h2 : KK s' kd' s2 kd2) : KK s kd s2 kd2 := ⟨Nat.le_trans h.1 h2.1, fun j hj => (h2.2 j (Nat.lt_of_lt_of_le hj h.1)).trans (h.2 j hj)⟩
theorem qu_l {n q d : Nat} {T : Nat → Nat} {f g : Nat → Int32} (hn : n ≤ 60) (hf : Tx n T f) (hg : Tx n T g) (x1 : Int32) (op : Nat → Int32) (E : Nat → Nat) (F : Nat) : ∀ (k p G s : Nat) (kd nb so co cn ar en sz : Nat → Int32), QE n T q k p → k < G → ST s d kd nb op x1 so co cn ar en sz E → ∃ so' co' cn' ar' en' sz', FR so co cn ar en sz so' co' cn' ar' en' sz' ∧ ((∃ p' d' q' s' kd' nb' op', p' < n ∧ lp_PatternParser_parse_20 60 (nI n) f (F + k + 1) (nI p) (nI d) 1 (nI s) kd nb op = some (.inl (nI p', d', q', s', kd', nb', op')) ∧ lp_SkeletonClockModel_pattern_108 (nI n) g x1 (nI q) G (nI p) so co cn ar en sz = some (.inl (nI p', so', co', cn', ar', en', sz'))) ∨ (∃ s' kd' nb' v, lp_PatternParser_parse_20 60 (nI n) f (F + k + 1) (nI p) (nI d) 1 (nI s) kd nb op = lp_PatternParser_parse_20 60 (nI n) f F (nI (q + 1)) (nI d) 0 (nI s') kd' nb' op ∧ lp_SkeletonClockModel_pattern_108 (nI n) g x1 (nI q) G (nI p) so co cn ar en sz = some (.inr (v, so', co', cn', ar', en', sz')) ∧ ST s' d kd' nb' op x1 so' co' cn' ar' en' sz' E ∧ KK s kd s' kd')) := by
  intro k
  induction k with
  | zero =>
    intro p G s kd nb so co cn ar en sz hQ hG hS
    obtain ⟨G, rfl⟩ : ∃ H, G = H + 1 := ⟨G - 1, by omega⟩
    obtain ⟨e, h1, h2, h3⟩ := hQ
    subst e
    refine ⟨so, co, cn, ar, en, sz, FR_rf, Or.inr ⟨s, kd, nb, nI p, c_q0 hn hf h1 kd nb op h2 h3, ?_, hS, K_rf⟩⟩
    rw [lp_SkeletonClockModel_pattern_108, st_SkeletonClockModel_pattern_108, if_pos (nI_le (Nat.le_refl _) (by omega))]
  | succ k ih =>
    intro p G s kd nb so co cn ar en sz hQ hG hS
    obtain ⟨G, rfl⟩ : ∃ H, G = H + 1 := ⟨G - 1, by omega⟩
    have hl := QE_le hQ
    have hpn : p < n := by omega
    have tp := hg p hpn
    have m8 := m_8 (G := G) hn hg (by omega : p < q) hl.2 x1 so co cn ar en (sz := sz)
    have hs := hS.1
    have hz := hS.2.1
    by_cases h20 : s = 20
    · subst h20
      refine ⟨so, co, cn, ar, en, sz, FR_rf, Or.inl ?_⟩
      rcases hQ with ⟨a1, a2, a3, a4⟩ | ⟨a1, a2, a3⟩
      · exact ⟨p, _, _, _, _, _, _, hpn, c_df hn hf hpn kd nb op 1 a2 a1 a3, m8.1 hz⟩
      · exact ⟨p, _, _, _, _, _, _, hpn, c_q1f hn hf hpn kd nb op a2, m8.1 hz⟩
    · have hs2 : s < 20 := by omega
      have hm := m8.2 s hz hs2
      rcases hQ with ⟨a1, a2, a3, a4⟩ | ⟨a1, a2, a3⟩
      · rw [if_pos a2] at hm
        have hS2 := st_add hS hs2 (k := 15) (m := 39) (a := 0) (b := nI (T p)) (c := 0) (Or.inl ⟨rfl, rfl, by rw [a2]; rfl, T p, by omega, by omega, rfl⟩) (nI (s + 1))
        obtain ⟨so', co', cn', ar', en', sz', hR, h⟩ := ih (p + 2) G (s + 1) _ _ _ _ _ _ _ _ a4 (by omega) hS2
        rw [hm, show F + (k + 1) + 1 = F + k + 1 + 1 from by omega, c_d hn hf hpn kd nb op 1 a2 a1 a3 hs2]
        refine ⟨so', co', cn', ar', en', sz', FR_tr FR_up hR, h.imp_right (fun h => ?_)⟩
        obtain ⟨b1, b2, b3, b4, b5, b6, b7, b8⟩ := h
        exact ⟨b1, b2, b3, b4, b5, b6, b7, K_tr K_up b8⟩
      · rw [if_neg a2] at hm
        have hS2 := st_add hS hs2 (k := 15) (m := nI (T p)) (a := 0) (b := nI (T p)) (c := 0) (Or.inl ⟨rfl, rfl, rfl, T p, by omega, by omega, rfl⟩) (nI (s + 1))
        obtain ⟨so', co', cn', ar', en', sz', hR, h⟩ := ih (p + 1) G (s + 1) _ _ _ _ _ _ _ _ a3 (by omega) hS2
        rw [hm, show F + (k + 1) + 1 = F + k + 1 + 1 from by omega, c_q1 hn hf hpn kd nb op a2 hs2]
        refine ⟨so', co', cn', ar', en', sz', FR_tr FR_up hR, h.imp_right (fun h => ?_)⟩
        obtain ⟨b1, b2, b3, b4, b5, b6, b7, b8⟩ := h
        exact ⟨b1, b2, b3, b4, b5, b6, b7, K_tr K_up b8⟩
/-- both parsers' ends -/
def RES (n : Nat) (rc : Option ((Int32 × Int32 × Int32 × Int32 × (Nat → Int32) × (Nat → Int32) × (Nat → Int32)) ⊕ (Int32 × Int32 × Int32 × Int32 × (Nat → Int32) × (Nat → Int32) × (Nat → Int32)))) (rm : Option ((Int32 × (Nat → Int32) × (Nat → Int32) × (Nat → Int32) × (Nat → Int32) × (Nat → Int32) × (Nat → Int32)) ⊕ (Int32 × Int32 × (Nat → Int32) × (Nat → Int32) × (Nat → Int32) × (Nat → Int32) × (Nat → Int32) × (Nat → Int32)))) (so co cn ar en sz : Nat → Int32) (s : Nat) (kd : Nat → Int32) : Prop := ∃ so' co' cn' ar' en' sz', FR so co cn ar en sz so' co' cn' ar' en' sz' ∧ ((∃ p' d' q' s' kd' nb' op', p' < n ∧ rc = some (.inl (nI p', d', q', s', kd', nb', op')) ∧ rm = some (.inl (nI p', so', co', cn', ar', en', sz'))) ∨ (∃ v d' s' kd' nb' op' x1' v' E', rc = some (.inr (v, nI d', 0, nI s', kd', nb', op')) ∧ rm = some (.inr (x1', v', so', co', cn', ar', en', sz')) ∧ ST s' d' kd' nb' op' x1' so' co' cn' ar' en' sz' E' ∧ KK s kd s' kd'))
theorem RES_tr {n : Nat} {rc : Option ((Int32 × Int32 × Int32 × Int32 × (Nat → Int32) × (Nat → Int32) × (Nat → Int32)) ⊕ (Int32 × Int32 × Int32 × Int32 × (Nat → Int32) × (Nat → Int32) × (Nat → Int32)))} {rm : Option ((Int32 × (Nat → Int32) × (Nat → Int32) × (Nat → Int32) × (Nat → Int32) × (Nat → Int32) × (Nat → Int32)) ⊕ (Int32 × Int32 × (Nat → Int32) × (Nat → Int32) × (Nat → Int32) × (Nat → Int32) × (Nat → Int32) × (Nat → Int32)))} {so co cn ar en sz so2 co2 cn2 ar2 en2 sz2 kd kd2 : Nat → Int32} {s s2 : Nat} (h : FR so co cn ar en sz so2 co2 cn2 ar2 en2 sz2) (hk : KK s kd s2 kd2) (hr : RES n rc rm so2 co2 cn2 ar2 en2 sz2 s2 kd2) : RES n rc rm so co cn ar en sz s kd := by
  obtain ⟨a, b, c, d, e, f, h1, h2⟩ := hr
  refine ⟨a, b, c, d, e, f, FR_tr h h1, h2.imp_right (fun h => ?_)⟩
  obtain ⟨b1, b2, b3, b4, b5, b6, b7, b8, b9, b10, b11, b12, b13⟩ := h
  exact ⟨b1, b2, b3, b4, b5, b6, b7, b8, b9, b10, b11, b12, K_tr hk b13⟩
theorem RES_f {n p : Nat} (hp : p < n) {so co cn ar en sz kd nb op : Nat → Int32} {d q s : Int32} {s0 : Nat} {kd0 : Nat → Int32} : RES n (some (.inl (nI p, d, q, s, kd, nb, op))) (some (.inl (nI p, so, co, cn, ar, en, sz))) so co cn ar en sz s0 kd0 := ⟨so, co, cn, ar, en, sz, FR_rf, Or.inl ⟨p, d, q, s, kd, nb, op, hp, rfl, rfl⟩⟩
theorem pa_l {n : Nat} {T : Nat → Nat} {f g : Nat → Int32} (hn : n ≤ 60) (hf : Tx n T f) (hg : Tx n T g) : ∀ (m p F G d s : Nat) (kd nb op so co cn ar en sz : Nat → Int32) (x1 : Int32) (E : Nat → Nat), n ≤ p + m → p ≤ n → m < F → m < G → ST s d kd nb op x1 so co cn ar en sz E → RES n (lp_PatternParser_parse_20 60 (nI n) f F (nI p) (nI d) 0 (nI s) kd nb op) (lp_SkeletonClockModel_pattern_12 (nI n) g G x1 (nI p) so co cn ar en sz) so co cn ar en sz s kd := by
  intro m
  induction m using Nat.strongRecOn with
  | _ m ih =>
    intro p F G d s kd nb op so co cn ar en sz x1 E hm hpn hF hG hS
    obtain ⟨F, rfl⟩ : ∃ H, F = H + 1 := ⟨F - 1, by omega⟩
    obtain ⟨G, rfl⟩ : ∃ H, G = H + 1 := ⟨G - 1, by omega⟩
    have hs := hS.1
    have hz := hS.2.1
    have hd := PO_d hS.2.2.2
    by_cases hp : n ≤ p
    · rw [lp_PatternParser_parse_20, st_PatternParser_parse_20, if_pos (nI_le hp (by omega)), lp_SkeletonClockModel_pattern_12, st_SkeletonClockModel_pattern_12, if_pos (nI_le hp (by omega))]
      exact ⟨so, co, cn, ar, en, sz, FR_rf, Or.inr ⟨_, d, s, kd, nb, op, x1, _, E, rfl, rfl, hS, K_rf⟩⟩
    · have hp : p < n := by omega
      have tp := hg p hp
      by_cases hl : ltr (T p) = true
      · obtain ⟨r, r1, r2, r3, r4, -, -⟩ := rl_c hn hf hg hp
        rcases al_tab (c := T p) (r := r) (by omega) (by omega) with ⟨a1, u, a2, a3⟩ | ⟨a1, i, a2, a3, a4, a5, a6, a7⟩
        · rw [c_r0 hn hf hp kd nb op hl r3 a2 a3, m_r0 hn hg hp x1 so co cn ar en hl r4 a1]
          exact RES_f hp
        · by_cases h20 : s = 20
          · subst h20
            rw [c_r2 hn hf hp kd nb op hl r3 a3 a4, m_r2 hn hg hp x1 so co cn ar en hl r4 a1 hz]
            exact RES_f hp
          · have hs2 : s < 20 := by omega
            rw [c_r1 hn hf hp kd nb op hl (by omega) r3 a3 a4 hs2, m_r1 hn hg hp x1 so co cn ar en hl r4 a1 hz hs2]
            exact RES_tr FR_up K_up (ih (m - r) (by omega) (p + r) F G d (s + 1) _ _ _ _ _ _ _ _ _ _ E (by omega) (by omega) (by omega) (by omega) (st_add hS hs2 (Or.inr ⟨rfl, i, r, a2, r1, a6, rfl, by rw [a5], rfl, rfl, a7⟩) _))
      · have hl : ltr (T p) = false := by
          cases h : ltr (T p) with
          | true => exact absurd h hl
          | false => rfl
        by_cases e39 : T p = 39
        · by_cases e1 : p + 1 < n ∧ T (p + 1) = 39
          · by_cases h20 : s = 20
            · subst h20
              rw [c_df hn hf hp kd nb op 0 e39 e1.1 e1.2, m_d0 hn hg hp x1 so co cn ar en e39 e1.1 e1.2 hz]
              exact RES_f hp
            · have hs2 : s < 20 := by omega
              rw [c_d hn hf hp kd nb op 0 e39 e1.1 e1.2 hs2, m_d1 hn hg hp x1 so co cn ar en e39 e1.1 e1.2 hz hs2]
              exact RES_tr FR_up K_up (ih (m - 2) (by omega) (p + 2) F G d (s + 1) _ _ _ _ _ _ _ _ _ _ E (by omega) (by omega) (by omega) (by omega) (st_add hS hs2 (Or.inl ⟨rfl, rfl, rfl, 39, by omega, by omega, rfl⟩) _))
          · rcases qe_c hn hf hg hp with ⟨a, b⟩ | ⟨q, k, a, b, c⟩
            · rw [c_o0 hn hf hp kd nb op e39 e1 a, m_o0 hn hg hp x1 so co cn ar en e39 e1 b]
              exact RES_f hp
            · have hQ := QE_le a
              rw [c_o1 hn hf hp kd nb op e39 e1 b, m_o1 hn hg hp x1 so co cn ar en e39 e1 c hQ.2]
              obtain ⟨F, rfl⟩ : ∃ H, F = H + k + 1 := ⟨F - k - 1, by omega⟩
              obtain ⟨so', co', cn', ar', en', sz', hR, h⟩ := qu_l hn hf hg x1 op E F k (p + 1) FU s kd nb so co cn ar en sz a (by unfold FU; omega) hS
              rcases h with ⟨p', d', q', s', kd', nb', op', h1, h2, h3⟩ | ⟨s', kd', nb', v, h1, h2, h3, hK⟩
              · rw [h2, h3]
                exact RES_tr hR (K_rf (s := s) (kd := kd)) (RES_f h1)
              · rw [h1, h2]
                exact RES_tr hR hK (ih (m - k - 2) (by omega) (q + 1) F G d s' _ _ _ _ _ _ _ _ _ _ E (by omega) (by omega) (by omega) (by omega) h3)
        · by_cases e93 : T p = 93
          · by_cases hd0 : d = 0
            · subst hd0
              have hx : x1 = -1 := by
                obtain ⟨o, -, -, -, h4, -⟩ := hS.2.2.2
                exact h4 rfl
              subst hx
              rw [c_c0 hn hf hp kd nb op e93, m_c0 hn hg hp so co cn ar en e93]
              exact RES_f hp
            · obtain ⟨k, rfl⟩ : ∃ k, d = k + 1 := ⟨d - 1, by omega⟩
              obtain ⟨a, E', a1, a2, a3, a4⟩ := st_close hS
              rw [a3, c_c1 hn hf hp kd nb op e93 (by omega) a2 a1 hs, m_c1 hn hg hp so co cn ar en e93 a1 hs hz]
              exact RES_tr FR_en K_rf (ih (m - 1) (by omega) (p + 1) F G k s _ _ _ _ _ _ _ _ _ _ E' (by omega) (by omega) (by omega) (by omega) a4)
          · by_cases e91 : T p = 91
            · by_cases h20 : s = 20
              · subst h20
                rw [c_b0 hn hf hp kd nb op e91 hd, m_b0 hn hg hp x1 so co cn ar en e91 hz]
                exact RES_f hp
              · have hs2 : s < 20 := by omega
                rw [c_b1 hn hf hp kd nb op e91 hd hs2, m_b1 hn hg hp x1 so co cn ar en e91 hz hs2]
                exact RES_tr FR_up K_up (ih (m - 1) (by omega) (p + 1) F G (d + 1) (s + 1) _ _ _ _ _ _ _ _ _ _ _ (by omega) (by omega) (by omega) (by omega) (st_open hS hs2 _ _ _ _))
            · by_cases h20 : s = 20
              · subst h20
                rw [c_e0 hn hf hp kd nb op hl e39 e91 e93, m_e0 hn hg hp x1 so co cn ar en hl e39 e91 e93 hz]
                exact RES_f hp
              · have hs2 : s < 20 := by omega
                rw [c_e1 hn hf hp kd nb op hl e39 e91 e93 hs2, m_e1 hn hg hp x1 so co cn ar en hl e39 e91 e93 hz hs2]
                exact RES_tr FR_up K_up (ih (m - 1) (by omega) (p + 1) F G d (s + 1) _ _ _ _ _ _ _ _ _ _ E (by omega) (by omega) (by omega) (by omega) (st_add hS hs2 (Or.inl ⟨rfl, rfl, rfl, T p, by omega, by omega, rfl⟩) _))
/-- the parsers together -/
theorem pa_c {n : Nat} {T : Nat → Nat} {f g : Nat → Int32} (hn : n ≤ 60) (hf : Tx n T f) (hg : Tx n T g) (d0 q0 s0 : Int32) (kd nb op so co cn ar en sz : Nat → Int32) : ∃ so' co' cn' ar' en' sz', FR so co cn ar en sz so' co' cn' ar' en' sz' ∧ ∃ (x : Int32) (d' q' s' : Int32) (kd' nb' op' : Nat → Int32), f_PatternParser_parse 60 d0 q0 s0 kd nb op (nI n) f = some (x, d', q', s', kd', nb', op') ∧ f_SkeletonClockModel_pattern (nI n) g so co cn ar en sz = some (x, so', co', cn', ar', en', sz') ∧ ((∃ j, j ≤ n ∧ x = nI j) ∨ (x = -1 ∧ ∃ k, k ≤ 20 ∧ s' = nI k ∧ sz' 6 = nI k ∧ R_pie k kd' nb' (sh so') (sh co') (sh cn') (sh ar') (sh en'))) := by
  have hS : ST 0 0 kd nb op (-1) so co cn ar en (upd sz 6 0) (fun _ => 0) := by
    refine ⟨by omega, pk_us, ⟨fun j hj => by omega, fun j hj => by omega, fun a b _ hb => by omega⟩, fun _ => 0, fun i hi => by omega, fun i k _ hk => by omega, fun a ha => by omega, fun _ => rfl, fun k hk => by omega⟩
  obtain ⟨so', co', cn', ar', en', sz', hR, h⟩ := pa_l hn hf hg n 0 FU FU 0 0 kd nb op so co cn ar en (upd sz 6 0) (-1) (fun _ => 0) (by omega) (by omega) (by unfold FU; omega) (by unfold FU; omega) hS
  rw [nI_0] at h
  have hR2 : FR so co cn ar en sz so' co' cn' ar' en' sz' := FR_tr ⟨fun j _ => ⟨rfl, rfl, rfl, rfl, rfl⟩, fun k hk => pk_un (by omega)⟩ hR
  refine ⟨so', co', cn', ar', en', sz', hR2, ?_⟩
  unfold f_PatternParser_parse f_SkeletonClockModel_pattern
  rw [cl6]
  rcases h with ⟨p', d', q', s', kd', nb', op', h1, h2, h3⟩ | ⟨v, d', s', kd', nb', op', x1', v', E', h1, h2, h3, -⟩
  · rw [h2, h3]
    exact ⟨nI p', d', q', s', kd', nb', op', rfl, rfl, Or.inl ⟨p', by omega, rfl⟩⟩
  · rw [h1, h2, ob_some, ob_some]
    unfold sel
    dsimp only
    have hd := PO_d h3.2.2.2
    have h20 := h3.1
    by_cases e : d' = 0
    · have hx : x1' = -1 := by
        obtain ⟨o, -, -, -, h4, -⟩ := h3.2.2.2
        exact h4 e
      rw [e, hx, if_pos (by decide), if_neg (by decide)]
      refine ⟨-1, _, _, _, _, _, _, rfl, rfl, Or.inr ⟨rfl, s', h20, rfl, h3.2.1, E', h3.2.2.1, fun j hj hj2 => ?_⟩⟩
      rcases (PV_E h3.2.2.1 hj hj2).2 with a | a
      · exact a
      · obtain ⟨o, -, -, h5, -, -⟩ := h3.2.2.2
        obtain ⟨i, hi, -⟩ := h5 j hj hj2 a
        omega
    · obtain ⟨k, rfl⟩ : ∃ k, d' = k + 1 := ⟨d' - 1, by omega⟩
      obtain ⟨o, h5, -, -, -, h6⟩ := h3.2.2.2
      have := (h5 k (by omega)).2.1
      rw [h6 k rfl, if_neg (nI_nle (by omega) (by omega)), if_pos (nI_pos' (by omega))]
      exact ⟨nI n, _, _, _, _, _, _, rfl, rfl, Or.inl ⟨n, Nat.le_refl _, rfl⟩⟩
