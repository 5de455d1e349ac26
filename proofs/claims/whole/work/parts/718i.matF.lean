/-! match: the wish's loops together. -/
def BR (n : Nat) (rc : Option ((Int32 × Int32 × Int32 × Int32 × (Nat → Int32) × (Nat → Int32) × (Nat → Int32)) ⊕ (Int32 × Int32 × Int32 × Int32 × (Nat → Int32) × (Nat → Int32) × (Nat → Int32)))) : Prop := (∃ p' d' q' s' kd' nb' op', p' < n ∧ rc = some (.inl (nI p', d', q', s', kd', nb', op'))) ∨ ∃ v d' s' kd' nb' op', s' ≤ 20 ∧ rc = some (.inr (v, nI d', 0, nI s', kd', nb', op')) ∧ (∀ j, j < s' → ∃ i, i < 17 ∧ kd' j = nI i) ∧ ¬ GD s' kd'
theorem PV_17 {s : Nat} {kd nb so co cn ar en : Nat → Int32} {E : Nat → Nat} (h : PV s kd nb so co cn ar en E) : ∀ j, j < s → ∃ i, i < 17 ∧ kd j = nI i := by
  intro j hj
  rcases h.1 j hj with (⟨a1, a2, -⟩ | ⟨a1, i1, c0, a2, a3, a4, a5, -⟩) | ⟨a1, a2, -⟩
  · exact ⟨15, by omega, a2⟩
  · exact ⟨i1, by omega, a5⟩
  · exact ⟨16, by omega, a2⟩
theorem BR_of {n : Nat} {rc : Option ((Int32 × Int32 × Int32 × Int32 × (Nat → Int32) × (Nat → Int32) × (Nat → Int32)) ⊕ (Int32 × Int32 × Int32 × Int32 × (Nat → Int32) × (Nat → Int32) × (Nat → Int32)))} {rm : Option ((Int32 × (Nat → Int32) × (Nat → Int32) × (Nat → Int32) × (Nat → Int32) × (Nat → Int32) × (Nat → Int32)) ⊕ (Int32 × Int32 × (Nat → Int32) × (Nat → Int32) × (Nat → Int32) × (Nat → Int32) × (Nat → Int32) × (Nat → Int32)))} {so co cn ar en sz kd : Nat → Int32} {s : Nat} (h : RES n rc rm so co cn ar en sz s kd) (hb : ∀ s' kd', KK s kd s' kd' → ¬ GD s' kd') : BR n rc := by
  obtain ⟨a, b, c, d, e, f, -, h2⟩ := h
  rcases h2 with ⟨p', d', q', s', kd', nb', op', h1, h2, -⟩ | ⟨v, d', s', kd', nb', op', x1', v', E', h1, -, h3, h4⟩
  · exact Or.inl ⟨p', d', q', s', kd', nb', op', h1, h2⟩
  · exact Or.inr ⟨v, d', s', kd', nb', op', h3.1, h1, PV_17 h3.2.2.1, hb s' kd' h4⟩
theorem bad1 {s k s' : Nat} {kd kd' : Nat → Int32} (hk : 15 ≤ k ∧ k ≤ 16) (h : KK (s + 1) (upd kd s (nI k)) s' kd') : ¬ GD s' kd' := fun q => by
  obtain ⟨i, hi, e⟩ := q.1 s (by have := h.1; omega)
  rw [h.2 s (by omega), pk_us] at e
  have := (nI_eq (by omega) (by omega)).mp e
  omega
theorem bad2 {s j s' : Nat} {kd kd' : Nat → Int32} {u : Int32} (hj : j < s) (e : kd j = u) (h : KK (s + 1) (upd kd s u) s' kd') : ¬ GD s' kd' := fun q => by
  have a := h.1
  have := q.2 j s hj (by omega)
  rw [h.2 s (by omega), h.2 j (by omega), pk_us, pk_un (by omega)] at this
  exact this e
theorem wi_l {n : Nat} {T : Nat → Nat} {f g : Nat → Int32} (hn : n ≤ 60) (hf : Tx n T f) (hg : Tx n T g) : ∀ (m p F G s : Nat) (kd nb op so co cn ar en sz w : Nat → Int32) (E : Nat → Nat), n ≤ p + m → p ≤ n → m < F → m < G → ST s 0 kd nb op (-1) so co cn ar en sz E → GD s kd → WI w s kd nb → ∃ w', ((∃ v, lp_SkeletonClockModel_wished_24 (nI n) g G (nI p) w = some (.inr (v, w')) ∧ ∃ v0 s' kd' nb' op' so' co' cn' ar' en' sz' E', lp_PatternParser_parse_20 60 (nI n) f F (nI p) (nI 0) 0 (nI s) kd nb op = some (.inr (v0, nI 0, 0, nI s', kd', nb', op')) ∧ ST s' 0 kd' nb' op' (-1) so' co' cn' ar' en' sz' E' ∧ GD s' kd' ∧ WI w' s' kd' nb') ∨ (lp_SkeletonClockModel_wished_24 (nI n) g G (nI p) w = some (.inl (0, w')) ∧ BR n (lp_PatternParser_parse_20 60 (nI n) f F (nI p) (nI 0) 0 (nI s) kd nb op))) := by
  intro m
  induction m using Nat.strongRecOn with
  | _ m ih =>
    intro p F G s kd nb op so co cn ar en sz w E hm hpn hF hG hS hD hW
    obtain ⟨F, rfl⟩ : ∃ H, F = H + 1 := ⟨F - 1, by omega⟩
    obtain ⟨G, rfl⟩ : ∃ H, G = H + 1 := ⟨G - 1, by omega⟩
    have hs := GD_15 hD
    have hs2 : s < 20 := by omega
    by_cases hp : n ≤ p
    · rw [lp_SkeletonClockModel_wished_24, st_SkeletonClockModel_wished_24, lp_PatternParser_parse_20, st_PatternParser_parse_20, if_pos (nI_le hp (by omega)), if_pos (nI_le hp (by omega))]
      exact ⟨w, Or.inl ⟨_, rfl, _, s, kd, nb, op, so, co, cn, ar, en, sz, E, rfl, hS, hD, hW⟩⟩
    · have hp : p < n := by omega
      have tp := hg p hp
      obtain ⟨r, r1, r2, r3, r4, -, -⟩ := rl_c hn hf hg hp
      rw [lp_SkeletonClockModel_wished_24, st_SkeletonClockModel_wished_24, if_neg (nI_ge hp (by omega)), r4, ob_some, il_c hn hg hp, ob_some]
      by_cases hl : ltr (T p) = true
      · rw [if_neg (by rw [hl]; decide), at_n hn hg hp, ob_some]
        rcases al_tab (c := T p) (r := r) (by omega) (by omega) with ⟨a1, u, a2, a3⟩ | ⟨a1, i, a2, a3, a4, a5, a6, a7⟩
        · rw [a1, ob_some, if_pos rfl, c_r0 hn hf hp kd nb op hl r3 a2 a3]
          exact ⟨w, Or.inr ⟨rfl, Or.inl ⟨p, _, _, _, _, _, _, hp, rfl⟩⟩⟩
        · rw [a1, ob_some, if_neg (by decide), ob_some, if_pos (sN (by omega) (by omega)), ob_some, if_pos (sN (by omega) (by omega)), nI_clamp (by omega), nI_add, c_r1 hn hf hp kd nb op hl (by omega) r3 a3 a4 hs2]
          have hS2 := st_add hS hs2 (k := nI i) (m := nI r) (a := 1) (b := nI (T p)) (c := nI r) (Or.inr ⟨rfl, i, r, a2, r1, a6, rfl, by rw [a5], rfl, rfl, a7⟩) (nI (s + 1))
          by_cases hx : ∃ j, j < s ∧ kd j = nI i
          · obtain ⟨j, hj, ej⟩ := hx
            obtain ⟨c, c1, c2, c3⟩ := fc_in hS.2.2.1 a2 s 0 (by omega) ⟨j, by omega, hj, ej⟩
            have hw := (hW.1 i a2).trans c3
            rw [a5] at hw
            rw [hw, if_neg (nI_nle (by omega) (by omega))]
            refine ⟨w, Or.inr ⟨rfl, ?_⟩⟩
            exact BR_of (pa_l hn hf hg (n - (p + r)) (p + r) F FU 0 (s + 1) _ _ _ _ _ _ _ _ _ _ E (by omega) (by omega) (by omega) (by unfold FU; omega) hS2) (fun s' kd' hK => bad2 hj ej hK)
          · have hno : ∀ j, j < s → kd j ≠ nI i := fun j hj q => hx ⟨j, hj, q⟩
            have hw := (hW.1 i a2).trans (fc_nf kd nb _ s 0 (fun j _ hj => hno j (by omega)))
            rw [a5] at hw
            rw [hw, if_pos (by decide)]
            have hW2 := WI_add (r := r) hW a2 hno
            rw [a5] at hW2
            exact ih (m - r) (by omega) (p + r) F G (s + 1) _ _ _ _ _ _ _ _ _ _ E (by omega) (by omega) (by omega) (by omega) hS2 (GD_add hD a2 hno) hW2
      · have hl : ltr (T p) = false := by
          cases h : ltr (T p) with
          | true => exact absurd h hl
          | false => rfl
        rw [if_pos (by rw [hl]; decide)]
        refine ⟨w, Or.inr ⟨rfl, ?_⟩⟩
        have hC : ∀ (v b : Int32), PC 15 v 0 b 0 → ∀ (p2 : Nat), p < p2 → p2 ≤ n → BR n (lp_PatternParser_parse_20 60 (nI n) f F (nI p2) (nI 0) 0 (nI (s + 1)) (upd kd s 15) (upd nb s v) op) := fun v b hc p2 h1 h2 => BR_of (pa_l hn hf hg (n - p2) p2 F FU 0 (s + 1) _ _ _ _ _ _ _ _ _ _ E (by omega) h2 (by omega) (by unfold FU; omega) (st_add hS hs2 hc 0)) (fun s' kd' hK => bad1 (k := 15) (by omega) hK)
        by_cases e39 : T p = 39
        · by_cases e1 : p + 1 < n ∧ T (p + 1) = 39
          · rw [c_d hn hf hp kd nb op 0 e39 e1.1 e1.2 hs2]
            exact hC 39 (nI 39) (Or.inl ⟨rfl, rfl, rfl, 39, by omega, by omega, rfl⟩) (p + 2) (by omega) (by omega)
          · rcases qe_c hn hf hg hp with ⟨a, b⟩ | ⟨q, k, a, b, c⟩
            · rw [c_o0 hn hf hp kd nb op e39 e1 a]
              exact Or.inl ⟨p, _, _, _, _, _, _, hp, rfl⟩
            · have hQ := QE_le a
              rw [c_o1 hn hf hp kd nb op e39 e1 b]
              cases k with
              | zero => exact absurd ⟨by have := a.2.1; have := a.1; omega, by have e := a.1; have e2 := a.2.2.1; rw [← e] at e2; exact e2⟩ e1
              | succ k =>
                rcases a with ⟨a1, a2, a3, a4⟩ | ⟨a1, a2, a3⟩
                · exact absurd ⟨by omega, a2⟩ e1
                · obtain ⟨F, rfl⟩ : ∃ H, F = H + k + 1 + 1 := ⟨F - k - 2, by omega⟩
                  have tq := hg (p + 1) a1
                  rw [c_q1 hn hf a1 kd nb op a2 hs2]
                  have hQ := QE_le a3
                  obtain ⟨so', co', cn', ar', en', sz', hR, h⟩ := qu_l hn hf hg (-1) op E F k (p + 1 + 1) FU (s + 1) _ _ _ _ _ _ _ _ a3 (by unfold FU; omega) (st_add hS hs2 (k := 15) (m := nI (T (p + 1))) (a := 0) (b := nI (T (p + 1))) (c := 0) (Or.inl ⟨rfl, rfl, rfl, T (p + 1), by omega, by omega, rfl⟩) 0)
                  rcases h with ⟨p', d', q', s', kd', nb', op', h1, h2, h3⟩ | ⟨s', kd', nb', v, h1, h2, h3, hK⟩
                  · rw [h2]
                    exact Or.inl ⟨p', _, _, _, _, _, _, h1, rfl⟩
                  · rw [h1]
                    exact BR_of (pa_l hn hf hg (n - (q + 1)) (q + 1) F FU 0 s' _ _ _ _ _ _ _ _ _ _ E (by omega) (by omega) (by omega) (by unfold FU; omega) h3) (fun s2 kd2 hK2 => bad1 (k := 15) (by omega) (K_tr hK hK2))
        · by_cases e93 : T p = 93
          · rw [c_c0 hn hf hp kd nb op e93]
            exact Or.inl ⟨p, _, _, _, _, _, _, hp, rfl⟩
          · by_cases e91 : T p = 91
            · rw [c_b1 hn hf hp kd nb op e91 (by omega) hs2]
              exact BR_of (pa_l hn hf hg (n - (p + 1)) (p + 1) F FU (0 + 1) (s + 1) _ _ _ _ _ _ _ _ _ _ _ (by omega) (by omega) (by omega) (by unfold FU; omega) (st_open hS hs2 0 0 0 0)) (fun s' kd' hK => bad1 (k := 16) (by omega) hK)
            · rw [c_e1 hn hf hp kd nb op hl e39 e91 e93 hs2]
              exact hC (nI (T p)) (nI (T p)) (Or.inl ⟨rfl, rfl, rfl, T p, by omega, by omega, rfl⟩) (p + 1) (by omega) (by omega)
