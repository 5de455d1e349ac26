/-! The parser on both sides: letters, sections, other signs. -/
theorem neL {a k : Nat} {l : Int32} (hl : l = nI k) (h : a < 2 ^ 31) (hk : k < 2 ^ 31) (e : a ≠ k) : ¬ nI a = l := fun q => e ((nI_eq h hk).mp (q.trans hl))
theorem c_r0 {n p d s F : Nat} {T : Nat → Nat} {f : Nat → Int32} (hn : n ≤ 60) (hf : Tx n T f) (hp : p < n) (kd nb op : Nat → Int32) (h : ltr (T p) = true) {r : Nat} (hr : f_Row_runLength 60 (nI n) f (nI p) = some (nI r)) {u : Int32} (hu : f_String_indexOf_I 0 (nI (T p)) = some u) (ha : f_Pattern_isAllowed u (nI r) = some 0) : lp_PatternParser_parse_20 60 (nI n) f (F + 1) (nI p) (nI d) 0 (nI s) kd nb op = some (.inl (nI p, nI d, 0, nI s, kd, nb, op)) := by
  have tp := hf p hp
  rw [c_st hn hf hp, c_lt hn hf hp kd nb op h]
  unfold f_PatternParser_stepRun
  rw [ca_n hn hf hp, ob_some, m16 (by omega), hu, ob_some, hr, ob_some, ha, ob_some, if_pos rfl]
  simp only [ob_some]
  rw [if_neg (by decide)]
theorem c_r1 {n p d s F : Nat} {T : Nat → Nat} {f : Nat → Int32} (hn : n ≤ 60) (hf : Tx n T f) (hp : p < n) (kd nb op : Nat → Int32) (h : ltr (T p) = true) {r : Nat} (h1 : 1 ≤ r ∧ r ≤ 60) (hr : f_Row_runLength 60 (nI n) f (nI p) = some (nI r)) {u : Int32} (hu : f_String_indexOf_I 0 (nI (T p)) = some u) (ha : f_Pattern_isAllowed u (nI r) = some 1) (hs : s < 20) : lp_PatternParser_parse_20 60 (nI n) f (F + 1) (nI p) (nI d) 0 (nI s) kd nb op = lp_PatternParser_parse_20 60 (nI n) f F (nI (p + r)) (nI d) 0 (nI (s + 1)) (upd kd s u) (upd nb s (nI r)) op := by
  have tp := hf p hp
  rw [c_st hn hf hp, c_lt hn hf hp kd nb op h]
  unfold f_PatternParser_stepRun
  rw [ca_n hn hf hp, ob_some, m16 (by omega), hu, ob_some, hr, ob_some, ha, ob_some, if_neg (by decide), dd_1 hs]
  simp only [ob_some]
  rw [← nI_0, if_pos (nI_lt (by omega) (by omega)), nI_add]
theorem c_r2 {n p d F : Nat} {T : Nat → Nat} {f : Nat → Int32} (hn : n ≤ 60) (hf : Tx n T f) (hp : p < n) (kd nb op : Nat → Int32) (h : ltr (T p) = true) {r : Nat} (hr : f_Row_runLength 60 (nI n) f (nI p) = some (nI r)) {u : Int32} (hu : f_String_indexOf_I 0 (nI (T p)) = some u) (ha : f_Pattern_isAllowed u (nI r) = some 1) : lp_PatternParser_parse_20 60 (nI n) f (F + 1) (nI p) (nI d) 0 (nI 20) kd nb op = some (.inl (nI p, nI d, 0, nI 20, kd, nb, op)) := by
  have tp := hf p hp
  rw [c_st hn hf hp, c_lt hn hf hp kd nb op h]
  unfold f_PatternParser_stepRun
  rw [ca_n hn hf hp, ob_some, m16 (by omega), hu, ob_some, hr, ob_some, ha, ob_some, if_neg (by decide), dd_0]
  simp only [ob_some]
  rw [if_neg (by decide)]
theorem c_b1 {n p d s F : Nat} {T : Nat → Nat} {f : Nat → Int32} (hn : n ≤ 60) (hf : Tx n T f) (hp : p < n) (kd nb op : Nat → Int32) (e : T p = 91) (hd : d ≤ s) (hs : s < 20) : lp_PatternParser_parse_20 60 (nI n) f (F + 1) (nI p) (nI d) 0 (nI s) kd nb op = lp_PatternParser_parse_20 60 (nI n) f F (nI (p + 1)) (nI (d + 1)) 0 (nI (s + 1)) (upd kd s 16) (upd nb s 0) (upd op d (nI s)) := by
  rw [c_st hn hf hp, c_no hn hf hp kd nb op (by rw [e]; decide) (by omega)]
  unfold jn_PatternParser_step_66 f_PatternParser_stepOpen
  rw [e, if_pos (by decide), kk20, if_neg (nI_ge (by omega) (by omega)), ad_1 hs]
  simp only [ob_some]
  rw [if_neg (by decide), if_pos (sN (by omega) (by omega)), nI_1, nI_clamp (by omega)]
  simp only [ob_some]
  rw [if_pos (by decide), nI_1]
theorem c_b0 {n p d F : Nat} {T : Nat → Nat} {f : Nat → Int32} (hn : n ≤ 60) (hf : Tx n T f) (hp : p < n) (kd nb op : Nat → Int32) (e : T p = 91) (hd : d ≤ 20) : lp_PatternParser_parse_20 60 (nI n) f (F + 1) (nI p) (nI d) 0 (nI 20) kd nb op = some (.inl (nI p, nI d, 0, nI 20, kd, nb, op)) := by
  rw [c_st hn hf hp, c_no hn hf hp kd nb op (by rw [e]; decide) (by omega)]
  unfold jn_PatternParser_step_66 f_PatternParser_stepOpen
  rw [e, if_pos (by decide), ad_0]
  by_cases h : d = 20
  · subst h
    rw [if_pos (by decide)]
    simp only [ob_some]
    rw [if_neg (by decide)]
  · rw [kk20, if_neg (nI_ge (by omega) (by omega))]
    simp only [ob_some]
    rw [if_pos (by decide)]
    simp only [ob_some]
    rw [if_neg (by decide)]
theorem c_c0 {n p s F : Nat} {T : Nat → Nat} {f : Nat → Int32} (hn : n ≤ 60) (hf : Tx n T f) (hp : p < n) (kd nb op : Nat → Int32) (e : T p = 93) : lp_PatternParser_parse_20 60 (nI n) f (F + 1) (nI p) (nI 0) 0 (nI s) kd nb op = some (.inl (nI p, nI 0, 0, nI s, kd, nb, op)) := by
  rw [c_st hn hf hp, c_no hn hf hp kd nb op (by rw [e]; decide) (by omega)]
  unfold jn_PatternParser_step_66 f_PatternParser_stepClose
  rw [e, if_neg (by decide), if_pos (by decide), if_neg (by decide)]
  simp only [ob_some]
  rw [if_neg (by decide)]
theorem c_c1 {n p k a s F : Nat} {T : Nat → Nat} {f : Nat → Int32} (hn : n ≤ 60) (hf : Tx n T f) (hp : p < n) (kd nb op : Nat → Int32) (e : T p = 93) (hk : k < 20) (ho : op k = nI a) (ha : a < s) (hs : s ≤ 20) : lp_PatternParser_parse_20 60 (nI n) f (F + 1) (nI p) (nI (k + 1)) 0 (nI s) kd nb op = lp_PatternParser_parse_20 60 (nI n) f F (nI (p + 1)) (nI k) 0 (nI s) kd (upd nb a (nI s)) op := by
  rw [c_st hn hf hp, c_no hn hf hp kd nb op (by rw [e]; decide) (by omega)]
  unfold jn_PatternParser_step_66 f_PatternParser_stepClose f_Pattern_endSection
  rw [e, if_neg (by decide), if_pos (by decide), nI_pred, ← nI_0, if_pos (nI_lt (by omega) (by omega)), nI_0, if_pos (sN hk (by omega)), nI_clamp (by omega), ho, if_neg (nI_pos (by omega)), if_neg (nI_ge ha (by omega)), if_pos (sN (by omega) (by omega)), nI_clamp (by omega)]
  simp only [ob_some]
  rw [if_pos (by decide), nI_1]
theorem c_e1 {n p d s F : Nat} {T : Nat → Nat} {f : Nat → Int32} (hn : n ≤ 60) (hf : Tx n T f) (hp : p < n) (kd nb op : Nat → Int32) (h : ltr (T p) = false) (e : T p ≠ 39) (e2 : T p ≠ 91) (e3 : T p ≠ 93) (hs : s < 20) : lp_PatternParser_parse_20 60 (nI n) f (F + 1) (nI p) (nI d) 0 (nI s) kd nb op = lp_PatternParser_parse_20 60 (nI n) f F (nI (p + 1)) (nI d) 0 (nI (s + 1)) (upd kd s 15) (upd nb s (nI (T p))) op := by
  have tp := hf p hp
  rw [c_st hn hf hp, c_no hn hf hp kd nb op h e]
  unfold jn_PatternParser_step_66
  rw [if_neg (neL kk91 (by omega) (by omega) e2), if_neg (neL kk93 (by omega) (by omega) e3), dd_1 hs]
  simp only [ob_some]
  rw [if_pos (by decide), nI_1]
theorem c_e0 {n p d F : Nat} {T : Nat → Nat} {f : Nat → Int32} (hn : n ≤ 60) (hf : Tx n T f) (hp : p < n) (kd nb op : Nat → Int32) (h : ltr (T p) = false) (e : T p ≠ 39) (e2 : T p ≠ 91) (e3 : T p ≠ 93) : lp_PatternParser_parse_20 60 (nI n) f (F + 1) (nI p) (nI d) 0 (nI 20) kd nb op = some (.inl (nI p, nI d, 0, nI 20, kd, nb, op)) := by
  have tp := hf p hp
  rw [c_st hn hf hp, c_no hn hf hp kd nb op h e]
  unfold jn_PatternParser_step_66
  rw [if_neg (neL kk91 (by omega) (by omega) e2), if_neg (neL kk93 (by omega) (by omega) e3), dd_0]
  simp only [ob_some]
  rw [if_neg (by decide)]
theorem m_nx {n p : Nat} {T : Nat → Nat} {g : Nat → Int32} (hn : n ≤ 60) (hg : Tx n T g) (hp : p < n) (e1 : ¬ (p + 1 < n ∧ T (p + 1) = 39)) : ∃ u, f_SkeletonClockModel_at (nI n) g (nI (p + 1)) = some u ∧ ¬ u = 39 := by
  by_cases h : p + 1 < n
  · have := hg (p + 1) h
    exact ⟨_, at_n hn hg h, ne39 (by omega) (fun q => e1 ⟨h, q⟩)⟩
  · exact ⟨_, at_o hn (by omega) (by omega), by decide⟩
theorem m_r0 {n p G : Nat} {T : Nat → Nat} {g : Nat → Int32} (hn : n ≤ 60) (hg : Tx n T g) (hp : p < n) (x1 : Int32) (so co cn ar en : Nat → Int32) {sz : Nat → Int32} (h : ltr (T p) = true) {r : Int32} (hr : f_SkeletonClockModel_run (nI n) g (nI p) = some r) (ha : f_SkeletonClockModel_allowed (nI (T p)) r = some 0) : lp_SkeletonClockModel_pattern_12 (nI n) g (G + 1) x1 (nI p) so co cn ar en sz = some (.inl (nI p, so, co, cn, ar, en, sz)) := by
  rw [lp_SkeletonClockModel_pattern_12, st_SkeletonClockModel_pattern_12, if_neg (nI_ge hp (by omega)), at_n hn hg hp, il_c hn hg hp, ob_some, ob_some, if_neg (by rw [h]; decide), hr, ob_some, ha, ob_some, if_pos rfl]
theorem m_r1 {n p s G : Nat} {T : Nat → Nat} {g : Nat → Int32} (hn : n ≤ 60) (hg : Tx n T g) (hp : p < n) (x1 : Int32) (so co cn ar en : Nat → Int32) {sz : Nat → Int32} (h : ltr (T p) = true) {r : Nat} (hr : f_SkeletonClockModel_run (nI n) g (nI p) = some (nI r)) (ha : f_SkeletonClockModel_allowed (nI (T p)) (nI r) = some 1) (hz : sz 6 = nI s) (hs : s < 20) : lp_SkeletonClockModel_pattern_12 (nI n) g (G + 1) x1 (nI p) so co cn ar en sz = lp_SkeletonClockModel_pattern_12 (nI n) g G x1 (nI (p + r)) (upd so (120 + s) 1) (upd co (120 + s) (nI (T p))) (upd cn (120 + s) (nI r)) (upd ar (120 + s) x1) (upd en (120 + s) (nI (s + 1))) (upd sz 6 (nI (s + 1))) := by
  rw [lp_SkeletonClockModel_pattern_12, st_SkeletonClockModel_pattern_12, if_neg (nI_ge hp (by omega)), at_n hn hg hp, il_c hn hg hp, ob_some, ob_some, if_neg (by rw [h]; decide), hr, ob_some, ha, ob_some, if_neg (by decide), pi_1 hz hs]
  simp only [ob_some]
  rw [if_neg (by decide), nI_add]
theorem m_r2 {n p G : Nat} {T : Nat → Nat} {g : Nat → Int32} (hn : n ≤ 60) (hg : Tx n T g) (hp : p < n) (x1 : Int32) (so co cn ar en : Nat → Int32) {sz : Nat → Int32} (h : ltr (T p) = true) {r : Nat} (hr : f_SkeletonClockModel_run (nI n) g (nI p) = some (nI r)) (ha : f_SkeletonClockModel_allowed (nI (T p)) (nI r) = some 1) (hz : sz 6 = nI 20) : lp_SkeletonClockModel_pattern_12 (nI n) g (G + 1) x1 (nI p) so co cn ar en sz = some (.inl (nI p, so, co, cn, ar, en, sz)) := by
  rw [lp_SkeletonClockModel_pattern_12, st_SkeletonClockModel_pattern_12, if_neg (nI_ge hp (by omega)), at_n hn hg hp, il_c hn hg hp, ob_some, ob_some, if_neg (by rw [h]; decide), hr, ob_some, ha, ob_some, if_neg (by decide), pi_0 hz]
  simp only [ob_some]
  rw [if_pos (by decide)]
theorem m_o0 {n p G : Nat} {T : Nat → Nat} {g : Nat → Int32} (hn : n ≤ 60) (hg : Tx n T g) (hp : p < n) (x1 : Int32) (so co cn ar en : Nat → Int32) {sz : Nat → Int32} (e : T p = 39) (e1 : ¬ (p + 1 < n ∧ T (p + 1) = 39)) (hq : f_SkeletonClockModel_quoteEnd (nI n) g (nI p) = some (-1)) : lp_SkeletonClockModel_pattern_12 (nI n) g (G + 1) x1 (nI p) so co cn ar en sz = some (.inl (nI p, so, co, cn, ar, en, sz)) := by
  obtain ⟨u, a, b⟩ := m_nx hn hg hp e1
  rw [lp_SkeletonClockModel_pattern_12, st_SkeletonClockModel_pattern_12, if_neg (nI_ge hp (by omega)), at_n hn hg hp, il_c hn hg hp, ob_some, ob_some, e, if_pos (by decide), if_pos (by decide), nI_1, a, ob_some, if_neg b, hq, ob_some, if_neg (by decide)]
theorem m_o1 {n p q G : Nat} {T : Nat → Nat} {g : Nat → Int32} (hn : n ≤ 60) (hg : Tx n T g) (hp : p < n) (x1 : Int32) (so co cn ar en : Nat → Int32) {sz : Nat → Int32} (e : T p = 39) (e1 : ¬ (p + 1 < n ∧ T (p + 1) = 39)) (hq : f_SkeletonClockModel_quoteEnd (nI n) g (nI p) = some (nI q)) (hqn : q < n) : lp_SkeletonClockModel_pattern_12 (nI n) g (G + 1) x1 (nI p) so co cn ar en sz = (lp_SkeletonClockModel_pattern_108 (nI n) g x1 (nI q) FU (nI (p + 1)) so co cn ar en sz).bind fun u27 => sel u27 (fun o29 => some (.inl o29)) (fun v30 => (lp_SkeletonClockModel_pattern_12 (nI n) g G x1 (nI (q + 1)) v30.2.1 v30.2.2.1 v30.2.2.2.1 v30.2.2.2.2.1 v30.2.2.2.2.2.1 v30.2.2.2.2.2.2)) := by
  obtain ⟨u, a, b⟩ := m_nx hn hg hp e1
  rw [lp_SkeletonClockModel_pattern_12, st_SkeletonClockModel_pattern_12, if_neg (nI_ge hp (by omega)), at_n hn hg hp, il_c hn hg hp, ob_some, ob_some, e, if_pos (by decide), if_pos (by decide), nI_1, a, ob_some, if_neg b, hq, ob_some, if_pos (nI_pos' (by omega)), nI_1]
theorem m_d1 {n p s G : Nat} {T : Nat → Nat} {g : Nat → Int32} (hn : n ≤ 60) (hg : Tx n T g) (hp : p < n) (x1 : Int32) (so co cn ar en : Nat → Int32) {sz : Nat → Int32} (e : T p = 39) (hp1 : p + 1 < n) (e1 : T (p + 1) = 39) (hz : sz 6 = nI s) (hs : s < 20) : lp_SkeletonClockModel_pattern_12 (nI n) g (G + 1) x1 (nI p) so co cn ar en sz = lp_SkeletonClockModel_pattern_12 (nI n) g G x1 (nI (p + 2)) (upd so (120 + s) 0) (upd co (120 + s) (nI 39)) (upd cn (120 + s) 0) (upd ar (120 + s) x1) (upd en (120 + s) (nI (s + 1))) (upd sz 6 (nI (s + 1))) := by
  rw [lp_SkeletonClockModel_pattern_12, st_SkeletonClockModel_pattern_12, if_neg (nI_ge hp (by omega)), at_n hn hg hp, il_c hn hg hp, ob_some, ob_some, e, if_pos (by decide), if_pos (by decide), nI_1, at_n hn hg hp1, ob_some, e1, if_pos (by decide), if_neg (by decide), if_neg (by decide), pi_1 hz hs]
  simp only [ob_some]
  rw [if_neg (by decide), if_neg (by decide), if_pos (by decide), kk2, nI_add]
theorem m_d0 {n p G : Nat} {T : Nat → Nat} {g : Nat → Int32} (hn : n ≤ 60) (hg : Tx n T g) (hp : p < n) (x1 : Int32) (so co cn ar en : Nat → Int32) {sz : Nat → Int32} (e : T p = 39) (hp1 : p + 1 < n) (e1 : T (p + 1) = 39) (hz : sz 6 = nI 20) : lp_SkeletonClockModel_pattern_12 (nI n) g (G + 1) x1 (nI p) so co cn ar en sz = some (.inl (nI p, so, co, cn, ar, en, sz)) := by
  rw [lp_SkeletonClockModel_pattern_12, st_SkeletonClockModel_pattern_12, if_neg (nI_ge hp (by omega)), at_n hn hg hp, il_c hn hg hp, ob_some, ob_some, e, if_pos (by decide), if_pos (by decide), nI_1, at_n hn hg hp1, ob_some, e1, if_pos (by decide), if_neg (by decide), if_neg (by decide), pi_0 hz]
  simp only [ob_some]
  rw [if_pos (by decide)]
theorem m_c0 {n p G : Nat} {T : Nat → Nat} {g : Nat → Int32} (hn : n ≤ 60) (hg : Tx n T g) (hp : p < n) (so co cn ar en : Nat → Int32) {sz : Nat → Int32} (e : T p = 93) : lp_SkeletonClockModel_pattern_12 (nI n) g (G + 1) (-1) (nI p) so co cn ar en sz = some (.inl (nI p, so, co, cn, ar, en, sz)) := by
  rw [lp_SkeletonClockModel_pattern_12, st_SkeletonClockModel_pattern_12, if_neg (nI_ge hp (by omega)), at_n hn hg hp, il_c hn hg hp, ob_some, ob_some, e, if_pos (by decide), if_neg (by decide), if_pos (by decide), if_neg (by decide)]
theorem m_c1 {n p s a G : Nat} {T : Nat → Nat} {g : Nat → Int32} (hn : n ≤ 60) (hg : Tx n T g) (hp : p < n) (so co cn ar en : Nat → Int32) {sz : Nat → Int32} (e : T p = 93) (ha : a < s) (hs : s ≤ 20) (hz : sz 6 = nI s) : lp_SkeletonClockModel_pattern_12 (nI n) g (G + 1) (nI a) (nI p) so co cn ar en sz = lp_SkeletonClockModel_pattern_12 (nI n) g G (ar (120 + a)) (nI (p + 1)) so co cn ar (upd en (120 + a) (nI s)) sz := by
  have i := sN (n := 120 + a) (N := 140) (by omega) (by omega)
  rw [lp_SkeletonClockModel_pattern_12, st_SkeletonClockModel_pattern_12, if_neg (nI_ge hp (by omega)), at_n hn hg hp, il_c hn hg hp, ob_some, ob_some, e, if_pos (by decide), if_neg (by decide), if_pos (by decide), if_pos (nI_pos' (by omega)), kk120, nI_add, if_pos i, if_pos i, cl6, hz, nI_clamp (by omega), nI_1]
theorem m_b1 {n p s G : Nat} {T : Nat → Nat} {g : Nat → Int32} (hn : n ≤ 60) (hg : Tx n T g) (hp : p < n) (x1 : Int32) (so co cn ar en : Nat → Int32) {sz : Nat → Int32} (e : T p = 91) (hz : sz 6 = nI s) (hs : s < 20) : lp_SkeletonClockModel_pattern_12 (nI n) g (G + 1) x1 (nI p) so co cn ar en sz = lp_SkeletonClockModel_pattern_12 (nI n) g G (nI s) (nI (p + 1)) (upd so (120 + s) 2) (upd co (120 + s) (nI 91)) (upd cn (120 + s) 0) (upd ar (120 + s) x1) (upd en (120 + s) (nI (s + 1))) (upd sz 6 (nI (s + 1))) := by
  rw [lp_SkeletonClockModel_pattern_12, st_SkeletonClockModel_pattern_12, if_neg (nI_ge hp (by omega)), at_n hn hg hp, il_c hn hg hp, ob_some, ob_some, e, if_pos (by decide), if_neg (by decide), if_neg (by decide), if_pos (by decide), pi_1 hz hs]
  simp only [ob_some]
  rw [if_neg (by decide), if_pos (by decide), if_neg (by decide), cl6, pk_us, nI_pred, nI_1]
theorem m_b0 {n p G : Nat} {T : Nat → Nat} {g : Nat → Int32} (hn : n ≤ 60) (hg : Tx n T g) (hp : p < n) (x1 : Int32) (so co cn ar en : Nat → Int32) {sz : Nat → Int32} (e : T p = 91) (hz : sz 6 = nI 20) : lp_SkeletonClockModel_pattern_12 (nI n) g (G + 1) x1 (nI p) so co cn ar en sz = some (.inl (nI p, so, co, cn, ar, en, sz)) := by
  rw [lp_SkeletonClockModel_pattern_12, st_SkeletonClockModel_pattern_12, if_neg (nI_ge hp (by omega)), at_n hn hg hp, il_c hn hg hp, ob_some, ob_some, e, if_pos (by decide), if_neg (by decide), if_neg (by decide), if_pos (by decide), pi_0 hz]
  simp only [ob_some]
  rw [if_pos (by decide)]
theorem m_e1 {n p s G : Nat} {T : Nat → Nat} {g : Nat → Int32} (hn : n ≤ 60) (hg : Tx n T g) (hp : p < n) (x1 : Int32) (so co cn ar en : Nat → Int32) {sz : Nat → Int32} (h : ltr (T p) = false) (e : T p ≠ 39) (e2 : T p ≠ 91) (e3 : T p ≠ 93) (hz : sz 6 = nI s) (hs : s < 20) : lp_SkeletonClockModel_pattern_12 (nI n) g (G + 1) x1 (nI p) so co cn ar en sz = lp_SkeletonClockModel_pattern_12 (nI n) g G x1 (nI (p + 1)) (upd so (120 + s) 0) (upd co (120 + s) (nI (T p))) (upd cn (120 + s) 0) (upd ar (120 + s) x1) (upd en (120 + s) (nI (s + 1))) (upd sz 6 (nI (s + 1))) := by
  have tp := hg p hp
  have q39 := neL kk39 (by omega) (by omega) e
  have q91 := neL kk91 (by omega) (by omega) e2
  have q93 := neL kk93 (by omega) (by omega) e3
  rw [lp_SkeletonClockModel_pattern_12, st_SkeletonClockModel_pattern_12, if_neg (nI_ge hp (by omega)), at_n hn hg hp, il_c hn hg hp, ob_some, ob_some, if_pos (by rw [h]; decide), if_neg q39, if_neg q93, if_neg q91, pi_1 hz hs]
  simp only [ob_some]
  rw [if_neg (by decide), if_neg q91, if_neg q39, nI_1]
theorem m_e0 {n p G : Nat} {T : Nat → Nat} {g : Nat → Int32} (hn : n ≤ 60) (hg : Tx n T g) (hp : p < n) (x1 : Int32) (so co cn ar en : Nat → Int32) {sz : Nat → Int32} (h : ltr (T p) = false) (e : T p ≠ 39) (e2 : T p ≠ 91) (e3 : T p ≠ 93) (hz : sz 6 = nI 20) : lp_SkeletonClockModel_pattern_12 (nI n) g (G + 1) x1 (nI p) so co cn ar en sz = some (.inl (nI p, so, co, cn, ar, en, sz)) := by
  have tp := hg p hp
  have q39 := neL kk39 (by omega) (by omega) e
  have q91 := neL kk91 (by omega) (by omega) e2
  have q93 := neL kk93 (by omega) (by omega) e3
  rw [lp_SkeletonClockModel_pattern_12, st_SkeletonClockModel_pattern_12, if_neg (nI_ge hp (by omega)), at_n hn hg hp, il_c hn hg hp, ob_some, ob_some, if_pos (by rw [h]; decide), if_neg q39, if_neg q93, if_neg q91, pi_0 hz]
  simp only [ob_some]
  rw [if_pos (by decide)]
