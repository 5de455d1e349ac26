/-! The parser on both sides: one step of each. -/
theorem ad_1 {s : Nat} (hs : s < 20) (kd nb : Nat → Int32) (k m : Int32) : f_Pattern_add (nI s) kd nb k m = some (1, nI (s + 1), upd kd s k, upd nb s m) := by
  unfold f_Pattern_add
  rw [kk20, if_pos (nI_lt hs (by omega)), if_pos (sN hs (by omega)), if_pos (sN hs (by omega)), nI_1, nI_clamp (by omega)]
theorem ad_0 (kd nb : Nat → Int32) (k m : Int32) : f_Pattern_add (nI 20) kd nb k m = some (0, nI 20, kd, nb) := by
  unfold f_Pattern_add
  rw [if_neg (by decide)]
theorem dd_1 {s : Nat} (hs : s < 20) (kd nb : Nat → Int32) (k m w : Int32) : f_PatternParser_added (nI s) kd nb k m w = some (w, nI (s + 1), upd kd s k, upd nb s m) := by
  unfold f_PatternParser_added
  rw [ad_1 hs, ob_some]
  dsimp only
  rw [if_neg (by decide)]
theorem dd_0 (kd nb : Nat → Int32) (k m w : Int32) : f_PatternParser_added (nI 20) kd nb k m w = some (0, nI 20, kd, nb) := by
  unfold f_PatternParser_added
  rw [ad_0, ob_some]
  dsimp only
  rw [if_pos (by decide)]
theorem cl6 : (6 : Int32).toNatClampNeg = 6 := by decide
theorem pi_1 {s : Nat} {sz : Nat → Int32} (h : sz 6 = nI s) (hs : s < 20) (so co cn ar en : Nat → Int32) (a b c x : Int32) : f_SkeletonClockModel_piece so co cn ar en sz a b c x = some (1, upd so (120 + s) a, upd co (120 + s) b, upd cn (120 + s) c, upd ar (120 + s) x, upd en (120 + s) (nI (s + 1)), upd sz 6 (nI (s + 1))) := by
  unfold f_SkeletonClockModel_piece
  have e : (120 : Int32) + nI s = nI (120 + s) := by rw [kk120, nI_add]
  have i := sN (n := 120 + s) (N := 140) (by omega) (by omega)
  rw [cl6, h, e, if_neg (fun q => by have := (nI_eq (by omega) (by decide)).mp (q.trans kk20); omega), if_pos i, if_pos i, if_pos i, if_pos i, if_pos i, nI_clamp (by omega), nI_1]
theorem pi_0 {sz : Nat → Int32} (h : sz 6 = nI 20) (so co cn ar en : Nat → Int32) (a b c x : Int32) : f_SkeletonClockModel_piece so co cn ar en sz a b c x = some (0, so, co, cn, ar, en, sz) := by
  unfold f_SkeletonClockModel_piece
  rw [cl6, h, if_pos (by decide)]
def sh (f : Nat → Int32) (j : Nat) : Int32 := f (120 + j)
theorem sh_s {f : Nat → Int32} {s : Nat} {v : Int32} : sh (upd f (120 + s) v) s = v := pk_us
theorem sh_n {f : Nat → Int32} {s j : Nat} {v : Int32} (h : j ≠ s) : sh (upd f (120 + s) v) j = sh f j := pk_un (by omega)
def FR (so co cn ar en sz so' co' cn' ar' en' sz' : Nat → Int32) : Prop := (∀ j, j < 120 → so' j = so j ∧ co' j = co j ∧ cn' j = cn j ∧ ar' j = ar j ∧ en' j = en j) ∧ ∀ k, k < 6 → sz' k = sz k
theorem FR_rf {so co cn ar en sz : Nat → Int32} : FR so co cn ar en sz so co cn ar en sz := ⟨fun j _ => ⟨rfl, rfl, rfl, rfl, rfl⟩, fun k _ => rfl⟩
theorem FR_tr {so co cn ar en sz so' co' cn' ar' en' sz' so2 co2 cn2 ar2 en2 sz2 : Nat → Int32} (h : FR so co cn ar en sz so' co' cn' ar' en' sz') (h2 : FR so' co' cn' ar' en' sz' so2 co2 cn2 ar2 en2 sz2) : FR so co cn ar en sz so2 co2 cn2 ar2 en2 sz2 := ⟨fun j hj => by
  obtain ⟨a1, a2, a3, a4, a5⟩ := h.1 j hj
  obtain ⟨b1, b2, b3, b4, b5⟩ := h2.1 j hj
  exact ⟨b1.trans a1, b2.trans a2, b3.trans a3, b4.trans a4, b5.trans a5⟩, fun k hk => (h2.2 k hk).trans (h.2 k hk)⟩
theorem FR_up {so co cn ar en sz : Nat → Int32} {s : Nat} {a b c x y z : Int32} : FR so co cn ar en sz (upd so (120 + s) a) (upd co (120 + s) b) (upd cn (120 + s) c) (upd ar (120 + s) x) (upd en (120 + s) y) (upd sz 6 z) := ⟨fun j hj => ⟨pk_un (by omega), pk_un (by omega), pk_un (by omega), pk_un (by omega), pk_un (by omega)⟩, fun k hk => pk_un (by omega)⟩
theorem FR_en {so co cn ar en sz : Nat → Int32} {s : Nat} {y : Int32} : FR so co cn ar en sz so co cn ar (upd en (120 + s) y) sz := ⟨fun j hj => ⟨rfl, rfl, rfl, rfl, pk_un (by omega)⟩, fun k hk => rfl⟩
/-- a state of both parsers -/
def ST (s d : Nat) (kd nb op : Nat → Int32) (x1 : Int32) (so co cn ar en sz : Nat → Int32) (E : Nat → Nat) : Prop := s ≤ 20 ∧ sz 6 = nI s ∧ PV s kd nb (sh so) (sh co) (sh cn) (sh ar) (sh en) E ∧ PO s d op (sh so) E x1
theorem st_add {s d : Nat} {kd nb op so co cn ar en sz : Nat → Int32} {x1 : Int32} {E : Nat → Nat} (h : ST s d kd nb op x1 so co cn ar en sz E) (hs : s < 20) {k m a b c : Int32} (hc : PC k m a b c) (y : Int32) : ST (s + 1) d (upd kd s k) (upd nb s m) op x1 (upd so (120 + s) a) (upd co (120 + s) b) (upd cn (120 + s) c) (upd ar (120 + s) x1) (upd en (120 + s) y) (upd sz 6 (nI (s + 1))) E := by
  obtain ⟨h1, h2, h3, h4⟩ := h
  refine ⟨hs, pk_us, PV_ar h3 h1 h4 (fun j hj => ?_) sh_s (Or.inl ?_), PO_add h4 (fun j hj => sh_n (by omega)) ?_⟩
  · exact ⟨pk_un (by omega), pk_un (by omega), sh_n (by omega), sh_n (by omega), sh_n (by omega), sh_n (by omega), sh_n (by omega), rfl⟩
  · rw [pk_us, pk_us, sh_s, sh_s, sh_s]
    exact hc
  · rw [sh_s]
    exact PC_ne hc
theorem st_open {s d : Nat} {kd nb op so co cn ar en sz : Nat → Int32} {x1 : Int32} {E : Nat → Nat} (h : ST s d kd nb op x1 so co cn ar en sz E) (hs : s < 20) (m b c y : Int32) : ST (s + 1) (d + 1) (upd kd s 16) (upd nb s m) (upd op d (nI s)) (nI s) (upd so (120 + s) 2) (upd co (120 + s) b) (upd cn (120 + s) c) (upd ar (120 + s) x1) (upd en (120 + s) y) (upd sz 6 (nI (s + 1))) (fun j => if j = s then 1000 else E j) := by
  obtain ⟨h1, h2, h3, h4⟩ := h
  refine ⟨hs, pk_us, PV_ar h3 h1 h4 (fun j hj => ?_) sh_s (Or.inr ⟨sh_s, pk_us, ?_⟩), PO_open h4 (fun j hj => ⟨sh_n (by omega), ?_⟩) sh_s ?_⟩
  · refine ⟨pk_un (by omega), pk_un (by omega), sh_n (by omega), sh_n (by omega), sh_n (by omega), sh_n (by omega), sh_n (by omega), ?_⟩
    exact if_neg (by omega)
  · exact if_pos rfl
  · exact if_neg (by omega)
  · exact if_pos rfl
theorem st_close {s k : Nat} {kd nb op so co cn ar en sz : Nat → Int32} {x1 : Int32} {E : Nat → Nat} (h : ST s (k + 1) kd nb op x1 so co cn ar en sz E) : ∃ a E', a < s ∧ op k = nI a ∧ x1 = nI a ∧ ST s k kd (upd nb a (nI s)) op (ar (120 + a)) so co cn ar (upd en (120 + a) (nI s)) sz E' := by
  obtain ⟨h1, h2, h3, h4⟩ := h
  obtain ⟨a, b1, b2, b3, b4, b5⟩ := PV_close (en' := en) h3 h1 h4 rfl
  exact ⟨a, _, b1, b2, b3, h1, h2, b4 _ (fun j hj hja => sh_n hja) sh_s, b5⟩
theorem c_st {n p F : Nat} {T : Nat → Nat} {f : Nat → Int32} (hn : n ≤ 60) (hf : Tx n T f) (hp : p < n) (kd nb op : Nat → Int32) (q sz0 : Int32) (dd : Int32) : lp_PatternParser_parse_20 60 (nI n) f (F + 1) (nI p) dd q sz0 kd nb op = (f_PatternParser_step 60 dd q sz0 kd nb op (nI n) f (nI p)).bind fun u1 => (if 0 < u1.1 then (lp_PatternParser_parse_20 60 (nI n) f F (nI p + u1.1) u1.2.1 u1.2.2.1 u1.2.2.2.1 u1.2.2.2.2.1 u1.2.2.2.2.2.1 u1.2.2.2.2.2.2) else (some (.inl (nI p, u1.2.1, u1.2.2.1, u1.2.2.2.1, u1.2.2.2.2.1, u1.2.2.2.2.2.1, u1.2.2.2.2.2.2)))) := by
  rw [lp_PatternParser_parse_20, st_PatternParser_parse_20, if_neg (nI_ge hp (by omega))]
theorem c_q1 {n p d s F : Nat} {T : Nat → Nat} {f : Nat → Int32} (hn : n ≤ 60) (hf : Tx n T f) (hp : p < n) (kd nb op : Nat → Int32) (e : T p ≠ 39) (hs : s < 20) : lp_PatternParser_parse_20 60 (nI n) f (F + 1) (nI p) (nI d) 1 (nI s) kd nb op = lp_PatternParser_parse_20 60 (nI n) f F (nI (p + 1)) (nI d) 1 (nI (s + 1)) (upd kd s 15) (upd nb s (nI (T p))) op := by
  have tp := hf p hp
  rw [c_st hn hf hp]
  unfold f_PatternParser_step
  rw [ca_n hn hf hp, ob_some, if_neg (ne39 (by omega) e), if_neg (by decide), dd_1 hs]
  simp only [ob_some]
  rw [if_pos (by decide), nI_1]
theorem c_q1f {n p d F : Nat} {T : Nat → Nat} {f : Nat → Int32} (hn : n ≤ 60) (hf : Tx n T f) (hp : p < n) (kd nb op : Nat → Int32) (e : T p ≠ 39) : lp_PatternParser_parse_20 60 (nI n) f (F + 1) (nI p) (nI d) 1 (nI 20) kd nb op = some (.inl (nI p, nI d, 1, nI 20, kd, nb, op)) := by
  have tp := hf p hp
  rw [c_st hn hf hp]
  unfold f_PatternParser_step
  rw [ca_n hn hf hp, ob_some, if_neg (ne39 (by omega) e), if_neg (by decide), dd_0]
  simp only [ob_some]
  rw [if_neg (by decide)]
theorem c_d {n p d s F : Nat} {T : Nat → Nat} {f : Nat → Int32} (hn : n ≤ 60) (hf : Tx n T f) (hp : p < n) (kd nb op : Nat → Int32) (q : Int32) (e : T p = 39) (hp1 : p + 1 < n) (e1 : T (p + 1) = 39) (hs : s < 20) : lp_PatternParser_parse_20 60 (nI n) f (F + 1) (nI p) (nI d) q (nI s) kd nb op = lp_PatternParser_parse_20 60 (nI n) f F (nI (p + 2)) (nI d) q (nI (s + 1)) (upd kd s 15) (upd nb s 39) op := by
  rw [c_st hn hf hp]
  unfold f_PatternParser_step f_PatternParser_stepMark
  rw [ca_n hn hf hp, ob_some, e, if_pos (by decide), nI_1, ca_n hn hf hp1, ob_some, e1, if_pos (by decide), dd_1 hs]
  simp only [ob_some]
  rw [if_pos (by decide), kk2, nI_add]
theorem c_df {n p d F : Nat} {T : Nat → Nat} {f : Nat → Int32} (hn : n ≤ 60) (hf : Tx n T f) (hp : p < n) (kd nb op : Nat → Int32) (q : Int32) (e : T p = 39) (hp1 : p + 1 < n) (e1 : T (p + 1) = 39) : lp_PatternParser_parse_20 60 (nI n) f (F + 1) (nI p) (nI d) q (nI 20) kd nb op = some (.inl (nI p, nI d, q, nI 20, kd, nb, op)) := by
  rw [c_st hn hf hp]
  unfold f_PatternParser_step f_PatternParser_stepMark
  rw [ca_n hn hf hp, ob_some, e, if_pos (by decide), nI_1, ca_n hn hf hp1, ob_some, e1, if_pos (by decide), dd_0]
  simp only [ob_some]
  rw [if_neg (by decide)]
theorem c_nx {n p : Nat} {T : Nat → Nat} {f : Nat → Int32} (hn : n ≤ 60) (hf : Tx n T f) (hp : p < n) (e1 : ¬ (p + 1 < n ∧ T (p + 1) = 39)) : ∃ u, f_Row_codeAt 60 (nI n) f (nI (p + 1)) = some u ∧ ¬ u = 39 := by
  by_cases h : p + 1 < n
  · have := hf (p + 1) h
    exact ⟨_, ca_n hn hf h, ne39 (by omega) (fun q => e1 ⟨h, q⟩)⟩
  · exact ⟨_, ca_o hn (by omega) (by omega), by decide⟩
theorem c_q0 {n p d s F : Nat} {T : Nat → Nat} {f : Nat → Int32} (hn : n ≤ 60) (hf : Tx n T f) (hp : p < n) (kd nb op : Nat → Int32) (e : T p = 39) (e1 : ¬ (p + 1 < n ∧ T (p + 1) = 39)) : lp_PatternParser_parse_20 60 (nI n) f (F + 1) (nI p) (nI d) 1 (nI s) kd nb op = lp_PatternParser_parse_20 60 (nI n) f F (nI (p + 1)) (nI d) 0 (nI s) kd nb op := by
  obtain ⟨u, a, b⟩ := c_nx hn hf hp e1
  rw [c_st hn hf hp]
  unfold f_PatternParser_step f_PatternParser_stepMark
  rw [ca_n hn hf hp, ob_some, e, if_pos (by decide), nI_1, a, ob_some, if_neg b, if_neg (by decide), if_neg (by decide)]
  simp only [ob_some]
  rw [if_pos (by decide), nI_1]
theorem c_o1 {n p d s F : Nat} {T : Nat → Nat} {f : Nat → Int32} (hn : n ≤ 60) (hf : Tx n T f) (hp : p < n) (kd nb op : Nat → Int32) (e : T p = 39) (e1 : ¬ (p + 1 < n ∧ T (p + 1) = 39)) (h : f_PatternParser_quoteEnds 60 (nI n) f (nI p) = some 1) : lp_PatternParser_parse_20 60 (nI n) f (F + 1) (nI p) (nI d) 0 (nI s) kd nb op = lp_PatternParser_parse_20 60 (nI n) f F (nI (p + 1)) (nI d) 1 (nI s) kd nb op := by
  obtain ⟨u, a, b⟩ := c_nx hn hf hp e1
  rw [c_st hn hf hp]
  unfold f_PatternParser_step f_PatternParser_stepMark
  rw [ca_n hn hf hp, ob_some, e, if_pos (by decide), nI_1, a, ob_some, if_neg b, if_pos rfl, h, ob_some, if_neg (by decide), if_pos rfl]
  simp only [ob_some]
  rw [if_pos (by decide), nI_1]
theorem c_o0 {n p d s F : Nat} {T : Nat → Nat} {f : Nat → Int32} (hn : n ≤ 60) (hf : Tx n T f) (hp : p < n) (kd nb op : Nat → Int32) (e : T p = 39) (e1 : ¬ (p + 1 < n ∧ T (p + 1) = 39)) (h : f_PatternParser_quoteEnds 60 (nI n) f (nI p) = some 0) : lp_PatternParser_parse_20 60 (nI n) f (F + 1) (nI p) (nI d) 0 (nI s) kd nb op = some (.inl (nI p, nI d, 0, nI s, kd, nb, op)) := by
  obtain ⟨u, a, b⟩ := c_nx hn hf hp e1
  rw [c_st hn hf hp]
  unfold f_PatternParser_step f_PatternParser_stepMark
  rw [ca_n hn hf hp, ob_some, e, if_pos (by decide), nI_1, a, ob_some, if_neg b, if_pos rfl, h, ob_some, if_pos rfl]
  simp only [ob_some]
  rw [if_neg (by decide)]
/-- what a step does with no quote open: a letter, or another sign -/
theorem c_lt {n p d s : Nat} {T : Nat → Nat} {f : Nat → Int32} (hn : n ≤ 60) (hf : Tx n T f) (hp : p < n) (kd nb op : Nat → Int32) (h : ltr (T p) = true) : f_PatternParser_step 60 (nI d) 0 (nI s) kd nb op (nI n) f (nI p) = (f_PatternParser_stepRun 60 (nI s) kd nb (nI n) f (nI p)).bind fun u11 => some (u11.1, nI d, 0, u11.2.1, u11.2.2.1, u11.2.2.2, op) := by
  have tp := hf p hp
  unfold f_PatternParser_step jn_PatternParser_step_47
  rw [ca_n hn hf hp, ob_some]
  have h2 : (97 ≤ T p ∧ T p ≤ 122) ∨ (65 ≤ T p ∧ T p ≤ 90) := by
    unfold ltr at h
    simpa using h
  rw [if_neg (ne39 (by omega) (by omega)), if_pos rfl, kk97, kk122, kk65, kk90]
  rcases h2 with h2 | h2
  · rw [if_neg (nI_nlt (by omega) (by omega)), if_pos (nI_le (by omega) (by omega))]
  · rw [if_pos (nI_lt (by omega) (by omega)), if_neg (nI_nlt (by omega) (by omega)), if_neg (nI_nlt (by omega) (by omega))]
theorem c_no {n p d s : Nat} {T : Nat → Nat} {f : Nat → Int32} (hn : n ≤ 60) (hf : Tx n T f) (hp : p < n) (kd nb op : Nat → Int32) (h : ltr (T p) = false) (e : T p ≠ 39) : f_PatternParser_step 60 (nI d) 0 (nI s) kd nb op (nI n) f (nI p) = jn_PatternParser_step_66 60 (nI d) 0 (nI s) kd nb op (nI n) f (nI (T p)) := by
  have tp := hf p hp
  unfold f_PatternParser_step jn_PatternParser_step_47
  rw [ca_n hn hf hp, ob_some]
  have h2 : ¬ ((97 ≤ T p ∧ T p ≤ 122) ∨ (65 ≤ T p ∧ T p ≤ 90)) := fun q => by
    unfold ltr at h
    have : ((decide (97 ≤ T p) && decide (T p ≤ 122)) || (decide (65 ≤ T p) && decide (T p ≤ 90))) = true := by simpa using q
    rw [h] at this
    exact absurd this (by decide)
  rw [if_neg (ne39 (by omega) e), if_pos rfl, kk97, kk122, kk65, kk90]
  by_cases a : T p < 97
  · rw [if_pos (nI_lt a (by omega))]
    by_cases b : T p < 65
    · rw [if_pos (nI_lt b (by omega))]
    · rw [if_neg (nI_nlt (by omega) (by omega)), if_pos (nI_lt (by omega) (by omega))]
  · rw [if_neg (nI_nlt (by omega) (by omega)), if_neg (nI_ge (by omega) (by omega)), if_neg (nI_nlt (by omega) (by omega)), if_pos (nI_lt (by omega) (by omega))]
