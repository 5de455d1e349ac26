/-! The parser on both sides: the pieces. -/
/-- the open sections; x1: the reference's section -/
def PO (s d : Nat) (op so : Nat → Int32) (E : Nat → Nat) (x1 : Int32) : Prop := ∃ o : Nat → Nat, (∀ i, i < d → op i = nI (o i) ∧ o i < s ∧ so (o i) = 2 ∧ E (o i) = 1000) ∧ (∀ i k, i < k → k < d → o i < o k) ∧ (∀ a, a < s → so a = 2 → E a = 1000 → ∃ i, i < d ∧ o i = a) ∧ (d = 0 → x1 = -1) ∧ (∀ k, d = k + 1 → x1 = nI (o k))
theorem PO_d {s d : Nat} {op so : Nat → Int32} {E : Nat → Nat} {x1 : Int32} (h : PO s d op so E x1) : d ≤ s := by
  obtain ⟨o, h1, h2, -⟩ := h
  have hi : ∀ i, i < d → i ≤ o i := by
    intro i
    induction i with
    | zero => intro _; omega
    | succ i ih =>
      intro hd
      have := ih (by omega)
      have := h2 i (i + 1) (by omega) hd
      omega
  by_cases hd : d = 0
  · omega
  · have a := hi (d - 1) (by omega)
    have b := (h1 (d - 1) (by omega)).2.1
    omega
theorem PC_ne {kd nb so co cn : Int32} (h : PC kd nb so co cn) : so ≠ 2 := by
  rcases h with h | h
  · rw [h.1]
    decide
  · rw [h.1]
    decide
theorem PV_E {s j : Nat} {kd nb so co cn ar en : Nat → Int32} {E : Nat → Nat} (h : PV s kd nb so co cn ar en E) (hj : j < s) (h2 : so j = 2) : j < E j ∧ (E j ≤ s ∨ E j = 1000) := by
  rcases h.1 j hj with a | ⟨-, -, a, b⟩
  · exact absurd h2 (PC_ne a)
  · rcases b with b | b
    · exact ⟨a, Or.inl b.1⟩
    · exact ⟨a, Or.inr b⟩
/-- the section around a new piece -/
theorem PO_ar {s d : Nat} {kd nb so co cn ar en op : Nat → Int32} {E : Nat → Nat} {x1 : Int32} (h : PV s kd nb so co cn ar en E) (hs : s ≤ 20) (hO : PO s d op so E x1) : (x1 = -1 ∧ ∀ a, a < s → so a = 2 → E a ≤ s) ∨ ∃ a, a < s ∧ x1 = nI a ∧ so a = 2 ∧ E a = 1000 ∧ ∀ b, a < b → b < s → so b = 2 → E b ≤ s := by
  obtain ⟨o, h1, h2, h3, h4, h5⟩ := hO
  by_cases hd : d = 0
  · refine Or.inl ⟨h4 hd, fun a ha h2 => ?_⟩
    rcases (PV_E h ha h2).2 with e | e
    · exact e
    · obtain ⟨i, hi, -⟩ := h3 a ha h2 e
      omega
  · obtain ⟨k, rfl⟩ : ∃ k, d = k + 1 := ⟨d - 1, by omega⟩
    have a := h1 k (by omega)
    refine Or.inr ⟨o k, a.2.1, h5 k rfl, a.2.2.1, a.2.2.2, fun b hb hb2 hb3 => ?_⟩
    rcases (PV_E h hb2 hb3).2 with e | e
    · exact e
    · obtain ⟨i, hi, e2⟩ := h3 b hb2 hb3 e
      by_cases hk : i = k
      · subst hk
        omega
      · have := h2 i k (by omega) (by omega)
        omega
theorem PV_ar {s d : Nat} {kd nb so co cn ar en op kd' nb' so' co' cn' ar' en' : Nat → Int32} {E E' : Nat → Nat} {x1 : Int32} (h : PV s kd nb so co cn ar en E) (hs : s ≤ 20) (hO : PO s d op so E x1) (hq : ∀ j, j < s → kd' j = kd j ∧ nb' j = nb j ∧ so' j = so j ∧ co' j = co j ∧ cn' j = cn j ∧ ar' j = ar j ∧ en' j = en j ∧ E' j = E j) (har : ar' s = x1) (hc : PC (kd' s) (nb' s) (so' s) (co' s) (cn' s) ∨ (so' s = 2 ∧ kd' s = 16 ∧ E' s = 1000)) : PV (s + 1) kd' nb' so' co' cn' ar' en' E' := by
  have hp := PO_ar h hs hO
  obtain ⟨g1, g2, g3⟩ := h
  refine ⟨fun j hj => ?_, fun j hj => ?_, fun a b hab hb ha2 hb2 hE => ?_⟩
  · by_cases e : j = s
    · subst e
      rcases hc with hc | ⟨a, b, c⟩
      · exact Or.inl hc
      · exact Or.inr ⟨a, b, by omega, Or.inr c⟩
    · obtain ⟨q1, q2, q3, q4, q5, q6, q7, q8⟩ := hq j (by omega)
      rw [q1, q2, q3, q4, q5, q7, q8]
      rcases g1 j (by omega) with a | ⟨a, b, c, d⟩
      · exact Or.inl a
      · refine Or.inr ⟨a, b, c, ?_⟩
        rcases d with ⟨d1, d2⟩ | d
        · exact Or.inl ⟨by omega, d2⟩
        · exact Or.inr d
  · by_cases e : j = s
    · subst e
      rw [har]
      rcases hp with ⟨a, b⟩ | ⟨a, b, c, d, e, f⟩
      · refine Or.inl ⟨a, fun i hi hi2 => ?_⟩
        obtain ⟨q1, q2, q3, q4, q5, q6, q7, q8⟩ := hq i hi
        rw [q8]
        exact b i hi (q3 ▸ hi2)
      · obtain ⟨q1, q2, q3, q4, q5, q6, q7, q8⟩ := hq a b
        refine Or.inr ⟨a, b, c, q3.trans d, by omega, fun i hi hi2 hi3 => ?_⟩
        obtain ⟨q1, q2, q3, q4, q5, q6, q7, q8⟩ := hq i hi2
        rw [q8]
        exact f i hi hi2 (q3 ▸ hi3)
    · obtain ⟨q1, q2, q3, q4, q5, q6, q7, q8⟩ := hq j (by omega)
      rw [q6]
      rcases g2 j (by omega) with ⟨a, b⟩ | ⟨a, b, c, d, e, f⟩
      · refine Or.inl ⟨a, fun i hi hi2 => ?_⟩
        obtain ⟨q1, q2, q3, q4, q5, q6, q7, q8⟩ := hq i (by omega)
        rw [q8]
        exact b i hi (q3 ▸ hi2)
      · obtain ⟨q1, q2, q3, q4, q5, q6, q7, q8⟩ := hq a (by omega)
        refine Or.inr ⟨a, b, c, q3.trans d, by omega, fun i hi hi2 hi3 => ?_⟩
        obtain ⟨q1, q2, q3, q4, q5, q6, q7, q8⟩ := hq i (by omega)
        rw [q8]
        exact f i hi hi2 (q3 ▸ hi3)
  · have qa := hq a (by omega)
    rw [qa.2.2.2.2.2.2.2] at hE ⊢
    have ha2 : so a = 2 := qa.2.2.1 ▸ ha2
    by_cases e : b = s
    · subst e
      rcases hc with hc | ⟨c1, c2, c3⟩
      · exact absurd hb2 (PC_ne hc)
      · have hx := (PV_E ⟨g1, g2, g3⟩ (by omega) ha2).2
        omega
    · have qb := hq b (by omega)
      rw [qb.2.2.2.2.2.2.2]
      exact g3 a b hab (by omega) ha2 (qb.2.2.1 ▸ hb2) hE
theorem PO_add {s d : Nat} {op so so' : Nat → Int32} {E : Nat → Nat} {x1 : Int32} (hO : PO s d op so E x1) (hq : ∀ j, j < s → so' j = so j) (h2 : so' s ≠ 2) : PO (s + 1) d op so' E x1 := by
  obtain ⟨o, h1, h2', h3, h4, h5⟩ := hO
  refine ⟨o, fun i hi => ?_, h2', fun a ha ha2 ha3 => ?_, h4, h5⟩
  · have := h1 i hi
    exact ⟨this.1, by omega, (hq _ this.2.1).trans this.2.2.1, this.2.2.2⟩
  · by_cases e : a = s
    · subst e
      exact absurd ha2 h2
    · exact h3 a (by omega) ((hq a (by omega)) ▸ ha2) ha3
theorem PO_open {s d : Nat} {op so so' : Nat → Int32} {E E' : Nat → Nat} {x1 : Int32} (hO : PO s d op so E x1) (hq : ∀ j, j < s → so' j = so j ∧ E' j = E j) (h2 : so' s = 2) (hE : E' s = 1000) : PO (s + 1) (d + 1) (upd op d (nI s)) so' E' (nI s) := by
  obtain ⟨o, h1, h2', h3, h4, h5⟩ := hO
  refine ⟨fun i => if i = d then s else o i, fun i hi => ?_, fun i k hik hk => ?_, fun a ha ha2 ha3 => ?_, fun h => by omega, fun k hk => ?_⟩
  · by_cases e : i = d
    · subst e
      dsimp only
      rw [if_pos rfl, pk_us]
      exact ⟨rfl, by omega, h2, hE⟩
    · dsimp only
      rw [if_neg e, pk_un e]
      have a := h1 i (by omega)
      exact ⟨a.1, by omega, (hq _ a.2.1).1.trans a.2.2.1, (hq _ a.2.1).2.trans a.2.2.2⟩
  · dsimp only
    rw [if_neg (by omega : ¬ i = d)]
    by_cases e : k = d
    · rw [if_pos e]
      exact (h1 i (by omega)).2.1
    · rw [if_neg e]
      exact h2' i k hik (by omega)
  · by_cases e : a = s
    · exact ⟨d, by omega, by dsimp only; rw [if_pos rfl, e]⟩
    · have hqa := hq a (by omega)
      obtain ⟨i, hi, e2⟩ := h3 a (by omega) (hqa.1 ▸ ha2) (hqa.2 ▸ ha3)
      exact ⟨i, by omega, by dsimp only; rw [if_neg (by omega), e2]⟩
  · dsimp only
    rw [if_pos (by omega)]
theorem PV_close {s d k : Nat} {kd nb so co cn ar en op en' : Nat → Int32} {E : Nat → Nat} {x1 : Int32} (h : PV s kd nb so co cn ar en E) (hs : s ≤ 20) (hO : PO s d op so E x1) (hd : d = k + 1) : ∃ a : Nat, a < s ∧ op k = nI a ∧ x1 = nI a ∧ (∀ en' : Nat → Int32, (∀ j, j < s → j ≠ a → en' j = en j) → en' a = nI s → PV s kd (upd nb a (nI s)) so co cn ar en' (fun j => if j = a then s else E j)) ∧ PO s k op so (fun j => if j = a then s else E j) (ar a) := by
  have hp := PO_ar h hs hO
  have hV := h
  obtain ⟨g1, g2, g3⟩ := h
  have hO2 := hO
  obtain ⟨o, h1, h2, h3, h4, h5⟩ := hO2
  have ha := h1 k (by omega)
  refine ⟨o k, ha.2.1, ha.1, h5 k hd, fun en' hen hea => ⟨fun j hj => ?_, fun j hj => ?_, fun a b hab hb ha2 hb2 hE => ?_⟩, o, fun i hi => ?_, fun i j hi hj => h2 i j hi (by omega), fun a ha' ha2 ha3 => ?_, fun hk => ?_, fun i hi => ?_⟩
  · by_cases e : j = o k
    · subst e
      dsimp only
      rw [if_pos rfl, pk_us, hea]
      rcases g1 (o k) hj with c | ⟨c1, c2, c3, c4⟩
      · exact absurd ha.2.2.1 (PC_ne c)
      · exact Or.inr ⟨c1, c2, by omega, Or.inl ⟨Nat.le_refl _, rfl, rfl⟩⟩
    · dsimp only
      rw [if_neg e, pk_un e, hen j hj e]
      exact g1 j hj
  · rcases g2 j hj with ⟨a, b⟩ | ⟨a, b, c, d, e, f⟩
    · refine Or.inl ⟨a, fun i hi hi2 => ?_⟩
      have := b i hi hi2
      dsimp only
      by_cases e : i = o k
      · rw [← e] at ha
        omega
      · rw [if_neg e]
        exact this
    · refine Or.inr ⟨a, b, c, d, ?_, fun i hi hi2 hi3 => ?_⟩
      · dsimp only
        by_cases e : a = o k
        · rw [if_pos e]
          exact hj
        · rw [if_neg e]
          assumption
      · have := f i hi hi2 hi3
        dsimp only
        by_cases e : i = o k
        · rw [← e] at ha
          omega
        · rw [if_neg e]
          exact this
  · dsimp only at hE ⊢
    have hEb := PV_E hV hb hb2
    by_cases eb : b = o k
    · rw [if_pos eb]
      rw [if_neg (by omega)] at hE ⊢
      have := g3 a b hab hb ha2 hb2 hE
      rw [eb] at this
      omega
    · rw [if_neg eb]
      by_cases ea : a = o k
      · rw [if_pos ea]
        rcases hp with ⟨p1, p2⟩ | ⟨p1, p2, p3, p4, p5, p6⟩
        · exact p2 b hb hb2
        · have e : p1 = o k := (nI_eq (by omega) (by omega)).mp (p3.symm.trans (h5 k hd))
          exact p6 b (by omega) hb hb2
      · rw [if_neg ea] at hE ⊢
        exact g3 a b hab hb ha2 hb2 hE
  · have a := h1 i (by omega)
    have b := h2 i k hi (by omega)
    refine ⟨a.1, a.2.1, a.2.2.1, ?_⟩
    dsimp only
    rw [if_neg (by omega)]
    exact a.2.2.2
  · dsimp only at ha3
    by_cases e : a = o k
    · rw [if_pos e] at ha3
      omega
    · rw [if_neg e] at ha3
      obtain ⟨i, hi, e2⟩ := h3 a ha' ha2 ha3
      refine ⟨i, ?_, e2⟩
      by_cases e3 : i = k
      · subst e3
        omega
      · omega
  · rcases g2 (o k) ha.2.1 with ⟨a, b⟩ | ⟨a, b, c, d, e, f⟩
    · exact a
    · have := g3 a (o k) b ha.2.1 d ha.2.2.1 e
      have q := PV_E hV (by omega) d
      obtain ⟨i, hi, e2⟩ := h3 a (by omega) d (by omega)
      have hik : i = k := by omega
      subst hik
      omega
  · rcases g2 (o k) ha.2.1 with ⟨a, b⟩ | ⟨a, b, c, d, e, f⟩
    · have h6 := h1 i (by omega)
      have h7 := h2 i k (by omega) (by omega)
      have := b (o i) h7 h6.2.2.1
      omega
    · have := g3 a (o k) b ha.2.1 d ha.2.2.1 e
      have q := PV_E hV (by omega) d
      obtain ⟨i2, hi2, e2⟩ := h3 a (by omega) d (by omega)
      have h6 := h1 i (by omega)
      have h7 := h2 i k (by omega) (by omega)
      by_cases e5 : i2 = i
      · rw [c, ← e2, e5]
      · by_cases e6 : i2 = k
        · subst e6
          omega
        · have h8 := h2 i2 i (by omega) (by omega)
          have := f (o i) (by omega) h7 h6.2.2.1
          omega
