/-! Rows for answers that are a reference or null, for worlds with a tail, for the pool of patterns. -/
abbrev KQo (D : va_G) (kk : Nat → ClassId) (r' : Option Nat) (w1 : va_W) (A : Nat → Prop) : Array Value → State → Outcome → State → Prop := fun _ s0 oc t => (oc = .returned (some (va_rf r')) ∧ KB D kk A w1 t) ∧ va_F A s0 t
/-- an int, and new cells -/
abbrev KQn {S' : Type} (D : va_G) (kk : Nat → ClassId) (r' : Int32) (w1 : S' → va_W) (A : Nat → Prop) : Array Value → State → Outcome → State → Prop := va_Qi (fun (r : Int32) (_ : S') => r = r') (fun u t => KB D kk A (w1 u) t) A
theorem vaP_mem {D : va_G} {cl : List vw_C} {ws ws' : va_W} {H : Heap} (h : va_P D cl ws H) (hs : ∀ q ∈ ws', q ∈ ws) : va_P D cl ws' H := by
  intro k q hk
  obtain ⟨i, hi⟩ := List.getElem?_of_mem (hs q (List.mem_of_getElem? hk))
  exact h i q hi
theorem vaD_pw {A : Nat → Prop} {ws : va_W} : va_D A ws ↔ ws.Pairwise (fun p q => p.1 ≠ q.1) ∧ ∀ q ∈ ws, A q.1 := by
  constructor
  · intro h
    refine ⟨List.pairwise_iff_getElem.mpr (fun i j hi hj hij heq => ?_), fun q hq => ?_⟩
    · have h1 := h.1 i j _ _ (List.getElem?_eq_getElem hi) (List.getElem?_eq_getElem hj) heq
      omega
    · obtain ⟨i, hi⟩ := List.getElem?_of_mem hq
      exact h.2 i q hi
  · intro h
    have hw := List.pairwise_iff_getElem.mp h.1
    refine ⟨fun i j p q hp hq heq => ?_, fun k q hk => h.2 q (List.mem_of_getElem? hk)⟩
    obtain ⟨hi, hp⟩ := List.getElem?_eq_some_iff.mp hp
    obtain ⟨hj, hq⟩ := List.getElem?_eq_some_iff.mp hq
    rcases Nat.lt_trichotomy i j with h1 | h1 | h1
    · exact absurd (by rw [hp, hq]; exact heq) (hw i j hi hj h1)
    · exact h1
    · exact absurd (by rw [hp, hq]; exact heq.symm) (hw j i hj hi h1)
theorem vaD_perm {A : Nat → Prop} {ws ws' : va_W} (h : va_D A ws) (hp : ws.Perm ws') : va_D A ws' := by
  rw [vaD_pw] at h ⊢
  exact ⟨(hp.pairwise_iff (fun h => Ne.symm h)).mp h.1, fun q hq => h.2 q (hp.mem_iff.mpr hq)⟩
theorem vaP_perm {D : va_G} {cl : List vw_C} {ws ws' : va_W} {H : Heap} (h : va_P D cl ws H) (hp : ws.Perm ws') : va_P D cl ws' H := vaP_mem h (fun q hq => hp.mem_iff.mpr hq)
/-- by places, ahead of a tail -/
theorem re_t {D : va_G} {cl : List vw_C} {A : Nat → Prop} {Y w2 pl : va_W} {H : Heap} (hP : va_P D cl (Y ++ pl) H) (hD : va_D A (Y ++ pl)) (isF : List Nat) (h5 : isF.filterMap (fun i => Y[i]?) = w2) (h6 : isF.map (fun i => Y[i]?) = w2.map some) (h6n : va_nd isF = true) : va_P D cl (w2 ++ pl) H ∧ va_D A (w2 ++ pl) := by
  have hm : ∀ q ∈ w2, q ∈ Y := fun q hq => by
    rw [← h5] at hq
    obtain ⟨i, -, hi⟩ := List.mem_filterMap.mp hq
    exact List.mem_of_getElem? hi
  have hw := vaD_pw.mp hD
  have ha := List.pairwise_append.mp hw.1
  refine ⟨vaP_mem hP (fun q hq => ?_), vaD_pw.mpr ⟨List.pairwise_append.mpr ⟨?_, ha.2.1, fun a h1 b h2 => ha.2.2 a (hm a h1) b h2⟩, fun q hq => ?_⟩⟩
  · rcases List.mem_append.mp hq with h | h
    · exact List.mem_append_left _ (hm q h)
    · exact List.mem_append_right _ h
  · have hY : va_D A Y := vaD_pw.mpr ⟨ha.1, fun q hq => hw.2 q (List.mem_append_left _ hq)⟩
    exact (vaD_pw.mp (hY.sub isF h6n h6)).1
  · rcases List.mem_append.mp hq with h | h
    · exact hw.2 q (List.mem_append_left _ (hm q h))
    · exact hw.2 q (List.mem_append_right _ h)
theorem up_same {f : Nat → Option Nat} {i : Nat} {v : Option Nat} (h : f i = v) : va_up f i v = f := by
  funext j
  unfold va_up
  by_cases hj : j = i
  · rw [if_pos hj, hj, h]
  · rw [if_neg hj]
/-- the pool: the patterns of the slots ks, at the addresses ad -/
def pcell (kk : Nat → ClassId) (a : Nat × Nat × Nat) (q : PSt) : va_W := [(a.1, .inr (2, [.ref a.2.1, .ref a.2.2, .int q.2.2])), (a.2.1, .inl (kk 0, 20, .inl q.1)), (a.2.2, .inl (kk 0, 20, .inl q.2.1))]
def pcellO (kk : Nat → ClassId) (a : Nat × Nat × Nat) (o : Option PSt) : va_W := match o with
  | none => []
  | some q => pcell kk a q
def PW (kk : Nat → ClassId) (ad : Nat → Nat × Nat × Nat) (ps : Nat → Option PSt) (ks : List Nat) : va_W := ks.flatMap (fun k => pcellO kk (ad k) (ps k))
/-- what the slots' array holds -/
def sl (ad : Nat → Nat × Nat × Nat) (ps : Nat → Option PSt) : Nat → Option Nat := fun k => (ps k).map (fun _ => (ad k).1)
theorem sl_n {ad : Nat → Nat × Nat × Nat} {ps : Nat → Option PSt} {k : Nat} (h : ps k = none) : sl ad ps k = none := by
  unfold sl
  rw [h]
  rfl
theorem sl_s {ad : Nat → Nat × Nat × Nat} {ps : Nat → Option PSt} {k : Nat} {q : PSt} (h : ps k = some q) : sl ad ps k = some (ad k).1 := by
  unfold sl
  rw [h]
  rfl
theorem pw_split {kk : Nat → ClassId} {ad : Nat → Nat × Nat × Nat} {ps : Nat → Option PSt} {Xs : va_W} {ks : List Nat} {i : Nat} {q : PSt} (hi : i ∈ ks) (h : ps i = some q) : (Xs ++ PW kk ad ps ks).Perm ((Xs ++ pcell kk (ad i) q) ++ PW kk ad ps (ks.erase i)) := by
  have h1 : (PW kk ad ps ks).Perm (PW kk ad ps (i :: ks.erase i)) := List.Perm.flatMap_right _ (List.perm_cons_erase hi)
  have h2 : PW kk ad ps (i :: ks.erase i) = pcell kk (ad i) q ++ PW kk ad ps (ks.erase i) := by
    unfold PW
    rw [List.flatMap_cons, h]
    rfl
  rw [List.append_assoc, ← h2]
  exact h1.append_left Xs
theorem in6 {x : Int32} (h : ¬ (x < 0 ∨ 6 ≤ x.toNatClampNeg)) : x.toNatClampNeg ∈ [0, 1, 2, 3, 4, 5] := by
  have h1 : x.toNatClampNeg < 6 := by
    rcases Nat.lt_or_ge x.toNatClampNeg 6 with h2 | h2
    · exact h2
    · exact absurd (Or.inr h2) h
  simp only [List.mem_cons, List.mem_nil_iff, or_false]
  omega
theorem mps_n {T : Type} {o : Option PSt} {a : Option T} {f : PSt → Option T} {y : Option T} (h : o = none) (he : mps o a f = y) : a = y := by
  subst h
  exact he
theorem mps_s {T : Type} {o : Option PSt} {q : PSt} {a : Option T} {f : PSt → Option T} {y : Option T} (h : o = some q) (he : mps o a f = y) : f q = y := by
  subst h
  exact he
section KE
variable {p : Program} {l : Launch} {e : Env} {R : Room} {s : State} {m : MethodId} {args : Array Value} {below : List Frame} {meth : Method} {c : Code} {H : Heap} {locs : List Loc} {cells slots : Nat} {Q : State → Prop}
variable {cc : ByteArray} {pc : Nat} {ls : Array Slot} {rest st0 : List Value} {D : va_G} {kk : Nat → ClassId} {st : Nat → Nat} {A : Nat → Prop} {ws wc wr w1 w2 pl Xs : va_W}
theorem k_some {r : Option Nat} {a : Nat} (h : r = some a) (kx : W p l e R s m args below meth c H locs cells slots Q (F0 m pc ls (.ref a :: rest))) : W p l e R s m args below meth c H locs cells slots Q (F0 m pc ls (va_rf r :: rest)) := by
  subst h
  exact kx
theorem k_none {r : Option Nat} (h : r = none) (kx : W p l e R s m args below meth c H locs cells slots Q (F0 m pc ls (.null :: rest))) : W p l e R s m args below meth c H locs cells slots Q (F0 m pc ls (va_rf r :: rest)) := by
  subst h
  exact kx
theorem k_ore {r : Option Nat} {v : Value} {C : String} (hv : v = va_rf r) (S : p.tables.exec = Jvm.exec) (hb : c.code = cc) (hr : meth.sig.returnType = some (.object C)) (hlk : meth.locks = false) (X : KX D kk st A s) (hP : va_P D classes ws H) (hD : va_D A ws) (hS : va_S A s.heap H locs) (hdg : decode cc pc = .ok (.areturn, 1)) : W p l e R s m args below meth c H locs cells slots (MQ below (KQo D kk r ws A) args s cells slots A) (F0 m pc ls [v]) :=
  W.aret S hb hr (Or.inl ⟨C, rfl⟩) (by subst hv; cases r with | none => exact Or.inl rfl | some a => exact Or.inr ⟨a, rfl⟩) (fun t ht hW => ⟨⟨by rw [hv], by rw [ht]; exact hP, va_K.moved hW.alike X.1, hD⟩, hS.F ht⟩) hS.2.2 hdg hlk
theorem k_oo {r' : Option Nat} {a : Array Value} (hr : va_Run p l e R s m args below meth c H locs cells slots 0 0 (F0 m pc ls st0) rest (KQo D kk r' wc (va_A wc H.size) a) (va_A wc H.size)) (hA : ∀ q, s.heap.size ≤ q → A q) (hP : va_P D classes ws H) (hD : va_D A ws) (hS : va_S A s.heap H locs) (isC : List Nat) (h2 : isC.map (fun i => ws[i]?) = wc.map some)
    (kx : ∀ (H1 : Heap) (locs1 : List Loc), va_P D classes ws H1 → va_S A s.heap H1 locs1 → W p l e R s m args below meth c H1 locs1 cells slots Q (F0 m (pc + 3) ls (va_rf r' :: rest))) : W p l e R s m args below meth c H locs cells slots Q (F0 m pc ls st0) := by
  have hF := va_free hD hS hA isC h2
  intro T hT X
  obtain ⟨v, st₀, t, T', L, h0, X', hL, e1, e2, ⟨⟨hv, hP1, hK1, hD1⟩, hz, hk⟩, go⟩ := hr T hT X
  have hv : v = some (va_rf r') := Outcome.returned.inj hv
  subst hv
  rw [h0] at hz hk
  have hk1 : ∀ q : Nat, q < H.size → ¬ va_A wc H.size q → T'.heap[q]? = H[q]? := fun q h1 h2 => by rw [e1]; exact hk q h1 h2
  rw [← e1] at hP1
  obtain ⟨t2, a1, b1⟩ := kx T'.heap (locs ++ L) (kj_ro hP hD isC h2 hk1 hP1)
    ⟨Nat.le_trans hS.1 (by rw [e1]; exact hz), fun q h1 h2 => by rw [hk1 q (Nat.lt_of_lt_of_le h1 hS.1) (fun z => h2 (hF q z))]; exact hS.2.1 q h1 h2, fun q hq => by
      rcases List.mem_append.mp hq with h | h
      · exact hS.2.2 q h
      · exact hF _ (hL q h)⟩ T' rfl X'
  exact ⟨t2, go t2 a1, b1⟩
/-- an end with an int and new cells -/
theorem k_ire_n {S' : Type} {w1 : S' → va_W} (u : S') {v : Int32} (hx : p.tables.exec = Jvm.exec) (hb : c.code = cc) (hr : meth.sig.returnType = some .int) (hlk : meth.locks = false) (X : KX D kk st A s) (hP : va_P D classes (w1 u) H) (hD : va_D A (w1 u)) (hS : va_S A s.heap H locs) (hdg : decode cc pc = .ok (.ireturn, 1)) : W p l e R s m args below meth c H locs cells slots (MQ below (KQn D kk v w1 A) args s cells slots A) (F0 m pc ls [.int v]) :=
  W.iret hx hb hr (fun t ht hW => ⟨⟨v, u, rfl, rfl, by rw [ht]; exact hP, va_K.moved hW.alike X.1, hD⟩, hS.F ht⟩) hS.2.2 hdg hlk
/-- calls, ahead of a tail that they leave alone -/
theorem kj_t {H1 : Heap} (hP : va_P D classes (Xs ++ pl) H) (hD : va_D A (Xs ++ pl)) (isC isR isF : List Nat) (h2 : isC.map (fun i => Xs[i]?) = wc.map some) (h3 : isR.map (fun i => Xs[i]?) = wr.map some) (h3n : va_nd isR = true) (h4 : ∀ i ∈ isR, i ∉ isC)
    (h5 : isF.filterMap (fun i => (wr ++ w1)[i]?) = w2) (h6 : isF.map (fun i => (wr ++ w1)[i]?) = w2.map some) (h6n : va_nd isF = true)
    (hF : ∀ q, va_A wc H.size q → A q) (hk : ∀ q : Nat, q < H.size → ¬ va_A wc H.size q → H1[q]? = H[q]?) (hP1 : va_P D classes w1 H1) (hD1 : va_D (va_A wc H.size) w1) : va_P D classes (w2 ++ pl) H1 ∧ va_D A (w2 ++ pl) := by
  obtain ⟨a, b⟩ := va_joinQ hP hD isC isR h2 h3 h3n h4 hk hF hP1 hD1
  exact re_t a b isF h5 h6 h6n
theorem k_it {r' : Int32} {a : Array Value} (hr : va_Run p l e R s m args below meth c H locs cells slots 0 0 (F0 m pc ls st0) rest (KQi D kk r' w1 (va_A wc H.size) a) (va_A wc H.size)) (hA : ∀ q, s.heap.size ≤ q → A q) (hP : va_P D classes (Xs ++ pl) H) (hD : va_D A (Xs ++ pl)) (hS : va_S A s.heap H locs) (isC isR isF : List Nat) (h20 : isC.map (fun i => (Xs ++ pl)[i]?) = wc.map some) (h2 : isC.map (fun i => Xs[i]?) = wc.map some) (h3 : isR.map (fun i => Xs[i]?) = wr.map some) (h3n : va_nd isR = true) (h4 : ∀ i ∈ isR, i ∉ isC)
    (h5 : isF.filterMap (fun i => (wr ++ w1)[i]?) = w2) (h6 : isF.map (fun i => (wr ++ w1)[i]?) = w2.map some) (h6n : va_nd isF = true)
    (kx : ∀ (H1 : Heap) (locs1 : List Loc), va_P D classes (w2 ++ pl) H1 → va_D A (w2 ++ pl) → va_S A s.heap H1 locs1 → W p l e R s m args below meth c H1 locs1 cells slots Q (F0 m (pc + 3) ls (.int r' :: rest))) : W p l e R s m args below meth c H locs cells slots Q (F0 m pc ls st0) := by
  have hF := va_free hD hS hA isC h20
  refine va_calli hr hS (fun q _ h => hF q h) hF (fun r u t H1 locs1 ht hvm hp hB hz hk hS1 => ?_)
  obtain ⟨hP1, hK1, hD1⟩ := hB
  rw [ht] at hP1
  obtain ⟨a1, a2⟩ := kj_t hP hD isC isR isF h2 h3 h3n h4 h5 h6 h6n hF hk hP1 hD1
  have hp : r = r' := hp
  subst hp
  exact kx H1 locs1 a1 a2 hS1
theorem k_vt {a : Array Value} (hr : va_Run p l e R s m args below meth c H locs cells slots 0 0 (F0 m pc ls st0) rest (KQv D kk w1 (va_A wc H.size) a) (va_A wc H.size)) (hA : ∀ q, s.heap.size ≤ q → A q) (hP : va_P D classes (Xs ++ pl) H) (hD : va_D A (Xs ++ pl)) (hS : va_S A s.heap H locs) (isC isR isF : List Nat) (h20 : isC.map (fun i => (Xs ++ pl)[i]?) = wc.map some) (h2 : isC.map (fun i => Xs[i]?) = wc.map some) (h3 : isR.map (fun i => Xs[i]?) = wr.map some) (h3n : va_nd isR = true) (h4 : ∀ i ∈ isR, i ∉ isC)
    (h5 : isF.filterMap (fun i => (wr ++ w1)[i]?) = w2) (h6 : isF.map (fun i => (wr ++ w1)[i]?) = w2.map some) (h6n : va_nd isF = true)
    (kx : ∀ (H1 : Heap) (locs1 : List Loc), va_P D classes (w2 ++ pl) H1 → va_D A (w2 ++ pl) → va_S A s.heap H1 locs1 → W p l e R s m args below meth c H1 locs1 cells slots Q (F0 m (pc + 3) ls rest)) : W p l e R s m args below meth c H locs cells slots Q (F0 m pc ls st0) := by
  have hF := va_free hD hS hA isC h20
  refine va_callv hr hS (fun q _ h => hF q h) hF (fun u t H1 locs1 ht hvm hp hB hz hk hS1 => ?_)
  obtain ⟨hP1, hK1, hD1⟩ := hB
  rw [ht] at hP1
  obtain ⟨a1, a2⟩ := kj_t hP hD isC isR isF h2 h3 h3n h4 h5 h6 h6n hF hk hP1 hD1
  exact kx H1 locs1 a1 a2 hS1
/-- a call that brings new cells, ahead of a tail: they come behind the others -/
theorem k_nt {S' : Type} {wn : S' → va_W} {mc ms : Nat} {r' : Int32} {a : Array Value} (hr : va_Run p l e R s m args below meth c H locs cells slots mc ms (F0 m pc ls st0) rest (KQn D kk r' wn (va_A wc H.size) a) (va_A wc H.size)) (hA : ∀ q, s.heap.size ≤ q → A q) (hP : va_P D classes (Xs ++ pl) H) (hD : va_D A (Xs ++ pl)) (hS : va_S A s.heap H locs) (isC isR : List Nat) (h20 : isC.map (fun i => (Xs ++ pl)[i]?) = wc.map some) (h2 : isC.map (fun i => Xs[i]?) = wc.map some) (h3 : isR.map (fun i => Xs[i]?) = wr.map some) (h3n : va_nd isR = true) (h4 : ∀ i ∈ isR, i ∉ isC)
    (kx : ∀ (u : S') (H1 : Heap) (locs1 : List Loc), va_P D classes ((wr ++ wn u) ++ pl) H1 → va_D A ((wr ++ wn u) ++ pl) → va_S A s.heap H1 locs1 → W p l e R s m args below meth c H1 locs1 (cells + mc) (slots + ms) Q (F0 m (pc + 3) ls (.int r' :: rest))) : W p l e R s m args below meth c H locs cells slots Q (F0 m pc ls st0) := by
  have hF := va_free hD hS hA isC h20
  refine va_calli hr hS (fun q _ h => hF q h) hF (fun r u t H1 locs1 ht hvm hp hB hz hk hS1 => ?_)
  obtain ⟨hP1, hK1, hD1⟩ := hB
  rw [ht] at hP1
  obtain ⟨a1, a2⟩ := va_joinQ hP hD isC isR h2 h3 h3n h4 hk hF hP1 hD1
  have hp : r = r' := hp
  subst hp
  exact kx u H1 locs1 a1 a2 hS1
end KE
