theorem va_P.subT {D : va_G} {cl : List vw_C} {f f' T : va_W} {H : Heap} (h : va_P D cl (f ++ T) H) (is : List Nat) (hs : is.filterMap (fun i => f[i]?) = f') : va_P D cl (f' ++ T) H := by
  have h1 : va_P D cl f H := fun k q hq => h k q (by
    have hl : k < f.length := by
      rcases Nat.lt_or_ge k f.length with z | z
      · exact z
      · rw [List.getElem?_eq_none z] at hq; cases hq
    rw [List.getElem?_append_left hl]; exact hq)
  have h2 : va_P D cl T H := fun k q hq => h (f.length + k) q (by rw [List.getElem?_append_right (by omega)]; simpa using hq)
  exact va_P.app (h1.sub is hs) h2
theorem va_P.subF {D : va_G} {cl : List vw_C} {f f' T : va_W} {H : Heap} (h : va_P D cl (f ++ T) H) (is : List Nat) (hs : is.filterMap (fun i => f[i]?) = f') : va_P D cl f' H := by
  have h1 : va_P D cl f H := fun k q hq => h k q (by
    have hl : k < f.length := by
      rcases Nat.lt_or_ge k f.length with z | z
      · exact z
      · rw [List.getElem?_eq_none z] at hq; cases hq
    rw [List.getElem?_append_left hl]; exact hq)
  exact h1.sub is hs
theorem va_P.tl {D : va_G} {cl : List vw_C} {f T : va_W} {H : Heap} (h : va_P D cl (f ++ T) H) : va_P D cl T H := fun k q hq => h (f.length + k) q (by rw [List.getElem?_append_right (by omega)]; simpa using hq)
theorem va_len {f : va_W} {k : Nat} {q : Nat × va_E} (hq : f[k]? = some q) : k < f.length := by
  rcases Nat.lt_or_ge k f.length with z | z
  · exact z
  · rw [List.getElem?_eq_none z] at hq; cases hq
theorem va_D.fst {A : Nat → Prop} {f T : va_W} (h : va_D A (f ++ T)) : va_D A f := ⟨fun i j p q hp hq e => h.1 i j p q (by rw [List.getElem?_append_left (va_len hp)]; exact hp) (by rw [List.getElem?_append_left (va_len hq)]; exact hq) e, fun k q hq => h.2 k q (by rw [List.getElem?_append_left (va_len hq)]; exact hq)⟩
theorem va_D.tl {A : Nat → Prop} {f T : va_W} (h : va_D A (f ++ T)) : va_D A T := ⟨fun i j p q hp hq e => by
    have := h.1 (f.length + i) (f.length + j) p q (by rw [List.getElem?_append_right (by omega)]; simpa using hp) (by rw [List.getElem?_append_right (by omega)]; simpa using hq) e
    omega, fun k q hq => h.2 (f.length + k) q (by rw [List.getElem?_append_right (by omega)]; simpa using hq)⟩
theorem va_D.ft {A : Nat → Prop} {f T : va_W} (h : va_D A (f ++ T)) {i j : Nat} {p q : Nat × va_E} (hp : f[i]? = some p) (hq : T[j]? = some q) : p.1 ≠ q.1 := fun e => by
  have h1 := va_len hp
  have := h.1 i (f.length + j) p q (by rw [List.getElem?_append_left h1]; exact hp) (by rw [List.getElem?_append_right (by omega)]; simpa using hq) e
  omega
/-- what is of the list f' by the indices is of f -/
theorem va_of {f f' : va_W} {is : List Nat} (hs : is.map (fun i => f[i]?) = f'.map some) {k : Nat} {q : Nat × va_E} (hq : f'[k]? = some q) : ∃ i : Nat, is[k]? = some i ∧ f[i]? = some q := by
  have h1 : (is.map (fun i => f[i]?))[k]? = some (some q) := by rw [hs, List.getElem?_map, hq]; rfl
  rw [List.getElem?_map] at h1
  cases hi : is[k]? with
  | none => rw [hi] at h1; cases h1
  | some i => rw [hi] at h1; exact ⟨i, rfl, Option.some.inj h1⟩
theorem va_D.subT {A : Nat → Prop} {f f' T : va_W} (hD : va_D A (f ++ T)) (is : List Nat) (hn : va_nd is = true) (hs : is.map (fun i => f[i]?) = f'.map some) : va_D A (f' ++ T) :=
  va_D.app (hD.fst.sub is hn hs) hD.tl (fun i j p q hp hq => by
    obtain ⟨i', -, h2⟩ := va_of hs hp
    exact hD.ft h2 hq)
theorem va_D.subF {A : Nat → Prop} {f f' T : va_W} (hD : va_D A (f ++ T)) (is : List Nat) (hn : va_nd is = true) (hs : is.map (fun i => f[i]?) = f'.map some) : va_D A f' := hD.fst.sub is hn hs
theorem va_freeT {A0 : Nat → Prop} {f T wc : va_W} {H0 H : Heap} {locs : List Loc} (hD : va_D A0 (f ++ T)) (hS : va_S A0 H0 H locs) (hA : ∀ q, H0.size ≤ q → A0 q) (isC : List Nat) (hC : isC.map (fun i => f[i]?) = wc.map some) : ∀ q, va_A wc H.size q → A0 q := va_free hD.fst hS hA isC hC
theorem va_freeB {A0 : Nat → Prop} {f T wc : va_W} {H0 H : Heap} {locs : List Loc} (hD : va_D A0 (f ++ T)) (hS : va_S A0 H0 H locs) (hA : ∀ q, H0.size ≤ q → A0 q) (isC : List Nat) (hC : isC.map (fun i => f[i]?) = wc.map some) : ∀ q, va_A (wc ++ T) H.size q → A0 q := by
  intro q h
  rcases h with ⟨k, e, h⟩ | h
  · rcases Nat.lt_or_ge k wc.length with z | z
    · rw [List.getElem?_append_left z] at h
      exact va_free hD.fst hS hA isC hC q (Or.inl ⟨k, e, h⟩)
    · rw [List.getElem?_append_right z] at h
      exact hD.tl.2 _ (q, e) h
  · exact hA q (Nat.le_trans hS.1 h)
theorem va_joinT {A0 : Nat → Prop} {D : va_G} {cl : List vw_C} {f T wc wr w1 : va_W} {H H1 : Heap} (hP : va_P D cl (f ++ T) H) (hD : va_D A0 (f ++ T)) (isC isR : List Nat) (hC : isC.map (fun i => f[i]?) = wc.map some) (hR : isR.map (fun i => f[i]?) = wr.map some) (hn : va_nd isR = true) (hdis : ∀ i ∈ isR, i ∉ isC)
    (hk : ∀ q : Nat, q < H.size → ¬ va_A wc H.size q → H1[q]? = H[q]?) (hF : ∀ q, va_A wc H.size q → A0 q) (hP1 : va_P D cl w1 H1) (hD1 : va_D (va_A wc H.size) w1) : va_P D cl ((wr ++ w1) ++ T) H1 ∧ va_D A0 ((wr ++ w1) ++ T) := by
  have hPf : va_P D cl f H := fun k q hq => hP k q (by rw [List.getElem?_append_left (va_len hq)]; exact hq)
  obtain ⟨j1, j2⟩ := va_join hPf hD.fst isC isR hC hR hn hdis hk hF hP1 hD1
  have hPT := hP.tl
  have hTn : ∀ (k : Nat) (q : Nat × va_E), T[k]? = some q → ¬ va_A wc H.size q.1 := fun k q hq h => by
    rcases h with ⟨k2, e, h⟩ | h
    · obtain ⟨i, -, h3⟩ := va_of hC h
      exact hD.ft h3 hq rfl
    · have := (hPT k q hq).lt
      omega
  refine ⟨va_P.app j1 (fun k q hq => (hPT k q hq).kept (hk q.1 (hPT k q hq).lt (hTn k q hq))), va_D.app j2 hD.tl (fun i j p q hp hq e => ?_)⟩
  rcases Nat.lt_or_ge i wr.length with z | z
  · rw [List.getElem?_append_left z] at hp
    obtain ⟨i', -, h3⟩ := va_of hR hp
    exact hD.ft h3 hq e
  · rw [List.getElem?_append_right z] at hp
    exact hTn j q hq (by rw [← e]; exact hD1.2 _ p hp)
theorem va_joinB {A0 : Nat → Prop} {D : va_G} {cl : List vw_C} {f T T1 wc wr w1 : va_W} {H H1 : Heap} (hP : va_P D cl (f ++ T) H) (hD : va_D A0 (f ++ T)) (isC isR : List Nat) (hC : isC.map (fun i => f[i]?) = wc.map some) (hR : isR.map (fun i => f[i]?) = wr.map some) (hn : va_nd isR = true) (hdis : ∀ i ∈ isR, i ∉ isC)
    (hk : ∀ q : Nat, q < H.size → ¬ va_A (wc ++ T) H.size q → H1[q]? = H[q]?) (hF : ∀ q, va_A (wc ++ T) H.size q → A0 q) (hP1 : va_P D cl (w1 ++ T1) H1) (hD1 : va_D (va_A (wc ++ T) H.size) (w1 ++ T1)) : va_P D cl ((wr ++ w1) ++ T1) H1 ∧ va_D A0 ((wr ++ w1) ++ T1) := by
  have hPf : va_P D cl f H := fun k q hq => hP k q (by rw [List.getElem?_append_left (va_len hq)]; exact hq)
  have hrn : ∀ (k : Nat) (q : Nat × va_E), wr[k]? = some q → q.1 < H.size ∧ ¬ va_A (wc ++ T) H.size q.1 := fun k q hq => by
    obtain ⟨i, h1, h2⟩ := va_of hR hq
    refine ⟨(hPf i q h2).lt, fun h => ?_⟩
    rcases h with ⟨k2, e, h⟩ | h
    · rcases Nat.lt_or_ge k2 wc.length with z | z
      · rw [List.getElem?_append_left z] at h
        obtain ⟨j, h3, h4⟩ := va_of hC h
        have := hD.fst.1 i j q (q.1, e) h2 h4 rfl
        subst this
        exact hdis i (List.mem_of_getElem? h1) (List.mem_of_getElem? h3)
      · rw [List.getElem?_append_right z] at h
        exact hD.ft h2 h rfl
    · have := (hPf i q h2).lt
      omega
  rw [List.append_assoc]
  refine ⟨va_P.app (fun k q hq => ?_) hP1, va_D.app (hD.fst.sub isR hn hR) (hD1.weaken (fun k q _ h => hF q.1 h)) (fun i j p q hp hq e => ?_)⟩
  · obtain ⟨i, h1, h2⟩ := va_of hR hq
    obtain ⟨g1, g2⟩ := hrn k q hq
    exact (hPf i q h2).kept (hk q.1 g1 g2)
  · exact (hrn i p hp).2 (by rw [e]; exact hD1.2 j q hq)
/-- cells of the tail come to the front, and go back -/
theorem va_P.turn {D : va_G} {cl : List vw_C} {ws ws' : va_W} {H : Heap} (h : va_P D cl ws H) (hs : ∀ q, q ∈ ws' → q ∈ ws) : va_P D cl ws' H := fun k q hq => by
  obtain ⟨i, hi⟩ := List.mem_iff_getElem?.mp (hs q (List.mem_of_getElem? hq))
  exact h i q hi
theorem va_D.perm {A : Nat → Prop} {ws ws' : va_W} (h : va_D A ws) (hp : List.Perm ws ws') : va_D A ws' := by
  have hnd : (ws.map (fun q => q.1)).Nodup := by
    refine List.pairwise_iff_getElem.mpr ?_
    intro i j hi hj hij e
    rw [List.length_map] at hi hj
    rw [List.getElem_map, List.getElem_map] at e
    have := h.1 i j _ _ (List.getElem?_eq_getElem hi) (List.getElem?_eq_getElem hj) e
    omega
  have hnd' : (ws'.map (fun q => q.1)).Nodup := (hp.map _).nodup_iff.mp hnd
  have hpw := List.pairwise_iff_getElem.mp hnd'
  refine ⟨fun i j p q hp' hq e => ?_, fun k q hq => ?_⟩
  · have hi := va_len hp'
    have hj := va_len hq
    have e1 : ws'[i] = p := by rw [List.getElem?_eq_getElem hi] at hp'; exact Option.some.inj hp'
    have e2 : ws'[j] = q := by rw [List.getElem?_eq_getElem hj] at hq; exact Option.some.inj hq
    rcases Nat.lt_trichotomy i j with z | z | z
    · exact absurd (by rw [List.getElem_map, List.getElem_map, e1, e2]; exact e) (hpw i j (by rw [List.length_map]; exact hi) (by rw [List.length_map]; exact hj) z)
    · exact z
    · exact absurd (by rw [List.getElem_map, List.getElem_map, e1, e2]; exact e.symm) (hpw j i (by rw [List.length_map]; exact hj) (by rw [List.length_map]; exact hi) z)
  · obtain ⟨i, hi⟩ := List.mem_iff_getElem?.mp (hp.mem_iff.mpr (List.mem_of_getElem? hq))
    exact h.2 i q hi
