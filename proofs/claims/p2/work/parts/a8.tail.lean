-- a8.tail.lean.txt
section
theorem va_P.subT {D : va_G} {cl : List vw_C} {f f' T : va_W} {H : Heap} (h : va_P D cl (f ++ T) H) (is : List Nat) (hs : is.filterMap (fun i => f[i]?) = f') : va_P D cl (f' ++ T) H := by
  have h1 : va_P D cl f H := fun k q hq => h k q (by
    have hl : k < f.length := by
      rcases Nat.lt_or_ge k f.length with z | z
      · exact z
      · rw [List.getElem?_eq_none z] at hq; cases hq
    rw [List.getElem?_append_left hl]; exact hq)
  have h2 : va_P D cl T H := fun k q hq => h (f.length + k) q (by rw [List.getElem?_append_right (by omega)]; simpa using hq)
  exact va_P.app (h1.sub is hs) h2
theorem va_P.subF {D : va_G} {cl : List vw_C} {f f' T : va_W} {H : Heap} (h : va_P D cl (f ++ T) H) (is : List Nat) (hs : is.filterMap (fun i => f[i]?) = f') : va_P D cl f' H := by
  have h1 : va_P D cl f H := fun k q hq => h k q (by
    have hl : k < f.length := by
      rcases Nat.lt_or_ge k f.length with z | z
      · exact z
      · rw [List.getElem?_eq_none z] at hq; cases hq
    rw [List.getElem?_append_left hl]; exact hq)
  exact h1.sub is hs
theorem va_P.tl {D : va_G} {cl : List vw_C} {f T : va_W} {H : Heap} (h : va_P D cl (f ++ T) H) : va_P D cl T H := fun k q hq => h (f.length + k) q (by rw [List.getElem?_append_right (by omega)]; simpa using hq)
theorem va_len {f : va_W} {k : Nat} {q : Nat × va_E} (hq : f[k]? = some q) : k < f.length := by
  rcases Nat.lt_or_ge k f.length with z | z
  · exact z
  · rw [List.getElem?_eq_none z] at hq; cases hq
theorem va_D.fst {A : Nat → Prop} {f T : va_W} (h : va_D A (f ++ T)) : va_D A f := ⟨fun i j p q hp hq e => h.1 i j p q (by rw [List.getElem?_append_left (va_len hp)]; exact hp) (by rw [List.getElem?_append_left (va_len hq)]; exact hq) e, fun k q hq => h.2 k q (by rw [List.getElem?_append_left (va_len hq)]; exact hq)⟩
theorem va_D.tl {A : Nat → Prop} {f T : va_W} (h : va_D A (f ++ T)) : va_D A T := ⟨fun i j p q hp hq e => by
    have := h.1 (f.length + i) (f.length + j) p q (by rw [List.getElem?_append_right (by omega)]; simpa using hp) (by rw [List.getElem?_append_right (by omega)]; simpa using hq) e
    omega, fun k q hq => h.2 (f.length + k) q (by rw [List.getElem?_append_right (by omega)]; simpa using hq)⟩
theorem va_D.ft {A : Nat → Prop} {f T : va_W} (h : va_D A (f ++ T)) {i j : Nat} {p q : Nat × va_E} (hp : f[i]? = some p) (hq : T[j]? = some q) : p.1 ≠ q.1 := fun e => by
  have h1 := va_len hp
  have := h.1 i (f.length + j) p q (by rw [List.getElem?_append_left h1]; exact hp) (by rw [List.getElem?_append_right (by omega)]; simpa using hq) e
  omega
/-- what is of the list f' by the indices is of f -/
theorem va_of {f f' : va_W} {is : List Nat} (hs : is.map (fun i => f[i]?) = f'.map some) {k : Nat} {q : Nat × va_E} (hq : f'[k]? = some q) : ∃ i : Nat, is[k]? = some i ∧ f[i]? = some q := by
  have h1 : (is.map (fun i => f[i]?))[k]? = some (some q) := by rw [hs, List.getElem?_map, hq]; rfl
  rw [List.getElem?_map] at h1
  cases hi : is[k]? with
  | none => rw [hi] at h1; cases h1
  | some i => rw [hi] at h1; exact ⟨i, rfl, Option.some.inj h1⟩
theorem va_D.subT {A : Nat → Prop} {f f' T : va_W} (hD : va_D A (f ++ T)) (is : List Nat) (hn : va_nd is = true) (hs : is.map (fun i => f[i]?) = f'.map some) : va_D A (f' ++ T) :=
  va_D.app (hD.fst.sub is hn hs) hD.tl (fun i j p q hp hq => by
    obtain ⟨i', -, h2⟩ := va_of hs hp
    exact hD.ft h2 hq)
theorem va_D.subF {A : Nat → Prop} {f f' T : va_W} (hD : va_D A (f ++ T)) (is : List Nat) (hn : va_nd is = true) (hs : is.map (fun i => f[i]?) = f'.map some) : va_D A f' := hD.fst.sub is hn hs
theorem va_freeT {A0 : Nat → Prop} {f T wc : va_W} {H0 H : Heap} {locs : List Loc} (hD : va_D A0 (f ++ T)) (hS : va_S A0 H0 H locs) (hA : ∀ q, H0.size ≤ q → A0 q) (isC : List Nat) (hC : isC.map (fun i => f[i]?) = wc.map some) : ∀ q, va_A wc H.size q → A0 q := va_free hD.fst hS hA isC hC
theorem va_freeB {A0 : Nat → Prop} {f T wc : va_W} {H0 H : Heap} {locs : List Loc} (hD : va_D A0 (f ++ T)) (hS : va_S A0 H0 H locs) (hA : ∀ q, H0.size ≤ q → A0 q) (isC : List Nat) (hC : isC.map (fun i => f[i]?) = wc.map some) : ∀ q, va_A (wc ++ T) H.size q → A0 q := by
  intro q h
  rcases h with ⟨k, e, h⟩ | h
  · rcases Nat.lt_or_ge k wc.length with z | z
    · rw [List.getElem?_append_left z] at h
      exact va_free hD.fst hS hA isC hC q (Or.inl ⟨k, e, h⟩)
    · rw [List.getElem?_append_right z] at h
      exact hD.tl.2 _ (q, e) h
  · exact hA q (Nat.le_trans hS.1 h)
theorem va_joinT {A0 : Nat → Prop} {D : va_G} {cl : List vw_C} {f T wc wr w1 : va_W} {H H1 : Heap} (hP : va_P D cl (f ++ T) H) (hD : va_D A0 (f ++ T)) (isC isR : List Nat) (hC : isC.map (fun i => f[i]?) = wc.map some) (hR : isR.map (fun i => f[i]?) = wr.map some) (hn : va_nd isR = true) (hdis : ∀ i ∈ isR, i ∉ isC)
    (hk : ∀ q : Nat, q < H.size → ¬ va_A wc H.size q → H1[q]? = H[q]?) (hF : ∀ q, va_A wc H.size q → A0 q) (hP1 : va_P D cl w1 H1) (hD1 : va_D (va_A wc H.size) w1) : va_P D cl ((wr ++ w1) ++ T) H1 ∧ va_D A0 ((wr ++ w1) ++ T) := by
  have hPf : va_P D cl f H := fun k q hq => hP k q (by rw [List.getElem?_append_left (va_len hq)]; exact hq)
  obtain ⟨j1, j2⟩ := va_join hPf hD.fst isC isR hC hR hn hdis hk hF hP1 hD1
  have hPT := hP.tl
  have hTn : ∀ (k : Nat) (q : Nat × va_E), T[k]? = some q → ¬ va_A wc H.size q.1 := fun k q hq h => by
    rcases h with ⟨k2, e, h⟩ | h
    · obtain ⟨i, -, h3⟩ := va_of hC h
      exact hD.ft h3 hq rfl
    · have := (hPT k q hq).lt
      omega
  refine ⟨va_P.app j1 (fun k q hq => (hPT k q hq).kept (hk q.1 (hPT k q hq).lt (hTn k q hq))), va_D.app j2 hD.tl (fun i j p q hp hq e => ?_)⟩
  rcases Nat.lt_or_ge i wr.length with z | z
  · rw [List.getElem?_append_left z] at hp
    obtain ⟨i', -, h3⟩ := va_of hR hp
    exact hD.ft h3 hq e
  · rw [List.getElem?_append_right z] at hp
    exact hTn j q hq (by rw [← e]; exact hD1.2 _ p hp)
theorem va_joinB {A0 : Nat → Prop} {D : va_G} {cl : List vw_C} {f T T1 wc wr w1 : va_W} {H H1 : Heap} (hP : va_P D cl (f ++ T) H) (hD : va_D A0 (f ++ T)) (isC isR : List Nat) (hC : isC.map (fun i => f[i]?) = wc.map some) (hR : isR.map (fun i => f[i]?) = wr.map some) (hn : va_nd isR = true) (hdis : ∀ i ∈ isR, i ∉ isC)
    (hk : ∀ q : Nat, q < H.size → ¬ va_A (wc ++ T) H.size q → H1[q]? = H[q]?) (hF : ∀ q, va_A (wc ++ T) H.size q → A0 q) (hP1 : va_P D cl (w1 ++ T1) H1) (hD1 : va_D (va_A (wc ++ T) H.size) (w1 ++ T1)) : va_P D cl ((wr ++ w1) ++ T1) H1 ∧ va_D A0 ((wr ++ w1) ++ T1) := by
  have hPf : va_P D cl f H := fun k q hq => hP k q (by rw [List.getElem?_append_left (va_len hq)]; exact hq)
  have hrn : ∀ (k : Nat) (q : Nat × va_E), wr[k]? = some q → q.1 < H.size ∧ ¬ va_A (wc ++ T) H.size q.1 := fun k q hq => by
    obtain ⟨i, h1, h2⟩ := va_of hR hq
    refine ⟨(hPf i q h2).lt, fun h => ?_⟩
    rcases h with ⟨k2, e, h⟩ | h
    · rcases Nat.lt_or_ge k2 wc.length with z | z
      · rw [List.getElem?_append_left z] at h
        obtain ⟨j, h3, h4⟩ := va_of hC h
        have := hD.fst.1 i j q (q.1, e) h2 h4 rfl
        subst this
        exact hdis i (List.mem_of_getElem? h1) (List.mem_of_getElem? h3)
      · rw [List.getElem?_append_right z] at h
        exact hD.ft h2 h rfl
    · have := (hPf i q h2).lt
      omega
  rw [List.append_assoc]
  refine ⟨va_P.app (fun k q hq => ?_) hP1, va_D.app (hD.fst.sub isR hn hR) (hD1.weaken (fun k q _ h => hF q.1 h)) (fun i j p q hp hq e => ?_)⟩
  · obtain ⟨i, h1, h2⟩ := va_of hR hq
    obtain ⟨g1, g2⟩ := hrn k q hq
    exact (hPf i q h2).kept (hk q.1 g1 g2)
  · exact (hrn i p hp).2 (by rw [e]; exact hD1.2 j q hq)
/-- cells of the tail come to the front, and go back -/
theorem va_P.turn {D : va_G} {cl : List vw_C} {ws ws' : va_W} {H : Heap} (h : va_P D cl ws H) (hs : ∀ q, q ∈ ws' → q ∈ ws) : va_P D cl ws' H := fun k q hq => by
  obtain ⟨i, hi⟩ := List.mem_iff_getElem?.mp (hs q (List.mem_of_getElem? hq))
  exact h i q hi
theorem va_D.perm {A : Nat → Prop} {ws ws' : va_W} (h : va_D A ws) (hp : List.Perm ws ws') : va_D A ws' := by
  have hnd : (ws.map (fun q => q.1)).Nodup := by
    refine List.pairwise_iff_getElem.mpr ?_
    intro i j hi hj hij e
    rw [List.length_map] at hi hj
    rw [List.getElem_map, List.getElem_map] at e
    have := h.1 i j _ _ (List.getElem?_eq_getElem hi) (List.getElem?_eq_getElem hj) e
    omega
  have hnd' : (ws'.map (fun q => q.1)).Nodup := (hp.map _).nodup_iff.mp hnd
  have hpw := List.pairwise_iff_getElem.mp hnd'
  refine ⟨fun i j p q hp' hq e => ?_, fun k q hq => ?_⟩
  · have hi := va_len hp'
    have hj := va_len hq
    have e1 : ws'[i] = p := by rw [List.getElem?_eq_getElem hi] at hp'; exact Option.some.inj hp'
    have e2 : ws'[j] = q := by rw [List.getElem?_eq_getElem hj] at hq; exact Option.some.inj hq
    rcases Nat.lt_trichotomy i j with z | z | z
    · exact absurd (by rw [List.getElem_map, List.getElem_map, e1, e2]; exact e) (hpw i j (by rw [List.length_map]; exact hi) (by rw [List.length_map]; exact hj) z)
    · exact z
    · exact absurd (by rw [List.getElem_map, List.getElem_map, e1, e2]; exact e.symm) (hpw j i (by rw [List.length_map]; exact hj) (by rw [List.length_map]; exact hi) z)
  · obtain ⟨i, hi⟩ := List.mem_iff_getElem?.mp (hp.mem_iff.mpr (List.mem_of_getElem? hq))
    exact h.2 i q hi
end
-- a8z.grow.lean.txt
section
/-- all slots of a heap -/
def slN (H : Heap) : Nat := (H.toList.map (fun c => c.slots.size)).sum
theorem slN_same {s s' : State} {locs : List Loc} {k n : Nat} (h : s.sameButNew s' locs k n) : slN s'.heap = slN s.heap + ((s'.heap.toList.drop s.heap.size).map (·.slots.size)).sum := by
  obtain ⟨-, h1, -, -, -, h2⟩ := h
  have e : (s'.heap.toList.take s.heap.size).map (fun c => c.slots.size) = s.heap.toList.map (fun c => c.slots.size) := by
    refine List.ext_getElem? (fun i => ?_)
    rw [List.getElem?_map, List.getElem?_map, List.getElem?_take, Array.getElem?_toList, Array.getElem?_toList]
    by_cases hi : i < s.heap.size
    · rw [if_pos hi]
      obtain ⟨c', e1, -, e2, -⟩ := h2 i s.heap[i] (Array.getElem?_eq_getElem hi)
      rw [e1, Array.getElem?_eq_getElem hi]
      exact congrArg some e2
    · rw [if_neg hi, Array.getElem?_eq_none (by omega)]
  unfold slN
  rw [← e, ← List.sum_append, ← List.map_append, List.take_append_drop]
section RF0
variable {p : Program} {l : Launch} {e : Env} {R : Room} {s : State} {m : MethodId} {args : Array Value} {below : List Frame} {meth : Method} {c : Code} {H : Heap} {locs : List Loc} {cells slots : Nat} {Q : State → Prop} {g : JFrame}
/-- what has been made, told by the heap itself: the counts may be set to it -/
theorem W.tight {k n : Nat} (h1 : H.size ≤ s.heap.size + k) (h2 : slN H ≤ slN s.heap + n) (kk : W p l e R s m args below meth c H locs k n Q g) : W p l e R s m args below meth c H locs cells slots Q g := by
  intro T hT X
  refine kk T hT { X with same := ?_ }
  have hs := slN_same X.same
  have hh : (T.setVm s.vm).heap = H := hT
  obtain ⟨a1, a2, a3, a4, a5, a6⟩ := X.same
  rw [hh] at hs
  exact ⟨a1, a2, by rw [hh]; exact h1, a4, by rw [hh]; omega, a6⟩
theorem W.grow (kk : H.size ≤ s.heap.size + cells → slN H ≤ slN s.heap + slots → W p l e R s m args below meth c H locs cells slots Q g) : W p l e R s m args below meth c H locs cells slots Q g := by
  intro T hT X
  have hs := slN_same X.same
  have hh : (T.setVm s.vm).heap = H := hT
  obtain ⟨a1, a2, a3, a4, a5, a6⟩ := X.same
  rw [hh] at hs a3 a5
  exact kk a3 (by omega) T hT X
/-- a way that ends well ends so -/
theorem W.mono {Q2 : State → Prop} (kk : W p l e R s m args below meth c H locs cells slots Q g) (h : ∀ t : State, Q t → Q2 t) : W p l e R s m args below meth c H locs cells slots Q2 g := by
  intro T hT X
  obtain ⟨t, a, b⟩ := kk T hT X
  exact ⟨t, a, h t b⟩
end RF0
theorem kEqO {D : va_G} {cl : List vw_C} {tys : List (ClassId × FieldType)} {U : State} (hK : va_K D cl tys U) (i j : Nat) {C : String} {a b : ClassId} (hi : tys[i]? = some (a, .object C)) (hj : tys[j]? = some (b, .object C)) : a = b := by
  obtain ⟨_, _, _, _, _, h1⟩ := (hK.2 i _ hi).2
  obtain ⟨_, _, _, _, _, h2⟩ := (hK.2 j _ hj).2
  exact Option.some.inj (h1.symm.trans h2)
theorem kEqA {D : va_G} {cl : List vw_C} {tys : List (ClassId × FieldType)} {U : State} (hK : va_K D cl tys U) (i j : Nat) {a b : ClassId} (hi : tys[i]? = some (a, .array .int)) (hj : tys[j]? = some (b, .array .int)) : a = b := Option.some.inj ((hK.2 i _ hi).2.symm.trans (hK.2 j _ hj).2)
/-- a row of rows of ints, told -/
theorem va_newA2 {p : Program} {l : Launch} {e : Env} {R : Room} {s : State} {m : MethodId} {args : Array Value} {below : List Frame} {meth : Method} {c : Code} {H : Heap} {locs : List Loc} {cells slots : Nat} {Q : State → Prop} {cc : ByteArray} {pc : Nat} {ls : Array Slot} {rest : List Value} {D : va_G} {cl : List vw_C} {tys : List (ClassId × FieldType)} {ws : va_W} {A : Nat → Prop} {H0 : Heap} {t : FieldType}
    (hexec : p.tables.exec = Jvm.exec) (hb : c.code = cc) {own : String} {index : Nat} (hown : s.vm.findClass own = some m.cls) (hclink : (Cond.classLink own index (FieldType.array t).toString).before args s = true) (hover : (Cond.arrayOver (.array t)).before args s = true) (hK : va_K D cl tys s) (hP : va_P D cl ws H) (hD : va_D A ws) (hS : va_S A H0 H locs) (hA : ∀ q, H0.size ≤ q → A q)
    {n : Int32} {N' : Nat} (hn : ¬ n < 0) (hN : n.toNatClampNeg = N') (hbytes : N' * 4 ≤ 536870912) (hcells : cells + 1 ≤ R.cells) (hslots : slots + N' ≤ R.slots) (hdg : decode cc pc = .ok (.anewarray index, 3))
    (kk : ∀ (q : Nat) (cA : ClassId) (H1 : Heap), va_K D cl (tys ++ [(cA, .array t)]) s → va_P D cl (ws ++ [(q, .inl (cA, N', .inr (.inr (.inr (.inr (fun _ => none))))))]) H1 → va_D A (ws ++ [(q, .inl (cA, N', .inr (.inr (.inr (.inr (fun _ => none))))))]) → va_S A H0 H1 locs → W p l e R s m args below meth c H1 locs (cells + 1) (slots + N') Q (F0 m (pc + 3) ls (.ref q :: rest))) : W p l e R s m args below meth c H locs cells slots Q (F0 m pc ls (.int n :: rest)) := by
  subst hN
  refine W.anewA hexec hb hown hclink hover rfl hdg rfl hn hbytes hcells hslots fun cA kA comp f1 f2 f3 f4 => ?_
  generalize hH1 : H.push ({ cls := cA, slots := Array.replicate n.toNatClampNeg .null, vm := .none } : Cell) = H1
  have z1 : H1.size = H.size + 1 := by rw [← hH1, Array.size_push]
  have e1 : H1[H.size]? = some (arrV cA n.toNatClampNeg (fun _ => .null)) := by rw [← hH1, Array.getElem?_push_size, ← arrV_new]
  have o1 : ∀ q : Nat, q < H.size → H1[q]? = H[q]? := fun q hq => by rw [← hH1, Array.getElem?_push, if_neg (Nat.ne_of_lt hq)]
  have hAr : ArrOfT s cA (.array t) := fun N z => ⟨(fun k h => by cases h), kA, f2, comp, f3⟩
  have hk : ∀ (k : Nat) (x : Nat × va_E), ws[k]? = some x → H1[x.1]? = H[x.1]? := fun k x hx => o1 x.1 ((hP k x hx).lt)
  refine kk H.size cA H1 ⟨hK.1, fun k x hx => ?_⟩ ((hP.kept hk).app (fun k x hx => ?_)) (hD.push hP rfl (hA _ hS.1)) ⟨Nat.le_trans hS.1 (by omega), fun x h1 h2 => (o1 x (Nat.lt_of_lt_of_le h1 hS.1)).trans (hS.2.1 x h1 h2), hS.2.2⟩
  · by_cases hl : k < tys.length
    · rw [List.getElem?_append_left hl] at hx
      exact hK.2 k x hx
    · rw [List.getElem?_append_right (by omega)] at hx
      have hz : k - tys.length < 1 := (List.getElem?_eq_some_iff.mp hx).1
      rw [show k - tys.length = 0 by omega] at hx
      cases hx
      exact ⟨hAr, f1⟩
  · have hz : k < 1 := (List.getElem?_eq_some_iff.mp hx).1
    rw [show k = 0 by omega] at hx
    cases hx
    show H1[H.size]? = some (vp_cell _ _)
    rw [vp_cell_q]
    exact e1
/-- a class over which arrays can be made: its arrays' class -/
theorem va_AOk {C : String} {U : State} (h : va_AO C U) : ∃ cA : ClassId, ArrOfT U cA (.object C) ∧ va_RA U cA (.object C) := by
  obtain ⟨comp, c, k, h1, h2, h3, h4, h5⟩ := Cond.arrayOver_spec h
  exact ⟨c, fun N z => ⟨(fun k h => by cases h), k, h3, comp, h4⟩, k, comp, h3, h4, h1, h5⟩
end
-- a9.ttab.lean.txt
section
/-- a table of types: how many, kind, of, size, drops, boxes, shared, unique -/
abbrev tyT := Nat × (Nat → Int32) × (Nat → Int32) × (Nat → Int32) × (Nat → Int32) × (Nat → Int32) × (Nat → Int32) × (Nat → Int32)
/-- a proper type that is no reference -/
def tyN (yp : Nat) (ak : Nat → Int32) (u : Nat) : Prop := (u = 1 ∨ u = 2 ∨ u = 3) ∨ (4 ≤ u ∧ u < 4 + yp) ∨ (34 ≤ u ∧ ak u = 4)
/-- what is kept of the type made of j -/
def tyC (kd : Int32) (yt : Nat) (ak ao f : Nat → Int32) (j : Nat) : Prop := f j = 0 ∨ ∃ r : Nat, 34 ≤ r ∧ r < yt ∧ f j = nI r ∧ ak r = kd ∧ ao r = nI j
def tyOK (yp : Nat) (t : tyT) : Prop := match t with
  | (yt, ak, ao, az, ad, ab, ah, au) => 34 ≤ yt ∧ yt ≤ 3040 ∧ yp ≤ 30 ∧ (ak 0 = 0 ∧ ak 1 = 0 ∧ ak 2 = 0 ∧ ak 3 = 1) ∧ (az 0 = 0 ∧ az 1 = 1 ∧ az 2 = 1 ∧ az 3 = 1) ∧ (ad 0 = 0 ∧ ad 1 = 0 ∧ ad 2 = 0 ∧ ad 3 = 1 ∧ ∀ s : Nat, yp ≤ s → s < 30 → ak (4 + s) = 0) ∧ (∀ s : Nat, s < yp → ak (4 + s) = 2 ∨ ak (4 + s) = 3) ∧
    (∀ t : Nat, 34 ≤ t → t < yt → (ak t = 4 ∨ ak t = 5 ∨ ak t = 6) ∧ az t = 1 ∧ (ad t = if ak t = 4 then 1 else 0) ∧ ∃ u : Nat, u < t ∧ ao t = nI u ∧ tyN yp ak u) ∧ ∀ j : Nat, j < yt → tyC 4 yt ak ao ab j ∧ tyC 5 yt ak ao ah j ∧ tyC 6 yt ak ao au j
/-- the table has grown -/
def tyEx (t t' : tyT) : Prop := match t, t' with
  | (yt, ak, ao, az, ad, _, _, _), (yt2, gk, go, gz, gd, _, _, _) => yt ≤ yt2 ∧ ∀ j : Nat, j < yt → gk j = ak j ∧ go j = ao j ∧ gz j = az j ∧ gd j = ad j
theorem tyEx_rf {t : tyT} : tyEx t t := ⟨Nat.le_refl _, fun _ _ => ⟨rfl, rfl, rfl, rfl⟩⟩
theorem tyEx_tr {a b c : tyT} (h1 : tyEx a b) (h2 : tyEx b c) : tyEx a c := ⟨Nat.le_trans h1.1 h2.1, fun j hj => by
  obtain ⟨a1, a2, a3, a4⟩ := h1.2 j hj
  obtain ⟨b1, b2, b3, b4⟩ := h2.2 j (Nat.lt_of_lt_of_le hj h1.1)
  exact ⟨b1.trans a1, b2.trans a2, b3.trans a3, b4.trans a4⟩⟩
theorem tyN_lt {yp u yt : Nat} {ak : Nat → Int32} (hy : 34 ≤ yt) (hp : yp ≤ 30) (h : tyN yp ak u) (hu : 34 ≤ u → u < yt) : u < yt := by
  rcases h with h | h | h
  · omega
  · omega
  · exact hu h.1
theorem tyN_up {yp u yt : Nat} {ak gk : Nat → Int32} (h : tyN yp ak u) (hu : u < yt) (he : ∀ j : Nat, j < yt → gk j = ak j) : tyN yp gk u := by
  rcases h with h | h | h
  · exact Or.inl h
  · exact Or.inr (Or.inl h)
  · exact Or.inr (Or.inr ⟨h.1, (he u hu).trans h.2⟩)
theorem tyC_up {kd : Int32} {yt yt2 j : Nat} {ak ao f gk go : Nat → Int32} (h : tyC kd yt ak ao f j) (hy : yt ≤ yt2) (he : ∀ j : Nat, j < yt → gk j = ak j ∧ go j = ao j) : tyC kd yt2 gk go f j := by
  rcases h with h | ⟨r, h1, h2, h3, h4, h5⟩
  · exact Or.inl h
  · exact Or.inr ⟨r, h1, by omega, h3, (he r h2).1.trans h4, (he r h2).2.trans h5⟩
/-- a type kd of k was made: the new table but for the rows kept -/
theorem tyM {yp yt k : Nat} {kd : Int32} {ak ao az ad ab ah au : Nat → Int32} (h : tyOK yp (yt, ak, ao, az, ad, ab, ah, au)) (hk : tyN yp ak k) (hkt : k < yt) (hkd : kd = 4 ∨ kd = 5 ∨ kd = 6) (hy : yt < 3040) :
    tyEx (yt, ak, ao, az, ad, ab, ah, au) (yt + 1, upd ak yt kd, upd ao yt (nI k), upd az yt 1, upd ad yt (if kd = 4 then 1 else 0), ab, ah, au) ∧ tyOK yp (yt + 1, upd ak yt kd, upd ao yt (nI k), upd az yt 1, upd ad yt (if kd = 4 then 1 else 0), upd ab yt 0, upd ah yt 0, upd au yt 0) := by
  obtain ⟨a1, a2, a3, ⟨b1, b2, b3, b4⟩, ⟨c1, c2, c3, c4⟩, ⟨d1, d2, d3, d4⟩, e1, f1, g1⟩ := h
  have hx : ∀ j : Nat, j < yt → (upd ak yt kd) j = ak j ∧ (upd ao yt (nI k)) j = ao j := fun j hj => ⟨pk_un (by omega), pk_un (by omega)⟩
  refine ⟨⟨by omega, fun j hj => ⟨pk_un (by omega), pk_un (by omega), pk_un (by omega), pk_un (by omega)⟩⟩, by omega, by omega, a3, ?_, ?_, ?_, ?_, ?_, ?_⟩
  · rw [pk_un (by omega), pk_un (by omega), pk_un (by omega), pk_un (by omega)]; exact ⟨b1, b2, b3, b4⟩
  · rw [pk_un (by omega), pk_un (by omega), pk_un (by omega), pk_un (by omega)]; exact ⟨c1, c2, c3, c4⟩
  · rw [pk_un (by omega), pk_un (by omega), pk_un (by omega), pk_un (by omega)]; exact ⟨d1, d2, d3, d4.1, fun s h1 h2 => by rw [pk_un (by omega)]; exact d4.2 s h1 h2⟩
  · intro s hs; rw [pk_un (by omega)]; exact e1 s hs
  · intro t h1 h2
    rcases Nat.lt_or_ge t yt with z | z
    · obtain ⟨x1, x2, x3, u, x4, x5, x6⟩ := f1 t h1 z
      rw [pk_un (by omega), pk_un (by omega), pk_un (by omega), pk_un (by omega)]
      exact ⟨x1, x2, x3, u, x4, x5, tyN_up x6 (by omega) (fun j hj => (hx j hj).1)⟩
    · obtain rfl : t = yt := by omega
      rw [pk_us, pk_us, pk_us, pk_us]
      exact ⟨hkd, rfl, rfl, k, hkt, rfl, tyN_up hk hkt (fun j hj => (hx j hj).1)⟩
  · intro j hj
    rcases Nat.lt_or_ge j yt with z | z
    · obtain ⟨x1, x2, x3⟩ := g1 j z
      have q : ∀ {kd2 : Int32} {f : Nat → Int32}, tyC kd2 yt ak ao f j → tyC kd2 (yt + 1) (upd ak yt kd) (upd ao yt (nI k)) (upd f yt 0) j := fun {kd2 f} h => by
        have h := tyC_up h (Nat.le_succ yt) hx
        rcases h with h | h
        · exact Or.inl (by rw [pk_un (by omega)]; exact h)
        · exact Or.inr (by rw [pk_un (by omega)]; exact h)
      exact ⟨q x1, q x2, q x3⟩
    · obtain rfl : j = yt := by omega
      exact ⟨Or.inl pk_us, Or.inl pk_us, Or.inl pk_us⟩
/-- rows kept at k of a table -/
theorem tyOK_b {yp yt k ri : Nat} {ak ao az ad ab ah au : Nat → Int32} (h : tyOK yp (yt, ak, ao, az, ad, ab, ah, au)) (h1 : 34 ≤ ri) (h2 : ri < yt) (h4 : ao ri = nI k) : (ak ri = 4 → tyOK yp (yt, ak, ao, az, ad, upd ab k (nI ri), ah, au)) ∧ (ak ri = 5 → tyOK yp (yt, ak, ao, az, ad, ab, upd ah k (nI ri), au)) ∧ (ak ri = 6 → tyOK yp (yt, ak, ao, az, ad, ab, ah, upd au k (nI ri))) := by
  obtain ⟨a1, a2, a3, b1, c1, d1, e1, f1, g1⟩ := h
  have q : ∀ {kd : Int32} {f : Nat → Int32}, ak ri = kd → (∀ j : Nat, j < yt → tyC kd yt ak ao f j) → ∀ j : Nat, j < yt → tyC kd yt ak ao (upd f k (nI ri)) j := fun {kd f} hk hf j hj => by
    by_cases e : j = k
    · subst e; exact Or.inr ⟨ri, h1, h2, pk_us, hk, h4⟩
    · rcases hf j hj with z | z
      · exact Or.inl (by rw [pk_un e]; exact z)
      · exact Or.inr (by rw [pk_un e]; exact z)
  exact ⟨fun hk => ⟨a1, a2, a3, b1, c1, d1, e1, f1, fun j hj => ⟨q hk (fun j hj => (g1 j hj).1) j hj, (g1 j hj).2⟩⟩, fun hk => ⟨a1, a2, a3, b1, c1, d1, e1, f1, fun j hj => ⟨(g1 j hj).1, q hk (fun j hj => (g1 j hj).2.1) j hj, (g1 j hj).2.2⟩⟩, fun hk => ⟨a1, a2, a3, b1, c1, d1, e1, f1, fun j hj => ⟨(g1 j hj).1, (g1 j hj).2.1, q hk (fun j hj => (g1 j hj).2.2) j hj⟩⟩⟩
theorem ty_box {yp yt yt2 k ri : Nat} {ak ao az ad ab ah au gk go gz gd gb gh gu : Nat → Int32} (h : tyOK yp (yt, ak, ao, az, ad, ab, ah, au)) (hk : tyN yp ak k) (hkt : k < yt) (hy : yt < 3040) (h9 : ri < 3040) (hb : bxT 4 k yt yt2 ri (gk = ak ∧ go = ao ∧ gz = az ∧ gd = ad ∧ gh = ah ∧ gu = au) (fun hr => mkT 4 (nI k) yt yt2 ri ak ao az ad ab ah au gk go gz gd hr gh gu) ab gb) : tyOK yp (yt2, gk, go, gz, gd, gb, gh, gu) ∧ tyEx (yt, ak, ao, az, ad, ab, ah, au) (yt2, gk, go, gz, gd, gb, gh, gu) ∧ yt2 ≤ yt + 1 ∧ 34 ≤ ri ∧ ri < yt2 ∧ gk ri = 4 ∧ go ri = nI k := by
  rcases hb with ⟨b1, b2, b3, b4, b5⟩ | ⟨b1, hr, b2, b3⟩
  · obtain ⟨rfl, rfl, rfl, rfl, rfl, rfl⟩ := b4
    subst b3 b5
    have hc := (h.2.2.2.2.2.2.2.2 k hkt).1
    rcases hc with hc | ⟨r, c1, c2, c3, c4, c5⟩
    · exact absurd hc b1
    · have hr3 : r < 3040 := by have := h.2.1; omega
      have hri : ri = r := by
        rcases Nat.lt_or_ge ri (2 ^ 31) with z | z
        · exact (nI_eq z (by omega)).mp (b2.symm.trans c3)
        · exact absurd z (by have := h9; omega)
      subst hri
      exact ⟨h, tyEx_rf, by omega, c1, c2, c4, c5⟩
  · rcases b2 with ⟨m1, rfl, rfl, rfl, rfl, rfl, rfl, rfl, rfl, rfl⟩ | ⟨m1, -⟩
    · obtain ⟨t1, t2⟩ := tyM (kd := 4) h hk hkt (by decide) hy
      have t3 := (tyOK_b (k := k) t2 (show 34 ≤ ri by have := h.1; omega) (Nat.lt_succ_self _) pk_us).1 pk_us
      subst b3
      exact ⟨t3, ⟨by omega, t1.2⟩, by omega, by have := h.1; omega, by omega, pk_us, pk_us⟩
    · omega
theorem ty_shr {yp yt yt2 k ri : Nat} {ak ao az ad ab ah au gk go gz gd gb gh gu : Nat → Int32} (h : tyOK yp (yt, ak, ao, az, ad, ab, ah, au)) (hk : tyN yp ak k) (hkt : k < yt) (hy : yt < 3040) (h9 : ri < 3040) (hb : bxT 5 k yt yt2 ri (gk = ak ∧ go = ao ∧ gz = az ∧ gd = ad ∧ gb = ab ∧ gu = au) (fun hr => mkT 5 (nI k) yt yt2 ri ak ao az ad ab ah au gk go gz gd gb hr gu) ah gh) : tyOK yp (yt2, gk, go, gz, gd, gb, gh, gu) ∧ tyEx (yt, ak, ao, az, ad, ab, ah, au) (yt2, gk, go, gz, gd, gb, gh, gu) ∧ yt2 ≤ yt + 1 ∧ 34 ≤ ri ∧ ri < yt2 ∧ gk ri = 5 ∧ go ri = nI k := by
  rcases hb with ⟨b1, b2, b3, b4, b5⟩ | ⟨b1, hr, b2, b3⟩
  · obtain ⟨rfl, rfl, rfl, rfl, rfl, rfl⟩ := b4
    subst b3 b5
    have hc := (h.2.2.2.2.2.2.2.2 k hkt).2.1
    rcases hc with hc | ⟨r, c1, c2, c3, c4, c5⟩
    · exact absurd hc b1
    · have hr3 : r < 3040 := by have := h.2.1; omega
      have hri : ri = r := by
        rcases Nat.lt_or_ge ri (2 ^ 31) with z | z
        · exact (nI_eq z (by omega)).mp (b2.symm.trans c3)
        · exact absurd z (by have := h9; omega)
      subst hri
      exact ⟨h, tyEx_rf, by omega, c1, c2, c4, c5⟩
  · rcases b2 with ⟨m1, rfl, rfl, rfl, rfl, rfl, rfl, rfl, rfl, rfl⟩ | ⟨m1, -⟩
    · obtain ⟨t1, t2⟩ := tyM (kd := 5) h hk hkt (by decide) hy
      have t3 := (tyOK_b (k := k) t2 (show 34 ≤ ri by have := h.1; omega) (Nat.lt_succ_self _) pk_us).2.1 pk_us
      subst b3
      exact ⟨t3, ⟨by omega, t1.2⟩, by omega, by have := h.1; omega, by omega, pk_us, pk_us⟩
    · omega
theorem ty_unq {yp yt yt2 k ri : Nat} {ak ao az ad ab ah au gk go gz gd gb gh gu : Nat → Int32} (h : tyOK yp (yt, ak, ao, az, ad, ab, ah, au)) (hk : tyN yp ak k) (hkt : k < yt) (hy : yt < 3040) (h9 : ri < 3040) (hb : bxT 6 k yt yt2 ri (gk = ak ∧ go = ao ∧ gz = az ∧ gd = ad ∧ gb = ab ∧ gh = ah) (fun hr => mkT 6 (nI k) yt yt2 ri ak ao az ad ab ah au gk go gz gd gb gh hr) au gu) : tyOK yp (yt2, gk, go, gz, gd, gb, gh, gu) ∧ tyEx (yt, ak, ao, az, ad, ab, ah, au) (yt2, gk, go, gz, gd, gb, gh, gu) ∧ yt2 ≤ yt + 1 ∧ 34 ≤ ri ∧ ri < yt2 ∧ gk ri = 6 ∧ go ri = nI k := by
  rcases hb with ⟨b1, b2, b3, b4, b5⟩ | ⟨b1, hr, b2, b3⟩
  · obtain ⟨rfl, rfl, rfl, rfl, rfl, rfl⟩ := b4
    subst b3 b5
    have hc := (h.2.2.2.2.2.2.2.2 k hkt).2.2
    rcases hc with hc | ⟨r, c1, c2, c3, c4, c5⟩
    · exact absurd hc b1
    · have hr3 : r < 3040 := by have := h.2.1; omega
      have hri : ri = r := by
        rcases Nat.lt_or_ge ri (2 ^ 31) with z | z
        · exact (nI_eq z (by omega)).mp (b2.symm.trans c3)
        · exact absurd z (by have := h9; omega)
      subst hri
      exact ⟨h, tyEx_rf, by omega, c1, c2, c4, c5⟩
  · rcases b2 with ⟨m1, rfl, rfl, rfl, rfl, rfl, rfl, rfl, rfl, rfl⟩ | ⟨m1, -⟩
    · obtain ⟨t1, t2⟩ := tyM (kd := 6) h hk hkt (by decide) hy
      have t3 := (tyOK_b (k := k) t2 (show 34 ≤ ri by have := h.1; omega) (Nat.lt_succ_self _) pk_us).2.2 pk_us
      subst b3
      exact ⟨t3, ⟨by omega, t1.2⟩, by omega, by have := h.1; omega, by omega, pk_us, pk_us⟩
    · omega
end
