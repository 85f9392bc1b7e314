/-- a store: cells at the addresses L, what lies there F -/
def sT (L : List Nat) (F : Nat → va_E) : va_W := L.map (fun a => (a, F a))
def updE (F : Nat → va_E) (a : Nat) (c : va_E) : Nat → va_E := fun b => if b = a then c else F b
theorem updE_s {F : Nat → va_E} {a : Nat} {c : va_E} : updE F a c a = c := if_pos rfl
theorem updE_n {F : Nat → va_E} {a b : Nat} {c : va_E} (h : b ≠ a) : updE F a c b = F b := if_neg h
theorem sT_mem {L : List Nat} {F : Nat → va_E} {a : Nat} (h : a ∈ L) : (a, F a) ∈ sT L F := List.mem_map.mpr ⟨a, h, rfl⟩
theorem sT_upd {L : List Nat} {F : Nat → va_E} {a : Nat} {c : va_E} (h : a ∉ L) : sT L (updE F a c) = sT L F := by
  refine List.map_congr_left (fun b hb => ?_)
  rw [updE_n (show b ≠ a from fun e => h (e ▸ hb))]
theorem va_P.st {D : va_G} {cl : List vw_C} {f : va_W} {L : List Nat} {F : Nat → va_E} {H : Heap} (h : va_P D cl (f ++ sT L F) H) {a : Nat} {c : va_E} (ha : a ∈ L) (hc : F a = c) : va_P D cl [(a, c)] H :=
  h.turn (fun q hq => by
    rw [List.mem_singleton] at hq
    subst hq; subst hc
    exact List.mem_append_right _ (sT_mem ha))
theorem va_P.fo {D : va_G} {cl : List vw_C} {f : va_W} {L : List Nat} {F : Nat → va_E} {H : Heap} (h : va_P D cl (f ++ sT L F) H) {a : Nat} {c : va_E} (ha : a ∈ L) (hc : F a = c) : va_P D cl ((f ++ [(a, c)]) ++ sT (L.erase a) F) H :=
  h.turn (fun q hq => by
    rcases List.mem_append.mp hq with hq | hq
    · rcases List.mem_append.mp hq with hq | hq
      · exact List.mem_append_left _ hq
      · rw [List.mem_singleton] at hq
        subst hq; subst hc
        exact List.mem_append_right _ (sT_mem ha)
    · obtain ⟨b, hb, rfl⟩ := List.mem_map.mp hq
      exact List.mem_append_right _ (sT_mem (List.mem_of_mem_erase hb)))
theorem va_D.fo {A : Nat → Prop} {f : va_W} {L : List Nat} {F : Nat → va_E} (h : va_D A (f ++ sT L F)) {a : Nat} {c : va_E} (ha : a ∈ L) (hc : F a = c) : va_D A ((f ++ [(a, c)]) ++ sT (L.erase a) F) := by
  refine h.perm ?_
  subst hc
  rw [List.append_assoc]
  refine List.Perm.append_left f ?_
  exact (List.perm_cons_erase ha).map (fun a => (a, F a))
theorem va_D.nin {A : Nat → Prop} {f : va_W} {L : List Nat} {F : Nat → va_E} {a : Nat} {c : va_E} (h : va_D A ((f ++ [(a, c)]) ++ sT L F)) : a ∉ L := fun ha => by
  obtain ⟨j, hj⟩ := List.mem_iff_getElem?.mp (sT_mem (F := F) ha)
  exact h.ft (i := f.length) (p := (a, c)) (by rw [List.getElem?_append_right (Nat.le_refl _), Nat.sub_self]; rfl) hj rfl
theorem va_P.fi {D : va_G} {cl : List vw_C} {A : Nat → Prop} {f : va_W} {L : List Nat} {F : Nat → va_E} {H : Heap} {a : Nat} {c : va_E} (h : va_P D cl ((f ++ [(a, c)]) ++ sT L F) H) (hD : va_D A ((f ++ [(a, c)]) ++ sT L F)) : va_P D cl (f ++ sT (a :: L) (updE F a c)) H := by
  have e : sT (a :: L) (updE F a c) = (a, c) :: sT L F := by
    show (a, updE F a c a) :: sT L (updE F a c) = _
    rw [updE_s, sT_upd hD.nin]
  rw [e]
  rw [List.append_assoc] at h
  exact h
theorem va_D.fi {A : Nat → Prop} {f : va_W} {L : List Nat} {F : Nat → va_E} {a : Nat} {c : va_E} (hD : va_D A ((f ++ [(a, c)]) ++ sT L F)) : va_D A (f ++ sT (a :: L) (updE F a c)) := by
  have e : sT (a :: L) (updE F a c) = (a, c) :: sT L F := by
    show (a, updE F a c a) :: sT L (updE F a c) = _
    rw [updE_s, sT_upd hD.nin]
  rw [e]
  rw [List.append_assoc] at hD
  exact hD
/-- the store has grown: what was in it is as it was -/
def exS (L : List Nat) (F : Nat → va_E) (L' : List Nat) (F' : Nat → va_E) : Prop := ∀ a ∈ L, a ∈ L' ∧ F' a = F a
theorem exS.rf {L : List Nat} {F : Nat → va_E} : exS L F L F := fun _ h => ⟨h, rfl⟩
theorem exS.tr {L L1 L2 : List Nat} {F F1 F2 : Nat → va_E} (h : exS L F L1 F1) (g : exS L1 F1 L2 F2) : exS L F L2 F2 := fun a ha => ⟨(g a (h a ha).1).1, (g a (h a ha).1).2.trans (h a ha).2⟩
theorem exS.fi {L : List Nat} {F : Nat → va_E} {a : Nat} {c : va_E} (h : a ∉ L) : exS L F (a :: L) (updE F a c) := fun b hb => ⟨List.mem_cons_of_mem _ hb, updE_n (fun e => h (e ▸ hb))⟩
/-- all slots of a heap -/
def slN (H : Heap) : Nat := (H.toList.map (fun c => c.slots.size)).sum
theorem slN_same {s s' : State} {locs : List Loc} {k n : Nat} (h : s.sameButNew s' locs k n) : slN s'.heap = slN s.heap + ((s'.heap.toList.drop s.heap.size).map (·.slots.size)).sum := by
  obtain ⟨-, h1, -, -, -, h2⟩ := h
  have e : (s'.heap.toList.take s.heap.size).map (fun c => c.slots.size) = s.heap.toList.map (fun c => c.slots.size) := by
    refine List.ext_getElem? (fun i => ?_)
    rw [List.getElem?_map, List.getElem?_map, List.getElem?_take, Array.getElem?_toList, Array.getElem?_toList]
    by_cases hi : i < s.heap.size
    · rw [if_pos hi]
      obtain ⟨c', e1, -, e2, -⟩ := h2 i s.heap[i] (Array.getElem?_eq_getElem hi)
      rw [e1, Array.getElem?_eq_getElem hi]
      exact congrArg some e2
    · rw [if_neg hi, Array.getElem?_eq_none (by omega)]
  unfold slN
  rw [← e, ← List.sum_append, ← List.map_append, List.take_append_drop]
section RF0
variable {p : Program} {l : Launch} {e : Env} {R : Room} {s : State} {m : MethodId} {args : Array Value} {below : List Frame} {meth : Method} {c : Code} {H : Heap} {locs : List Loc} {cells slots : Nat} {Q : State → Prop} {g : JFrame}
/-- what has been made, told by the heap itself: the counts may be set to it -/
theorem W.tight {k n : Nat} (h1 : H.size ≤ s.heap.size + k) (h2 : slN H ≤ slN s.heap + n) (kk : W p l e R s m args below meth c H locs k n Q g) : W p l e R s m args below meth c H locs cells slots Q g := by
  intro T hT X
  refine kk T hT { X with same := ?_ }
  have hs := slN_same X.same
  have hh : (T.setVm s.vm).heap = H := hT
  obtain ⟨a1, a2, a3, a4, a5, a6⟩ := X.same
  rw [hh] at hs
  exact ⟨a1, a2, by rw [hh]; exact h1, a4, by rw [hh]; omega, a6⟩
theorem W.grow (kk : H.size ≤ s.heap.size + cells → slN H ≤ slN s.heap + slots → W p l e R s m args below meth c H locs cells slots Q g) : W p l e R s m args below meth c H locs cells slots Q g := by
  intro T hT X
  have hs := slN_same X.same
  have hh : (T.setVm s.vm).heap = H := hT
  obtain ⟨a1, a2, a3, a4, a5, a6⟩ := X.same
  rw [hh] at hs a3 a5
  exact kk a3 (by omega) T hT X
end RF0
theorem kEqO {D : va_G} {cl : List vw_C} {tys : List (ClassId × FieldType)} {U : State} (hK : va_K D cl tys U) (i j : Nat) {C : String} {a b : ClassId} (hi : tys[i]? = some (a, .object C)) (hj : tys[j]? = some (b, .object C)) : a = b := by
  obtain ⟨_, _, _, _, _, h1⟩ := (hK.2 i _ hi).2
  obtain ⟨_, _, _, _, _, h2⟩ := (hK.2 j _ hj).2
  exact Option.some.inj (h1.symm.trans h2)
