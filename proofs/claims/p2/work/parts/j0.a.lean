/-- a store: cells at the addresses L, what lies there F -/
def sT (L : List Nat) (F : Nat → va_E) : va_W := L.map (fun a => (a, F a))
def updE (F : Nat → va_E) (a : Nat) (c : va_E) : Nat → va_E := fun b => if b = a then c else F b
theorem updE_s {F : Nat → va_E} {a : Nat} {c : va_E} : updE F a c a = c := if_pos rfl
theorem updE_n {F : Nat → va_E} {a b : Nat} {c : va_E} (h : b ≠ a) : updE F a c b = F b := if_neg h
theorem sT_mem {L : List Nat} {F : Nat → va_E} {a : Nat} (h : a ∈ L) : (a, F a) ∈ sT L F := List.mem_map.mpr ⟨a, h, rfl⟩
theorem sT_upd {L : List Nat} {F : Nat → va_E} {a : Nat} {c : va_E} (h : a ∉ L) : sT L (updE F a c) = sT L F := by
  refine List.map_congr_left (fun b hb => ?_)
  rw [updE_n (show b ≠ a from fun e => h (e ▸ hb))]
theorem va_P.st {D : va_G} {cl : List vw_C} {f : va_W} {L : List Nat} {F : Nat → va_E} {H : Heap} (h : va_P D cl (f ++ sT L F) H) {a : Nat} {c : va_E} (ha : a ∈ L) (hc : F a = c) : va_P D cl [(a, c)] H :=
  h.turn (fun q hq => by
    rw [List.mem_singleton] at hq
    subst hq; subst hc
    exact List.mem_append_right _ (sT_mem ha))
theorem va_P.fo {D : va_G} {cl : List vw_C} {f : va_W} {L : List Nat} {F : Nat → va_E} {H : Heap} (h : va_P D cl (f ++ sT L F) H) {a : Nat} {c : va_E} (ha : a ∈ L) (hc : F a = c) : va_P D cl ((f ++ [(a, c)]) ++ sT (L.erase a) F) H :=
  h.turn (fun q hq => by
    rcases List.mem_append.mp hq with hq | hq
    · rcases List.mem_append.mp hq with hq | hq
      · exact List.mem_append_left _ hq
      · rw [List.mem_singleton] at hq
        subst hq; subst hc
        exact List.mem_append_right _ (sT_mem ha)
    · obtain ⟨b, hb, rfl⟩ := List.mem_map.mp hq
      exact List.mem_append_right _ (sT_mem (List.mem_of_mem_erase hb)))
theorem va_D.fo {A : Nat → Prop} {f : va_W} {L : List Nat} {F : Nat → va_E} (h : va_D A (f ++ sT L F)) {a : Nat} {c : va_E} (ha : a ∈ L) (hc : F a = c) : va_D A ((f ++ [(a, c)]) ++ sT (L.erase a) F) := by
  refine h.perm ?_
  subst hc
  rw [List.append_assoc]
  refine List.Perm.append_left f ?_
  exact (List.perm_cons_erase ha).map (fun a => (a, F a))
theorem va_D.nin {A : Nat → Prop} {f : va_W} {L : List Nat} {F : Nat → va_E} {a : Nat} {c : va_E} (h : va_D A ((f ++ [(a, c)]) ++ sT L F)) : a ∉ L := fun ha => by
  obtain ⟨j, hj⟩ := List.mem_iff_getElem?.mp (sT_mem (F := F) ha)
  exact h.ft (i := f.length) (p := (a, c)) (by rw [List.getElem?_append_right (Nat.le_refl _), Nat.sub_self]; rfl) hj rfl
theorem va_P.fi {D : va_G} {cl : List vw_C} {A : Nat → Prop} {f : va_W} {L : List Nat} {F : Nat → va_E} {H : Heap} {a : Nat} {c : va_E} (h : va_P D cl ((f ++ [(a, c)]) ++ sT L F) H) (hD : va_D A ((f ++ [(a, c)]) ++ sT L F)) : va_P D cl (f ++ sT (a :: L) (updE F a c)) H := by
  have e : sT (a :: L) (updE F a c) = (a, c) :: sT L F := by
    show (a, updE F a c a) :: sT L (updE F a c) = _
    rw [updE_s, sT_upd hD.nin]
  rw [e]
  rw [List.append_assoc] at h
  exact h
theorem va_D.fi {A : Nat → Prop} {f : va_W} {L : List Nat} {F : Nat → va_E} {a : Nat} {c : va_E} (hD : va_D A ((f ++ [(a, c)]) ++ sT L F)) : va_D A (f ++ sT (a :: L) (updE F a c)) := by
  have e : sT (a :: L) (updE F a c) = (a, c) :: sT L F := by
    show (a, updE F a c a) :: sT L (updE F a c) = _
    rw [updE_s, sT_upd hD.nin]
  rw [e]
  rw [List.append_assoc] at hD
  exact hD
/-- the store has grown: what was in it is as it was -/
def exS (L : List Nat) (F : Nat → va_E) (L' : List Nat) (F' : Nat → va_E) : Prop := ∀ a ∈ L, a ∈ L' ∧ F' a = F a
theorem exS.rf {L : List Nat} {F : Nat → va_E} : exS L F L F := fun _ h => ⟨h, rfl⟩
theorem exS.tr {L L1 L2 : List Nat} {F F1 F2 : Nat → va_E} (h : exS L F L1 F1) (g : exS L1 F1 L2 F2) : exS L F L2 F2 := fun a ha => ⟨(g a (h a ha).1).1, (g a (h a ha).1).2.trans (h a ha).2⟩
theorem exS.fi {L : List Nat} {F : Nat → va_E} {a : Nat} {c : va_E} (h : a ∉ L) : exS L F (a :: L) (updE F a c) := fun b hb => ⟨List.mem_cons_of_mem _ hb, updE_n (fun e => h (e ▸ hb))⟩
