-- j0.a.lean.txt
section
/-- a store: cells at the addresses L, what lies there F -/
def sT (L : List Nat) (F : Nat → va_E) : va_W := L.map (fun a => (a, F a))
def updE (F : Nat → va_E) (a : Nat) (c : va_E) : Nat → va_E := fun b => if b = a then c else F b
theorem updE_s {F : Nat → va_E} {a : Nat} {c : va_E} : updE F a c a = c := if_pos rfl
theorem updE_n {F : Nat → va_E} {a b : Nat} {c : va_E} (h : b ≠ a) : updE F a c b = F b := if_neg h
theorem sT_mem {L : List Nat} {F : Nat → va_E} {a : Nat} (h : a ∈ L) : (a, F a) ∈ sT L F := List.mem_map.mpr ⟨a, h, rfl⟩
theorem sT_upd {L : List Nat} {F : Nat → va_E} {a : Nat} {c : va_E} (h : a ∉ L) : sT L (updE F a c) = sT L F := by
  refine List.map_congr_left (fun b hb => ?_)
  rw [updE_n (show b ≠ a from fun e => h (e ▸ hb))]
theorem va_P.st {D : va_G} {cl : List vw_C} {f : va_W} {L : List Nat} {F : Nat → va_E} {H : Heap} (h : va_P D cl (f ++ sT L F) H) {a : Nat} {c : va_E} (ha : a ∈ L) (hc : F a = c) : va_P D cl [(a, c)] H :=
  h.turn (fun q hq => by
    rw [List.mem_singleton] at hq
    subst hq; subst hc
    exact List.mem_append_right _ (sT_mem ha))
theorem va_P.fo {D : va_G} {cl : List vw_C} {f : va_W} {L : List Nat} {F : Nat → va_E} {H : Heap} (h : va_P D cl (f ++ sT L F) H) {a : Nat} {c : va_E} (ha : a ∈ L) (hc : F a = c) : va_P D cl ((f ++ [(a, c)]) ++ sT (L.erase a) F) H :=
  h.turn (fun q hq => by
    rcases List.mem_append.mp hq with hq | hq
    · rcases List.mem_append.mp hq with hq | hq
      · exact List.mem_append_left _ hq
      · rw [List.mem_singleton] at hq
        subst hq; subst hc
        exact List.mem_append_right _ (sT_mem ha)
    · obtain ⟨b, hb, rfl⟩ := List.mem_map.mp hq
      exact List.mem_append_right _ (sT_mem (List.mem_of_mem_erase hb)))
theorem va_D.fo {A : Nat → Prop} {f : va_W} {L : List Nat} {F : Nat → va_E} (h : va_D A (f ++ sT L F)) {a : Nat} {c : va_E} (ha : a ∈ L) (hc : F a = c) : va_D A ((f ++ [(a, c)]) ++ sT (L.erase a) F) := by
  refine h.perm ?_
  subst hc
  rw [List.append_assoc]
  refine List.Perm.append_left f ?_
  exact (List.perm_cons_erase ha).map (fun a => (a, F a))
theorem va_D.nin {A : Nat → Prop} {f : va_W} {L : List Nat} {F : Nat → va_E} {a : Nat} {c : va_E} (h : va_D A ((f ++ [(a, c)]) ++ sT L F)) : a ∉ L := fun ha => by
  obtain ⟨j, hj⟩ := List.mem_iff_getElem?.mp (sT_mem (F := F) ha)
  exact h.ft (i := f.length) (p := (a, c)) (by rw [List.getElem?_append_right (Nat.le_refl _), Nat.sub_self]; rfl) hj rfl
theorem va_P.fi {D : va_G} {cl : List vw_C} {A : Nat → Prop} {f : va_W} {L : List Nat} {F : Nat → va_E} {H : Heap} {a : Nat} {c : va_E} (h : va_P D cl ((f ++ [(a, c)]) ++ sT L F) H) (hD : va_D A ((f ++ [(a, c)]) ++ sT L F)) : va_P D cl (f ++ sT (a :: L) (updE F a c)) H := by
  have e : sT (a :: L) (updE F a c) = (a, c) :: sT L F := by
    show (a, updE F a c a) :: sT L (updE F a c) = _
    rw [updE_s, sT_upd hD.nin]
  rw [e]
  rw [List.append_assoc] at h
  exact h
theorem va_D.fi {A : Nat → Prop} {f : va_W} {L : List Nat} {F : Nat → va_E} {a : Nat} {c : va_E} (hD : va_D A ((f ++ [(a, c)]) ++ sT L F)) : va_D A (f ++ sT (a :: L) (updE F a c)) := by
  have e : sT (a :: L) (updE F a c) = (a, c) :: sT L F := by
    show (a, updE F a c a) :: sT L (updE F a c) = _
    rw [updE_s, sT_upd hD.nin]
  rw [e]
  rw [List.append_assoc] at hD
  exact hD
/-- the store has grown: what was in it is as it was -/
def exS (L : List Nat) (F : Nat → va_E) (L' : List Nat) (F' : Nat → va_E) : Prop := ∀ a ∈ L, a ∈ L' ∧ F' a = F a
theorem exS.rf {L : List Nat} {F : Nat → va_E} : exS L F L F := fun _ h => ⟨h, rfl⟩
theorem exS.tr {L L1 L2 : List Nat} {F F1 F2 : Nat → va_E} (h : exS L F L1 F1) (g : exS L1 F1 L2 F2) : exS L F L2 F2 := fun a ha => ⟨(g a (h a ha).1).1, (g a (h a ha).1).2.trans (h a ha).2⟩
theorem exS.fi {L : List Nat} {F : Nat → va_E} {a : Nat} {c : va_E} (h : a ∉ L) : exS L F (a :: L) (updE F a c) := fun b hb => ⟨List.mem_cons_of_mem _ hb, updE_n (fun e => h (e ▸ hb))⟩
end
-- j0.b.lean.txt
section
def mA (mr : Nat → Nat) (mv : Nat → Int32) (vf : Value) (x_length x_size x_fault x_faultAt x_tokens x_p x_itemMany x_typeItems x_functions x_nest x_variables x_borrows : Int32) : List Value := [.ref (mr 0), .int x_length, .int x_size, .int x_fault, .int x_faultAt, .ref (mr 5), .ref (mr 6), .ref (mr 7), .ref (mr 8), .int x_tokens, .int x_p, .ref (mr 11), .int x_itemMany, .int x_typeItems, .int x_functions, .int x_nest, .int x_variables, .int x_borrows, .ref (mr 18), .int (mv 19), .ref (mr 20), .int (mv 21), .ref (mr 22), .int (mv 23), .int (mv 24), vf, .int (mv 26), .ref (mr 27), .ref (mr 28), .ref (mr 29), .ref (mr 30), .ref (mr 31), .ref (mr 32), .ref (mr 33), .ref (mr 34), .ref (mr 35), .ref (mr 36), .ref (mr 37), .ref (mr 38), .ref (mr 39), .ref (mr 40), .ref (mr 41), .ref (mr 42), .ref (mr 43), .ref (mr 44), .ref (mr 45), .ref (mr 46), .int (mv 47), .int (mv 48), .ref (mr 49), .int (mv 50), .ref (mr 51), .ref (mr 52), .ref (mr 53), .ref (mr 54), .ref (mr 55), .ref (mr 56), .int (mv 57), .ref (mr 58), .ref (mr 59), .ref (mr 60), .ref (mr 61), .ref (mr 62), .ref (mr 63), .int (mv 64), .int (mv 65), .int (mv 66), .ref (mr 67), .int (mv 68), .int (mv 69), .int (mv 70), .int (mv 71), .ref (mr 72), .int (mv 73), .ref (mr 74), .ref (mr 75), .int (mv 76), .int (mv 77), .ref (mr 78), .ref (mr 79), .ref (mr 80), .int (mv 81), .ref (mr 82), .int (mv 83), .int (mv 84), .ref (mr 85), .int (mv 86), .int (mv 87), .int (mv 88)]
def atF (ft : Nat → Int32) (zs k : Nat) : Int32 := if k < zs then ft k else -1
theorem atF_lt {ft : Nat → Int32} {zs k : Nat} {x : Int32} (h : atF ft zs k = x) (hx : x ≠ -1) : k < zs := by
  unfold atF at h
  split at h
  · assumption
  · exact absurd h.symm hx
def letB (c : Int32) : Int32 := if c ≠ 95 then 0 else 1
def letA (c : Int32) : Int32 := if c < 65 then letB c else if c ≤ 90 then 1 else letB c
def letF (c : Int32) : Int32 := if c < 97 then letA c else if c ≤ 122 then 1 else letA c
def digF (c : Int32) : Int32 := if c < 48 then 0 else if 57 < c then 0 else 1
theorem letF_1 : letF (-1) = 0 := by decide +kernel
theorem digF_1 : digF (-1) = 0 := by decide +kernel
theorem letF_lt {ft : Nat → Int32} {zs k : Nat} (h : ¬ letF (atF ft zs k) = 0) : k < zs := by
  rcases Nat.lt_or_ge k zs with z | z
  · exact z
  · exact absurd (by unfold atF; rw [if_neg (by omega)]; exact letF_1) h
theorem digF_lt {ft : Nat → Int32} {zs k : Nat} (h : ¬ digF (atF ft zs k) = 0) : k < zs := by
  rcases Nat.lt_or_ge k zs with z | z
  · exact z
  · exact absurd (by unfold atF; rw [if_neg (by omega)]; exact digF_1) h
end
