/-- a function: its object and its rows; fa: addresses, fc: numbers, fr: rows -/
def fnC (kI kZ : ClassId) (fa : Nat → Nat → Nat) (fc : Nat → Nat → Int32) (fr : Nat → Nat → Nat → Int32) (i : Nat) : va_W :=
  [(fa i 0, .inr (2, [.int (fc i 0), .int (fc i 1), .int (fc i 2), .ref (fa i 1), .int (fc i 3), .ref (fa i 2), .int (fc i 4), .int (fc i 5), .int (fc i 6), .int (fc i 7), .ref (fa i 3), .ref (fa i 4), .ref (fa i 5), .ref (fa i 6), .ref (fa i 7), .ref (fa i 8), .int (fc i 8), .int (fc i 9), .int (fc i 10), .int (fc i 11), .int (fc i 12), .int (fc i 13)])),
   (fa i 1, .inl (kI, 8, .inl (fr i 0))), (fa i 2, .inl (kI, 12, .inl (fr i 1))), (fa i 3, .inl (kI, 40, .inl (fr i 2))), (fa i 4, .inl (kI, 40, .inl (fr i 3))), (fa i 5, .inl (kZ, 40, .inl (fr i 4))), (fa i 6, .inl (kI, 40, .inl (fr i 5))), (fa i 7, .inl (kI, 40, .inl (fr i 6))), (fa i 8, .inl (kI, 40, .inl (fr i 7)))]
/-- functions from s on, n of them -/
def fnL (kI kZ : ClassId) (fa : Nat → Nat → Nat) (fc : Nat → Nat → Int32) (fr : Nat → Nat → Nat → Int32) : Nat → Nat → va_W
  | _, 0 => []
  | s, n + 1 => fnC kI kZ fa fc fr s ++ fnL kI kZ fa fc fr (s + 1) n
/-- all but i -/
def fnX (kI kZ : ClassId) (fa : Nat → Nat → Nat) (fc : Nat → Nat → Int32) (fr : Nat → Nat → Nat → Int32) (i : Nat) : va_W := fnL kI kZ fa fc fr 0 i ++ fnL kI kZ fa fc fr (i + 1) (39 - i)
theorem fnL_app {kI kZ : ClassId} {fa : Nat → Nat → Nat} {fc : Nat → Nat → Int32} {fr : Nat → Nat → Nat → Int32} : ∀ (k s n : Nat), fnL kI kZ fa fc fr s (k + n) = fnL kI kZ fa fc fr s k ++ fnL kI kZ fa fc fr (s + k) n
  | 0, s, n => by rw [Nat.zero_add]; rfl
  | k + 1, s, n => by
    rw [show k + 1 + n = (k + n) + 1 by omega]
    show fnC kI kZ fa fc fr s ++ fnL kI kZ fa fc fr (s + 1) (k + n) = (fnC kI kZ fa fc fr s ++ fnL kI kZ fa fc fr (s + 1) k) ++ _
    rw [fnL_app k (s + 1) n, List.append_assoc, show s + 1 + k = s + (k + 1) by omega]
theorem fnL_cg {kI kZ : ClassId} {fa : Nat → Nat → Nat} {fc gc : Nat → Nat → Int32} {fr gr : Nat → Nat → Nat → Int32} : ∀ (n s : Nat), (∀ j : Nat, s ≤ j → j < s + n → gc j = fc j ∧ gr j = fr j) → fnL kI kZ fa gc gr s n = fnL kI kZ fa fc fr s n
  | 0, s, _ => rfl
  | n + 1, s, h => by
    show fnC kI kZ fa gc gr s ++ fnL kI kZ fa gc gr (s + 1) n = fnC kI kZ fa fc fr s ++ fnL kI kZ fa fc fr (s + 1) n
    rw [fnL_cg n (s + 1) (fun j h1 h2 => h j (by omega) (by omega))]
    unfold fnC
    rw [(h s (by omega) (by omega)).1, (h s (by omega) (by omega)).2]
theorem fnX_cg {kI kZ : ClassId} {fa : Nat → Nat → Nat} {fc gc : Nat → Nat → Int32} {fr gr : Nat → Nat → Nat → Int32} {i : Nat} (h : ∀ j : Nat, j ≠ i → gc j = fc j ∧ gr j = fr j) : fnX kI kZ fa gc gr i = fnX kI kZ fa fc fr i := by
  unfold fnX
  rw [fnL_cg i 0 (fun j _ h2 => h j (by omega)), fnL_cg (39 - i) (i + 1) (fun j h1 _ => h j (by omega))]
theorem fn_perm {kI kZ : ClassId} {fa : Nat → Nat → Nat} {fc : Nat → Nat → Int32} {fr : Nat → Nat → Nat → Int32} {i : Nat} {f : va_W} (hi : i < 40) : List.Perm (f ++ fnL kI kZ fa fc fr 0 40) ((f ++ fnC kI kZ fa fc fr i) ++ fnX kI kZ fa fc fr i) := by
  have e : fnL kI kZ fa fc fr 0 40 = fnL kI kZ fa fc fr 0 i ++ (fnC kI kZ fa fc fr i ++ fnL kI kZ fa fc fr (i + 1) (39 - i)) := by
    have h1 := fnL_app (kI := kI) (kZ := kZ) (fa := fa) (fc := fc) (fr := fr) i 0 ((39 - i) + 1)
    rw [show i + (39 - i + 1) = 40 by omega, Nat.zero_add] at h1
    exact h1
  rw [e, List.append_assoc]
  refine List.Perm.append_left f ?_
  unfold fnX
  rw [← List.append_assoc, ← List.append_assoc]
  exact List.Perm.append_right _ List.perm_append_comm
theorem va_P.fn {D : va_G} {cl : List vw_C} {H : Heap} {kI kZ : ClassId} {fa : Nat → Nat → Nat} {fc : Nat → Nat → Int32} {fr : Nat → Nat → Nat → Int32} {f : va_W} (h : va_P D cl (f ++ fnL kI kZ fa fc fr 0 40) H) (i : Nat) (hi : i < 40) : va_P D cl ((f ++ fnC kI kZ fa fc fr i) ++ fnX kI kZ fa fc fr i) H := h.turn (fun _ hq => (fn_perm hi).mem_iff.mpr hq)
theorem va_D.fn {A : Nat → Prop} {kI kZ : ClassId} {fa : Nat → Nat → Nat} {fc : Nat → Nat → Int32} {fr : Nat → Nat → Nat → Int32} {f : va_W} (h : va_D A (f ++ fnL kI kZ fa fc fr 0 40)) (i : Nat) (hi : i < 40) : va_D A ((f ++ fnC kI kZ fa fc fr i) ++ fnX kI kZ fa fc fr i) := h.perm (fn_perm hi)
/-- back: the function i may have changed -/
theorem va_P.nf {D : va_G} {cl : List vw_C} {H : Heap} {kI kZ : ClassId} {fa : Nat → Nat → Nat} {fc gc : Nat → Nat → Int32} {fr gr : Nat → Nat → Nat → Int32} {f : va_W} (i : Nat) (h : va_P D cl ((f ++ fnC kI kZ fa gc gr i) ++ fnX kI kZ fa fc fr i) H) (hi : i < 40) (he : ∀ j : Nat, j ≠ i → gc j = fc j ∧ gr j = fr j) : va_P D cl (f ++ fnL kI kZ fa gc gr 0 40) H := by
  rw [← fnX_cg he] at h
  exact h.turn (fun _ hq => (fn_perm hi).mem_iff.mp hq)
theorem va_D.nf {A : Nat → Prop} {kI kZ : ClassId} {fa : Nat → Nat → Nat} {fc gc : Nat → Nat → Int32} {fr gr : Nat → Nat → Nat → Int32} {f : va_W} (i : Nat) (h : va_D A ((f ++ fnC kI kZ fa gc gr i) ++ fnX kI kZ fa fc fr i)) (hi : i < 40) (he : ∀ j : Nat, j ≠ i → gc j = fc j ∧ gr j = fr j) : va_D A (f ++ fnL kI kZ fa gc gr 0 40) := by
  rw [← fnX_cg he] at h
  exact h.perm (fn_perm hi).symm
/-- a family's numbers, rows with other ones at i -/
def fnU {α : Type} (f : Nat → α) (i : Nat) (x : α) : Nat → α := fun j => if j = i then x else f j
theorem fnU_s {α : Type} {f : Nat → α} {i : Nat} {x : α} : fnU f i x i = x := if_pos rfl
theorem fnU_n {α : Type} {f : Nat → α} {i j : Nat} {x : α} (h : j ≠ i) : fnU f i x j = f j := if_neg h
/-- one function's cells, its own rows told -/
def fnR (kI kZ : ClassId) (ad : Nat → Nat) (x : Nat → Int32) (y : Nat → Nat → Int32) : va_W := fnC kI kZ (fun _ => ad) (fun _ => x) (fun _ => y) 0
theorem fnR_eq {kI kZ : ClassId} {fa : Nat → Nat → Nat} {fc : Nat → Nat → Int32} {fr : Nat → Nat → Nat → Int32} {i : Nat} : fnC kI kZ fa fc fr i = fnR kI kZ (fa i) (fc i) (fr i) := rfl
theorem va_P.nfU {D : va_G} {cl : List vw_C} {H : Heap} {kI kZ : ClassId} {fa : Nat → Nat → Nat} {fc : Nat → Nat → Int32} {fr : Nat → Nat → Nat → Int32} {f : va_W} (i : Nat) {x : Nat → Int32} {y : Nat → Nat → Int32} (h : va_P D cl ((f ++ fnR kI kZ (fa i) x y) ++ fnX kI kZ fa fc fr i) H) (hi : i < 40) : va_P D cl (f ++ fnL kI kZ fa (fnU fc i x) (fnU fr i y) 0 40) H := by
  refine va_P.nf (fc := fc) (fr := fr) i ?_ hi (fun j hj => ⟨fnU_n hj, fnU_n hj⟩)
  rw [fnR_eq, fnU_s, fnU_s]; exact h
theorem va_D.nfU {A : Nat → Prop} {kI kZ : ClassId} {fa : Nat → Nat → Nat} {fc : Nat → Nat → Int32} {fr : Nat → Nat → Nat → Int32} {f : va_W} (i : Nat) {x : Nat → Int32} {y : Nat → Nat → Int32} (h : va_D A ((f ++ fnR kI kZ (fa i) x y) ++ fnX kI kZ fa fc fr i)) (hi : i < 40) : va_D A (f ++ fnL kI kZ fa (fnU fc i x) (fnU fr i y) 0 40) := by
  refine va_D.nf (fc := fc) (fr := fr) i ?_ hi (fun j hj => ⟨fnU_n hj, fnU_n hj⟩)
  rw [fnR_eq, fnU_s, fnU_s]; exact h
