-- k0.b.lean.txt
section
/-- the rows of the reference: how long -/
def rlen : Nat → Nat
  | 0 => 3000
  | 5 => 3002
  | 6 => 3002
  | 7 => 3002
  | 8 => 3002
  | 11 => 70
  | 18 => 2000
  | 20 => 4900
  | 22 => 40
  | 27 => 24000
  | 28 => 24000
  | 29 => 24000
  | 30 => 24000
  | 31 => 24000
  | 32 => 24000
  | 33 => 24000
  | 34 => 24000
  | 35 => 24000
  | 36 => 24000
  | 37 => 24000
  | 38 => 24000
  | 39 => 24000
  | 40 => 24000
  | 41 => 24000
  | 42 => 24000
  | 43 => 160
  | 44 => 160
  | 45 => 160
  | 46 => 160
  | 49 => 40
  | 51 => 256
  | 52 => 24000
  | 53 => 240000
  | 54 => 240000
  | 55 => 10
  | 56 => 10
  | 58 => 96000
  | 59 => 96000
  | 60 => 4
  | 61 => 430000
  | 62 => 430000
  | 63 => 430000
  | 67 => 4000
  | 72 => 20000
  | 74 => 2440
  | 75 => 61
  | 78 => 90000
  | 79 => 90000
  | 80 => 90000
  | 82 => 4000
  | 85 => 60
  | _ => 0
/-- .. of what -/
def rtag : Nat → Nat
  | 0 => 0
  | 5 => 0
  | 6 => 0
  | 7 => 0
  | 8 => 1
  | 11 => 3
  | 18 => 4
  | 20 => 2
  | 22 => 5
  | 27 => 0
  | 28 => 0
  | 29 => 0
  | 30 => 0
  | 31 => 1
  | 32 => 0
  | 33 => 0
  | 34 => 0
  | 35 => 0
  | 36 => 8
  | 37 => 8
  | 38 => 6
  | 39 => 4
  | 40 => 5
  | 41 => 7
  | 42 => 8
  | 43 => 6
  | 44 => 2
  | 45 => 0
  | 46 => 0
  | 49 => 5
  | 51 => 8
  | 52 => 2
  | 53 => 1
  | 54 => 1
  | 55 => 1
  | 56 => 1
  | 58 => 1
  | 59 => 1
  | 60 => 1
  | 61 => 1
  | 62 => 2
  | 63 => 0
  | 67 => 2
  | 72 => 1
  | 74 => 0
  | 75 => 0
  | 78 => 0
  | 79 => 0
  | 80 => 0
  | 82 => 0
  | 85 => 1
  | _ => 99
def rwL : List Nat := [0, 5, 6, 7, 8, 11, 18, 20, 22, 27, 28, 29, 30, 31, 32, 33, 34, 35, 36, 37, 38, 39, 40, 41, 42, 43, 44, 45, 46, 49, 51, 52, 53, 54, 55, 56, 58, 59, 60, 61, 62, 63, 67, 72, 74, 75, 78, 79, 80, 82, 85]
/-- the reference as its walks see it: ints, rows of ints, of longs, of references, its function; the store; its size, its slots -/
abbrev Sg : Type := (Nat → Int32) × (Nat → Nat → Int32) × (Nat → Nat → Int64) × (Nat → Nat → Option Nat) × Option Nat × List Nat × (Nat → va_E) × Nat × Nat
def Zi (S : Sg) : Nat → Int32 := S.1
def Zr (S : Sg) : Nat → Nat → Int32 := S.2.1
def Zl (S : Sg) : Nat → Nat → Int64 := S.2.2.1
def Zq (S : Sg) : Nat → Nat → Option Nat := S.2.2.2.1
def Zf (S : Sg) : Option Nat := S.2.2.2.2.1
def ZL (S : Sg) : List Nat := S.2.2.2.2.2.1
def ZF (S : Sg) : Nat → va_E := S.2.2.2.2.2.2.1
def Zz (S : Sg) : Nat := S.2.2.2.2.2.2.2.1
def Zn (S : Sg) : Nat := S.2.2.2.2.2.2.2.2
def Ui (S : Sg) (k : Nat) (v : Int32) : Sg := (upd (Zi S) k v, Zr S, Zl S, Zq S, Zf S, ZL S, ZF S, Zz S, Zn S)
def Ur (S : Sg) (r : Nat) (f : Nat → Int32) : Sg := (Zi S, va_up (Zr S) r f, Zl S, Zq S, Zf S, ZL S, ZF S, Zz S, Zn S)
def Ul (S : Sg) (r : Nat) (f : Nat → Int64) : Sg := (Zi S, Zr S, va_up (Zl S) r f, Zq S, Zf S, ZL S, ZF S, Zz S, Zn S)
def Uq (S : Sg) (r : Nat) (f : Nat → Option Nat) : Sg := (Zi S, Zr S, Zl S, va_up (Zq S) r f, Zf S, ZL S, ZF S, Zz S, Zn S)
def Uf (S : Sg) (o : Option Nat) : Sg := (Zi S, Zr S, Zl S, Zq S, o, ZL S, ZF S, Zz S, Zn S)
def UF (S : Sg) (a : Nat) (c : va_E) : Sg := (Zi S, Zr S, Zl S, Zq S, Zf S, ZL S, updE (ZF S) a c, Zz S, Zn S)
/-- a new cell of n slots -/
def Un (S : Sg) (c : va_E) (n : Nat) : Sg := (Zi S, Zr S, Zl S, Zq S, Zf S, Zz S :: ZL S, updE (ZF S) (Zz S) c, Zz S + 1, Zn S + n)
/-- classes of rows by number; most cells, most slots -/
abbrev Ky : Type := (Nat → ClassId) × Nat × Nat
def TY (kc : Nat → ClassId) : List (ClassId × FieldType) := [(kc 0, .int), (kc 1, .long), (kc 2, .boolean), (kc 3, .object RX16), (kc 4, .object RX20), (kc 5, .object RX21), (kc 6, .object RX18), (kc 7, .object RX13), (kc 8, .array .int), (kc 9, .object RX15), (kc 10, .object RX14), (kc 11, .object RX19), (kc 12, .object RX22), (kc 13, .object RX17)]
/-- the object's values -/
def mO (mr : Nat → Nat) (S : Sg) : List Value := (List.range 89).map (fun k => if rlen k = 0 then (if k = 25 then va_rf (Zf S) else .int (Zi S k)) else .ref (mr k))
def rwc (kc : Nat → ClassId) (S : Sg) (r : Nat) : va_E := .inl (kc (rtag r), rlen r, if rtag r = 0 ∨ rtag r = 2 then .inl (Zr S r) else if rtag r = 1 then .inr (.inl (Zl S r)) else .inr (.inr (.inr (.inr (Zq S r)))))
def FF (kc : Nat → ClassId) (m9 : Nat) (mr : Nat → Nat) (S : Sg) (a : Nat) : va_E := if a = m9 then .inr (23, mO mr S) else match rwL.find? (fun r => mr r == a) with
  | some r => rwc kc S r
  | none => ZF S a
def LL (m9 : Nat) (mr : Nat → Nat) (S : Sg) : List Nat := m9 :: (rwL.map mr ++ ZL S)
def PI (D : va_G) (A : Nat → Prop) (K : Ky) (m9 : Nat) (mr : Nat → Nat) (H0 : Heap) (S0 S : Sg) (H : Heap) (locs : List Loc) : Prop :=
  va_P D vwCl (sT (LL m9 mr S) (FF K.1 m9 mr S)) H ∧ va_D A (sT (LL m9 mr S) (FF K.1 m9 mr S)) ∧ va_S A H0 H locs ∧ H.size = Zz S ∧ Zn S0 ≤ Zn S ∧ (∀ a ∈ ZL S0, a ∈ ZL S) ∧ (∀ q : Nat, H0.size ≤ q → q < Zz S → q ∈ ZL S) ∧ (Zz S ≤ K.2.1 ∧ Zn S ≤ K.2.2) ∧ ∀ r ∈ rwL, ∀ r2 ∈ rwL, mr r = mr r2 → r = r2
def AA (K : Ky) (m9 : Nat) (mr : Nat → Nat) (S : Sg) : Nat → Prop := va_A (sT (LL m9 mr S) (FF K.1 m9 mr S)) (Zz S)
theorem sT_nd {A : Nat → Prop} {L : List Nat} {F : Nat → va_E} (h : va_D A (sT L F)) : L.Nodup := by
  refine List.pairwise_iff_getElem.mpr (fun i j hi hj hij e => ?_)
  have h1 : (sT L F)[i]? = some (L[i], F L[i]) := by unfold sT; rw [List.getElem?_map, List.getElem?_eq_getElem hi]; rfl
  have h2 : (sT L F)[j]? = some (L[j], F L[j]) := by unfold sT; rw [List.getElem?_map, List.getElem?_eq_getElem hj]; rfl
  have := h.1 i j _ _ h1 h2 e
  omega
theorem sT_A {A : Nat → Prop} {L : List Nat} {F : Nat → va_E} (h : va_D A (sT L F)) {a : Nat} (ha : a ∈ L) : A a := by
  obtain ⟨j, hj⟩ := List.mem_iff_getElem?.mp (sT_mem (F := F) ha)
  exact h.2 j _ hj
theorem sT_D {A : Nat → Prop} {L : List Nat} {F : Nat → va_E} (h : L.Nodup) (hA : ∀ a ∈ L, A a) : va_D A (sT L F) := by
  have hg : ∀ (i : Nat) (p : Nat × va_E), (sT L F)[i]? = some p → L[i]? = some p.1 := fun i p hp => by
    unfold sT at hp
    rw [List.getElem?_map] at hp
    cases e : L[i]? with
    | none => rw [e] at hp; cases hp
    | some x => rw [e] at hp; cases hp; rfl
  refine ⟨fun i j p q hp hq e => ?_, fun k q hq => hA _ (List.mem_of_getElem? (hg k q hq))⟩
  obtain ⟨hi, ei⟩ := List.getElem?_eq_some_iff.mp (hg i p hp)
  obtain ⟨hj, ej⟩ := List.getElem?_eq_some_iff.mp (hg j q hq)
  rcases Nat.lt_trichotomy i j with z | z | z
  · exact absurd (ei.trans (e.trans ej.symm)) (List.pairwise_iff_getElem.mp h i j hi hj z)
  · exact z
  · exact absurd (ej.trans (e.symm.trans ei.symm)) (List.pairwise_iff_getElem.mp h j i hj hi z)
theorem vbk_P {D : va_G} {cl : List vw_C} {L : List Nat} {F : Nat → va_E} {H : Heap} {a : Nat} {c : va_E} (h : va_P D cl ([(a, c)] ++ sT (L.erase a) F) H) : va_P D cl (sT L (updE F a c)) H :=
  h.turn (fun q hq => by
    obtain ⟨b, hb, rfl⟩ := List.mem_map.mp hq
    by_cases e : b = a
    · subst e; rw [updE_s]; exact List.mem_append_left _ (List.mem_singleton.mpr rfl)
    · rw [updE_n e]; exact List.mem_append_right _ (sT_mem ((List.mem_erase_of_ne e).mpr hb)))
theorem vbk_D {A : Nat → Prop} {L : List Nat} {F : Nat → va_E} {a : Nat} {c : va_E} (ha : a ∈ L) (h : va_D A ([(a, c)] ++ sT (L.erase a) F)) : va_D A (sT L (updE F a c)) := by
  have hn := va_D.nin (f := []) h
  refine h.perm ?_
  have e : ([(a, c)] : va_W) ++ sT (L.erase a) F = sT (a :: L.erase a) (updE F a c) := by
    show (a, c) :: sT (L.erase a) F = (a, updE F a c a) :: sT (L.erase a) (updE F a c)
    rw [updE_s, sT_upd hn]
  rw [e]
  exact ((List.perm_cons_erase ha).map (fun b => (b, updE F a c b))).symm
section PIL
variable {D : va_G} {A : Nat → Prop} {K : Ky} {m9 : Nat} {mr : Nat → Nat} {H0 H : Heap} {S0 S : Sg} {locs : List Loc}
theorem PI.nd (h : PI D A K m9 mr H0 S0 S H locs) : (LL m9 mr S).Nodup := sT_nd h.2.1
theorem PI.n9 (h : PI D A K m9 mr H0 S0 S H locs) {r : Nat} (hr : r ∈ rwL) : mr r ≠ m9 := fun e => (List.nodup_cons.mp h.nd).1 (List.mem_append_left _ (by rw [← e]; exact List.mem_map.mpr ⟨r, hr, rfl⟩))
theorem PI.m9L (h : PI D A K m9 mr H0 S0 S H locs) {a : Nat} (ha : a ∈ ZL S) : a ≠ m9 := fun e => (List.nodup_cons.mp h.nd).1 (List.mem_append_right _ (by rw [← e]; exact ha))
theorem PI.nrL (h : PI D A K m9 mr H0 S0 S H locs) {a r : Nat} (ha : a ∈ ZL S) (hr : r ∈ rwL) : mr r ≠ a := fun e => by
  have h1 := (List.nodup_append.mp (List.nodup_cons.mp h.nd).2).2.2
  exact h1 (mr r) (List.mem_map.mpr ⟨r, hr, rfl⟩) a ha e
theorem fd_none {mr : Nat → Nat} {a : Nat} (h : ∀ r ∈ rwL, mr r ≠ a) : rwL.find? (fun r => mr r == a) = none := List.find?_eq_none.mpr (fun r hr q => h r hr (by simpa using q))
theorem fd_some {mr : Nat → Nat} {r : Nat} (hi : ∀ r ∈ rwL, ∀ r2 ∈ rwL, mr r = mr r2 → r = r2) (hr : r ∈ rwL) : rwL.find? (fun x => mr x == mr r) = some r := by
  cases e : rwL.find? (fun x => mr x == mr r) with
  | none => exact absurd (by simp) (List.find?_eq_none.mp e r hr)
  | some x =>
    have h1 := List.find?_some e
    rw [hi x (List.mem_of_find?_eq_some e) r hr (by simpa using h1)]
theorem FF_m {kc : Nat → ClassId} : FF kc m9 mr S m9 = .inr (23, mO mr S) := if_pos rfl
theorem PI.FFr (h : PI D A K m9 mr H0 S0 S H locs) {r : Nat} (hr : r ∈ rwL) : FF K.1 m9 mr S (mr r) = rwc K.1 S r := by
  unfold FF
  rw [if_neg (h.n9 hr), fd_some h.2.2.2.2.2.2.2.2 hr]
theorem PI.FFL (h : PI D A K m9 mr H0 S0 S H locs) {a : Nat} (ha : a ∈ ZL S) : FF K.1 m9 mr S a = ZF S a := by
  unfold FF
  rw [if_neg (h.m9L ha), fd_none (fun r hr => h.nrL ha hr)]
theorem LLm : m9 ∈ LL m9 mr S := List.mem_cons_self
theorem LLr {r : Nat} (hr : r ∈ rwL) : mr r ∈ LL m9 mr S := List.mem_cons_of_mem _ (List.mem_append_left _ (List.mem_map.mpr ⟨r, hr, rfl⟩))
theorem LLl {a : Nat} (ha : a ∈ ZL S) : a ∈ LL m9 mr S := List.mem_cons_of_mem _ (List.mem_append_right _ ha)
theorem PI.one (h : PI D A K m9 mr H0 S0 S H locs) {a : Nat} {c : va_E} (ha : a ∈ LL m9 mr S) (hc : FF K.1 m9 mr S a = c) : va_P D vwCl [(a, c)] H := va_P.st (f := []) h.1 ha hc
theorem PI.lt (h : PI D A K m9 mr H0 S0 S H locs) {a : Nat} (ha : a ∈ LL m9 mr S) : a < Zz S := by
  have := (h.one ha rfl) 0 _ rfl
  rw [← h.2.2.2.1]; exact va_at.lt this
/-- the world, the cell a in front -/
theorem PI.fo (h : PI D A K m9 mr H0 S0 S H locs) {a : Nat} {c : va_E} (ha : a ∈ LL m9 mr S) (hc : FF K.1 m9 mr S a = c) : va_P D vwCl ([(a, c)] ++ sT ((LL m9 mr S).erase a) (FF K.1 m9 mr S)) H ∧ va_D A ([(a, c)] ++ sT ((LL m9 mr S).erase a) (FF K.1 m9 mr S)) := ⟨va_P.fo (f := []) h.1 ha hc, va_D.fo (f := []) h.2.1 ha hc⟩
/-- .. and put back, changed -/
theorem PI.bk {S2 : Sg} {H1 : Heap} {locs1 : List Loc} (h : PI D A K m9 mr H0 S0 S H locs) {a : Nat} {c : va_E} (ha : a ∈ LL m9 mr S) (hP : va_P D vwCl ([(a, c)] ++ sT ((LL m9 mr S).erase a) (FF K.1 m9 mr S)) H1) (hD : va_D A ([(a, c)] ++ sT ((LL m9 mr S).erase a) (FF K.1 m9 mr S))) (hS : va_S A H0 H1 locs1) (hz : H1.size = H.size) (hL : ZL S2 = ZL S) (hF : FF K.1 m9 mr S2 = updE (FF K.1 m9 mr S) a c) (e1 : Zz S2 = Zz S) (e2 : Zn S2 = Zn S) : PI D A K m9 mr H0 S0 S2 H1 locs1 := by
  have hL2 : LL m9 mr S2 = LL m9 mr S := by unfold LL; rw [hL]
  refine ⟨?_, ?_, hS, by rw [hz, e1]; exact h.2.2.2.1, by rw [e2]; exact h.2.2.2.2.1, by rw [hL]; exact h.2.2.2.2.2.1, by rw [hL, e1]; exact h.2.2.2.2.2.2.1, by rw [e1, e2]; exact h.2.2.2.2.2.2.2.1, h.2.2.2.2.2.2.2.2⟩
  · rw [hL2, hF]; exact vbk_P hP
  · rw [hL2, hF]; exact vbk_D ha hD
theorem va_S.tr {A : Nat → Prop} {H0 H H1 : Heap} {locs locs1 : List Loc} (h : va_S A H0 H locs) (g : va_S A H H1 locs1) : va_S A H0 H1 locs1 := ⟨Nat.le_trans h.1 g.1, fun q h1 h2 => (g.2.1 q (Nat.lt_of_lt_of_le h1 h.1) h2).trans (h.2.1 q h1 h2), g.2.2⟩
theorem va_S.rs {A : Nat → Prop} {H0 H : Heap} {locs : List Loc} (h : va_S A H0 H locs) : va_S A H H locs := ⟨Nat.le_refl _, fun _ _ _ => rfl, h.2.2⟩
/-- a new cell -/
theorem PI.nw {H1 : Heap} {locs1 : List Loc} {q n : Nat} {c : va_E} (h : PI D (AA K m9 mr S0) K m9 mr H0 S0 S H locs) (h0 : Zz S0 = H0.size) (hP : va_P D vwCl (sT (LL m9 mr S) (FF K.1 m9 mr S) ++ [(q, c)]) H1) (hD : va_D (AA K m9 mr S0) (sT (LL m9 mr S) (FF K.1 m9 mr S) ++ [(q, c)])) (hS : va_S (AA K m9 mr S0) H0 H1 locs1) (hz1 : H.size ≤ H1.size) (hz : H1.size ≤ Zz S + 1) (hk : Zz S + 1 ≤ K.2.1 ∧ Zn S + n ≤ K.2.2) : q = Zz S ∧ PI D (AA K m9 mr S0) K m9 mr H0 S0 (Un S c n) H1 locs1 := by
  have hq : q < H1.size := va_at.lt (hP (sT (LL m9 mr S) (FF K.1 m9 mr S)).length (q, c) (by rw [List.getElem?_append_right (Nat.le_refl _), Nat.sub_self]; rfl))
  have hnin : q ∉ LL m9 mr S := fun hm => by
    obtain ⟨j, hj⟩ := List.mem_iff_getElem?.mp (sT_mem (F := FF K.1 m9 mr S) hm)
    exact hD.ft hj (j := 0) (q := (q, c)) rfl rfl
  have hA : AA K m9 mr S0 q := hD.2 (sT (LL m9 mr S) (FF K.1 m9 mr S)).length (q, c) (by rw [List.getElem?_append_right (Nat.le_refl _), Nat.sub_self]; rfl)
  have hge : Zz S ≤ q := by
    rcases hA with ⟨k, e, hk⟩ | hk
    · exfalso
      apply hnin
      unfold sT at hk
      rw [List.getElem?_map] at hk
      cases e2 : (LL m9 mr S0)[k]? with
      | none => rw [e2] at hk; cases hk
      | some x =>
        rw [e2] at hk; cases hk
        have hm := List.mem_of_getElem? e2
        rcases List.mem_cons.mp hm with hm | hm
        · rw [hm]; exact LLm
        · rcases List.mem_append.mp hm with hm | hm
          · exact List.mem_cons_of_mem _ (List.mem_append_left _ hm)
          · exact LLl (h.2.2.2.2.2.1 _ hm)
    · rcases Nat.lt_or_ge q (Zz S) with z | z
      · exact absurd (LLl (h.2.2.2.2.2.2.1 q (by omega) z)) hnin
      · exact z
  have hs := h.2.2.2.1
  have e : q = Zz S := by omega
  subst e
  have hnl : ∀ a ∈ LL m9 mr S, a ≠ Zz S := fun a ha e => hnin (e ▸ ha)
  have hFz : ∀ a : Nat, a ≠ Zz S → FF K.1 m9 mr (Un S c n) a = FF K.1 m9 mr S a := fun a ha => by
    unfold FF
    by_cases e2 : a = m9
    · rw [if_pos e2, if_pos e2]; rfl
    · rw [if_neg e2, if_neg e2]
      cases e3 : rwL.find? (fun x => mr x == a) with
      | none => exact updE_n ha
      | some x => rfl
  have hFs : FF K.1 m9 mr (Un S c n) (Zz S) = c := by
    unfold FF
    rw [if_neg (fun q => hnl m9 LLm q.symm), fd_none (fun r hr => hnl _ (LLr hr))]
    exact updE_s
  have hperm : (sT (LL m9 mr (Un S c n)) (FF K.1 m9 mr (Un S c n))).Perm (sT (LL m9 mr S) (FF K.1 m9 mr S) ++ [(Zz S, c)]) := by
    have h1 : sT (LL m9 mr S) (FF K.1 m9 mr S) = sT (LL m9 mr S) (FF K.1 m9 mr (Un S c n)) := List.map_congr_left (fun a ha => by rw [hFz a (hnl a ha)])
    rw [h1]
    have h2 : (LL m9 mr (Un S c n)).Perm (LL m9 mr S ++ [Zz S]) := by
      show (m9 :: (rwL.map mr ++ (Zz S :: ZL S))).Perm (m9 :: (rwL.map mr ++ ZL S) ++ [Zz S])
      refine List.Perm.cons _ ?_
      show (rwL.map mr ++ (Zz S :: ZL S)).Perm ((rwL.map mr ++ ZL S) ++ [Zz S])
      rw [List.append_assoc]
      exact List.Perm.append_left _ (List.perm_append_comm (l₁ := [Zz S]))
    have h3 := h2.map (fun a => (a, FF K.1 m9 mr (Un S c n) a))
    rw [List.map_append] at h3
    have h4 : List.map (fun a => (a, FF K.1 m9 mr (Un S c n) a)) [Zz S] = [(Zz S, c)] := by show [(Zz S, FF K.1 m9 mr (Un S c n) (Zz S))] = _; rw [hFs]
    rw [h4] at h3
    exact h3
  refine ⟨rfl, hP.turn (fun x hx => hperm.mem_iff.mp hx), hD.perm hperm.symm, hS, by show _ = Zz S + 1; omega, by show _ ≤ Zn S + n; have := h.2.2.2.2.1; omega, fun a ha => List.mem_cons_of_mem _ (h.2.2.2.2.2.1 a ha), fun x h1 h2 => ?_, hk, h.2.2.2.2.2.2.2.2⟩
  have h2 : x < Zz S + 1 := h2
  by_cases e : x = Zz S
  · rw [e]; exact List.mem_cons_self
  · exact List.mem_cons_of_mem _ (h.2.2.2.2.2.2.1 x h1 (by omega))
end PIL
theorem mO_get {mr : Nat → Nat} {S : Sg} {k : Nat} (hk : k < 89) : (mO mr S)[k]? = some (if rlen k = 0 then (if k = 25 then va_rf (Zf S) else .int (Zi S k)) else .ref (mr k)) := by
  unfold mO
  rw [List.getElem?_map, List.getElem?_range hk]; rfl
theorem mO_set {mr : Nat → Nat} {S S2 : Sg} {k : Nat} {v : Value} (hk : k < 89) (h1 : ∀ j : Nat, j ≠ k → Zi S2 j = Zi S j) (h2 : k ≠ 25 → Zf S2 = Zf S) (h3 : (if rlen k = 0 then (if k = 25 then va_rf (Zf S2) else .int (Zi S2 k)) else .ref (mr k)) = v) : mO mr S2 = (mO mr S).set k v := by
  have hl : ∀ T : Sg, (mO mr T).length = 89 := fun T => by unfold mO; rw [List.length_map, List.length_range]
  refine List.ext_getElem? (fun j => ?_)
  rcases Nat.lt_or_ge j 89 with hj | hj
  · rw [mO_get hj]
    by_cases e : k = j
    · subst e
      rw [List.getElem?_set_self (by rw [hl]; exact hk), h3]
    · rw [List.getElem?_set_ne e, mO_get hj, h1 j (fun q => e q.symm)]
      by_cases e2 : j = 25
      · subst e2; rw [h2 e]
      · rw [if_neg e2, if_neg e2]
  · rw [List.getElem?_eq_none (by rw [hl]; exact hj), List.getElem?_eq_none (by rw [List.length_set, hl]; exact hj)]
section FFu
variable {D : va_G} {A : Nat → Prop} {K : Ky} {m9 : Nat} {mr : Nat → Nat} {H0 H : Heap} {S0 S S2 : Sg} {locs : List Loc}
theorem FF_um {kc : Nat → ClassId} {c : va_E} (h1 : .inr (23, mO mr S2) = c) (h2 : Zr S2 = Zr S) (h3 : Zl S2 = Zl S) (h4 : Zq S2 = Zq S) (h5 : ZF S2 = ZF S) : FF kc m9 mr S2 = updE (FF kc m9 mr S) m9 c := by
  funext a
  by_cases e : a = m9
  · subst e; rw [updE_s, FF_m, h1]
  · rw [updE_n e]; unfold FF rwc
    rw [if_neg e, if_neg e, h2, h3, h4, h5]
theorem mO_same (h1 : Zi S2 = Zi S) (h2 : Zf S2 = Zf S) : mO mr S2 = mO mr S := by unfold mO; rw [h1, h2]
theorem PI.ur (h : PI D A K m9 mr H0 S0 S H locs) {r : Nat} (hr : r ∈ rwL) {c : va_E} (h1 : rwc K.1 S2 r = c) (h2 : ∀ j : Nat, j ≠ r → Zr S2 j = Zr S j ∧ Zl S2 j = Zl S j ∧ Zq S2 j = Zq S j) (h5 : ZF S2 = ZF S) (h6 : Zi S2 = Zi S) (h7 : Zf S2 = Zf S) : FF K.1 m9 mr S2 = updE (FF K.1 m9 mr S) (mr r) c := by
  funext a
  by_cases e : a = mr r
  · subst e; rw [updE_s]; unfold FF
    rw [if_neg (h.n9 hr), fd_some h.2.2.2.2.2.2.2.2 hr]; exact h1
  · rw [updE_n e]; unfold FF
    by_cases e2 : a = m9
    · rw [if_pos e2, if_pos e2, mO_same h6 h7]
    · rw [if_neg e2, if_neg e2, h5]
      cases e3 : rwL.find? (fun x => mr x == a) with
      | none => rfl
      | some x =>
        have hxa : mr x = a := by have h9 := List.find?_some e3; simpa using h9
        have hx : x ≠ r := fun q => by subst q; exact e hxa.symm
        obtain ⟨g1, g2, g3⟩ := h2 x hx
        show rwc K.1 S2 x = rwc K.1 S x
        unfold rwc; rw [g1, g2, g3]
theorem PI.uF (h : PI D A K m9 mr H0 S0 S H locs) {a : Nat} (ha : a ∈ ZL S) {c : va_E} : FF K.1 m9 mr (UF S a c) = updE (FF K.1 m9 mr S) a c := by
  funext b
  by_cases e : b = a
  · subst e; rw [updE_s]; unfold FF
    rw [if_neg (h.m9L ha), fd_none (fun r hr => h.nrL ha hr)]; exact updE_s
  · rw [updE_n e]; unfold FF
    by_cases e2 : b = m9
    · rw [if_pos e2, if_pos e2]; rfl
    · rw [if_neg e2, if_neg e2]
      cases e3 : rwL.find? (fun x => mr x == b) with
      | none => exact updE_n e
      | some x => rfl
end FFu
end
-- k0.c.lean.txt
section
/-- how a method of the reference ends -/
def QC (D : va_G) (K : Ky) (m9 : Nat) (mr : Nat → Nat) (S0 Sf : Sg) (rv : Option Value) : Array Value → State → Outcome → State → Prop := fun _ st o t => o = .returned rv ∧ PI D (AA K m9 mr S0) K m9 mr st.heap S0 Sf t.heap [] ∧ slN t.heap ≤ slN st.heap + (Zn Sf - Zn S0) ∧ va_F (AA K m9 mr S0) st t
/-- .. in one of the ways of Φ -/
def QCP (D : va_G) (K : Ky) (m9 : Nat) (mr : Nat → Nat) (S0 : Sg) (Φ : Sg → Option Value → Prop) : Array Value → State → Outcome → State → Prop := fun a st o t => ∃ (Sf : Sg) (rv : Option Value), Φ Sf rv ∧ QC D K m9 mr S0 Sf rv a st o t
/-- a method of the reference: from S it comes to Sf -/
def CT (l : Launch) (D : va_G) (K : Ky) (m9 : Nat) (mr : Nat → Nat) (y : MethodName) (cd : Cond) (fr lo : Nat) (S Sf : Sg) (av : List Value) (rv : Option Value) : Prop :=
  Met l y (cd :: wR) { frames := fr, cells := K.2.1 - Zz S, slots := K.2.2 - Zn S, locals := lo } (va_Pc av (fun U => PI D (fun _ => True) K m9 mr U.heap S S U.heap [] ∧ va_K D vwCl (TY K.1) U ∧ nsM U ∧ nwA U)) (QC D K m9 mr S Sf rv) (K.2.1 - Zz S) (K.2.2 - Zn S) (AA K m9 mr S)
def CX (p : Program) (l : Launch) (e : Env) (R : Room) (s : State) (m : MethodId) (args : Array Value) (below : List Frame) (meth : Method) (c : Code) (Q : State → Prop) (D : va_G) (A : Nat → Prop) (K : Ky) (m9 : Nat) (mr : Nat → Nat) (own mn : String) (cc : ByteArray) (nL : Nat) (Ts : List Cond) (ret : Option FieldType) (fr lo : Nat) (S0 Sf : Sg) (rv : Option Value) : Prop :=
  CallFix p m c cc nL s args Ts own ∧ (∀ w ∈ wR, w ∈ Ts) ∧ va_K D vwCl (TY K.1) s ∧ nsM s ∧ nwA s ∧ (∀ q : Nat, s.heap.size ≤ q → A q) ∧ (R.cells = K.2.1 - Zz S0 ∧ R.slots = K.2.2 - Zn S0 ∧ R.frames = fr ∧ R.locals = lo) ∧ meth.sig.returnType = ret ∧ (meth.locks = false ∧ meth.name = mn) ∧ Zz S0 = s.heap.size ∧ A = AA K m9 mr S0 ∧ ∃ Φ : Sg → Option Value → Prop, Φ Sf rv ∧ Q = MQ below (QCP D K m9 mr S0 Φ) args s (K.2.1 - Zz S0) (K.2.2 - Zn S0) (AA K m9 mr S0)
def WX (p : Program) (l : Launch) (e : Env) (R : Room) (s : State) (m : MethodId) (args : Array Value) (below : List Frame) (meth : Method) (c : Code) (Q : State → Prop) (D : va_G) (A : Nat → Prop) (K : Ky) (m9 : Nat) (mr : Nat → Nat) (nL : Nat) (S0 : Sg) (S : Sg) (pc : Nat) (lv : List (Nat × Value)) (st : List Value) : Prop :=
  ∀ (H : Heap) (locs : List Loc) (ls : Array Slot), PI D A K m9 mr s.heap S0 S H locs → lv_has ls nL lv → W p l e R s m args below meth c H locs (Zz S - Zz S0) (Zn S - Zn S0) Q (F0 m pc ls st)
theorem cat_rf (o : Option Nat) : (va_rf o).category = 1 := by cases o <;> rfl
/-- behind i no long begins -/
def okc (i : Nat) : List (Nat × Value) → Prop
  | [] => True
  | q :: t => (if q.1 + 1 = i then q.2.category = 1 else True) ∧ okc i t
theorem okc_of {i : Nat} : ∀ {l : List (Nat × Value)}, okc i l → ∀ q ∈ l, q.1 + 1 = i → q.2.category = 1
  | [], _, _, h, _ => by cases h
  | x :: t, h, q, hq, e => by
    rcases List.mem_cons.mp hq with rfl | hq
    · have := h.1; rw [if_pos e] at this; exact this
    · exact okc_of h.2 q hq e
section XL
variable {p : Program} {l : Launch} {e : Env} {R : Room} {s : State} {m : MethodId} {args : Array Value} {below : List Frame} {meth : Method} {c : Code} {Q : State → Prop} {D : va_G} {A : Nat → Prop} {K : Ky} {m9 : Nat} {mr : Nat → Nat} {own mn : String} {cc : ByteArray} {nL : Nat} {Ts : List Cond} {ret : Option FieldType} {fr lo : Nat} {S0 Sf : Sg} {rv : Option Value}
variable {S : Sg} {pc : Nat} {lv : List (Nat × Value)} {st : List Value} {ρ : Type} {Rr : ρ}
theorem CX.x (C : CX p l e R s m args below meth c Q D A K m9 mr own mn cc nL Ts ret fr lo S0 Sf rv) : p.tables.exec = Jvm.exec := C.1.1
theorem CX.b (C : CX p l e R s m args below meth c Q D A K m9 mr own mn cc nL Ts ret fr lo S0 Sf rv) : c.code = cc := C.1.2.1
theorem CX.o (C : CX p l e R s m args below meth c Q D A K m9 mr own mn cc nL Ts ret fr lo S0 Sf rv) : s.vm.findClass own = some m.cls := C.1.2.2.2.1
theorem CX.w (C : CX p l e R s m args below meth c Q D A K m9 mr own mn cc nL Ts ret fr lo S0 Sf rv) {w : Cond} (h : w ∈ wR) : w.before args s = true := C.1.2.2.2.2 w (C.2.1 w h)
theorem CX.kk (C : CX p l e R s m args below meth c Q D A K m9 mr own mn cc nL Ts ret fr lo S0 Sf rv) : va_K D vwCl (TY K.1) s := C.2.2.1
theorem CX.z (C : CX p l e R s m args below meth c Q D A K m9 mr own mn cc nL Ts ret fr lo S0 Sf rv) : Zz S0 = s.heap.size := C.2.2.2.2.2.2.2.2.2.1
theorem CX.ae (C : CX p l e R s m args below meth c Q D A K m9 mr own mn cc nL Ts ret fr lo S0 Sf rv) : A = AA K m9 mr S0 := C.2.2.2.2.2.2.2.2.2.2.1
theorem CX.rm (C : CX p l e R s m args below meth c Q D A K m9 mr own mn cc nL Ts ret fr lo S0 Sf rv) : R.cells = K.2.1 - Zz S0 ∧ R.slots = K.2.2 - Zn S0 ∧ R.frames = fr ∧ R.locals = lo := C.2.2.2.2.2.2.1
theorem CX.A9 (C : CX p l e R s m args below meth c Q D A K m9 mr own mn cc nL Ts ret fr lo S0 Sf rv) : ∀ q : Nat, s.heap.size ≤ q → A q := C.2.2.2.2.2.1
/-- one instruction that touches neither heap nor locals -/
theorem WX.st1 {S : Sg} {pc pc2 : Nat} {lv : List (Nat × Value)} {st st2 : List Value} (k : WX p l e R s m args below meth c Q D A K m9 mr nL S0 S pc2 lv st2) (f : ∀ (H : Heap) (locs : List Loc) (cells slots : Nat) (ls : Array Slot), lv_has ls nL lv → W p l e R s m args below meth c H locs cells slots Q (F0 m pc2 ls st2) → W p l e R s m args below meth c H locs cells slots Q (F0 m pc ls st)) : WX p l e R s m args below meth c Q D A K m9 mr nL S0 S pc lv st := fun H locs ls hP hl => f H locs _ _ ls hl (k H locs ls hP hl)
theorem x_sub {lv2 : List (Nat × Value)} (ks : List Nat) (h : lv_pick lv ks = lv2) (k : WX p l e R s m args below meth c Q D A K m9 mr nL S0 S pc lv2 st) : WX p l e R s m args below meth c Q D A K m9 mr nL S0 S pc lv st := fun H locs ls hP hl => k H locs ls hP (lv_sub hl ks h)
end XL
end
