-- m3.g.lean.txt
section
/-- how often a stands in a list -/
def cnN (a : Nat) : List Nat → Nat
  | [] => 0
  | x :: l => (if x = a then 1 else 0) + cnN a l
theorem cnN_app {a : Nat} : ∀ {l m : List Nat}, cnN a (l ++ m) = cnN a l + cnN a m
  | [], m => by rw [List.nil_append]; show _ = 0 + _; omega
  | x :: l, m => by
    show (if x = a then 1 else 0) + cnN a (l ++ m) = (if x = a then 1 else 0) + cnN a l + cnN a m
    rw [cnN_app]; omega
theorem cnN_mem {a : Nat} : ∀ {l : List Nat}, a ∈ l ↔ 1 ≤ cnN a l
  | [] => ⟨fun h => (by cases h), fun h => (by cases h)⟩
  | x :: l => by
    rw [List.mem_cons]
    show _ ↔ 1 ≤ (if x = a then 1 else 0) + cnN a l
    by_cases e : x = a
    · rw [if_pos e]
      exact ⟨fun _ => by omega, fun _ => Or.inl e.symm⟩
    · rw [if_neg e, Nat.zero_add, ← cnN_mem]
      exact ⟨fun w => w.resolve_left (fun z => e z.symm), Or.inr⟩
theorem cnN_z {a : Nat} {l : List Nat} (h : a ∉ l) : cnN a l = 0 := by
  rcases Nat.eq_zero_or_pos (cnN a l) with e | e
  · exact e
  · exact absurd (cnN_mem.mpr e) h
theorem cnN_nd : ∀ {l : List Nat}, l.Nodup ↔ ∀ a : Nat, cnN a l ≤ 1
  | [] => ⟨fun _ _ => Nat.zero_le _, fun _ => List.nodup_nil⟩
  | x :: l => by
    rw [List.nodup_cons, cnN_nd]
    constructor
    · intro h a
      show (if x = a then 1 else 0) + cnN a l ≤ 1
      by_cases e : x = a
      · subst e
        rw [if_pos rfl, cnN_z h.1]; omega
      · rw [if_neg e]; have := h.2 a; omega
    · intro h
      refine ⟨fun w => ?_, fun a => ?_⟩
      · have h1 : (if x = x then 1 else 0) + cnN x l ≤ 1 := h x
        rw [if_pos rfl] at h1
        have := cnN_mem.mp w
        omega
      · have h1 : (if x = a then 1 else 0) + cnN a l ≤ 1 := h a
        omega
/-- the lists f 0 .. f (n - 1) in a row -/
def ftN (f : Nat → List Nat) : Nat → List Nat
  | 0 => []
  | n + 1 => ftN f n ++ f n
theorem ftN_mem {f : Nat → List Nat} {a : Nat} : ∀ {n : Nat}, a ∈ ftN f n ↔ ∃ j : Nat, j < n ∧ a ∈ f j
  | 0 => ⟨fun h => (by cases h), fun ⟨_, h, _⟩ => (by cases h)⟩
  | n + 1 => by
    show a ∈ ftN f n ++ f n ↔ _
    rw [List.mem_append, ftN_mem]
    constructor
    · rintro (⟨j, h1, h2⟩ | h)
      · exact ⟨j, by omega, h2⟩
      · exact ⟨n, by omega, h⟩
    · rintro ⟨j, h1, h2⟩
      by_cases e : j = n
      · subst e; exact Or.inr h2
      · exact Or.inl ⟨j, by omega, h2⟩
theorem ftN_len {f : Nat → List Nat} : ∀ {n : Nat}, (ftN f n).length = psN (fun j => (f j).length) n
  | 0 => rfl
  | n + 1 => by
    show (ftN f n ++ f n).length = psN (fun j => (f j).length) n + (f n).length
    rw [List.length_append, ftN_len]
theorem ftN_cg {f g : Nat → List Nat} : ∀ {n : Nat}, (∀ j : Nat, j < n → f j = g j) → ftN f n = ftN g n
  | 0, _ => rfl
  | n + 1, h => by
    show ftN f n ++ f n = ftN g n ++ g n
    rw [ftN_cg (fun j hj => h j (by omega)), h n (by omega)]
theorem ftN_nil : ∀ {n : Nat}, ftN (fun _ => []) n = []
  | 0 => rfl
  | n + 1 => by show ftN (fun _ => []) n ++ [] = []; rw [ftN_nil]; rfl
theorem ftN_up {f : Nat → List Nat} {j a : Nat} {x : List Nat} : ∀ {n : Nat}, j < n → cnN a (ftN (lUp f j x) n) = cnN a x + cnN a (ftN (lUp f j []) n)
  | 0, h => by omega
  | n + 1, h => by
    show cnN a (ftN (lUp f j x) n ++ lUp f j x n) = cnN a x + cnN a (ftN (lUp f j []) n ++ lUp f j [] n)
    rw [cnN_app, cnN_app]
    by_cases e : j = n
    · subst e
      rw [lUp_eq, lUp_eq, ftN_cg (f := lUp f j x) (g := lUp f j []) (fun i hi => by rw [lUp_ne (by omega), lUp_ne (by omega)])]
      show _ = cnN a x + (_ + 0)
      omega
    · rw [lUp_ne (fun w => e w.symm), lUp_ne (fun w => e w.symm), ftN_up (by omega)]; omega
theorem lUp_se9 {α : Type} {g : Nat → α} {t : Nat} : lUp g t (g t) = g := funext fun u => by
  by_cases e : u = t
  · subst e; rw [lUp_eq]
  · rw [lUp_ne e]
theorem ftN_sp {f : Nat → List Nat} {j a n : Nat} (h : j < n) : cnN a (ftN f n) = cnN a (f j) + cnN a (ftN (lUp f j []) n) := by
  have := ftN_up (f := f) (a := a) (x := f j) h
  rw [lUp_se9] at this
  exact this
theorem ftN_rest {f : Nat → List Nat} {i j a n : Nat} (hi : i < n) (hij : i ≠ j) (ha : a ∈ f i) : a ∈ ftN (lUp f j []) n := ftN_mem.mpr ⟨i, hi, by rw [lUp_ne hij]; exact ha⟩
theorem ftN_get {f : Nat → List Nat} {j i : Nat} : ∀ {n : Nat}, j < n → i < (f j).length → (ftN f n)[psN (fun j => (f j).length) j + i]? = (f j)[i]?
  | 0, h, _ => by omega
  | n + 1, h, hi => by
    show (ftN f n ++ f n)[_]? = _
    by_cases e : j = n
    · subst e
      rw [List.getElem?_append_right (by rw [ftN_len]; omega), ftN_len]
      congr 1; omega
    · have h1 : j < n := by omega
      have h2 : psN (fun j => (f j).length) j + i < (ftN f n).length := by
        rw [ftN_len]
        have := psN_mo (w := fun j => (f j).length) (k := j + 1) (n := n) h1
        have e2 : psN (fun j => (f j).length) (j + 1) = psN (fun j => (f j).length) j + (f j).length := rfl
        omega
      rw [List.getElem?_append_left h2]
      exact ftN_get h1 hi
/-- nodes: worth, has, next -/
abbrev nM := (Nat → Int64) × (Nat → Int32) × (Nat → Int32)
def nM.w (M : nM) : Nat → Int64 := M.1
def nM.h (M : nM) : Nat → Int32 := M.2.1
def nM.x (M : nM) : Nat → Int32 := M.2.2
/-- what is told in a node's worth: first kid, variant or begin, how long -/
def kdW (x : Int64) : Int32 := Int64.toInt32 (x &&& 1048575)
def vrW (x : Int64) : Int32 := Int64.toInt32 (x >>> (Int32.toInt64 20 &&& 63) &&& 1048575)
def blW (x : Int64) : Int32 := Int64.toInt32 (x >>> (Int32.toInt64 40 &&& 63))
def nL (m : Nat) : Int64 := Int32.toInt64 (nI m)
/-- a row's first one -/
def hdN : List Nat → Nat
  | [] => 0
  | a :: _ => a
def rgN (p : Nat) : Nat → List Nat
  | 0 => []
  | n + 1 => rgN p n ++ [p + n]
theorem rgN_mem {p a : Nat} : ∀ {n : Nat}, a ∈ rgN p n ↔ p ≤ a ∧ a < p + n
  | 0 => ⟨fun h => (by cases h), fun h => (by omega)⟩
  | n + 1 => by
    show a ∈ rgN p n ++ [p + n] ↔ _
    rw [List.mem_append, rgN_mem, List.mem_singleton]; omega
theorem rgN_len {p : Nat} : ∀ {n : Nat}, (rgN p n).length = n
  | 0 => rfl
  | n + 1 => by show (rgN p n ++ [p + n]).length = n + 1; rw [List.length_append, rgN_len]; rfl
theorem rgN_cn {p a : Nat} : ∀ {n : Nat}, cnN a (rgN p n) = if p ≤ a ∧ a < p + n then 1 else 0
  | 0 => by show 0 = _; rw [if_neg (by omega)]
  | n + 1 => by
    show cnN a (rgN p n ++ [p + n]) = _
    rw [cnN_app, rgN_cn]
    show _ + ((if p + n = a then 1 else 0) + 0) = _
    by_cases e : p + n = a
    · rw [if_pos e, if_neg (by omega), if_pos (by omega)]
    · rw [if_neg e]
      by_cases e2 : p ≤ a ∧ a < p + n
      · rw [if_pos e2, if_pos (by omega)]
      · rw [if_neg e2, if_neg (by omega)]
/-- a value x that is no struct's, of type T, its tree V; l its nodes, h its cells of the heap -/
def vLb (y : qY) (sz : Nat → Nat) (M : nM) (P : Nat → qV → List Nat → List Nat → List Nat → Prop) (T : Nat) (V : qV) (x : Int64) (l h : List Nat) : Prop :=
  (y.1 T = 3 ∧ ∃ (m g : Nat) (cs ls hs : Nat → List Nat), V [] = some (T, g) ∧ g < y.2.2.1 T ∧ x = nL m ∧ (1 ≤ m ∧ m < 430000) ∧ kdW (M.w m) = nI (hdN (ftN cs (y.2.2.2.1 T g))) ∧ vrW (M.w m) = nI g ∧ lkN M.x (ftN cs (y.2.2.2.1 T g)) ∧ l = m :: (ftN cs (y.2.2.2.1 T g) ++ ftN ls (y.2.2.2.1 T g)) ∧ h = ftN hs (y.2.2.2.1 T g) ∧ ∀ j : Nat, j < y.2.2.2.1 T g → P (y.2.2.2.2 T g j) (qS V [(g + 2, j)]) (cs j) (ls j) (hs j)) ∨
  (y.1 T = 4 ∧ ∃ (m f : Nat) (c L H : List Nat), (∃ z : Nat × Nat, V [] = some z) ∧ x = nL m ∧ (1 ≤ m ∧ m < 430000) ∧ kdW (M.w m) = nI (hdN c) ∧ vrW (M.w m) = nI f ∧ blW (M.w m) = nI (sz (y.2.1 T)) ∧ f + sz (y.2.1 T) ≤ 4000 ∧ lkN M.x c ∧ l = m :: (c ++ L) ∧ h = rgN f (sz (y.2.1 T)) ++ H ∧ P (y.2.1 T) (qS V [(1, 0)]) c L H) ∨
  (y.1 T ≠ 3 ∧ y.1 T ≠ 4 ∧ (∃ z : Nat × Nat, V [] = some z) ∧ l = [] ∧ h = [])
/-- a place of type T, its tree V: c its own nodes, l those below, h the heap's cells -/
def pL (y : qY) (sz : Nat → Nat) (M : nM) : Nat → Nat → qV → List Nat → List Nat → List Nat → Prop
  | 0 => fun _ _ _ _ _ => False
  | k + 1 => fun T V c l h => (y.1 T = 2 ∧ ∃ cs ls hs : Nat → List Nat, c = ftN cs (y.2.2.2.1 T 0) ∧ l = ftN ls (y.2.2.2.1 T 0) ∧ h = ftN hs (y.2.2.2.1 T 0) ∧ ∀ j : Nat, j < y.2.2.2.1 T 0 → pL y sz M k (y.2.2.2.2 T 0 j) (qS V [(0, j)]) (cs j) (ls j) (hs j)) ∨
    (y.1 T ≠ 2 ∧ ∃ n : Nat, c = [n] ∧ ((V [] = none ∧ M.h n = 0 ∧ l = [] ∧ h = []) ∨ (M.h n = 1 ∧ vLb y sz M (pL y sz M k) T V (M.w n) l h)))
/-- .. its value -/
def vL (y : qY) (sz : Nat → Nat) (M : nM) (k T : Nat) (V : qV) (x : Int64) (l h : List Nat) : Prop := vLb y sz M (pL y sz M k) T V x l h
/-- types: leaves, sizes, a rank of structs -/
def nYk (y : qY) (zn sz rk : Nat → Nat) : Prop := (∀ T : Nat, 1 ≤ zn T ∧ zn T ≤ 16 ∧ 1 ≤ sz T ∧ sz T ≤ 16 ∧ rk T ≤ 100) ∧ (∀ T : Nat, y.1 T ≠ 2 → zn T = 1) ∧ (∀ T : Nat, y.1 T = 2 → zn T = psN (fun j => zn (y.2.2.2.2 T 0 j)) (y.2.2.2.1 T 0) ∧ psN (fun j => sz (y.2.2.2.2 T 0 j)) (y.2.2.2.1 T 0) ≤ sz T ∧ 1 ≤ y.2.2.2.1 T 0 ∧ y.2.2.2.1 T 0 ≤ 12 ∧ ∀ j : Nat, j < y.2.2.2.1 T 0 → rk (y.2.2.2.2 T 0 j) < rk T) ∧ ∀ T g : Nat, y.1 T = 3 → g < y.2.2.1 T → psN (fun j => sz (y.2.2.2.2 T g j)) (y.2.2.2.1 T g) + 1 ≤ sz T ∧ y.2.2.2.1 T g ≤ 12 ∧ psN (fun j => zn (y.2.2.2.2 T g j)) (y.2.2.2.1 T g) ≤ 16
section PS32
variable {y : qY} {zn sz rk : Nat → Nat} {M M2 : nM} {k T : Nat} {V : qV} {c l h : List Nat} {x : Int64}
theorem vLb.mo {P Q : Nat → qV → List Nat → List Nat → List Nat → Prop} (hm : nM.w M2 = nM.w M) (hx : nM.x M2 = nM.x M) (hP : ∀ (T : Nat) (V : qV) (c l h : List Nat), P T V c l h → Q T V c l h) (q : vLb y sz M P T V x l h) : vLb y sz M2 Q T V x l h := by
  rcases q with ⟨h1, m, g, cs, ls, hs, a1, a2, a3, a4, a5, a6, a7, a8, a9, a10⟩ | ⟨h1, m, f, c, L, H, a1, a2, a3, a4, a5, a6, a7, a8, a9, a10, a11⟩ | q
  · exact Or.inl ⟨h1, m, g, cs, ls, hs, a1, a2, a3, a4, by rw [hm]; exact a5, by rw [hm]; exact a6, by rw [hx]; exact a7, a8, a9, fun j hj => hP _ _ _ _ _ (a10 j hj)⟩
  · exact Or.inr (Or.inl ⟨h1, m, f, c, L, H, a1, a2, a3, by rw [hm]; exact a4, by rw [hm]; exact a5, by rw [hm]; exact a6, a7, by rw [hx]; exact a8, a9, a10, hP _ _ _ _ _ a11⟩)
  · exact Or.inr (Or.inr q)
theorem pL.up1 : ∀ {k T : Nat} {V : qV} {c l h : List Nat}, pL y sz M k T V c l h → pL y sz M (k + 1) T V c l h
  | 0, _, _, _, _, _, q => q.elim
  | k + 1, T, V, c, l, h, q => by
    rcases q with ⟨q1, cs, ls, hs, e1, e2, e3, q2⟩ | ⟨q1, n, e1, q2⟩
    · exact Or.inl ⟨q1, cs, ls, hs, e1, e2, e3, fun j hj => (q2 j hj).up1⟩
    · exact Or.inr ⟨q1, n, e1, q2.imp id (fun w => ⟨w.1, w.2.mo rfl rfl (fun T V c l h => pL.up1)⟩)⟩
theorem pL.up {k2 : Nat} (q : pL y sz M k T V c l h) (hk : k ≤ k2) : pL y sz M k2 T V c l h := by
  obtain ⟨d, rfl⟩ := Nat.le.dest hk
  clear hk
  induction d with
  | zero => exact q
  | succ d ih => exact ih.up1
theorem vL.up {k2 : Nat} (q : vL y sz M k T V x l h) (hk : k ≤ k2) : vL y sz M k2 T V x l h := vLb.mo rfl rfl (fun _ _ _ _ _ w => w.up hk) q
/-- the nodes of a list are as they were -/
def agN (M M2 : nM) (l : List Nat) : Prop := ∀ a ∈ l, M2.w a = M.w a ∧ M2.h a = M.h a ∧ M2.x a = M.x a
theorem agN.im {l2 : List Nat} (q : agN M M2 l) (h : ∀ a ∈ l2, a ∈ l) : agN M M2 l2 := fun a ha => q a (h a ha)
theorem vLb.st {P Q : Nat → qV → List Nat → List Nat → List Nat → Prop} (q : vLb y sz M P T V x l h) (ha : agN M M2 l) (hP : ∀ (T : Nat) (V : qV) (c2 l2 h2 : List Nat), (∀ a ∈ c2, a ∈ l) → (∀ a ∈ l2, a ∈ l) → P T V c2 l2 h2 → Q T V c2 l2 h2) : vLb y sz M2 Q T V x l h := by
  rcases q with ⟨h1, m, g, cs, ls, hs, a1, a2, a3, a4, a5, a6, a7, a8, a9, a10⟩ | ⟨h1, m, f, c, L, H, a1, a2, a3, a4, a5, a6, a7, a8, a9, a10, a11⟩ | q
  · have hm := ha m (by rw [a8]; exact List.mem_cons_self ..)
    have hc : ∀ a ∈ ftN cs (y.2.2.2.1 T g), a ∈ l := fun a w => by rw [a8]; exact List.mem_cons_of_mem _ (List.mem_append_left _ w)
    have hl : ∀ a ∈ ftN ls (y.2.2.2.1 T g), a ∈ l := fun a w => by rw [a8]; exact List.mem_cons_of_mem _ (List.mem_append_right _ w)
    exact Or.inl ⟨h1, m, g, cs, ls, hs, a1, a2, a3, a4, by rw [hm.1]; exact a5, by rw [hm.1]; exact a6, a7.cg (fun a w => (ha a (hc a w)).2.2), a8, a9, fun j hj => hP _ _ _ _ _ (fun a w => hc a (ftN_mem.mpr ⟨j, hj, w⟩)) (fun a w => hl a (ftN_mem.mpr ⟨j, hj, w⟩)) (a10 j hj)⟩
  · have hm := ha m (by rw [a9]; exact List.mem_cons_self ..)
    have hc : ∀ a ∈ c, a ∈ l := fun a w => by rw [a9]; exact List.mem_cons_of_mem _ (List.mem_append_left _ w)
    have hl : ∀ a ∈ L, a ∈ l := fun a w => by rw [a9]; exact List.mem_cons_of_mem _ (List.mem_append_right _ w)
    exact Or.inr (Or.inl ⟨h1, m, f, c, L, H, a1, a2, a3, by rw [hm.1]; exact a4, by rw [hm.1]; exact a5, by rw [hm.1]; exact a6, a7, a8.cg (fun a w => (ha a (hc a w)).2.2), a9, a10, hP _ _ _ _ _ hc hl a11⟩)
  · exact Or.inr (Or.inr q)
/-- a place is as it was, if its nodes are -/
theorem pL.st : ∀ {k T : Nat} {V : qV} {c l h : List Nat}, pL y sz M k T V c l h → (∀ a ∈ c, M2.w a = M.w a ∧ M2.h a = M.h a) → agN M M2 l → pL y sz M2 k T V c l h
  | 0, _, _, _, _, _, q, _, _ => q.elim
  | k + 1, T, V, c, l, h, q, hc, hl => by
    rcases q with ⟨q1, cs, ls, hs, e1, e2, e3, q2⟩ | ⟨q1, n, e1, q2⟩
    · exact Or.inl ⟨q1, cs, ls, hs, e1, e2, e3, fun j hj => (q2 j hj).st (fun a w => hc a (by rw [e1]; exact ftN_mem.mpr ⟨j, hj, w⟩)) (hl.im (fun a w => by rw [e2]; exact ftN_mem.mpr ⟨j, hj, w⟩))⟩
    · obtain ⟨n1, n2⟩ := hc n (by rw [e1]; exact List.mem_cons_self ..)
      refine Or.inr ⟨q1, n, e1, q2.imp (fun w => ⟨w.1, by rw [n2]; exact w.2.1, w.2.2⟩) (fun w => ⟨by rw [n2]; exact w.1, ?_⟩)⟩
      rw [n1]
      exact w.2.st hl (fun T V c2 l2 h2 b1 b2 p => p.st (fun a z => ⟨(hl a (b1 a z)).1, (hl a (b1 a z)).2.1⟩) (hl.im b2))
theorem vL.st (q : vL y sz M k T V x l h) (hl : agN M M2 l) : vL y sz M2 k T V x l h := vLb.st q hl (fun _ _ _ _ _ b1 b2 p => p.st (fun a z => ⟨(hl a (b1 a z)).1, (hl a (b1 a z)).2.1⟩) (hl.im b2))
/-- how many own nodes -/
theorem pL.len (hy : nYk y zn sz rk) : ∀ {k T : Nat} {V : qV} {c l h : List Nat}, pL y sz M k T V c l h → c.length = zn T
  | 0, _, _, _, _, _, q => q.elim
  | k + 1, T, V, c, l, h, q => by
    rcases q with ⟨q1, cs, ls, hs, e1, e2, e3, q2⟩ | ⟨q1, n, e1, q2⟩
    · rw [e1, ftN_len, (hy.2.2.1 T q1).1]
      exact psN_cg (fun j hj => (q2 j hj).len hy)
    · rw [e1, hy.2.1 T q1]; rfl
theorem psN_ad {u v : Nat → Nat} : ∀ {n : Nat}, psN (fun j => u j + v j) n = psN u n + psN v n
  | 0 => rfl
  | n + 1 => by
    show psN (fun j => u j + v j) n + (u n + v n) = psN u n + u n + (psN v n + v n)
    rw [psN_ad]; omega
theorem psN_2 {u : Nat → Nat} : ∀ {n : Nat}, psN (fun j => 2 * u j) n = 2 * psN u n
  | 0 => rfl
  | n + 1 => by
    show psN (fun j => 2 * u j) n + 2 * u n = 2 * (psN u n + u n)
    rw [psN_2]; omega
theorem ftN_cnt {cs ls hs : Nat → List Nat} {s : Nat → Nat} {n : Nat} (hq : ∀ j : Nat, j < n → (cs j).length + (ls j).length ≤ 2 * s j + 2 * (hs j).length) : (ftN cs n).length + (ftN ls n).length ≤ 2 * psN s n + 2 * (ftN hs n).length := by
  rw [ftN_len, ftN_len, ftN_len, ← psN_ad, ← psN_2, ← psN_2, ← psN_ad]
  exact psN_le hq
theorem vLb.cnt (hy : nYk y zn sz rk) {P : Nat → qV → List Nat → List Nat → List Nat → Prop} (hP : ∀ (T : Nat) (V : qV) (c l h : List Nat), P T V c l h → c.length + l.length ≤ 2 * sz T + 2 * h.length) (q : vLb y sz M P T V x l h) : 1 + l.length ≤ 2 * sz T + 2 * h.length := by
  rcases q with ⟨h1, m, g, cs, ls, hs, a1, a2, a3, a4, a5, a6, a7, a8, a9, a10⟩ | ⟨h1, m, f, c, L, H, a1, a2, a3, a4, a5, a6, a7, a8, a9, a10, a11⟩ | ⟨_, _, _, a, b⟩
  · have := ftN_cnt (fun j hj => hP _ _ _ _ _ (a10 j hj))
    have := (hy.2.2.2 T g h1 a2).1
    rw [a8, a9, List.length_cons, List.length_append]; omega
  · have := hP _ _ _ _ _ a11
    have := (hy.1 T).2.2.1
    rw [a9, a10, List.length_cons, List.length_append, List.length_append, rgN_len]; omega
  · have := (hy.1 T).2.2.1
    rw [a, b, List.length_nil]; omega
/-- how many nodes at most -/
theorem pL.cnt (hy : nYk y zn sz rk) : ∀ {k T : Nat} {V : qV} {c l h : List Nat}, pL y sz M k T V c l h → c.length + l.length ≤ 2 * sz T + 2 * h.length
  | 0, _, _, _, _, _, q => q.elim
  | k + 1, T, V, c, l, h, q => by
    rcases q with ⟨q1, cs, ls, hs, e1, e2, e3, q2⟩ | ⟨q1, n, e1, ⟨q2, q3, q4, q5⟩ | ⟨q2, q3⟩⟩
    · have := ftN_cnt (fun j hj => (q2 j hj).cnt hy)
      have := (hy.2.2.1 T q1).2.1
      rw [e1, e2, e3]; omega
    · have := (hy.1 T).2.2.1
      rw [e1, q4, q5, List.length_singleton, List.length_nil]; omega
    · have := q3.cnt hy (fun T V c l h => pL.cnt hy)
      rw [e1, List.length_singleton]; omega
theorem vL.cnt (hy : nYk y zn sz rk) (q : vL y sz M k T V x l h) : 1 + l.length ≤ 2 * sz T + 2 * h.length := vLb.cnt hy (fun _ _ _ _ _ w => w.cnt hy) q
/-- nothing lies there -/
theorem pL.none (hy : nYk y zn sz rk) : ∀ {k T : Nat} {V : qV} {c l h : List Nat}, pL y sz M k T V c l h → (∀ a ∈ c, M2.h a = 0) → pL y sz M2 k T (fun _ => none) c [] []
  | 0, _, _, _, _, _, q, _ => q.elim
  | k + 1, T, V, c, l, h, q, hc => by
    rcases q with ⟨q1, cs, ls, hs, e1, e2, e3, q2⟩ | ⟨q1, n, e1, q2⟩
    · exact Or.inl ⟨q1, cs, fun _ => [], fun _ => [], e1, ftN_nil.symm, ftN_nil.symm, fun j hj => (q2 j hj).none hy (fun a w => hc a (by rw [e1]; exact ftN_mem.mpr ⟨j, hj, w⟩))⟩
    · exact Or.inr ⟨q1, n, e1, Or.inl ⟨rfl, hc n (by rw [e1]; exact List.mem_cons_self ..), rfl, rfl⟩⟩
end PS32
end
-- m3.h.lean.txt
section
/-- what must be there for a way: the boxes and variants on it -/
def prS : qV → lLc → Prop
  | _, [] => True
  | V, (0, j) :: ρ => prS (qS V [(0, j)]) ρ
  | V, (1, j) :: ρ => (∃ z : Nat × Nat, V [] = some z) ∧ prS (qS V [(1, j)]) ρ
  | V, (g + 2, j) :: ρ => (∃ t : Nat, V [] = some (t, g)) ∧ prS (qS V [(g + 2, j)]) ρ
/-- from the node n, a place of type T, the way leads to a node -/
def wRn (y : qY) (zn : Nat → Nat) (M : nM) : Nat → Nat → lLc → Nat → Prop
  | _, n, [], n2 => n2 = n
  | T, n, (0, j) :: π, n2 => ∃ (L : List Nat) (n1 : Nat), lkN M.x L ∧ L[0]? = some n ∧ L[psN (fun i => zn (y.2.2.2.2 T 0 i)) j]? = some n1 ∧ wRn y zn M (y.2.2.2.2 T 0 j) n1 π n2
  | T, n, (1, _) :: π, n2 => ∃ m n1 : Nat, M.w n = nL m ∧ (1 ≤ m ∧ m < 430000) ∧ kdW (M.w m) = nI n1 ∧ n1 < 430000 ∧ wRn y zn M (y.2.1 T) n1 π n2
  | T, n, (g + 2, j) :: π, n2 => ∃ (m n0 : Nat) (L : List Nat) (n1 : Nat), M.w n = nL m ∧ (1 ≤ m ∧ m < 430000) ∧ kdW (M.w m) = nI n0 ∧ n0 < 430000 ∧ lkN M.x L ∧ L[0]? = some n0 ∧ L[psN (fun i => zn (y.2.2.2.2 T g i)) j]? = some n1 ∧ wRn y zn M (y.2.2.2.2 T g j) n1 π n2
section PS33
variable {y : qY} {zn sz rk : Nat → Nat} {M M2 : nM} {k T : Nat} {V : qV} {c l h : List Nat} {x : Int64}
theorem nL_t {m : Nat} : Int64.toInt32 (nL m) = nI m := by
  unfold nL
  exact Int32.toInt32_toInt64 _
theorem nL_e {a b : Nat} (ha : a < 2 ^ 31) (hb : b < 2 ^ 31) (q : nL a = nL b) : a = b := nI_e ha hb (by rw [← nL_t, ← nL_t, q])
theorem hdN_0 (h1 : 1 ≤ c.length) : c[0]? = some (hdN c) := by
  cases c with
  | nil => cases h1
  | cons a c => rfl
theorem hdN_i (h1 : 1 ≤ c.length) : hdN c ∈ c := by
  cases c with
  | nil => cases h1
  | cons a c => exact List.mem_cons_self ..
theorem lkN.det {f : Nat → Int32} {L L2 : List Nat} (h1 : lkN f L) (h2 : lkN f L2) (h0 : L[0]? = L2[0]?) : ∀ {i a b : Nat}, L[i]? = some a → L2[i]? = some b → a = b
  | 0, a, b, ha, hb => by rw [h0, hb] at ha; exact (Option.some.inj ha).symm
  | i + 1, a, b, ha, hb => by
    have la : i < L.length := by
      have := (List.getElem?_eq_some_iff.mp ha).1
      omega
    have lb : i < L2.length := by
      have := (List.getElem?_eq_some_iff.mp hb).1
      omega
    have ea := List.getElem?_eq_getElem la
    have eb := List.getElem?_eq_getElem lb
    have e := lkN.det h1 h2 h0 ea eb
    have e1 := h1.2 i _ a ea ha
    have e2 := h2.2 i _ b eb hb
    rw [e, e2] at e1
    have ba := (h1.1 a (List.mem_of_getElem? ha)).2
    have bb := (h2.1 b (List.mem_of_getElem? hb)).2
    exact (nI_e (by omega) (by omega) e1).symm
theorem lkN.seg {f : Nat → Int32} {cs : Nat → List Nat} {n j : Nat} (q : lkN f (ftN cs n)) (hj : j < n) : lkN f (cs j) := by
  refine ⟨fun a ha => q.1 a (ftN_mem.mpr ⟨j, hj, ha⟩), fun i a b ha hb => ?_⟩
  have la := (List.getElem?_eq_some_iff.mp ha).1
  have lb := (List.getElem?_eq_some_iff.mp hb).1
  exact q.2 (psN (fun j => (cs j).length) j + i) a b (by rw [ftN_get hj la]; exact ha) (by rw [Nat.add_assoc, ftN_get hj lb]; exact hb)
/-- where part j begins -/
theorem ftN_hd {cs : Nat → List Nat} {s : Nat → Nat} {n j : Nat} (hl : ∀ i : Nat, i < n → (cs i).length = s i) (h1 : 1 ≤ s j) (hj : j < n) : (ftN cs n)[psN s j]? = some (hdN (cs j)) := by
  have e : psN s j = psN (fun j => (cs j).length) j + 0 := by
    rw [Nat.add_zero]
    exact psN_cg (fun i hi => (hl i (by omega)).symm)
  rw [e, ftN_get hj (by rw [hl j hj]; omega)]
  exact hdN_0 (by rw [hl j hj]; exact h1)
theorem ftN_0 {cs : Nat → List Nat} {s : Nat → Nat} {n j : Nat} (hl : ∀ i : Nat, i < n → (cs i).length = s i) (h1 : ∀ i : Nat, 1 ≤ s i) (hj : j < n) : 1 ≤ (ftN cs n).length := by
  rw [ftN_len]
  exact psN_1 (by omega) (fun k hk => by rw [hl k hk]; exact h1 k)
theorem wRn.det : ∀ {π : lLc} {T n a b : Nat}, wRn y zn M T n π a → wRn y zn M T n π b → a = b
  | [], _, _, _, _, h1, h2 => (show _ = _ from h1).trans (show _ = _ from h2).symm
  | (0, j) :: π, T, n, a, b, ⟨L, n1, p1, p2, p3, p4⟩, ⟨L2, n2, q1, q2, q3, q4⟩ => by
    have e := p1.det q1 (p2.trans q2.symm) p3 q3
    subst e
    exact wRn.det p4 q4
  | (1, j) :: π, T, n, a, b, ⟨m, n1, p1, p2, p3, p4, p5⟩, ⟨m2, n2, q1, q2, q3, q4, q5⟩ => by
    have e := nL_e (by omega) (by omega) (p1.symm.trans q1)
    subst e
    have e := nI_e (by omega) (by omega) (p3.symm.trans q3)
    subst e
    exact wRn.det p5 q5
  | (g + 2, j) :: π, T, n, a, b, ⟨m, n0, L, n1, p1, p2, p3, p4, p5, p6, p7, p8⟩, ⟨m2, n2, L2, n3, q1, q2, q3, q4, q5, q6, q7, q8⟩ => by
    have e := nL_e (by omega) (by omega) (p1.symm.trans q1)
    subst e
    have e := nI_e (by omega) (by omega) (p3.symm.trans q3)
    subst e
    have e := p5.det q5 (p6.trans q6.symm) p7 q7
    subst e
    exact wRn.det p8 q8
/-- a way in a place; it stays while the place's nodes do -/
theorem pL.wk (hy : nYk y zn sz rk) : ∀ {π : lLc} {k T T1 : Nat} {V : qV} {c l h : List Nat}, pL y sz M k T V c l h → lkN M.x c → qW y T π T1 → prS V π → ∃ n : Nat, ∀ M2 : nM, (∀ a ∈ c, M2.w a = M.w a ∧ M2.x a = M.x a) → agN M M2 l → wRn y zn M2 T (hdN c) π n
  | [], _, _, _, _, c, _, _, _, _, _, _ => ⟨hdN c, fun _ _ _ => rfl⟩
  | _ :: _, 0, _, _, _, _, _, _, q, _, _, _ => q.elim
  | (0, j) :: π, k + 1, T, T1, V, c, l, h, q, hk, hw, hp => by
    rcases q with ⟨q1, cs, ls, hs, e1, e2, e3, q2⟩ | ⟨q1, _⟩
    · have hn : ∀ i : Nat, i < y.2.2.2.1 T 0 → (cs i).length = zn (y.2.2.2.2 T 0 i) := fun i hi => (q2 i hi).len hy
      obtain ⟨n, hq⟩ := (q2 j hw.2.1).wk hy (by rw [e1] at hk; exact hk.seg hw.2.1) hw.2.2 hp
      refine ⟨n, fun M2 a1 a2 => ⟨c, hdN (cs j), hk.cg (fun a w => (a1 a w).2), hdN_0 (by rw [e1]; exact ftN_0 hn (fun i => (hy.1 _).1) hw.2.1), by rw [e1]; exact ftN_hd hn (hy.1 _).1 hw.2.1, hq M2 (fun a w => a1 a (by rw [e1]; exact ftN_mem.mpr ⟨j, hw.2.1, w⟩)) (a2.im (fun a w => by rw [e2]; exact ftN_mem.mpr ⟨j, hw.2.1, w⟩))⟩⟩
    · exact absurd hw.1 q1
  | (1, j) :: π, k + 1, T, T1, V, c, l, h, q, hk, hw, hp => by
    obtain ⟨rfl, h4, hw⟩ := hw
    obtain ⟨⟨z, hz⟩, hp⟩ := hp
    rcases q with ⟨q1, _⟩ | ⟨q1, n, e1, ⟨q2, _⟩ | ⟨q2, ⟨q3, _⟩ | ⟨q3, m, f, C, L, H, a1, a2, a3, a4, a5, a6, a7, a8, a9, a10, a11⟩ | ⟨_, q3, _⟩⟩⟩
    · rw [h4] at q1; cases q1
    · rw [hz] at q2; cases q2
    · rw [h4] at q3; cases q3
    · have hC := a11.len hy
      obtain ⟨n2, hq⟩ := a11.wk hy a8 hw hp
      refine ⟨n2, fun M2 b1 b2 => ?_⟩
      have hn := b1 n (by rw [e1]; exact List.mem_cons_self ..)
      have hm := b2 m (by rw [a9]; exact List.mem_cons_self ..)
      have hc : ∀ a ∈ C, a ∈ l := fun a w => by rw [a9]; exact List.mem_cons_of_mem _ (List.mem_append_left _ w)
      have hl : ∀ a ∈ L, a ∈ l := fun a w => by rw [a9]; exact List.mem_cons_of_mem _ (List.mem_append_right _ w)
      refine ⟨m, hdN C, by rw [e1]; exact hn.1.trans a2, a3, by rw [hm.1]; exact a4, (a8.1 _ (hdN_i (by rw [hC]; exact (hy.1 _).1))).2, hq M2 (fun a w => ⟨(b2 a (hc a w)).1, (b2 a (hc a w)).2.2⟩) (b2.im hl)⟩
    · exact absurd h4 q3
  | (g + 2, j) :: π, k + 1, T, T1, V, c, l, h, q, hk, hw, hp => by
    obtain ⟨h3, hg, hj, hw⟩ := hw
    obtain ⟨⟨t, hz⟩, hp⟩ := hp
    rcases q with ⟨q1, _⟩ | ⟨q1, n, e1, ⟨q2, _⟩ | ⟨q2, ⟨q3, m, g2, cs, ls, hs, a1, a2, a3, a4, a5, a6, a7, a8, a9, a10⟩ | ⟨q3, _⟩ | ⟨q3, _⟩⟩⟩
    · rw [h3] at q1; cases q1
    · rw [hz] at q2; cases q2
    · obtain rfl : g2 = g := by rw [hz] at a1; cases a1; rfl
      have hn : ∀ i : Nat, i < y.2.2.2.1 T g2 → (cs i).length = zn (y.2.2.2.2 T g2 i) := fun i hi => (a10 i hi).len hy
      have h1 := ftN_0 hn (fun i => (hy.1 _).1) hj
      obtain ⟨n2, hq⟩ := (a10 j hj).wk hy (a7.seg hj) hw hp
      refine ⟨n2, fun M2 b1 b2 => ?_⟩
      have hn9 := b1 n (by rw [e1]; exact List.mem_cons_self ..)
      have hm := b2 m (by rw [a8]; exact List.mem_cons_self ..)
      have hc : ∀ a ∈ ftN cs (y.2.2.2.1 T g2), a ∈ l := fun a w => by rw [a8]; exact List.mem_cons_of_mem _ (List.mem_append_left _ w)
      have hl : ∀ a ∈ ftN ls (y.2.2.2.1 T g2), a ∈ l := fun a w => by rw [a8]; exact List.mem_cons_of_mem _ (List.mem_append_right _ w)
      refine ⟨m, hdN (ftN cs (y.2.2.2.1 T g2)), ftN cs (y.2.2.2.1 T g2), hdN (cs j), by rw [e1]; exact hn9.1.trans a3, a4, by rw [hm.1]; exact a5, (a7.1 _ (hdN_i h1)).2, a7.cg (fun a w => (b2 a (hc a w)).2.2), hdN_0 h1, ftN_hd hn (hy.1 _).1 hj, hq M2 (fun a w => ?_) (b2.im (fun a w => hl a (ftN_mem.mpr ⟨j, hj, w⟩)))⟩
      have := b2 a (hc a (ftN_mem.mpr ⟨j, hj, w⟩))
      exact ⟨this.1, this.2.2⟩
    · rw [h3] at q3; cases q3
    · exact absurd h3 q3
theorem prS.mem : ∀ {ρ : lLc} {V : qV}, qM ρ → prS V ρ
  | [], _, _ => trivial
  | (0, j) :: ρ, V, q => prS.mem (ρ := ρ) (qM_cons.mp q).2
  | (1, j) :: ρ, V, q => absurd (qM_cons.mp q).1 (show (1 : Nat) ≠ 0 by decide)
  | (g + 2, j) :: ρ, V, q => absurd (qM_cons.mp q).1 (by show g + 2 ≠ 0; omega)
/-- what lies below something is there -/
theorem prS.pl {T : Nat} (ho : qOk y T V) : ∀ {ρ κ : lLc}, qPl V (κ ++ ρ) → prS (qS V κ) ρ
  | [], _, _ => trivial
  | (0, j) :: ρ, κ, q => by
    have := prS.pl ho (ρ := ρ) (κ := κ ++ [(0, j)]) (by rw [List.append_assoc]; exact q)
    show prS (qS (qS V κ) [(0, j)]) ρ
    rw [show qS (qS V κ) [(0, j)] = qS V (κ ++ [(0, j)]) from funext fun σ => by unfold qS; rw [List.append_assoc]]
    exact this
  | (1, j) :: ρ, κ, q => by
    have := prS.pl ho (ρ := ρ) (κ := κ ++ [(1, j)]) (by rw [List.append_assoc]; exact q)
    obtain ⟨σ, x, hx⟩ := q
    rw [List.append_assoc] at hx
    obtain ⟨z, hz⟩ := ho.2.1 κ (ρ ++ σ) j x hx
    refine ⟨⟨z, by unfold qS; rw [List.append_nil]; exact hz⟩, ?_⟩
    rw [show qS (qS V κ) [(1, j)] = qS V (κ ++ [(1, j)]) from funext fun σ => by unfold qS; rw [List.append_assoc]]
    exact this
  | (g + 2, j) :: ρ, κ, q => by
    have := prS.pl ho (ρ := ρ) (κ := κ ++ [(g + 2, j)]) (by rw [List.append_assoc]; exact q)
    obtain ⟨σ, x, hx⟩ := q
    rw [List.append_assoc] at hx
    obtain ⟨z, hz⟩ := ho.2.2 κ (ρ ++ σ) g j x hx
    refine ⟨⟨z, by unfold qS; rw [List.append_nil]; exact hz⟩, ?_⟩
    rw [show qS (qS V κ) [(g + 2, j)] = qS V (κ ++ [(g + 2, j)]) from funext fun σ => by unfold qS; rw [List.append_assoc]]
    exact this
theorem prS.of {T : Nat} {ρ : lLc} (ho : qOk y T V) (q : qPl V ρ) : prS V ρ := prS.pl ho (κ := []) q
end PS33
end
-- m3.i.lean.txt
section
section PS34
variable {y : qY} {zn sz rk : Nat → Nat} {M M2 : nM} {k T : Nat} {V W : qV} {c l h : List Nat} {x : Int64} {ρ : lLc} {s s2 : Nat × Nat}
theorem qG_z : qG V [] W = W := rfl
theorem qG_n : qG V (s :: ρ) W [] = V [] := rfl
theorem qG_e : qS (qG V (s :: ρ) W) [s] = qG (qS V [s]) ρ W := funext fun σ => by
  show (match qD (s :: ρ) (s :: σ) with | some τ => W τ | none => V (s :: σ)) = (match qD ρ σ with | some τ => W τ | none => V (s :: σ))
  rw [show qD (s :: ρ) (s :: σ) = qD ρ σ from if_pos rfl]
theorem qG_o (q : s ≠ s2) : qS (qG V (s :: ρ) W) [s2] = qS V [s2] := funext fun σ => by
  show (match qD (s :: ρ) (s2 :: σ) with | some τ => W τ | none => V (s2 :: σ)) = V (s2 :: σ)
  rw [show qD (s :: ρ) (s2 :: σ) = none from if_neg q]
/-- what a change of the place at ρ does, if the nodes of rest stay, and the links of c0 -/
def foR (y : qY) (zn sz : Nat → Nat) (M : nM) (T T0 : Nat) (V : qV) (ρ : lLc) (c c0 rest hr : List Nat) : Prop := ∀ M2 : nM, agN M M2 rest → (∀ a ∈ c0, M2.x a = M.x a) →
  (∀ (W : qV) (k1 : Nat) (l1 h1 : List Nat), pL y sz M2 k1 T0 W c0 l1 h1 → ∃ (k2 : Nat) (l2 h2 : List Nat), pL y sz M2 k2 T (qG V ρ W) c l2 h2 ∧ (∀ a : Nat, cnN a c + cnN a l2 = cnN a c0 + cnN a l1 + cnN a rest) ∧ ∀ a : Nat, cnN a h2 = cnN a h1 + cnN a hr) ∧
  (∀ (π : lLc) (T1 n : Nat), qW y T π T1 → prS V π → (lP ρ π → π = ρ) → wRn y zn M T (hdN c) π n → wRn y zn M2 T (hdN c) π n)
theorem foS {cs ls : Nat → List Nat} {n j : Nat} {rest : List Nat} (hj : j < n) {i a : Nat} (hi : i < n) (hij : i ≠ j) : (a ∈ cs i → a ∈ rest ++ (ftN (lUp cs j []) n ++ ftN (lUp ls j []) n)) ∧ (a ∈ ls i → a ∈ rest ++ (ftN (lUp cs j []) n ++ ftN (lUp ls j []) n)) := ⟨fun w => List.mem_append_right _ (List.mem_append_left _ (ftN_rest hi hij w)), fun w => List.mem_append_right _ (List.mem_append_right _ (ftN_rest hi hij w))⟩
/-- parts: one of them changes -/
theorem foP {g : Nat} (hy : nYk y zn sz rk) {gg n j : Nat} {pt : Nat → Nat} {cs ls hs : Nat → List Nat} {k1 k2 : Nat} {lj hj2 : List Nat} {V2 : qV} {rest : List Nat} (hj : j < n) (hq : ∀ i : Nat, i < n → pL y sz M k1 (pt i) (qS V [(gg, i)]) (cs i) (ls i) (hs i)) (hag : agN M M2 (rest ++ (ftN (lUp cs j []) n ++ ftN (lUp ls j []) n))) (hV : ∀ i : Nat, i ≠ j → qS V2 [(gg, i)] = qS V [(gg, i)]) (hp : pL y sz M2 k2 (pt j) (qS V2 [(gg, j)]) (cs j) lj hj2) : ∀ i : Nat, i < n → pL y sz M2 (max k1 k2) (pt i) (qS V2 [(gg, i)]) (cs i) (lUp ls j lj i) (lUp hs j hj2 i) := fun i hi => by
  by_cases e : i = j
  · subst e
    rw [lUp_eq, lUp_eq]
    exact hp.up (Nat.le_max_right _ _)
  · rw [lUp_ne e, lUp_ne e, hV i e]
    exact ((hq i hi).st (fun a w => ⟨(hag a ((foS (rest := rest) hj hi e).1 w)).1, (hag a ((foS (rest := rest) hj hi e).1 w)).2.1⟩) (hag.im (fun a w => (foS (rest := rest) hj hi e).2 w))).up (Nat.le_max_left _ _)
/-- a place in a place -/
theorem pL.fo (hy : nYk y zn sz rk) : ∀ {ρ : lLc} {k T T0 : Nat} {V : qV} {c l h : List Nat}, pL y sz M k T V c l h → lkN M.x c → qW y T ρ T0 → prS V ρ → ∃ (k0 : Nat) (c0 l0 h0 rest hr : List Nat), pL y sz M k0 T0 (qS V ρ) c0 l0 h0 ∧ lkN M.x c0 ∧ wRn y zn M T (hdN c) ρ (hdN c0) ∧ (∀ a : Nat, cnN a c + cnN a l = cnN a c0 + cnN a l0 + cnN a rest) ∧ (∀ a : Nat, cnN a h = cnN a h0 + cnN a hr) ∧ (∀ a ∈ c, a ∈ c0 ∨ a ∈ rest) ∧ foR y zn sz M T T0 V ρ c c0 rest hr
  | [], k, T, T0, V, c, l, h, q, hk, hw, hp => by
    obtain rfl := (show _ = _ from hw)
    refine ⟨k, c, l, h, [], [], q, hk, rfl, fun a => rfl, fun a => rfl, fun a w => Or.inl w, fun M2 _ _ => ⟨fun W k1 l1 h1 w => ⟨k1, l1, h1, w, fun a => rfl, fun a => rfl⟩, fun π T1 n p1 p2 p3 p4 => ?_⟩⟩
    obtain rfl := p3 ⟨π, rfl⟩
    exact p4
  | _ :: _, 0, _, _, _, _, _, _, q, _, _, _ => q.elim
  | (0, j) :: ρ, k + 1, T, T0, V, c, l, h, q, hk, hw, hp => by
    rcases q with ⟨q1, cs, ls, hs, e1, e2, e3, q2⟩ | ⟨q1, _⟩
    · obtain ⟨_, hj, hw⟩ := hw
      subst e1 e2 e3
      have hn : ∀ i : Nat, i < y.2.2.2.1 T 0 → (cs i).length = zn (y.2.2.2.2 T 0 i) := fun i hi => (q2 i hi).len hy
      have hc1 := ftN_0 hn (fun i => (hy.1 _).1) hj
      obtain ⟨k0, c0, l0, h0, rest, hr, a1, a2, a3, a4, a5, a6, a7⟩ := (q2 j hj).fo hy (hk.seg hj) hw hp
      refine ⟨k0, c0, l0, h0, rest ++ (ftN (lUp cs j []) (y.2.2.2.1 T 0) ++ ftN (lUp ls j []) (y.2.2.2.1 T 0)), hr ++ ftN (lUp hs j []) (y.2.2.2.1 T 0), a1, a2, ⟨_, hdN (cs j), hk, hdN_0 hc1, ftN_hd hn (hy.1 _).1 hj, a3⟩, fun a => ?_, fun a => ?_, fun a w => ?_, fun M2 g1 g2 => ?_⟩
      · rw [ftN_sp (f := cs) (a := a) hj, ftN_sp (f := ls) (a := a) hj, cnN_app, cnN_app]
        have := a4 a
        omega
      · rw [ftN_sp (f := hs) (a := a) hj, cnN_app]
        have := a5 a
        omega
      · obtain ⟨i, hi, w⟩ := ftN_mem.mp w
        by_cases e : i = j
        · subst e
          exact (a6 a w).imp id (fun z => List.mem_append_left _ z)
        · exact Or.inr ((foS (rest := rest) hj hi e).1 w)
      · obtain ⟨b1, b2⟩ := a7 M2 (g1.im (fun a w => List.mem_append_left _ w)) g2
        have hlk : lkN M2.x (ftN cs (y.2.2.2.1 T 0)) := hk.cg (fun a w => by
          obtain ⟨i, hi, w⟩ := ftN_mem.mp w
          by_cases e : i = j
          · subst e
            rcases a6 a w with z | z
            · exact g2 a z
            · exact (g1 a (List.mem_append_left _ z)).2.2
          · exact (g1 a ((foS (rest := rest) hj hi e).1 w)).2.2)
        refine ⟨fun W k1 l1 h1 w => ?_, fun π T1 n p1 p2 p3 p4 => ?_⟩
        · obtain ⟨k2, l2, h2, c1, c2, c3⟩ := b1 W k1 l1 h1 w
          refine ⟨max k k2 + 1, ftN (lUp ls j l2) (y.2.2.2.1 T 0), ftN (lUp hs j h2) (y.2.2.2.1 T 0), Or.inl ⟨q1, cs, lUp ls j l2, lUp hs j h2, rfl, rfl, rfl, foP (g := 0) hy hj q2 g1 (fun i hi => qG_o (fun z => hi (Prod.mk.inj z).2.symm)) (by rw [qG_e]; exact c1)⟩, fun a => ?_, fun a => ?_⟩
          · rw [ftN_sp (f := cs) (a := a) hj, ftN_up (f := ls) (a := a) hj, cnN_app, cnN_app]
            have := c2 a
            omega
          · rw [ftN_up (f := hs) (a := a) hj, cnN_app]
            have := c3 a
            omega
        · match π, p1, p2, p3, p4 with
          | [], _, _, _, p4 => exact p4
          | (0, i) :: π, p1, p2, p3, ⟨L, n1, r1, r2, r3, r4⟩ =>
            obtain ⟨_, hi, p1⟩ := p1
            have e := r1.det hk (r2.trans (hdN_0 hc1).symm) r3 (ftN_hd hn (hy.1 _).1 hi)
            subst e
            refine ⟨_, hdN (cs i), hlk, hdN_0 hc1, ftN_hd hn (hy.1 _).1 hi, ?_⟩
            by_cases e : i = j
            · subst e
              exact b2 π T1 n p1 p2 (fun z => (List.cons.inj (p3 (lP_consI z))).2) r4
            · obtain ⟨n2, hq⟩ := (q2 i hi).wk hy (hk.seg hi) p1 p2
              have e2 := wRn.det r4 (hq M (fun a w => ⟨rfl, rfl⟩) (fun a w => ⟨rfl, rfl, rfl⟩))
              subst e2
              exact hq M2 (fun a w => ⟨(g1 a ((foS (rest := rest) hj hi e).1 w)).1, (g1 a ((foS (rest := rest) hj hi e).1 w)).2.2⟩) (g1.im (fun a w => (foS (rest := rest) hj hi e).2 w))
          | (1, i) :: π, p1, _, _, _ => exact absurd (q1.symm.trans p1.2.1) (by decide)
          | (g + 2, i) :: π, p1, _, _, _ => exact absurd (q1.symm.trans p1.1) (by decide)
    · exact absurd hw.1 q1
  | (1, j) :: ρ, k + 1, T, T0, V, c, l, h, q, hk, hw, hp => by
    obtain ⟨rfl, h4, hw⟩ := hw
    obtain ⟨⟨z, hz⟩, hp⟩ := hp
    rcases q with ⟨q1, _⟩ | ⟨q1, n, e1, ⟨q2, _⟩ | ⟨q2, ⟨q3, _⟩ | ⟨q3, m, f, C, L, H, a1, a2, a3, a4, a5, a6, a7, a8, a9, a10, a11⟩ | ⟨_, q3, _⟩⟩⟩
    · rw [h4] at q1; cases q1
    · rw [hz] at q2; cases q2
    · rw [h4] at q3; cases q3
    · subst e1 a9 a10
      have hC := a11.len hy
      have hC1 : 1 ≤ C.length := by rw [hC]; exact (hy.1 _).1
      obtain ⟨k0, c0, l0, h0, rest, hr, b1, b2, b3, b4, b5, b6, b7⟩ := a11.fo hy a8 hw hp
      refine ⟨k0, c0, l0, h0, n :: m :: rest, rgN f (sz (y.2.1 T)) ++ hr, b1, b2, ⟨m, hdN C, a2, a3, a4, (a8.1 _ (hdN_i hC1)).2, b3⟩, fun a => ?_, fun a => ?_, fun a w => ?_, fun M2 g1 g2 => ?_⟩
      · show ((if n = a then 1 else 0) + 0) + ((if m = a then 1 else 0) + cnN a (C ++ L)) = _ + ((if n = a then 1 else 0) + ((if m = a then 1 else 0) + cnN a rest))
        rw [cnN_app]
        have := b4 a
        omega
      · rw [cnN_app, cnN_app]
        have := b5 a
        omega
      · rw [List.mem_singleton.mp w]; exact Or.inr (List.mem_cons_self ..)
      · have hn := g1 n (List.mem_cons_self ..)
        have hm := g1 m (List.mem_cons_of_mem _ (List.mem_cons_self ..))
        obtain ⟨d1, d2⟩ := b7 M2 (g1.im (fun a w => List.mem_cons_of_mem _ (List.mem_cons_of_mem _ w))) g2
        have hlk : lkN M2.x C := a8.cg (fun a w => by
          rcases b6 a w with z | z
          · exact g2 a z
          · exact (g1 a (List.mem_cons_of_mem _ (List.mem_cons_of_mem _ z))).2.2)
        refine ⟨fun W k1 l1 h1 w => ?_, fun π T1 n9 p1 p2 p3 p4 => ?_⟩
        · obtain ⟨k2, l2, h2, c1, c2, c3⟩ := d1 W k1 l1 h1 w
          refine ⟨k2 + 1, m :: (C ++ l2), rgN f (sz (y.2.1 T)) ++ h2, Or.inr ⟨q1, n, rfl, Or.inr ⟨hn.2.1.trans q2, Or.inr (Or.inl ⟨q3, m, f, C, l2, h2, a1, by rw [hn.1]; exact a2, a3, by rw [hm.1]; exact a4, by rw [hm.1]; exact a5, by rw [hm.1]; exact a6, a7, hlk, rfl, rfl, by rw [qG_e]; exact c1⟩)⟩⟩, fun a => ?_, fun a => ?_⟩
          · show ((if n = a then 1 else 0) + 0) + ((if m = a then 1 else 0) + cnN a (C ++ l2)) = _ + ((if n = a then 1 else 0) + ((if m = a then 1 else 0) + cnN a rest))
            rw [cnN_app]
            have := c2 a
            omega
          · rw [cnN_app, cnN_app]
            have := c3 a
            omega
        · match π, p1, p2, p3, p4 with
          | [], _, _, _, p4 => exact p4
          | (0, i) :: π, p1, _, _, _ => exact absurd p1.1 q1
          | (1, i) :: π, ⟨hi, _, p1⟩, p2, p3, ⟨m9, n1, r1, r2, r3, r4, r5⟩ =>
            subst hi
            have e := nL_e (by omega) (by omega) (a2.symm.trans r1)
            subst e
            have e := nI_e (by have := (a8.1 _ (hdN_i hC1)).2; omega) (by omega) (a4.symm.trans r3)
            subst e
            exact ⟨m, hdN C, hn.1.trans a2, a3, by rw [hm.1]; exact a4, r4, d2 π T1 n9 p1 p2.2 (fun z => (List.cons.inj (p3 (lP_consI z))).2) r5⟩
          | (g + 2, i) :: π, p1, _, _, _ => exact absurd (h4.symm.trans p1.1) (by decide)
    · exact absurd h4 q3
  | (g + 2, j) :: ρ, k + 1, T, T0, V, c, l, h, q, hk, hw, hp => by
    obtain ⟨h3, hg, hj, hw⟩ := hw
    obtain ⟨⟨t, hz⟩, hp⟩ := hp
    rcases q with ⟨q1, _⟩ | ⟨q1, n, e1, ⟨q2, _⟩ | ⟨q2, ⟨q3, m, g2, cs, ls, hs, a1, a2, a3, a4, a5, a6, a7, a8, a9, a10⟩ | ⟨q3, _⟩ | ⟨q3, _⟩⟩⟩
    · rw [h3] at q1; cases q1
    · rw [hz] at q2; cases q2
    · obtain rfl : g2 = g := by rw [hz] at a1; cases a1; rfl
      subst e1 a8 a9
      have hn9 : ∀ i : Nat, i < y.2.2.2.1 T g2 → (cs i).length = zn (y.2.2.2.2 T g2 i) := fun i hi => (a10 i hi).len hy
      have hc1 := ftN_0 hn9 (fun i => (hy.1 _).1) hj
      have hb := (a7.1 _ (hdN_i hc1)).2
      obtain ⟨k0, c0, l0, h0, rest, hr, b1, b2, b3, b4, b5, b6, b7⟩ := (a10 j hj).fo hy (a7.seg hj) hw hp
      refine ⟨k0, c0, l0, h0, n :: m :: (rest ++ (ftN (lUp cs j []) (y.2.2.2.1 T g2) ++ ftN (lUp ls j []) (y.2.2.2.1 T g2))), hr ++ ftN (lUp hs j []) (y.2.2.2.1 T g2), b1, b2, ⟨m, _, _, hdN (cs j), a3, a4, a5, hb, a7, hdN_0 hc1, ftN_hd hn9 (hy.1 _).1 hj, b3⟩, fun a => ?_, fun a => ?_, fun a w => ?_, fun M2 g1 g2' => ?_⟩
      · show ((if n = a then 1 else 0) + 0) + ((if m = a then 1 else 0) + cnN a (ftN cs _ ++ ftN ls _)) = _ + ((if n = a then 1 else 0) + ((if m = a then 1 else 0) + cnN a (rest ++ (ftN (lUp cs j []) _ ++ ftN (lUp ls j []) _))))
        rw [cnN_app, cnN_app, cnN_app, ftN_sp (f := cs) (a := a) hj, ftN_sp (f := ls) (a := a) hj]
        have := b4 a
        omega
      · rw [ftN_sp (f := hs) (a := a) hj, cnN_app]
        have := b5 a
        omega
      · rw [List.mem_singleton.mp w]; exact Or.inr (List.mem_cons_self ..)
      · have hn := g1 n (List.mem_cons_self ..)
        have hm := g1 m (List.mem_cons_of_mem _ (List.mem_cons_self ..))
        have g3 : agN M M2 (rest ++ (ftN (lUp cs j []) (y.2.2.2.1 T g2) ++ ftN (lUp ls j []) (y.2.2.2.1 T g2))) := g1.im (fun a w => List.mem_cons_of_mem _ (List.mem_cons_of_mem _ w))
        obtain ⟨d1, d2⟩ := b7 M2 (g3.im (fun a w => List.mem_append_left _ w)) g2'
        have hlk : lkN M2.x (ftN cs (y.2.2.2.1 T g2)) := a7.cg (fun a w => by
          obtain ⟨i, hi, w⟩ := ftN_mem.mp w
          by_cases e : i = j
          · subst e
            rcases b6 a w with z | z
            · exact g2' a z
            · exact (g3 a (List.mem_append_left _ z)).2.2
          · exact (g3 a ((foS (rest := rest) hj hi e).1 w)).2.2)
        refine ⟨fun W k1 l1 h1 w => ?_, fun π T1 n9 p1 p2 p3 p4 => ?_⟩
        · obtain ⟨k2, l2, h2, c1, c2, c3⟩ := d1 W k1 l1 h1 w
          refine ⟨max k k2 + 1, m :: (ftN cs (y.2.2.2.1 T g2) ++ ftN (lUp ls j l2) (y.2.2.2.1 T g2)), ftN (lUp hs j h2) (y.2.2.2.1 T g2), Or.inr ⟨q1, n, rfl, Or.inr ⟨hn.2.1.trans q2, Or.inl ⟨q3, m, g2, cs, lUp ls j l2, lUp hs j h2, a1, a2, by rw [hn.1]; exact a3, a4, by rw [hm.1]; exact a5, by rw [hm.1]; exact a6, hlk, rfl, rfl, foP (g := 0) hy hj a10 g3 (fun i hi => qG_o (fun z => hi (Prod.mk.inj z).2.symm)) (by rw [qG_e]; exact c1)⟩⟩⟩, fun a => ?_, fun a => ?_⟩
          · show ((if n = a then 1 else 0) + 0) + ((if m = a then 1 else 0) + cnN a (ftN cs _ ++ ftN (lUp ls j l2) _)) = _ + ((if n = a then 1 else 0) + ((if m = a then 1 else 0) + cnN a (rest ++ (ftN (lUp cs j []) _ ++ ftN (lUp ls j []) _))))
            rw [cnN_app, cnN_app, cnN_app, ftN_sp (f := cs) (a := a) hj, ftN_up (f := ls) (a := a) hj]
            have := c2 a
            omega
          · rw [ftN_up (f := hs) (a := a) hj, cnN_app]
            have := c3 a
            omega
        · match π, p1, p2, p3, p4 with
          | [], _, _, _, p4 => exact p4
          | (0, i) :: π, p1, _, _, _ => exact absurd p1.1 q1
          | (1, i) :: π, p1, _, _, _ => exact absurd (h3.symm.trans p1.2.1) (by decide)
          | (g + 2, i) :: π, ⟨_, _, hi, p1⟩, ⟨⟨t9, hz9⟩, p2⟩, p3, ⟨m9, n0, L, n1, r1, r2, r3, r4, r5, r6, r7, r8⟩ =>
            obtain rfl : g2 = g := by rw [a1] at hz9; cases hz9; rfl
            have e := nL_e (by omega) (by omega) (a3.symm.trans r1)
            subst e
            have e := nI_e (by omega) (by omega) (a5.symm.trans r3)
            subst e
            have e := r5.det a7 (r6.trans (hdN_0 hc1).symm) r7 (ftN_hd hn9 (hy.1 _).1 hi)
            subst e
            refine ⟨m, _, _, hdN (cs i), hn.1.trans a3, a4, by rw [hm.1]; exact a5, r4, hlk, hdN_0 hc1, ftN_hd hn9 (hy.1 _).1 hi, ?_⟩
            by_cases e : i = j
            · subst e
              exact d2 π T1 n9 p1 p2 (fun z => (List.cons.inj (p3 (lP_consI z))).2) r8
            · obtain ⟨n2, hq⟩ := (a10 i hi).wk hy (a7.seg hi) p1 p2
              have e2 := wRn.det r8 (hq M (fun a w => ⟨rfl, rfl⟩) (fun a w => ⟨rfl, rfl, rfl⟩))
              subst e2
              exact hq M2 (fun a w => ⟨(g3 a ((foS (rest := rest) hj hi e).1 w)).1, (g3 a ((foS (rest := rest) hj hi e).1 w)).2.2⟩) (g3.im (fun a w => (foS (rest := rest) hj hi e).2 w))
    · rw [h3] at q3; cases q3
    · exact absurd h3 q3
end PS34
end
-- m3.j.lean.txt
section
/-- a type's size, by its number -/
def szN (R : yR) (S : Sg) (T : Nat) : Nat := if yK R S T = 2 ∨ yK R S T = 3 then fN (obF S (R.ws (T - 4))) 19 else 1
/-- a rank of structs -/
def rkN (R : yR) (S : Sg) (g : Nat → Int32) (T : Nat) : Nat := if yK R S T = 2 then hN g (T - 4) R.im + 1 else 0
section PS35
variable {R : yR} {S0 S Sl : Sg} {g : Nat → Int32}
/-- what a type is, by its object -/
theorem yK_k (h : LFS R S0 g) {x : Nat} {kd ix : Int32} {o : Option Nat} (hr : rTy S0 x) (q : isTy S0 x kd ix o) : ((kd = 0 ∨ kd = 1 ∨ kd = 2 ∨ kd = 8) ∧ yK R S0 (abT S0 x) = 0) ∨ (kd = 3 ∧ ∃ i : Nat, i < R.im ∧ R.ik i = 10 ∧ ix = nI i ∧ o = none ∧ abT S0 x = 4 + i ∧ yK R S0 (abT S0 x) = 2) ∨ (kd = 4 ∧ ∃ i : Nat, i < R.im ∧ R.ik i = 11 ∧ ix = nI i ∧ o = none ∧ abT S0 x = 4 + i ∧ yK R S0 (abT S0 x) = 3) ∨ (kd = 5 ∧ ∃ u : Nat, o = some u ∧ yK R S0 (abT S0 x) = 4 ∧ yO S0 (abT S0 x) = abV S0 u) ∨ ((kd = 6 ∨ kd = 7) ∧ (yK R S0 (abT S0 x) = 5 ∨ yK R S0 (abT S0 x) = 6)) := by
  have hY := h.1
  have hy := hY.2.2 _ _ _ _ q
  obtain ⟨t, a1, _, a3, a4, a5⟩ := abV_is hY q
  have lo : ∀ T : Nat, T < 4 → yK R S0 T = 0 := fun T hT => by
    unfold yK
    rw [if_neg (by omega), if_neg (by omega), if_neg (by omega)]
  rcases hy with ⟨z, _⟩ | ⟨z, ⟨i, i1, i2, i3⟩, i4⟩ | ⟨z, ⟨i, i1, i2, i3⟩, i4⟩ | ⟨z, z2, u, z3⟩
  · have z : kd = 0 ∨ kd = 1 ∨ kd = 2 ∨ kd = 8 := z
    have hT : abT S0 x < 4 := by
      rw [a5, a4]; unfold abK
      rcases z with z | z | z | z <;> subst z <;> simp
    exact Or.inl ⟨z, lo _ hT⟩
  · have z : kd = 3 := z
    have i2 : ix = nI i := i2
    have i4 : o = none := i4
    subst z; subst i2; subst i4
    rw [if_neg (by decide), if_neg (by decide), abV_it hY (Or.inl rfl) i1 q] at a5
    exact Or.inr (Or.inl ⟨rfl, i, i1, i3, rfl, rfl, a5, by rw [a5, yK_it hY i1, if_pos i3]⟩)
  · have z : kd = 4 := z
    have i2 : ix = nI i := i2
    have i4 : o = none := i4
    subst z; subst i2; subst i4
    rw [if_neg (by decide), if_neg (by decide), abV_it hY (Or.inr rfl) i1 q] at a5
    exact Or.inr (Or.inr (Or.inl ⟨rfl, i, i1, i3, rfl, rfl, a5, by rw [a5, yK_it hY i1, if_neg (by rw [i3]; decide), if_pos i3]⟩))
  · have z : kd = 5 ∨ kd = 6 ∨ kd = 7 := z
    have z2 : ix = 0 := z2
    have z3 : o = some u := z3
    subst z2; subst z3
    rcases z with z | z
    · subst z
      rw [if_neg (by decide), if_neg (by decide)] at a5
      have := bx_y hY q
      exact Or.inr (Or.inr (Or.inr (Or.inl ⟨rfl, u, rfl, by rw [a5]; exact this.1, by rw [a5]; exact this.2.1⟩)))
    · have hrf := (hr.rf hY q).mpr z
      refine Or.inr (Or.inr (Or.inr (Or.inr ⟨z, ?_⟩)))
      unfold yK
      rw [if_pos hrf.1, if_pos hrf.2]
      by_cases e : abT S0 x % 2 = 0
      · rw [if_pos e]; exact Or.inl rfl
      · rw [if_neg e]; exact Or.inr rfl
theorem szN_ty (h : LFS R S0 g) {x s : Nat} (hr : rTy S0 x) (q : tySz R S0 x s) : szN R S0 (abT S0 x) = s ∧ 1 ≤ s := by
  obtain ⟨kd, ix, o, q1, q2⟩ := q
  have hk := yK_k h hr q1
  unfold szN
  rcases q2 with ⟨e, j, hj, e2, hk2, fs, f1, f2, f3, f4⟩ | ⟨e3, e4, e⟩
  · have e : kd = 3 ∨ kd = 4 := e
    have him := h.1.2.1
    have : ∃ i : Nat, i < R.im ∧ ix = nI i ∧ abT S0 x = 4 + i ∧ (yK R S0 (abT S0 x) = 2 ∨ yK R S0 (abT S0 x) = 3) := by
      rcases hk with ⟨z, _⟩ | ⟨_, i, i1, i2, i3, i4, i5, i6⟩ | ⟨_, i, i1, i2, i3, i4, i5, i6⟩ | ⟨z, _⟩ | ⟨z, _⟩
      · rcases e with e | e <;> subst e <;> exact absurd z (by decide)
      · exact ⟨i, i1, i3, i5, Or.inl i6⟩
      · exact ⟨i, i1, i3, i5, Or.inr i6⟩
      · rcases e with e | e <;> subst e <;> exact absurd z (by decide)
      · rcases e with e | e <;> subst e <;> exact absurd z (by decide)
    obtain ⟨i, i1, i2, i3, i4⟩ := this
    have ei : i = j := nI_e (by omega) (by omega) (i2.symm.trans e2)
    subst ei
    rw [if_pos i4, i3, show 4 + i - 4 = i by omega, obF_o f1, fN_i f2 (by omega)]
    exact ⟨rfl, f3⟩
  · have : ¬ (yK R S0 (abT S0 x) = 2 ∨ yK R S0 (abT S0 x) = 3) := by
      rcases hk with ⟨_, z⟩ | ⟨z, _⟩ | ⟨z, _⟩ | ⟨_, u, _, z, _⟩ | ⟨_, z⟩
      · rw [z]; decide
      · exact absurd z e3
      · exact absurd z e4
      · rw [z]; decide
      · rcases z with z | z <;> rw [z] <;> decide
    rw [if_neg this, e]
    exact ⟨rfl, Nat.le_refl _⟩
/-- a struct or an enum has a number -/
theorem yK_n {T : Nat} (h : yK R S0 T = 2 ∨ yK R S0 T = 3) : ∃ i : Nat, T = 4 + i ∧ i < R.im ∧ ((yK R S0 T = 2 ∧ R.ik i = 10) ∨ (yK R S0 T = 3 ∧ R.ik i = 11)) := by
  unfold yK at h
  by_cases c : 10000 ≤ T
  · rw [if_pos c] at h
    by_cases c2 : T < 30000
    · rw [if_pos c2] at h
      by_cases c3 : T % 2 = 0
      · rw [if_pos c3] at h; exact absurd h (by decide)
      · rw [if_neg c3] at h; exact absurd h (by decide)
    · rw [if_neg c2] at h; exact absurd h (by decide)
  · rw [if_neg c] at h
    by_cases c2 : 4 ≤ T ∧ T < 4 + R.im
    · refine ⟨T - 4, by omega, by omega, ?_⟩
      unfold yK
      rw [if_neg c, if_pos c2]
      rw [if_pos c2] at h
      by_cases c3 : R.ik (T - 4) = 10
      · rw [if_pos c3]; exact Or.inl ⟨rfl, c3⟩
      · rw [if_neg c3] at h ⊢
        by_cases c4 : R.ik (T - 4) = 11
        · rw [if_pos c4]; exact Or.inr ⟨rfl, c4⟩
        · rw [if_neg c4] at h; exact absurd h (by decide)
    · rw [if_neg c2] at h
      by_cases c3 : 100 ≤ T ∧ T < 100 + tmS S0
      · rw [if_pos c3] at h
        cases hz : Zq S0 18 (T - 100) with
        | none => rw [hz] at h; exact absurd h (by simp)
        | some x =>
          rw [hz] at h
          by_cases c4 : fN (obF S0 x) 0 = 5
          · simp [c4] at h
          · simp [c4] at h
      · rw [if_neg c3] at h; exact absurd h (by decide)
/-- an enum's variants -/
theorem zN_en (h : LFS R S0 g) {j v : Nat} (hj : j < R.im) (hk : R.ik j = 11) (hv : v < fN (obF S0 (R.ws j)) 3) : ∃ (fs : List Value) (mn vr pa mk : Nat) (fv f : Nat → Option Nat), R.ws j ∈ ZL S0 ∧ ZF S0 (R.ws j) = .inr (16, fs) ∧ fs[3]? = some (.int (nI mn)) ∧ mn ≤ 12 ∧ fs[11]? = some (.ref vr) ∧ vr ∈ ZL S0 ∧ ZF S0 vr = .inl (R.K.1 13, 13, .inr (.inr (.inr (.inr fv)))) ∧ fv v = some pa ∧ pa ∈ ZL S0 ∧ mk = yP R S0 (4 + j) v ∧ mk ≤ 12 ∧ ((ZF S0 pa = .inr (17, [.int 0, .null, .null]) ∧ mk = 0) ∨ ∃ wa ta : Nat, ZF S0 pa = .inr (17, [.int (nI mk), .ref wa, .ref ta]) ∧ ta ∈ ZL S0 ∧ ZF S0 ta = .inl (R.K.1 4, 12, .inr (.inr (.inr (.inr f))))) ∧ (∀ k : Nat, k < mk → ∃ x : Nat, f k = some x ∧ vTy S0 x ∧ abT S0 x = yQ R S0 (4 + j) v k) ∧ psN (fun k => szN R S0 (yQ R S0 (4 + j) v k)) mk + 1 ≤ szN R S0 (4 + j) := by
  have h0 := h
  obtain ⟨hY, hR, hA, _, hS⟩ := h
  obtain ⟨s, s1, s2, fs, mn, e1, e2, e3, e4, e5⟩ := hS.1 j hj (by rw [hk]; decide)
  obtain ⟨a1, a2, fs2, mn2, na, gg, b1, b2, b3, b4, b5, b6, b7, b8, b9⟩ := hA j hj
  have e4j : 4 + j - 4 = j := by omega
  have ef : fs2 = fs := by
    have := b1.symm.trans e1; cases this; rfl
  subst ef
  have em : mn2 = mn := by
    rw [b3] at e2
    have := Value.int.inj (Option.some.inj e2)
    exact nI_e (by omega) (by omega) this
  subst em
  rw [obF_o e1, fN_i e2 (by omega)] at hv
  have hne : ¬ R.ik j = 10 := by rw [hk]; decide
  rcases e5 with ⟨z, _⟩ | ⟨_, vr, fv, c1, c2, c3⟩
  · exact absurd z hne
  obtain ⟨pa, mk, f, w, d1, d2, d3, d4⟩ := c3 v hv
  rcases b9 with ⟨z, _⟩ | ⟨_, vr2, fv2, r1, r2, r3, r4⟩ | ⟨z, _⟩
  · exact absurd z hne
  · have ev : vr2 = vr := by rw [c1] at r1; cases r1; rfl
    subst ev
    have ey : yP R S0 (4 + j) v = mk := by
      unfold yP paI
      rw [e4j, if_neg hne, obF_o e1, rN_r c1]
      show fN (match roQ S0 vr2 v with | some pa => obF S0 pa | none => []) 0 = mk
      rw [roQ_o c2, d1]
      show fN (obF S0 pa) 0 = mk
      rcases d2.2 with ⟨p1, p2⟩ | ⟨wa, ta, p1, p2, p3⟩
      · rw [obF_o p1, p2]; rfl
      · rw [obF_o p1]; exact fN_i rfl (by omega)
    have hq : ∀ k : Nat, k < mk → ∃ x : Nat, f k = some x ∧ vTy S0 x ∧ abT S0 x = yQ R S0 (4 + j) v k ∧ tySz R S0 x (w k) := fun k hk2 => by
      rcases d2.2 with ⟨p1, p2⟩ | ⟨wa, ta, p1, p2, p3⟩
      · omega
      · obtain ⟨x, x1, x2⟩ := p3.2.2 k hk2
        obtain ⟨x9, y1, y2⟩ := d3 k hk2
        rw [x1] at y1; cases y1
        refine ⟨x, x1, x2, ?_, y2⟩
        unfold yQ paI
        rw [e4j, if_neg hne, obF_o e1, rN_r c1]
        show abT S0 x = abR S0 (rN (match roQ S0 vr2 v with | some pa => obF S0 pa | none => []) 2) k
        rw [roQ_o c2, d1]
        show abT S0 x = abR S0 (rN (obF S0 pa) 2) k
        rw [obF_o p1, rN_r (a := ta) rfl, abR_o p3.2.1 x1, (x2.nm hY).2.2]
    have hm : mk ≤ 12 := by
      rcases d2.2 with ⟨p1, p2⟩ | ⟨wa, ta, p1, p2, p3⟩
      · omega
      · exact p2
    have hs9 : szN R S0 (4 + j) = s := by
      obtain ⟨fs9, g1, g2, g3, g4⟩ := s2
      unfold szN
      rw [yK_it hY hj, if_neg hne, if_pos hk, if_pos (Or.inr rfl), e4j, obF_o g1, fN_i g2 (by omega)]
    refine ⟨fs2, mn2, vr2, pa, mk, fv, f, hR _ a1.1, e1, e2, e4, c1, hR _ r2.1, c2, d1, hR _ d2.1.1, ey.symm, hm, ?_, fun k hk2 => ?_, ?_⟩
    · rcases d2.2 with ⟨p1, p2⟩ | ⟨wa, ta, p1, p2, p3⟩
      · exact Or.inl ⟨p1, p2⟩
      · exact Or.inr ⟨wa, ta, p1, hR _ p3.1.1, p3.2.1⟩
    · obtain ⟨x, x1, x2, x3, x4⟩ := hq k hk2
      exact ⟨x, x1, x2, x3⟩
    · rw [hs9, psN_cg (w2 := w) (fun k hk2 => by
        obtain ⟨x, x1, x2, x3, x4⟩ := hq k hk2
        rw [← x3]
        exact (szN_ty h0 (Or.inl x2) x4).1)]
      rcases d4 with d4 | d4 <;> omega
  · rw [hk] at z; exact absurd z (by decide)
/-- a struct's size -/
theorem szN_st (h : LFS R S0 g) {j : Nat} (hj : j < R.im) (hk : R.ik j = 10) : 1 ≤ yP R S0 (4 + j) 0 ∧ yP R S0 (4 + j) 0 ≤ 12 ∧ psN (fun k => szN R S0 (yQ R S0 (4 + j) 0 k)) (yP R S0 (4 + j) 0) ≤ szN R S0 (4 + j) := by
  have h0 := h
  obtain ⟨fs9, mn9, ta9, f9, w1, w2, w3, w4, w5, w6, w7, w8, _⟩ := zN_st h hj hk
  obtain ⟨hY, hR, hA, _, hS⟩ := h
  obtain ⟨s, s1, s2, fs, mn, e1, e2, e3, e4, e5⟩ := hS.1 j hj (by rw [hk]; decide)
  have e4j : 4 + j - 4 = j := by omega
  have ef : fs9 = fs := by
    have := w2.symm.trans e1; cases this; rfl
  subst ef
  have em : mn9 = mn := by
    rw [w3] at e2
    have := Value.int.inj (Option.some.inj e2)
    exact nI_e (by omega) (by omega) this
  subst em
  have ey : yP R S0 (4 + j) 0 = mn9 := by
    unfold yP
    rw [e4j, if_pos hk, if_pos rfl, obF_o e1, fN_i e2 (by omega)]
  rw [ey]
  refine ⟨e3, e4, ?_⟩
  have hs9 : szN R S0 (4 + j) = s := by
    obtain ⟨fs2, g1, g2, g3, g4⟩ := s2
    unfold szN
    rw [yK_it hY hj, if_pos hk, if_pos (Or.inl rfl), e4j, obF_o g1, fN_i g2 (by omega)]
  rcases e5 with ⟨_, ta, f, w, c1, c2, c3, c4⟩ | ⟨z, _⟩
  · have et : ta9 = ta := by rw [w5] at c1; cases c1; rfl
    subst et
    have ff : f9 = f := by have := w7.symm.trans c2; cases this; rfl
    subst ff
    rw [hs9, psN_cg (w2 := w) (fun k hk2 => by
      obtain ⟨x, x1, x2, x3, _⟩ := w8 k hk2
      obtain ⟨x9, y1, y2⟩ := c3 k hk2
      rw [x1] at y1; cases y1
      rw [← x3]
      exact (szN_ty h0 (Or.inl x2) y2).1)]
    rcases c4 with c4 | c4 <;> omega
  · rw [hk] at z; exact absurd z (by decide)
theorem szN_b (h : LFS R S0 g) (T : Nat) : 1 ≤ szN R S0 T ∧ szN R S0 T ≤ 16 := by
  by_cases c : yK R S0 T = 2 ∨ yK R S0 T = 3
  · obtain ⟨i, e, hi, hk⟩ := yK_n c
    obtain ⟨s, s1, ⟨fs, g1, g2, g3, g4⟩, _⟩ := h.2.2.2.2.1 i hi (by rcases hk with ⟨_, w⟩ | ⟨_, w⟩ <;> rw [w] <;> decide)
    unfold szN
    rw [if_pos c, e, show 4 + i - 4 = i by omega, obF_o g1, fN_i g2 (by omega)]
    exact ⟨g3, s1⟩
  · unfold szN
    rw [if_neg c]
    omega
/-- .. all of it -/
theorem nYk_of (h : LFS R S0 g) : nYk (yT R S0) (zN R S0) (szN R S0) (rkN R S0 g) := by
  have him := h.1.2.1
  refine ⟨fun T => ?_, fun T hT => if_neg hT, fun T hT => ?_, fun T v hT hv => ?_⟩
  · obtain ⟨s1, s2⟩ := szN_b h T
    have r1 : rkN R S0 g T ≤ 100 := by
      unfold rkN
      have := hN_le (f := g) (i := T - 4) R.im
      by_cases c : yK R S0 T = 2
      · rw [if_pos c]; omega
      · rw [if_neg c]; omega
    by_cases c : yK R S0 T = 2
    · obtain ⟨i, e, hi, ⟨_, hk⟩ | ⟨w, _⟩⟩ := yK_n (Or.inl c)
      · obtain ⟨_, _, _, _, _, _, _, _, _, _, _, _, b9, _⟩ := zN_st h hi hk
        obtain ⟨⟨fs, f1, f2, f3⟩, s, t1, t2, t3⟩ := b9
        subst e
        exact ⟨f3, by omega, s1, s2, r1⟩
      · rw [c] at w; exact absurd w (by decide)
    · have : zN R S0 T = 1 := if_neg c
      exact ⟨by omega, by omega, s1, s2, r1⟩
  · have hT : yK R S0 T = 2 := hT
    obtain ⟨i, e, hi, ⟨_, hk⟩ | ⟨w, _⟩⟩ := yK_n (Or.inl hT)
    · subst e
      obtain ⟨fs, mn, ta, f, w1, w2, w3, w4, w5, w6, w7, w8, w9, w10, _⟩ := zN_st h hi hk
      obtain ⟨p1, p2, p3⟩ := szN_st h hi hk
      have ey : yP R S0 (4 + i) 0 = mn := by
        unfold yP
        rw [show 4 + i - 4 = i by omega, if_pos hk, if_pos rfl, obF_o w2, fN_i w3 (by omega)]
      refine ⟨?_, p3, p1, p2, fun k hk2 => ?_⟩
      · show zN R S0 (4 + i) = psN (fun j => zN R S0 (yQ R S0 (4 + i) 0 j)) (yP R S0 (4 + i) 0)
        rw [ey]; exact w10
      · have hk2 : k < yP R S0 (4 + i) 0 := hk2
        obtain ⟨x, x1, x2, x3, kd, ix, o, q1, q2⟩ := w8 k (by rw [← ey]; exact hk2)
        show rkN R S0 g (yQ R S0 (4 + i) 0 k) < rkN R S0 g (4 + i)
        rw [← x3]
        unfold rkN
        rw [if_pos hT, show 4 + i - 4 = i by omega]
        by_cases c : yK R S0 (abT S0 x) = 2
        · rw [if_pos c]
          rcases yK_k h (Or.inl x2) q1 with ⟨_, z⟩ | ⟨z, i9, i1, i2, i3, i4, i5, i6⟩ | ⟨_, _, _, _, _, _, _, z⟩ | ⟨_, u, _, z, _⟩ | ⟨_, z⟩
          · rw [c] at z; exact absurd z (by decide)
          · rcases q2 with ⟨_, j9, j1, j2, j3, j4, _⟩ | ⟨z9, _⟩
            · have : i9 = j9 := nI_e (by omega) (by omega) (i3.symm.trans j2)
              subst this
              rw [i5, show 4 + i9 - 4 = i9 by omega]; omega
            · exact absurd z z9
          · rw [c] at z; exact absurd z (by decide)
          · rw [c] at z; exact absurd z (by decide)
          · rw [c] at z; exact absurd z (by decide)
        · rw [if_neg c]; omega
    · rw [hT] at w; exact absurd w (by decide)
  · have hT : yK R S0 T = 3 := hT
    obtain ⟨i, e, hi, ⟨w, _⟩ | ⟨_, hk⟩⟩ := yK_n (Or.inr hT)
    · rw [hT] at w; exact absurd w (by decide)
    · subst e
      have hv : v < fN (obF S0 (R.ws i)) 3 := by
        have hv : v < fN (obF S0 (R.ws (4 + i - 4))) 3 := hv
        rw [show 4 + i - 4 = i by omega] at hv
        exact hv
      obtain ⟨fs, mn, vr, pa, mk, fv, f, c1, c2, c3, c4, c5, c6, c7, c8, c9, c10, c11, c12, c13, c14⟩ := zN_en h hi hk hv
      show psN (fun j => szN R S0 (yQ R S0 (4 + i) v j)) (yP R S0 (4 + i) v) + 1 ≤ szN R S0 (4 + i) ∧ yP R S0 (4 + i) v ≤ 12 ∧ psN (fun j => zN R S0 (yQ R S0 (4 + i) v j)) (yP R S0 (4 + i) v) ≤ 16
      rw [← c10]
      refine ⟨c14, c11, ?_⟩
      have hle : psN (fun j => zN R S0 (yQ R S0 (4 + i) v j)) mk ≤ psN (fun j => szN R S0 (yQ R S0 (4 + i) v j)) mk := psN_le (fun k hk2 => by
        obtain ⟨x, x1, x2, x3⟩ := c13 k hk2
        show zN R S0 (yQ R S0 (4 + i) v k) ≤ szN R S0 (yQ R S0 (4 + i) v k)
        rw [← x3]
        by_cases c : yK R S0 (abT S0 x) = 2
        · obtain ⟨i9, e9, hi9, ⟨_, hk9⟩ | ⟨w, _⟩⟩ := yK_n (Or.inl c)
          · obtain ⟨_, _, _, _, _, _, _, _, _, _, _, _, b9, _⟩ := zN_st h hi9 hk9
            obtain ⟨_, s, ⟨fs3, t1, t2, t3, t4⟩, t5, t6⟩ := b9
            have : szN R S0 (4 + i9) = s := by
              unfold szN
              rw [← e9, if_pos (Or.inl c), e9, show 4 + i9 - 4 = i9 by omega, obF_o t1, fN_i t2 (by omega)]
            rw [e9, this]; exact t5
          · rw [c] at w; exact absurd w (by decide)
        · have e1 : zN R S0 (abT S0 x) = 1 := if_neg c
          rw [e1]; exact (szN_b h _).1)
      have := (szN_b h (4 + i)).2
      omega
end PS35
end
-- m3.k.lean.txt
section
/-- while things are dropped: nodes of A, cells of B, the work from d on -/
def DO (A B : Nat → Prop) (d : Nat) (S S2 : Sg) : Prop := ZL S2 = ZL S ∧ ZF S2 = ZF S ∧ (Zz S2 = Zz S ∧ Zn S2 = Zn S) ∧ Zq S2 = Zq S ∧ Zf S2 = Zf S ∧ (∀ r : Nat, r ≠ 61 → Zl S2 r = Zl S r) ∧ (∀ r : Nat, (r ≠ 62 ∧ r ≠ 63) → r ≠ 67 → (r ≠ 78 ∧ r ≠ 79 ∧ r ≠ 80) → r ≠ 82 → Zr S2 r = Zr S r) ∧ (∀ j : Nat, (j ≠ 64 ∧ j ≠ 65) → (j ≠ 68 ∧ j ≠ 69) → j ≠ 81 → j ≠ 84 → Zi S2 j = Zi S j) ∧ (∀ n : Nat, ¬ A n → Zl S2 61 n = Zl S 61 n ∧ Zr S2 62 n = Zr S 62 n ∧ Zr S2 63 n = Zr S 63 n) ∧ (∀ q : Nat, ¬ B q → Zr S2 67 q = Zr S 67 q) ∧ ∀ i : Nat, i < d → Zr S2 78 i = Zr S 78 i ∧ Zr S2 79 i = Zr S 79 i ∧ Zr S2 80 i = Zr S 80 i
/-- a piece of work: what, on which type, at which node -/
def wkA (S : Sg) (d w : Nat) (o : Option Nat) (n : Nat) : Prop := Zr S 78 d = nI w ∧ (∃ t : Nat, Zr S 79 d = nI t ∧ t < 2000 ∧ ∀ x : Nat, o = some x → Zq S 18 t = some x) ∧ Zr S 80 d = nI n
/-- nodes as they are -/
def nMS (S : Sg) : nM := (Zl S 61, Zr S 62, Zr S 63)
section PS36
variable {R : yR} {K : Ky} {S0 Sl S S1 S2 : Sg} {g : Nat → Int32} {A B A2 B2 : Nat → Prop} {d d2 : Nat}
theorem DO.rf : DO A B d S S := ⟨rfl, rfl, ⟨rfl, rfl⟩, rfl, rfl, fun _ _ => rfl, fun _ _ _ _ _ => rfl, fun _ _ _ _ _ => rfl, fun _ _ => ⟨rfl, rfl, rfl⟩, fun _ _ => rfl, fun _ _ => ⟨rfl, rfl, rfl⟩⟩
theorem DO.tr (a : DO A B d S S1) (b : DO A B d S1 S2) : DO A B d S S2 := by
  obtain ⟨a1, a2, a3, a4, a5, a6, a7, a8, a9, a10, a11⟩ := a
  obtain ⟨b1, b2, b3, b4, b5, b6, b7, b8, b9, b10, b11⟩ := b
  exact ⟨b1.trans a1, b2.trans a2, ⟨b3.1.trans a3.1, b3.2.trans a3.2⟩, b4.trans a4, b5.trans a5, fun r h => (b6 r h).trans (a6 r h), fun r h1 h2 h3 h4 => (b7 r h1 h2 h3 h4).trans (a7 r h1 h2 h3 h4), fun r h1 h2 h3 h4 => (b8 r h1 h2 h3 h4).trans (a8 r h1 h2 h3 h4), fun n h => ⟨(b9 n h).1.trans (a9 n h).1, (b9 n h).2.1.trans (a9 n h).2.1, (b9 n h).2.2.trans (a9 n h).2.2⟩, fun q h => (b10 q h).trans (a10 q h), fun i h => ⟨(b11 i h).1.trans (a11 i h).1, (b11 i h).2.1.trans (a11 i h).2.1, (b11 i h).2.2.trans (a11 i h).2.2⟩⟩
theorem DO.mo (a : DO A B d S S2) (h1 : ∀ n : Nat, A n → A2 n) (h2 : ∀ n : Nat, B n → B2 n) (h3 : d2 ≤ d) : DO A2 B2 d2 S S2 := by
  obtain ⟨a1, a2, a3, a4, a5, a6, a7, a8, a9, a10, a11⟩ := a
  exact ⟨a1, a2, a3, a4, a5, a6, a7, a8, fun n h => a9 n (fun w => h (h1 n w)), fun n h => a10 n (fun w => h (h2 n w)), fun i h => a11 i (by omega)⟩
theorem NO.do (e : NO A S S2) : DO A B d S S2 := by
  obtain ⟨a1, a2, a3, a4, a5, a6, a7, a8, a9⟩ := e
  exact ⟨a1, a2, a3, a4, a5, a6, fun r h1 h2 h3 h4 => a7 r h1.1 h1.2, fun j h1 h2 h3 h4 => a8 j h1.1 h1.2, a9, fun q _ => by rw [a7 67 (by decide) (by decide)], fun i _ => ⟨by rw [a7 78 (by decide) (by decide)], by rw [a7 79 (by decide) (by decide)], by rw [a7 80 (by decide) (by decide)]⟩⟩
theorem HO.do (e : HO B S S2) : DO A B d S S2 := by
  obtain ⟨a1, a2, a3, a4, a5, a6, a7, a8, a9⟩ := e
  exact ⟨a1, a2, a3, a4, a5, fun r _ => by rw [a6], fun r h1 h2 h3 h4 => a7 r h2, fun j h1 h2 h3 h4 => a8 j h2.1 h2.2, fun n _ => ⟨by rw [a6], by rw [a7 62 (by decide)], by rw [a7 63 (by decide)]⟩, a9, fun i _ => ⟨by rw [a7 78 (by decide)], by rw [a7 79 (by decide)], by rw [a7 80 (by decide)]⟩⟩
theorem WO.do (e : WO S S2) : DO A B d S S2 := by
  obtain ⟨a1, a2, a3, a4, a5, a6, a7, a8⟩ := e
  exact ⟨a1, a2, a3, a4, a5, fun r _ => by rw [a6], fun r h1 h2 h3 h4 => a7 r h4, fun j h1 h2 h3 h4 => a8 j h4, fun n _ => ⟨by rw [a6], by rw [a7 62 (by decide)], by rw [a7 63 (by decide)]⟩, fun q _ => by rw [a7 67 (by decide)], fun i _ => ⟨by rw [a7 78 (by decide)], by rw [a7 79 (by decide)], by rw [a7 80 (by decide)]⟩⟩
theorem DO.rn (e : DO A B d S S2) : RNx S S2 := by
  obtain ⟨a1, a2, a3, a4, a5, a6, a7, a8, a9⟩ := e
  exact ⟨a1, a2, a3, a4, a5, fun r h => a7 r (by omega) (by omega) (by omega) (by omega), fun r h => a6 r (by omega), fun j h _ => a8 j (by omega) (by omega) (by omega) (by omega)⟩
theorem DO.ag (e : DO A B d S S2) {l : List Nat} (h : ∀ a ∈ l, ¬ A a) : agN (nMS S) (nMS S2) l := fun a ha => e.2.2.2.2.2.2.2.2.1 a (h a ha)
theorem DO.wk (e : DO A B d S S2) {i w n : Nat} {o : Option Nat} (h : wkA S i w o n) (hi : i < d) : wkA S2 i w o n := by
  obtain ⟨h1, ⟨t, h2, h3, h4⟩, h5⟩ := h
  obtain ⟨c1, c2, c3⟩ := e.2.2.2.2.2.2.2.2.2.2 i hi
  exact ⟨c1.trans h1, ⟨t, c2.trans h2, h3, fun x hx => by rw [e.2.2.2.1]; exact h4 x hx⟩, c3.trans h5⟩
theorem Ui.do {v : Int32} : DO A B d S (Ui S 81 v) := ⟨rfl, rfl, ⟨rfl, rfl⟩, rfl, rfl, fun _ _ => rfl, fun _ _ _ _ _ => rfl, fun _ _ _ h _ => Zi_n h, fun _ _ => ⟨rfl, rfl, rfl⟩, fun _ _ => rfl, fun _ _ => ⟨rfl, rfl, rfl⟩⟩
/-- a row of work is written, from d on -/
theorem Ur.do {r i : Nat} {v : Int32} (hr : r = 78 ∨ r = 79 ∨ r = 80) (hi : d ≤ i) : DO A B d S (Ur S r (upd (Zr S r) i v)) := ⟨rfl, rfl, ⟨rfl, rfl⟩, rfl, rfl, fun _ _ => rfl, fun s h1 h2 h3 h4 => Zr_u9 (by omega), fun _ _ _ _ _ => rfl, fun n _ => ⟨rfl, congrFun (Zr_u9 (by omega)) n, congrFun (Zr_u9 (by omega)) n⟩, fun q _ => congrFun (Zr_u9 (by omega)) q, fun j hj => by
  have hh : ∀ s : Nat, Zr (Ur S r (upd (Zr S r) i v)) s j = Zr S s j := fun s => by
    by_cases w : s = r
    · subst w; rw [Zr_us]; exact upd_n (by omega)
    · rw [Zr_u9 w]
  exact ⟨hh 78, hh 79, hh 80⟩⟩
/-- of the work alone, from d on -/
def KO (d : Nat) (S S2 : Sg) : Prop := DO (fun _ => False) (fun _ => False) d S S2 ∧ Zi S2 64 = Zi S 64 ∧ Zi S2 65 = Zi S 65 ∧ Zi S2 84 = Zi S 84
theorem KO.rf : KO d S S := ⟨DO.rf, rfl, rfl, rfl⟩
theorem KO.tr (a : KO d S S1) (b : KO d S1 S2) : KO d S S2 := ⟨a.1.tr b.1, b.2.1.trans a.2.1, b.2.2.1.trans a.2.2.1, b.2.2.2.trans a.2.2.2⟩
theorem KO.mo (a : KO d S S2) (h : d2 ≤ d) : KO d2 S S2 := ⟨a.1.mo (fun _ w => w) (fun _ w => w) h, a.2⟩
theorem KO.do (a : KO d S S2) : DO A B d S S2 := a.1.mo (fun _ w => w.elim) (fun _ w => w.elim) (Nat.le_refl _)
theorem KO.nm (a : KO d S S2) : nMS S2 = nMS S := by
  have h := a.1.2.2.2.2.2.2.2.2.1
  show (Zl S2 61, Zr S2 62, Zr S2 63) = (Zl S 61, Zr S 62, Zr S 63)
  rw [show Zl S2 61 = Zl S 61 from funext (fun n => (h n (fun w => w)).1), show Zr S2 62 = Zr S 62 from funext (fun n => (h n (fun w => w)).2.1), show Zr S2 63 = Zr S 63 from funext (fun n => (h n (fun w => w)).2.2)]
theorem KO.x3 (a : KO d S S2) : Zr S2 63 = Zr S 63 := congrArg (fun m : nM => m.2.2) a.nm
theorem KO.fl (a : KO d S S2) {l : List Nat} {t : Nat} (h : FLs S l t) : FLs S2 l t := by
  obtain ⟨h1, h2, ⟨x, h3, h4⟩, h5, h6⟩ := h
  exact ⟨a.2.1.trans h1, h2, ⟨x, a.2.2.1.trans h3, by rw [a.x3]; exact h4⟩, h5, h6⟩
theorem KO.wq (a : KO d S S2) (h : wq S) : wq S2 := by
  obtain ⟨f, l, h1, h2, h3, h4⟩ := h
  exact ⟨f, l, (a.1.2.2.2.2.2.2.2.1 83 ⟨by decide, by decide⟩ ⟨by decide, by decide⟩ (by decide) (by decide)).trans h1, h2, a.2.2.2.trans h3, h4⟩
theorem Ui.ko {v : Int32} : KO d S (Ui S 81 v) := ⟨Ui.do, Zi_n (by decide), Zi_n (by decide), Zi_n (by decide)⟩
theorem Ur.ko {r i : Nat} {v : Int32} (hr : r = 78 ∨ r = 79 ∨ r = 80) (hi : d ≤ i) : KO d S (Ur S r (upd (Zr S r) i v)) := ⟨Ur.do hr hi, rfl, rfl, rfl⟩
/-- later: one more piece of work -/
theorem ltr_ {w n : Nat} {o : Option Nat} (hd : Zi S 81 = nI d) (h9 : d < 90000) (ho : ∀ x : Nat, o = some x → ∃ (kd ix : Int32) (u : Option Nat), isTy S x kd ix u) (ht : tmS S ≤ 2000) : Rt (f_later K S (nI w) o (nI n)) (fun S2 _ => KO d S S2 ∧ Zi S2 81 = nI (d + 1) ∧ wkA S2 d w o n) := by
  unfold f_later
  rw [hd]
  refine Rt.bd (wRI_n (show d < rlen 78 from h9) (by decide)) ?_
  have e1 : KO d S (Ur S 78 (upd (Zr S 78) d (nI w))) := Ur.ko (Or.inl rfl) (Nat.le_refl _)
  have v1 : Zr (Ur S 78 (upd (Zr S 78) d (nI w))) 78 d = nI w := by rw [Zr_us, upd_s]
  have d1 : Zi (Ur S 78 (upd (Zr S 78) d (nI w))) 81 = nI d := hd
  have q1 : Zq (Ur S 78 (upd (Zr S 78) d (nI w))) = Zq S := rfl
  have l1 : ZL (Ur S 78 (upd (Zr S 78) d (nI w))) = ZL S := rfl
  have f1 : ZF (Ur S 78 (upd (Zr S 78) d (nI w))) = ZF S := rfl
  generalize Ur S 78 (upd (Zr S 78) d (nI w)) = Sa at e1 v1 d1 q1 l1 f1
  have h30 : ∀ t : Nat, t < 2000 → (∀ x : Nat, o = some x → Zq S 18 t = some x) → Rt (f_later_30 K Sa (nI n) (nI t) (Zi Sa 81)) (fun S2 _ => KO d S S2 ∧ Zi S2 81 = nI (d + 1) ∧ wkA S2 d w o n) := fun t t2 tx => by
    unfold f_later_30
    rw [d1]
    refine Rt.bd (wRI_n (show d < rlen 79 from h9) (by decide)) ?_
    have e2 : KO d Sa (Ur Sa 79 (upd (Zr Sa 79) d (nI t))) := Ur.ko (Or.inr (Or.inl rfl)) (Nat.le_refl _)
    have v2 : Zr (Ur Sa 79 (upd (Zr Sa 79) d (nI t))) 79 d = nI t := by rw [Zr_us, upd_s]
    have w2 : Zr (Ur Sa 79 (upd (Zr Sa 79) d (nI t))) 78 d = nI w := by rw [Zr_u9 (by decide)]; exact v1
    have d2 : Zi (Ur Sa 79 (upd (Zr Sa 79) d (nI t))) 81 = nI d := d1
    have q2 : Zq (Ur Sa 79 (upd (Zr Sa 79) d (nI t))) = Zq S := q1
    generalize Ur Sa 79 (upd (Zr Sa 79) d (nI t)) = Sb at e2 v2 w2 d2 q2
    rw [d2]
    refine Rt.bd (wRI_n (show d < rlen 80 from h9) (by decide)) ?_
    have e3 : KO d Sb (Ur Sb 80 (upd (Zr Sb 80) d (nI n))) := Ur.ko (Or.inr (Or.inr rfl)) (Nat.le_refl _)
    have v3 : Zr (Ur Sb 80 (upd (Zr Sb 80) d (nI n))) 80 d = nI n := by rw [Zr_us, upd_s]
    have w3 : Zr (Ur Sb 80 (upd (Zr Sb 80) d (nI n))) 78 d = nI w := by rw [Zr_u9 (by decide)]; exact w2
    have u3 : Zr (Ur Sb 80 (upd (Zr Sb 80) d (nI n))) 79 d = nI t := by rw [Zr_u9 (by decide)]; exact v2
    have d3 : Zi (Ur Sb 80 (upd (Zr Sb 80) d (nI n))) 81 = nI d := d2
    have q3 : Zq (Ur Sb 80 (upd (Zr Sb 80) d (nI n))) = Zq S := q2
    generalize Ur Sb 80 (upd (Zr Sb 80) d (nI n)) = Sc at e3 v3 w3 u3 d3 q3
    refine Rt.bd (v := Ui Sc 81 (nI (d + 1))) (by rw [d3, nI_1]; rfl) (Rt.rt ⟨((e1.tr e2).tr e3).tr Ui.ko, Zi_s, w3, ⟨t, u3, t2, fun x hx => ?_⟩, v3⟩)
    show Zq Sc 18 t = some x
    rw [q3]; exact tx x hx
  cases o with
  | none => exact Rt.ip rfl (h30 0 (by decide) (fun x hx => by cases hx))
  | some x =>
    obtain ⟨kd, ix, u, t, t1, t2, t3, t4⟩ := ho x rfl
    refine Rt.iq (by simp) (Rt.bd (v := nI t) (oI_mk (by rw [l1]; exact t3) (by rw [f1]; exact t4) rfl) (h30 t (by omega) (fun y hy => by cases hy; exact t2)))
/-- the work that a part asks for -/
def WP (S : Sg) (d fr mn i : Nat) (o : Option Nat) (c : List Nat) : Prop := (fr = 1 → wkA S (d + (1 + fr) * (mn - 1 - i)) 1 o (hdN c)) ∧ wkA S (d + (1 + fr) * (mn - 1 - i) + fr) 0 o (hdN c)
theorem KO.wp (a : KO d S S2) {b fr mn i : Nat} {o : Option Nat} {c : List Nat} (h : WP S b fr mn i o c) (hf : fr ≤ 1) (hd : b + (1 + fr) * (mn - 1 - i) + fr < d) : WP S2 b fr mn i o c := ⟨fun w => a.1.wk (h.1 w) (by omega), a.1.wk h.2 hd⟩
/-- laterParts -/
theorem lpt5 {ta cap mn fr : Nat} {f : Nat → Option Nat} {cs : Nat → List Nat} (hL : LFS R S0 g) (hx : LX S0 Sl) (e : RNx Sl S) (ht : ta ∈ ZL Sl ∧ ZF Sl ta = .inl (R.K.1 4, cap, .inr (.inr (.inr (.inr f))))) (hc : mn ≤ cap ∧ cap < 100) (hf : ∀ k : Nat, k < mn → ∃ x : Nat, f k = some x ∧ rTy S0 x) (hk : lkN (Zr S 63) (ftN cs mn)) (hl : ∀ i : Nat, i < mn → (cs i).length = zN R S0 (abU S0 (f i))) (h1 : ∀ i : Nat, 1 ≤ zN R S0 (abU S0 (f i))) (h100 : (ftN cs mn).length < 100) (hfr : fr = 0 ∨ fr = 1) (h9 : d + (1 + fr) * mn ≤ 90000) : ∀ (j n : Nat) (S1 : Sg), j ≤ mn → j < n → KO d S S1 → Zi S1 81 = nI (d + (1 + fr) * (mn - j)) → (∀ i : Nat, j ≤ i → i < mn → WP S1 d fr mn i (f i) (cs i)) → Rt (f_laterParts_5 R.K n S1 (some ta) (nI (hdN (ftN cs mn))) (nI fr) (nI j - 1)) (fun S2 _ => KO d S S2 ∧ Zi S2 81 = nI (d + (1 + fr) * mn) ∧ ∀ i : Nat, i < mn → WP S2 d fr mn i (f i) (cs i))
  | j, 0, S1, _, hn, _, _, _ => by omega
  | 0, n + 1, S1, _, hn, e1, hi, hw => by
    unfold f_laterParts_5
    exact Rt.ip (by decide) (Rt.rt ⟨e1, by rw [hi, Nat.sub_zero], fun i h => hw i (Nat.zero_le _) h⟩)
  | j + 1, n + 1, S1, hj, hn, e1, hi, hw => by
    unfold f_laterParts_5
    rw [nI_pred]
    refine Rt.iq (nI_nn (by omega)) ?_
    have hf1 : fr ≤ 1 := by omega
    obtain ⟨x, x1, x2⟩ := hf j (by omega)
    have eR : RNx Sl S1 := e.tr e1.1.rn
    have h0 : 1 ≤ (ftN cs mn).length := ftN_0 (s := fun i => zN R S0 (abU S0 (f i))) hl h1 (show j < mn by omega)
    have hp : f_partOf R.K S1 (some ta) (nI (hdN (ftN cs mn))) (nI j) = some (S1, nI (hdN (cs j))) := by
      have hb := ftN_hd (s := fun i => zN R S0 (abU S0 (f i))) hl (h1 j) (show j < mn by omega)
      refine pof_ hL hx eR ht ⟨by omega, hc.2⟩ (fun i y hi hy => ?_) (by rw [e1.x3]; exact hk) (hdN_0 h0) hb ?_
      · obtain ⟨z, z1, z2⟩ := hf i (by omega)
        rw [hy] at z1; cases z1; exact z2
      · obtain ⟨q, _⟩ := List.getElem?_eq_some_iff.mp hb
        omega
    refine Rt.be hp ?_
    obtain ⟨kd, ix, u, q, _⟩ := x2.ty
    have hT : ∀ S3 : Sg, RNx Sl S3 → (∀ y : Nat, f j = some y → ∃ (kd ix : Int32) (u : Option Nat), isTy S3 y kd ix u) ∧ tmS S3 ≤ 2000 := fun S3 e3 => ⟨fun y hy => by
      rw [x1] at hy; cases hy
      exact ⟨kd, ix, u, e3.ty (hx.ty q)⟩, by
      have : tmS S3 = tmS S0 := by
        unfold tmS
        rw [e3.2.2.2.2.2.2.2 19 (by decide) (by decide), hx.2.1 19 (by decide) (by decide) (by decide) ⟨by decide, by decide⟩]
      rw [this]; exact hL.1.1⟩
    have hQ : ∀ S3 : Sg, RNx Sl S3 → aQ R.K 4 S3 (some ta) (nI j) = some (f j) := fun S3 e3 => aQ_n (by rw [e3.1]; exact ht.1) (by rw [e3.2.1]; exact ht.2) (show j < cap by omega) (by omega)
    have h36 : ∀ (b : Nat) (S3 : Sg), KO d S S3 → KO (d + (1 + fr) * (mn - (j + 1))) S1 S3 → Zi S3 81 = nI b → b = d + (1 + fr) * (mn - (j + 1)) + fr → (fr = 1 → wkA S3 (d + (1 + fr) * (mn - 1 - j)) 1 (f j) (hdN (cs j))) → Rt (f_laterParts_36 R.K (f_laterParts_5 R.K n) S3 (some ta) (nI (hdN (ftN cs mn))) (nI fr) (nI j) (nI (hdN (cs j)))) (fun S2 _ => KO d S S2 ∧ Zi S2 81 = nI (d + (1 + fr) * mn) ∧ ∀ i : Nat, i < mn → WP S2 d fr mn i (f i) (cs i)) := fun b S3 e3 e4 hb eb hw1 => by
      have eR3 : RNx Sl S3 := e.tr e3.1.rn
      unfold f_laterParts_36
      refine Rt.bd (hQ S3 eR3) (Rt.bn (ltr_ (w := 0) hb (by rcases hfr with w | w <;> subst w <;> omega) (hT S3 eR3).1 (hT S3 eR3).2) (fun S4 _ ⟨k1, k2, k3⟩ => ?_))
      have hdb : d ≤ b := by omega
      rw [show nI j + (-1) = nI j - 1 from (Int32.sub_eq_add_neg _ _).symm]
      refine lpt5 hL hx e ht hc hf hk hl h1 h100 hfr h9 j n S4 (by omega) (by omega) (e3.tr (k1.mo hdb)) ?_ (fun i q1 q2 => ?_)
      · rw [k2, eb]; congr 1; rcases hfr with w | w <;> subst w <;> omega
      · by_cases w : i = j
        · subst w
          refine ⟨fun w1 => k1.1.wk (hw1 w1) (by rcases hfr with w | w <;> subst w <;> omega), ?_⟩
          rw [show d + (1 + fr) * (mn - 1 - i) + fr = b by rw [eb]; rcases hfr with w | w <;> subst w <;> omega]
          exact k3
        · exact (e4.tr (k1.mo (by omega))).wp (hw i (by omega) q2) hf1 (by rcases hfr with w | w <;> subst w <;> omega)
    rcases hfr with w | w
    · subst w
      exact Rt.ip rfl (h36 _ S1 e1 KO.rf hi (by omega) (fun w => by cases w))
    · subst w
      refine Rt.iq (by decide) (Rt.bd (hQ S1 eR) (Rt.bn (ltr_ (w := 1) hi (by omega) (hT S1 eR).1 (hT S1 eR).2) (fun S3 _ ⟨k1, k2, k3⟩ => ?_)))
      refine h36 _ S3 (e1.tr (k1.mo (by omega))) k1 k2 rfl (fun _ => ?_)
      rw [show d + (1 + 1) * (mn - 1 - j) = d + (1 + 1) * (mn - (j + 1)) by omega]
      exact k3
end PS36
end
-- m3.l.lean.txt
section
theorem psN_i1 {v : Nat → Nat} {i : Nat} : ∀ {n : Nat}, i < n → v i ≤ psN v n
  | n + 1, h => by
    show v i ≤ psN v n + v n
    by_cases w : i = n
    · subst w; omega
    · have := psN_i1 (v := v) (i := i) (n := n) (by omega); omega
theorem psN_ij {v : Nat → Nat} {i j : Nat} (hij : i ≠ j) : ∀ {n : Nat}, i < n → j < n → v i + v j ≤ psN v n
  | n + 1, hi, hj => by
    show v i + v j ≤ psN v n + v n
    by_cases w : i = n
    · subst w; have := psN_i1 (v := v) (i := j) (n := i) (by omega); omega
    · by_cases w2 : j = n
      · subst w2; have := psN_i1 (v := v) (i := i) (n := j) (by omega); omega
      · have := psN_ij (v := v) hij (n := n) (by omega) (by omega); omega
theorem psN_m9 {v : Nat → Nat} {i : Nat} : ∀ {n : Nat}, i ≤ n → psN v i ≤ psN v n
  | 0, h => by obtain rfl : i = 0 := by omega
               exact Nat.le_refl _
  | n + 1, h => by
    show psN v i ≤ psN v n + v n
    by_cases w : i = n + 1
    · subst w; exact Nat.le_refl _
    · have := psN_m9 (v := v) (i := i) (n := n) (by omega); omega
theorem psN_p9 {v w : Nat → Nat} : ∀ {n : Nat}, (∀ i : Nat, i < n → v i ≤ w i) → psN v n ≤ psN w n
  | 0, _ => Nat.le_refl _
  | n + 1, h => by
    show psN v n + v n ≤ psN w n + w n
    have h1 := psN_p9 (n := n) (fun i hi => h i (by omega))
    have h2 := h n (by omega)
    omega
theorem psN_k9 {c : Nat} {v : Nat → Nat} : ∀ {n : Nat}, psN (fun i => c * v i) n = c * psN v n
  | 0 => rfl
  | n + 1 => by
    show psN (fun i => c * v i) n + c * v n = c * (psN v n + v n)
    rw [psN_k9, Nat.mul_add]
theorem psN_c9 {c : Nat} : ∀ {n : Nat}, psN (fun _ => c) n = n * c
  | 0 => by rw [Nat.zero_mul]; rfl
  | n + 1 => by
    show psN (fun _ => c) n + c = (n + 1) * c
    rw [psN_c9, Nat.add_mul, Nat.one_mul]
theorem psN_g9 {v : Nat → Nat} {j n : Nat} (h : ∀ i : Nat, i < n → 1 ≤ v i) (hj : j < n) : v j + n ≤ psN v n + 1 := by
  have key : ∀ m : Nat, m ≤ n → m ≤ psN v m ∧ (j < m → v j + m ≤ psN v m + 1) := fun m => by
    induction m with
    | zero => exact fun _ => ⟨Nat.zero_le _, fun w => by omega⟩
    | succ m ih =>
      intro hm
      obtain ⟨i1, i2⟩ := ih (by omega)
      have := h m (by omega)
      refine ⟨?_, fun w => ?_⟩
      · show m + 1 ≤ psN v m + v m; omega
      · show v j + (m + 1) ≤ psN v m + v m + 1
        by_cases q : j = m
        · subst q; omega
        · have := i2 (by omega); omega
  exact (key n (Nat.le_refl _)).2 hj
theorem ftN_cn {f : Nat → List Nat} {a : Nat} : ∀ {n : Nat}, cnN a (ftN f n) = psN (fun i => cnN a (f i)) n
  | 0 => rfl
  | n + 1 => by
    show cnN a (ftN f n ++ f n) = psN (fun i => cnN a (f i)) n + cnN a (f n)
    rw [cnN_app, ftN_cn]
theorem cnN_rev {a : Nat} : ∀ {l : List Nat}, cnN a l.reverse = cnN a l
  | [] => rfl
  | x :: l => by
    rw [List.reverse_cons, cnN_app, cnN_rev]
    show cnN a l + ((if x = a then 1 else 0) + 0) = (if x = a then 1 else 0) + cnN a l
    omega
/-- nodes are told apart, none is free, all are made -/
def cvN (c l fl : List Nat) (t : Nat) : Prop := ∀ a : Nat, cnN a c + cnN a l + cnN a fl ≤ 1 ∧ (1 ≤ cnN a c + cnN a l → 1 ≤ a ∧ a ≤ t)
/-- a place was dropped: its own nodes are empty, those below are free -/
def DPo (c l h fl : List Nat) (t d : Nat) (S S2 : Sg) (fl2 : List Nat) : Prop := DO (fun a => a ∈ c ∨ a ∈ l) (fun q => q ∈ h) d S S2 ∧ Zi S2 81 = nI d ∧ FLs S2 fl2 t ∧ (∀ a : Nat, cnN a fl2 = cnN a l + cnN a fl) ∧ (∀ a ∈ c, Zr S2 62 a = 0 ∧ Zr S2 63 a = Zr S 63 a) ∧ (∀ q ∈ h, Zr S2 67 q = 0) ∧ wq S2
/-- the work comes, in N steps at most, to where P holds -/
def drN (K : Ky) (N : Nat) (P : Sg → List Nat → Prop) (S : Sg) : Prop := ∀ (e : Nat) (Q : Sg → Unit → Prop), N ≤ e → (∀ (S3 : Sg) (fl : List Nat) (e2 : Nat), P S3 fl → e ≤ e2 + N → Rt (f_doAll_0 K e2 S3) Q) → Rt (f_doAll_0 K e S) Q
section PS37
variable {R : yR} {K : Ky} {S0 Sl S S1 S2 : Sg} {g : Nat → Int32} {A B : Nat → Prop} {d t N N2 m : Nat} {P P2 : Sg → List Nat → Prop} {c l h fl fl2 : List Nat}
theorem drN.mo (q : drN K N P S) (hn : N ≤ N2) (hp : ∀ (S3 : Sg) (fl : List Nat), P S3 fl → P2 S3 fl) : drN K N2 P2 S := fun e Q he k => q e Q (by omega) (fun S3 fl e2 h1 h2 => k S3 fl e2 (hp S3 fl h1) (by omega))
theorem drN.rf (h : P S fl) : drN K 0 P S := fun e Q _ k => k S fl e h (by omega)
theorem drN.tr (q : drN K N P S) (k : ∀ (S3 : Sg) (fl : List Nat), P S3 fl → drN K N2 P2 S3) : drN K (N + N2) P2 S := fun e Q he kk => q e Q (by omega) (fun S3 fl e2 h1 h2 => k S3 fl h1 e2 Q (by omega) (fun S4 fl4 e4 h3 h4 => kk S4 fl4 e4 h3 (by omega)))
theorem NO.wq (e : NO A S S2) (h : wq S) : wq S2 := by
  obtain ⟨f, l, h1, h2, h3, h4⟩ := h
  exact ⟨f, l, (e.2.2.2.2.2.2.2.1 83 (by decide) (by decide)).trans h1, h2, (e.2.2.2.2.2.2.2.1 84 (by decide) (by decide)).trans h3, h4⟩
theorem HO.wq (e : HO B S S2) (h : wq S) : wq S2 := by
  obtain ⟨f, l, h1, h2, h3, h4⟩ := h
  exact ⟨f, l, (e.2.2.2.2.2.2.2.1 83 (by decide) (by decide)).trans h1, h2, (e.2.2.2.2.2.2.2.1 84 (by decide) (by decide)).trans h3, h4⟩
theorem HO.fls (e : HO B S S2) (h : FLs S fl t) : FLs S2 fl t := by
  obtain ⟨h1, h2, ⟨x, h3, h4⟩, h5, h6⟩ := h
  exact ⟨(e.2.2.2.2.2.2.2.1 64 (by decide) (by decide)).trans h1, h2, ⟨x, (e.2.2.2.2.2.2.2.1 65 (by decide) (by decide)).trans h3, by rw [e.2.2.2.2.2.2.1 63 (by decide)]; exact h4⟩, h5, h6⟩
/-- one step of the work -/
theorem dA1 {w n e : Nat} {o : Option Nat} {Q : Sg → Unit → Prop} (hd : Zi S 81 = nI (d + 1)) (h9 : d < 90000) (hw : wkA S d w o n) (k : ∀ (S1 : Sg) (v : Option Nat), KO d S S1 → Zi S1 81 = nI d → (∀ x : Nat, o = some x → v = some x) → Rt (if nI w = 0 then (bnd (f_dropPlace K S1 v (nI n)) fun S6 v7 =>
    f_doAll_0 K e S6) else (if nI w = 1 then (bnd (f_freePlace K S1 v (nI n)) fun S8 v9 =>
    f_doAll_0 K e S8) else (if nI w = 2 then (bnd (f_freeBlock K S1 (nI n)) fun S10 v11 =>
    bnd (f_freeNode K S10 (nI n)) fun S12 v13 =>
    f_doAll_0 K e S12) else (bnd (f_freeNode K S1 (nI n)) fun S14 v15 =>
    f_doAll_0 K e S14)))) Q) : Rt (f_doAll_0 K (e + 1) S) Q := by
  obtain ⟨w1, ⟨u, w2, w3, w4⟩, w5⟩ := hw
  unfold f_doAll_0
  rw [hd, nI_pred]
  refine Rt.iq (fun w => ?_) (Rt.bd (v := Ui S 81 (nI d)) rfl ?_)
  · have := nI_le0 (by omega) w; omega
  · have e1 : KO d S (Ui S 81 (nI d)) := Ui.ko
    have i1 : Zi (Ui S 81 (nI d)) 81 = nI d := Zi_s
    have a1 : Zr (Ui S 81 (nI d)) = Zr S := rfl
    have a2 : Zq (Ui S 81 (nI d)) = Zq S := rfl
    generalize Ui S 81 (nI d) = Sa at e1 i1 a1 a2
    rw [i1]
    refine Rt.bd (rI_n (show d < rlen 79 from h9) (by decide)) (Rt.bd (v := Zq Sa 18 u) (by rw [a1, w2]; exact rQ_n (show u < rlen 18 from w3) (by decide)) (Rt.bd (rI_n (show d < rlen 80 from h9) (by decide)) (Rt.bd (rI_n (show d < rlen 78 from h9) (by decide)) ?_)))
    rw [a1, w1, w5]
    exact k Sa _ e1 i1 (fun x hx => by rw [a2]; exact w4 x hx)
/-- .. a place's nodes are given back -/
theorem dAf {x : Nat} (hL : LFS R S0 g) (hx : LX S0 Sl) (e : RNx Sl S) (hr : rTy S0 x) (hd : Zi S 81 = nI (d + 1)) (h9 : d < 90000) (hw : wkA S d 1 (some x) (hdN c)) (hf : FLs S fl t) (hq : wq S) (hl : c.length = zN R S0 (abT S0 x)) (h1 : 1 ≤ c.length) (h16 : c.length ≤ 16) (hk : lkN (Zr S 63) c) (hc : cvN c [] fl t) : drN R.K 1 (fun S3 fl3 => DO (fun a => a ∈ c) (fun _ => False) d S S3 ∧ Zi S3 81 = nI d ∧ FLs S3 fl3 t ∧ (∀ a : Nat, cnN a fl3 = cnN a c + cnN a fl) ∧ wq S3) S := fun e9 Q he kk => by
  obtain ⟨e9, rfl⟩ : ∃ k : Nat, e9 = k + 1 := ⟨e9 - 1, by omega⟩
  refine dA1 hd h9 hw (fun S1 v k1 i1 hv => ?_)
  rw [hv x rfl]
  refine Rt.iq (by decide) (Rt.ip (by decide) (Rt.bn (frp_ (L := c) (a := hdN c) hL hx (e.tr k1.1.rn) (fun y hy => by cases hy; exact hr) (by show zN R S0 (abT S0 x) ≤ 16; omega) (k1.fl hf) hl (by rw [k1.x3]; exact hk) (cnN_nd.mpr (fun a => by have := (hc a).1; omega)) (fun a ha => ?_) (hdN_0 h1)) (fun S3 _ ⟨q1, q2, _⟩ => ?_)))
  · have h2 := cnN_mem.mp ha
    refine ⟨((hc a).2 (by omega)).2, fun w => ?_⟩
    have h3 := cnN_mem.mp w
    have := (hc a).1; omega
  · exact kk S3 _ e9 ⟨k1.do.tr q2.do, (q2.2.2.2.2.2.2.2.1 81 (by decide) (by decide)).trans i1, q1, fun a => by rw [cnN_app, cnN_rev], q2.wq (k1.wq hq)⟩ (by omega)
/-- .. a node -/
theorem dAn {o : Option Nat} (hd : Zi S 81 = nI (d + 1)) (h9 : d < 90000) (hw : wkA S d 3 o m) (hf : FLs S fl t) (hq : wq S) (h1 : 1 ≤ m) (hm : m ≤ t) (hl : m ∉ fl) : drN K 1 (fun S3 fl3 => DO (fun a => a = m) (fun _ => False) d S S3 ∧ Zi S3 81 = nI d ∧ FLs S3 fl3 t ∧ fl3 = m :: fl ∧ wq S3) S := fun e9 Q he kk => by
  obtain ⟨e9, rfl⟩ : ∃ k : Nat, e9 = k + 1 := ⟨e9 - 1, by omega⟩
  refine dA1 hd h9 hw (fun S1 v k1 i1 hv => ?_)
  refine Rt.iq (by decide) (Rt.iq (by decide) (Rt.iq (by decide) (Rt.bn (frn_ (k1.fl hf) h1 hm hl) (fun S3 _ ⟨q1, q2, _⟩ => ?_))))
  exact kk S3 _ e9 ⟨k1.do.tr q2.do, (q2.2.2.2.2.2.2.2.1 81 (by decide) (by decide)).trans i1, q1, rfl, q2.wq (k1.wq hq)⟩ (by omega)
/-- .. a box's cells and its node -/
theorem dAb {o : Option Nat} {f s : Nat} (hd : Zi S 81 = nI (d + 1)) (h9 : d < 90000) (hw : wkA S d 2 o m) (hf : FLs S fl t) (hq : wq S) (h1 : 1 ≤ m) (hm : m ≤ t) (hl : m ∉ fl) (hb : blW (Zl S 61 m) = nI s) (hv : vrW (Zl S 61 m) = nI f) (h4 : f + s ≤ 4000) : drN K 1 (fun S3 fl3 => DO (fun a => a = m) (fun q => q ∈ rgN f s) d S S3 ∧ Zi S3 81 = nI d ∧ FLs S3 fl3 t ∧ fl3 = m :: fl ∧ (∀ q ∈ rgN f s, Zr S3 67 q = 0) ∧ wq S3) S := fun e9 Q he kk => by
  obtain ⟨e9, rfl⟩ : ∃ k : Nat, e9 = k + 1 := ⟨e9 - 1, by omega⟩
  refine dA1 hd h9 hw (fun S1 v k1 i1 _ => ?_)
  have hm4 : m < 430000 := by have := hf.2.1; omega
  have ez : Zl S1 61 = Zl S 61 := congrArg (fun x : nM => x.1) k1.nm
  refine Rt.iq (by decide) (Rt.iq (by decide) (Rt.ip (by decide) ?_))
  have hfb : Rt (f_freeBlock K S1 (nI m)) (fun S3 _ => HO (fun q => f ≤ q ∧ q < f + s) S1 S3 ∧ ∀ q : Nat, f ≤ q → q < f + s → Zr S3 67 q = 0) := by
    unfold f_freeBlock
    refine Rt.be (S := S1) (r := nI s) (by unfold f_blockLong; rw [rJ_n (show m < rlen 61 from hm4) (by decide), ez, ← hb]; rfl) (Rt.be (S := S1) (r := nI f) (by unfold f_variantOf_; rw [rJ_n (show m < rlen 61 from hm4) (by decide), ez, ← hv]; rfl) ?_)
    exact (fb15 (S := S1) h4 bigN 0 S1 (by unfold bigN; omega) (Nat.zero_le _) HO.rf rfl (fun q a b => by omega)).mo (fun S3 _ ⟨q1, _, _, q4⟩ => ⟨q1, q4⟩)
  refine Rt.bn hfb (fun S3 _ ⟨p1, p2⟩ => Rt.bn (frn_ (p1.fls (k1.fl hf)) h1 hm hl) (fun S4 _ ⟨q1, q2, _⟩ => ?_))
  refine kk S4 _ e9 ⟨(k1.do.tr (p1.do.mo (fun _ w => w) (fun q w => rgN_mem.mpr w) (Nat.le_refl _))).tr q2.do, (q2.2.2.2.2.2.2.2.1 81 (by decide) (by decide)).trans ((p1.2.2.2.2.2.2.2.1 81 (by decide) (by decide)).trans i1), q1, rfl, fun q hq => ?_, q2.wq (p1.wq (k1.wq hq))⟩ (by omega)
  rw [q2.2.2.2.2.2.2.1 67 (by decide) (by decide)]
  exact p2 q (rgN_mem.mp hq).1 (rgN_mem.mp hq).2
end PS37
end
