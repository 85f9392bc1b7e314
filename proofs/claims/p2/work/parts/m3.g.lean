/-- how often a stands in a list -/
def cnN (a : Nat) : List Nat → Nat
  | [] => 0
  | x :: l => (if x = a then 1 else 0) + cnN a l
theorem cnN_app {a : Nat} : ∀ {l m : List Nat}, cnN a (l ++ m) = cnN a l + cnN a m
  | [], m => by rw [List.nil_append]; show _ = 0 + _; omega
  | x :: l, m => by
    show (if x = a then 1 else 0) + cnN a (l ++ m) = (if x = a then 1 else 0) + cnN a l + cnN a m
    rw [cnN_app]; omega
theorem cnN_mem {a : Nat} : ∀ {l : List Nat}, a ∈ l ↔ 1 ≤ cnN a l
  | [] => ⟨fun h => (by cases h), fun h => (by cases h)⟩
  | x :: l => by
    rw [List.mem_cons]
    show _ ↔ 1 ≤ (if x = a then 1 else 0) + cnN a l
    by_cases e : x = a
    · rw [if_pos e]
      exact ⟨fun _ => by omega, fun _ => Or.inl e.symm⟩
    · rw [if_neg e, Nat.zero_add, ← cnN_mem]
      exact ⟨fun w => w.resolve_left (fun z => e z.symm), Or.inr⟩
theorem cnN_z {a : Nat} {l : List Nat} (h : a ∉ l) : cnN a l = 0 := by
  rcases Nat.eq_zero_or_pos (cnN a l) with e | e
  · exact e
  · exact absurd (cnN_mem.mpr e) h
theorem cnN_nd : ∀ {l : List Nat}, l.Nodup ↔ ∀ a : Nat, cnN a l ≤ 1
  | [] => ⟨fun _ _ => Nat.zero_le _, fun _ => List.nodup_nil⟩
  | x :: l => by
    rw [List.nodup_cons, cnN_nd]
    constructor
    · intro h a
      show (if x = a then 1 else 0) + cnN a l ≤ 1
      by_cases e : x = a
      · subst e
        rw [if_pos rfl, cnN_z h.1]; omega
      · rw [if_neg e]; have := h.2 a; omega
    · intro h
      refine ⟨fun w => ?_, fun a => ?_⟩
      · have h1 : (if x = x then 1 else 0) + cnN x l ≤ 1 := h x
        rw [if_pos rfl] at h1
        have := cnN_mem.mp w
        omega
      · have h1 : (if x = a then 1 else 0) + cnN a l ≤ 1 := h a
        omega
/-- the lists f 0 .. f (n - 1) in a row -/
def ftN (f : Nat → List Nat) : Nat → List Nat
  | 0 => []
  | n + 1 => ftN f n ++ f n
theorem ftN_mem {f : Nat → List Nat} {a : Nat} : ∀ {n : Nat}, a ∈ ftN f n ↔ ∃ j : Nat, j < n ∧ a ∈ f j
  | 0 => ⟨fun h => (by cases h), fun ⟨_, h, _⟩ => (by cases h)⟩
  | n + 1 => by
    show a ∈ ftN f n ++ f n ↔ _
    rw [List.mem_append, ftN_mem]
    constructor
    · rintro (⟨j, h1, h2⟩ | h)
      · exact ⟨j, by omega, h2⟩
      · exact ⟨n, by omega, h⟩
    · rintro ⟨j, h1, h2⟩
      by_cases e : j = n
      · subst e; exact Or.inr h2
      · exact Or.inl ⟨j, by omega, h2⟩
theorem ftN_len {f : Nat → List Nat} : ∀ {n : Nat}, (ftN f n).length = psN (fun j => (f j).length) n
  | 0 => rfl
  | n + 1 => by
    show (ftN f n ++ f n).length = psN (fun j => (f j).length) n + (f n).length
    rw [List.length_append, ftN_len]
theorem ftN_cg {f g : Nat → List Nat} : ∀ {n : Nat}, (∀ j : Nat, j < n → f j = g j) → ftN f n = ftN g n
  | 0, _ => rfl
  | n + 1, h => by
    show ftN f n ++ f n = ftN g n ++ g n
    rw [ftN_cg (fun j hj => h j (by omega)), h n (by omega)]
theorem ftN_nil : ∀ {n : Nat}, ftN (fun _ => []) n = []
  | 0 => rfl
  | n + 1 => by show ftN (fun _ => []) n ++ [] = []; rw [ftN_nil]; rfl
theorem ftN_up {f : Nat → List Nat} {j a : Nat} {x : List Nat} : ∀ {n : Nat}, j < n → cnN a (ftN (lUp f j x) n) = cnN a x + cnN a (ftN (lUp f j []) n)
  | 0, h => by omega
  | n + 1, h => by
    show cnN a (ftN (lUp f j x) n ++ lUp f j x n) = cnN a x + cnN a (ftN (lUp f j []) n ++ lUp f j [] n)
    rw [cnN_app, cnN_app]
    by_cases e : j = n
    · subst e
      rw [lUp_eq, lUp_eq, ftN_cg (f := lUp f j x) (g := lUp f j []) (fun i hi => by rw [lUp_ne (by omega), lUp_ne (by omega)])]
      show _ = cnN a x + (_ + 0)
      omega
    · rw [lUp_ne (fun w => e w.symm), lUp_ne (fun w => e w.symm), ftN_up (by omega)]; omega
theorem lUp_se9 {α : Type} {g : Nat → α} {t : Nat} : lUp g t (g t) = g := funext fun u => by
  by_cases e : u = t
  · subst e; rw [lUp_eq]
  · rw [lUp_ne e]
theorem ftN_sp {f : Nat → List Nat} {j a n : Nat} (h : j < n) : cnN a (ftN f n) = cnN a (f j) + cnN a (ftN (lUp f j []) n) := by
  have := ftN_up (f := f) (a := a) (x := f j) h
  rw [lUp_se9] at this
  exact this
theorem ftN_rest {f : Nat → List Nat} {i j a n : Nat} (hi : i < n) (hij : i ≠ j) (ha : a ∈ f i) : a ∈ ftN (lUp f j []) n := ftN_mem.mpr ⟨i, hi, by rw [lUp_ne hij]; exact ha⟩
theorem ftN_get {f : Nat → List Nat} {j i : Nat} : ∀ {n : Nat}, j < n → i < (f j).length → (ftN f n)[psN (fun j => (f j).length) j + i]? = (f j)[i]?
  | 0, h, _ => by omega
  | n + 1, h, hi => by
    show (ftN f n ++ f n)[_]? = _
    by_cases e : j = n
    · subst e
      rw [List.getElem?_append_right (by rw [ftN_len]; omega), ftN_len]
      congr 1; omega
    · have h1 : j < n := by omega
      have h2 : psN (fun j => (f j).length) j + i < (ftN f n).length := by
        rw [ftN_len]
        have := psN_mo (w := fun j => (f j).length) (k := j + 1) (n := n) h1
        have e2 : psN (fun j => (f j).length) (j + 1) = psN (fun j => (f j).length) j + (f j).length := rfl
        omega
      rw [List.getElem?_append_left h2]
      exact ftN_get h1 hi
/-- nodes: worth, has, next -/
abbrev nM := (Nat → Int64) × (Nat → Int32) × (Nat → Int32)
def nM.w (M : nM) : Nat → Int64 := M.1
def nM.h (M : nM) : Nat → Int32 := M.2.1
def nM.x (M : nM) : Nat → Int32 := M.2.2
/-- what is told in a node's worth: first kid, variant or begin, how long -/
def kdW (x : Int64) : Int32 := Int64.toInt32 (x &&& 1048575)
def vrW (x : Int64) : Int32 := Int64.toInt32 (x >>> (Int32.toInt64 20 &&& 63) &&& 1048575)
def blW (x : Int64) : Int32 := Int64.toInt32 (x >>> (Int32.toInt64 40 &&& 63))
def nL (m : Nat) : Int64 := Int32.toInt64 (nI m)
/-- a row's first one -/
def hdN : List Nat → Nat
  | [] => 0
  | a :: _ => a
def rgN (p : Nat) : Nat → List Nat
  | 0 => []
  | n + 1 => rgN p n ++ [p + n]
theorem rgN_mem {p a : Nat} : ∀ {n : Nat}, a ∈ rgN p n ↔ p ≤ a ∧ a < p + n
  | 0 => ⟨fun h => (by cases h), fun h => (by omega)⟩
  | n + 1 => by
    show a ∈ rgN p n ++ [p + n] ↔ _
    rw [List.mem_append, rgN_mem, List.mem_singleton]; omega
theorem rgN_len {p : Nat} : ∀ {n : Nat}, (rgN p n).length = n
  | 0 => rfl
  | n + 1 => by show (rgN p n ++ [p + n]).length = n + 1; rw [List.length_append, rgN_len]; rfl
theorem rgN_cn {p a : Nat} : ∀ {n : Nat}, cnN a (rgN p n) = if p ≤ a ∧ a < p + n then 1 else 0
  | 0 => by show 0 = _; rw [if_neg (by omega)]
  | n + 1 => by
    show cnN a (rgN p n ++ [p + n]) = _
    rw [cnN_app, rgN_cn]
    show _ + ((if p + n = a then 1 else 0) + 0) = _
    by_cases e : p + n = a
    · rw [if_pos e, if_neg (by omega), if_pos (by omega)]
    · rw [if_neg e]
      by_cases e2 : p ≤ a ∧ a < p + n
      · rw [if_pos e2, if_pos (by omega)]
      · rw [if_neg e2, if_neg (by omega)]
/-- a value x that is no struct's, of type T, its tree V; l its nodes, h its cells of the heap -/
def vLb (y : qY) (sz : Nat → Nat) (M : nM) (P : Nat → qV → List Nat → List Nat → List Nat → Prop) (T : Nat) (V : qV) (x : Int64) (l h : List Nat) : Prop :=
  (y.1 T = 3 ∧ ∃ (m g : Nat) (cs ls hs : Nat → List Nat), V [] = some (T, g) ∧ g < y.2.2.1 T ∧ x = nL m ∧ (1 ≤ m ∧ m < 430000) ∧ kdW (M.w m) = nI (hdN (ftN cs (y.2.2.2.1 T g))) ∧ vrW (M.w m) = nI g ∧ lkN M.x (ftN cs (y.2.2.2.1 T g)) ∧ l = m :: (ftN cs (y.2.2.2.1 T g) ++ ftN ls (y.2.2.2.1 T g)) ∧ h = ftN hs (y.2.2.2.1 T g) ∧ ∀ j : Nat, j < y.2.2.2.1 T g → P (y.2.2.2.2 T g j) (qS V [(g + 2, j)]) (cs j) (ls j) (hs j)) ∨
  (y.1 T = 4 ∧ ∃ (m f : Nat) (c L H : List Nat), (∃ z : Nat × Nat, V [] = some z) ∧ x = nL m ∧ (1 ≤ m ∧ m < 430000) ∧ kdW (M.w m) = nI (hdN c) ∧ vrW (M.w m) = nI f ∧ blW (M.w m) = nI (sz (y.2.1 T)) ∧ f + sz (y.2.1 T) ≤ 4000 ∧ lkN M.x c ∧ l = m :: (c ++ L) ∧ h = rgN f (sz (y.2.1 T)) ++ H ∧ P (y.2.1 T) (qS V [(1, 0)]) c L H) ∨
  (y.1 T ≠ 3 ∧ y.1 T ≠ 4 ∧ (∃ z : Nat × Nat, V [] = some z) ∧ l = [] ∧ h = [])
/-- a place of type T, its tree V: c its own nodes, l those below, h the heap's cells -/
def pL (y : qY) (sz : Nat → Nat) (M : nM) : Nat → Nat → qV → List Nat → List Nat → List Nat → Prop
  | 0 => fun _ _ _ _ _ => False
  | k + 1 => fun T V c l h => (y.1 T = 2 ∧ ∃ cs ls hs : Nat → List Nat, c = ftN cs (y.2.2.2.1 T 0) ∧ l = ftN ls (y.2.2.2.1 T 0) ∧ h = ftN hs (y.2.2.2.1 T 0) ∧ ∀ j : Nat, j < y.2.2.2.1 T 0 → pL y sz M k (y.2.2.2.2 T 0 j) (qS V [(0, j)]) (cs j) (ls j) (hs j)) ∨
    (y.1 T ≠ 2 ∧ ∃ n : Nat, c = [n] ∧ ((V [] = none ∧ M.h n = 0 ∧ l = [] ∧ h = []) ∨ (M.h n = 1 ∧ vLb y sz M (pL y sz M k) T V (M.w n) l h)))
/-- .. its value -/
def vL (y : qY) (sz : Nat → Nat) (M : nM) (k T : Nat) (V : qV) (x : Int64) (l h : List Nat) : Prop := vLb y sz M (pL y sz M k) T V x l h
/-- types: leaves, sizes, a rank of structs -/
def nYk (y : qY) (zn sz rk : Nat → Nat) : Prop := (∀ T : Nat, 1 ≤ zn T ∧ zn T ≤ 16 ∧ 1 ≤ sz T ∧ sz T ≤ 16 ∧ rk T ≤ 100) ∧ (∀ T : Nat, y.1 T ≠ 2 → zn T = 1) ∧ (∀ T : Nat, y.1 T = 2 → zn T = psN (fun j => zn (y.2.2.2.2 T 0 j)) (y.2.2.2.1 T 0) ∧ psN (fun j => sz (y.2.2.2.2 T 0 j)) (y.2.2.2.1 T 0) ≤ sz T ∧ 1 ≤ y.2.2.2.1 T 0 ∧ y.2.2.2.1 T 0 ≤ 12 ∧ ∀ j : Nat, j < y.2.2.2.1 T 0 → rk (y.2.2.2.2 T 0 j) < rk T) ∧ ∀ T g : Nat, y.1 T = 3 → g < y.2.2.1 T → psN (fun j => sz (y.2.2.2.2 T g j)) (y.2.2.2.1 T g) + 1 ≤ sz T ∧ y.2.2.2.1 T g ≤ 12 ∧ psN (fun j => zn (y.2.2.2.2 T g j)) (y.2.2.2.1 T g) ≤ 16
section PS32
variable {y : qY} {zn sz rk : Nat → Nat} {M M2 : nM} {k T : Nat} {V : qV} {c l h : List Nat} {x : Int64}
theorem vLb.mo {P Q : Nat → qV → List Nat → List Nat → List Nat → Prop} (hm : nM.w M2 = nM.w M) (hx : nM.x M2 = nM.x M) (hP : ∀ (T : Nat) (V : qV) (c l h : List Nat), P T V c l h → Q T V c l h) (q : vLb y sz M P T V x l h) : vLb y sz M2 Q T V x l h := by
  rcases q with ⟨h1, m, g, cs, ls, hs, a1, a2, a3, a4, a5, a6, a7, a8, a9, a10⟩ | ⟨h1, m, f, c, L, H, a1, a2, a3, a4, a5, a6, a7, a8, a9, a10, a11⟩ | q
  · exact Or.inl ⟨h1, m, g, cs, ls, hs, a1, a2, a3, a4, by rw [hm]; exact a5, by rw [hm]; exact a6, by rw [hx]; exact a7, a8, a9, fun j hj => hP _ _ _ _ _ (a10 j hj)⟩
  · exact Or.inr (Or.inl ⟨h1, m, f, c, L, H, a1, a2, a3, by rw [hm]; exact a4, by rw [hm]; exact a5, by rw [hm]; exact a6, a7, by rw [hx]; exact a8, a9, a10, hP _ _ _ _ _ a11⟩)
  · exact Or.inr (Or.inr q)
theorem pL.up1 : ∀ {k T : Nat} {V : qV} {c l h : List Nat}, pL y sz M k T V c l h → pL y sz M (k + 1) T V c l h
  | 0, _, _, _, _, _, q => q.elim
  | k + 1, T, V, c, l, h, q => by
    rcases q with ⟨q1, cs, ls, hs, e1, e2, e3, q2⟩ | ⟨q1, n, e1, q2⟩
    · exact Or.inl ⟨q1, cs, ls, hs, e1, e2, e3, fun j hj => (q2 j hj).up1⟩
    · exact Or.inr ⟨q1, n, e1, q2.imp id (fun w => ⟨w.1, w.2.mo rfl rfl (fun T V c l h => pL.up1)⟩)⟩
theorem pL.up {k2 : Nat} (q : pL y sz M k T V c l h) (hk : k ≤ k2) : pL y sz M k2 T V c l h := by
  obtain ⟨d, rfl⟩ := Nat.le.dest hk
  clear hk
  induction d with
  | zero => exact q
  | succ d ih => exact ih.up1
theorem vL.up {k2 : Nat} (q : vL y sz M k T V x l h) (hk : k ≤ k2) : vL y sz M k2 T V x l h := vLb.mo rfl rfl (fun _ _ _ _ _ w => w.up hk) q
/-- the nodes of a list are as they were -/
def agN (M M2 : nM) (l : List Nat) : Prop := ∀ a ∈ l, M2.w a = M.w a ∧ M2.h a = M.h a ∧ M2.x a = M.x a
theorem agN.im {l2 : List Nat} (q : agN M M2 l) (h : ∀ a ∈ l2, a ∈ l) : agN M M2 l2 := fun a ha => q a (h a ha)
theorem vLb.st {P Q : Nat → qV → List Nat → List Nat → List Nat → Prop} (q : vLb y sz M P T V x l h) (ha : agN M M2 l) (hP : ∀ (T : Nat) (V : qV) (c2 l2 h2 : List Nat), (∀ a ∈ c2, a ∈ l) → (∀ a ∈ l2, a ∈ l) → P T V c2 l2 h2 → Q T V c2 l2 h2) : vLb y sz M2 Q T V x l h := by
  rcases q with ⟨h1, m, g, cs, ls, hs, a1, a2, a3, a4, a5, a6, a7, a8, a9, a10⟩ | ⟨h1, m, f, c, L, H, a1, a2, a3, a4, a5, a6, a7, a8, a9, a10, a11⟩ | q
  · have hm := ha m (by rw [a8]; exact List.mem_cons_self ..)
    have hc : ∀ a ∈ ftN cs (y.2.2.2.1 T g), a ∈ l := fun a w => by rw [a8]; exact List.mem_cons_of_mem _ (List.mem_append_left _ w)
    have hl : ∀ a ∈ ftN ls (y.2.2.2.1 T g), a ∈ l := fun a w => by rw [a8]; exact List.mem_cons_of_mem _ (List.mem_append_right _ w)
    exact Or.inl ⟨h1, m, g, cs, ls, hs, a1, a2, a3, a4, by rw [hm.1]; exact a5, by rw [hm.1]; exact a6, a7.cg (fun a w => (ha a (hc a w)).2.2), a8, a9, fun j hj => hP _ _ _ _ _ (fun a w => hc a (ftN_mem.mpr ⟨j, hj, w⟩)) (fun a w => hl a (ftN_mem.mpr ⟨j, hj, w⟩)) (a10 j hj)⟩
  · have hm := ha m (by rw [a9]; exact List.mem_cons_self ..)
    have hc : ∀ a ∈ c, a ∈ l := fun a w => by rw [a9]; exact List.mem_cons_of_mem _ (List.mem_append_left _ w)
    have hl : ∀ a ∈ L, a ∈ l := fun a w => by rw [a9]; exact List.mem_cons_of_mem _ (List.mem_append_right _ w)
    exact Or.inr (Or.inl ⟨h1, m, f, c, L, H, a1, a2, a3, by rw [hm.1]; exact a4, by rw [hm.1]; exact a5, by rw [hm.1]; exact a6, a7, a8.cg (fun a w => (ha a (hc a w)).2.2), a9, a10, hP _ _ _ _ _ hc hl a11⟩)
  · exact Or.inr (Or.inr q)
/-- a place is as it was, if its nodes are -/
theorem pL.st : ∀ {k T : Nat} {V : qV} {c l h : List Nat}, pL y sz M k T V c l h → (∀ a ∈ c, M2.w a = M.w a ∧ M2.h a = M.h a) → agN M M2 l → pL y sz M2 k T V c l h
  | 0, _, _, _, _, _, q, _, _ => q.elim
  | k + 1, T, V, c, l, h, q, hc, hl => by
    rcases q with ⟨q1, cs, ls, hs, e1, e2, e3, q2⟩ | ⟨q1, n, e1, q2⟩
    · exact Or.inl ⟨q1, cs, ls, hs, e1, e2, e3, fun j hj => (q2 j hj).st (fun a w => hc a (by rw [e1]; exact ftN_mem.mpr ⟨j, hj, w⟩)) (hl.im (fun a w => by rw [e2]; exact ftN_mem.mpr ⟨j, hj, w⟩))⟩
    · obtain ⟨n1, n2⟩ := hc n (by rw [e1]; exact List.mem_cons_self ..)
      refine Or.inr ⟨q1, n, e1, q2.imp (fun w => ⟨w.1, by rw [n2]; exact w.2.1, w.2.2⟩) (fun w => ⟨by rw [n2]; exact w.1, ?_⟩)⟩
      rw [n1]
      exact w.2.st hl (fun T V c2 l2 h2 b1 b2 p => p.st (fun a z => ⟨(hl a (b1 a z)).1, (hl a (b1 a z)).2.1⟩) (hl.im b2))
theorem vL.st (q : vL y sz M k T V x l h) (hl : agN M M2 l) : vL y sz M2 k T V x l h := vLb.st q hl (fun _ _ _ _ _ b1 b2 p => p.st (fun a z => ⟨(hl a (b1 a z)).1, (hl a (b1 a z)).2.1⟩) (hl.im b2))
/-- how many own nodes -/
theorem pL.len (hy : nYk y zn sz rk) : ∀ {k T : Nat} {V : qV} {c l h : List Nat}, pL y sz M k T V c l h → c.length = zn T
  | 0, _, _, _, _, _, q => q.elim
  | k + 1, T, V, c, l, h, q => by
    rcases q with ⟨q1, cs, ls, hs, e1, e2, e3, q2⟩ | ⟨q1, n, e1, q2⟩
    · rw [e1, ftN_len, (hy.2.2.1 T q1).1]
      exact psN_cg (fun j hj => (q2 j hj).len hy)
    · rw [e1, hy.2.1 T q1]; rfl
theorem psN_ad {u v : Nat → Nat} : ∀ {n : Nat}, psN (fun j => u j + v j) n = psN u n + psN v n
  | 0 => rfl
  | n + 1 => by
    show psN (fun j => u j + v j) n + (u n + v n) = psN u n + u n + (psN v n + v n)
    rw [psN_ad]; omega
theorem psN_2 {u : Nat → Nat} : ∀ {n : Nat}, psN (fun j => 2 * u j) n = 2 * psN u n
  | 0 => rfl
  | n + 1 => by
    show psN (fun j => 2 * u j) n + 2 * u n = 2 * (psN u n + u n)
    rw [psN_2]; omega
theorem ftN_cnt {cs ls hs : Nat → List Nat} {s : Nat → Nat} {n : Nat} (hq : ∀ j : Nat, j < n → (cs j).length + (ls j).length ≤ 2 * s j + 2 * (hs j).length) : (ftN cs n).length + (ftN ls n).length ≤ 2 * psN s n + 2 * (ftN hs n).length := by
  rw [ftN_len, ftN_len, ftN_len, ← psN_ad, ← psN_2, ← psN_2, ← psN_ad]
  exact psN_le hq
theorem vLb.cnt (hy : nYk y zn sz rk) {P : Nat → qV → List Nat → List Nat → List Nat → Prop} (hP : ∀ (T : Nat) (V : qV) (c l h : List Nat), P T V c l h → c.length + l.length ≤ 2 * sz T + 2 * h.length) (q : vLb y sz M P T V x l h) : 1 + l.length ≤ 2 * sz T + 2 * h.length := by
  rcases q with ⟨h1, m, g, cs, ls, hs, a1, a2, a3, a4, a5, a6, a7, a8, a9, a10⟩ | ⟨h1, m, f, c, L, H, a1, a2, a3, a4, a5, a6, a7, a8, a9, a10, a11⟩ | ⟨_, _, _, a, b⟩
  · have := ftN_cnt (fun j hj => hP _ _ _ _ _ (a10 j hj))
    have := (hy.2.2.2 T g h1 a2).1
    rw [a8, a9, List.length_cons, List.length_append]; omega
  · have := hP _ _ _ _ _ a11
    have := (hy.1 T).2.2.1
    rw [a9, a10, List.length_cons, List.length_append, List.length_append, rgN_len]; omega
  · have := (hy.1 T).2.2.1
    rw [a, b, List.length_nil]; omega
/-- how many nodes at most -/
theorem pL.cnt (hy : nYk y zn sz rk) : ∀ {k T : Nat} {V : qV} {c l h : List Nat}, pL y sz M k T V c l h → c.length + l.length ≤ 2 * sz T + 2 * h.length
  | 0, _, _, _, _, _, q => q.elim
  | k + 1, T, V, c, l, h, q => by
    rcases q with ⟨q1, cs, ls, hs, e1, e2, e3, q2⟩ | ⟨q1, n, e1, ⟨q2, q3, q4, q5⟩ | ⟨q2, q3⟩⟩
    · have := ftN_cnt (fun j hj => (q2 j hj).cnt hy)
      have := (hy.2.2.1 T q1).2.1
      rw [e1, e2, e3]; omega
    · have := (hy.1 T).2.2.1
      rw [e1, q4, q5, List.length_singleton, List.length_nil]; omega
    · have := q3.cnt hy (fun T V c l h => pL.cnt hy)
      rw [e1, List.length_singleton]; omega
theorem vL.cnt (hy : nYk y zn sz rk) (q : vL y sz M k T V x l h) : 1 + l.length ≤ 2 * sz T + 2 * h.length := vLb.cnt hy (fun _ _ _ _ _ w => w.cnt hy) q
/-- nothing lies there -/
theorem pL.none (hy : nYk y zn sz rk) : ∀ {k T : Nat} {V : qV} {c l h : List Nat}, pL y sz M k T V c l h → (∀ a ∈ c, M2.h a = 0) → pL y sz M2 k T (fun _ => none) c [] []
  | 0, _, _, _, _, _, q, _ => q.elim
  | k + 1, T, V, c, l, h, q, hc => by
    rcases q with ⟨q1, cs, ls, hs, e1, e2, e3, q2⟩ | ⟨q1, n, e1, q2⟩
    · exact Or.inl ⟨q1, cs, fun _ => [], fun _ => [], e1, ftN_nil.symm, ftN_nil.symm, fun j hj => (q2 j hj).none hy (fun a w => hc a (by rw [e1]; exact ftN_mem.mpr ⟨j, hj, w⟩))⟩
    · exact Or.inr ⟨q1, n, e1, Or.inl ⟨rfl, hc n (by rw [e1]; exact List.mem_cons_self ..), rfl, rfl⟩⟩
end PS32
