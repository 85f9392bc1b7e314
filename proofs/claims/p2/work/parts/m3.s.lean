/-- a value on the stack -/
def vaR (y : qY) (sz : Nat → Nat) (M : nM) (T : Nat) (V : qV) (x : Int64) (l h : List Nat) : Prop := (y.1 T = 2 ∧ ∃ (k : Nat) (c l1 : List Nat), pL y sz M k T V c l1 h ∧ lkN M.x c ∧ x = nL (hdN c) ∧ l = c ++ l1) ∨ (y.1 T ≠ 2 ∧ ∃ k : Nat, vL y sz M k T V x l h)
/-- a variable's place -/
def plR (y : qY) (sz : Nat → Nat) (M : nM) (T : Nat) (V : qV) (a : Int32) (c l h : List Nat) : Prop := (∃ k : Nat, pL y sz M k T V c l h) ∧ lkN M.x c ∧ a = nI (hdN c)
/-- a root that has nodes: a variable in scope, a value -/
def kSc (s : List tE) (u : Nat) : Prop := (u < 40 ∧ (8, u, 0) ∈ s) ∨ (40 ≤ u ∧ u < 40 + wl s)
/-- a root's nodes: c its own, l those below, h cells of the heap; b where the frame's values begin -/
def rPc (y : qY) (sz : Nat → Nat) (M : nM) (sk : Nat → Int64) (pl : Nat → Int32) (s : List tE) (b j u T : Nat) (V : qV) (c l h : List Nat) : Prop := (u < 40 → (8, u, 0) ∈ s → plR y sz M T V (pl (40 * j + u)) c l h) ∧ (40 ≤ u → u < 40 + wl s → c = [] ∧ vaR y sz M T V (sk (b + (u - 40))) l h) ∧ (¬ kSc s u → c = [] ∧ l = [] ∧ h = [])
/-- where a reference leads -/
def rfA (y : qY) (zn : Nat → Nat) (M : nM) (sk : Nat → Int64) (b u T : Nat) (cd cu : List Nat) (π : lLc) : Prop := ∃ n : Nat, n < 430000 ∧ wRn y zn M T (hdN cd) π n ∧ (u < 40 → ∃ m : Nat, cu = [m] ∧ M.w m = nL n) ∧ (40 ≤ u → sk (b + (u - 40)) = nL n)
/-- the nodes of all roots -/
def kN (y : qY) (zn sz : Nat → Nat) (M : nM) (sk : Nat → Int64) (pl : Nat → Int32) (f : Nat) (x : Nat → kFm) (rt : Nat × Nat → Nat) (V : Nat × Nat → qV) (bs : Nat → Nat) (C L H : Nat × Nat → List Nat) : Prop :=
  (∀ j u : Nat, j ≤ f → rPc y sz M sk pl (x j).2.1 (bs j) j u (rt (j, u)) (V (j, u)) (C (j, u)) (L (j, u)) (H (j, u))) ∧
  (∀ j u : Nat, f < j → C (j, u) = [] ∧ L (j, u) = [] ∧ H (j, u) = []) ∧
  (bs 0 = 0 ∧ ∀ j : Nat, j < f → bs (j + 1) = bs j + wl (x j).2.1) ∧
  ∀ (j u : Nat) (d : Nat × Nat) (π : lLc), j ≤ f → kA (x j) u → kSc (x j).2.1 u → kR (x j) u = some (d :: π) → rfA y zn M sk (bs j) u (rt d) (C d) (C (j, u)) π
/-- all nodes, all cells of the heap stand in one root or are free -/
def kC (C L H : Nat × Nat → List Nat) (fl : List Nat) (t : Nat) (tk : Nat → Int32) : Prop := (∀ a : Nat, sm2 (fun r => cnN a (C r) + cnN a (L r)) + cnN a fl = ind t a) ∧ ∀ q : Nat, sm2 (fun r => cnN q (H r)) ≤ 1 ∧ (1 ≤ sm2 (fun r => cnN q (H r)) → q < 4000 ∧ tk q ≠ 0)
section PS44
variable {y : qY} {zn sz rk : Nat → Nat} {M M2 : nM} {sk sk2 : Nat → Int64} {pl pl2 : Nat → Int32} {f : Nat} {x : Nat → kFm} {rt : Nat × Nat → Nat} {V : Nat × Nat → qV} {bs : Nat → Nat} {C L H : Nat × Nat → List Nat} {T k : Nat} {W : qV} {xv : Int64} {c l h fl : List Nat} {t : Nat} {tk : Nat → Int32}
theorem vaR.st (q : vaR y sz M T W xv l h) (ha : agN M M2 l) : vaR y sz M2 T W xv l h := by
  rcases q with ⟨q1, k, c, l1, q2, q3, q4, q5⟩ | ⟨q1, k, q2⟩
  · subst q5
    have hc : ∀ a ∈ c, a ∈ c ++ l1 := fun a w => List.mem_append_left _ w
    exact Or.inl ⟨q1, k, c, l1, q2.st (fun a w => ⟨(ha a (hc a w)).1, (ha a (hc a w)).2.1⟩) (ha.im (fun a w => List.mem_append_right _ w)), q3.cg (fun a w => (ha a (hc a w)).2.2), q4, rfl⟩
  · exact Or.inr ⟨q1, k, q2.st ha⟩
theorem plR.st {a : Int32} (q : plR y sz M T W a c l h) (hc : agN M M2 c) (hl : agN M M2 l) : plR y sz M2 T W a c l h := by
  obtain ⟨⟨k, q1⟩, q2, q3⟩ := q
  exact ⟨⟨k, q1.st (fun a w => ⟨(hc a w).1, (hc a w).2.1⟩) hl⟩, q2.cg (fun a w => (hc a w).2.2), q3⟩
theorem vaR.cnt (hy : nYk y zn sz rk) (q : vaR y sz M T W xv l h) : l.length ≤ 32 + 2 * h.length := by
  have h1 := hy.1 T
  rcases q with ⟨q1, k, c, l1, q2, q3, q4, q5⟩ | ⟨q1, k, q2⟩
  · have := q2.cnt hy
    rw [q5, List.length_append]; omega
  · have := q2.cnt hy; omega
theorem plR.cnt {a : Int32} (hy : nYk y zn sz rk) (q : plR y sz M T W a c l h) : c.length + l.length ≤ 32 + 2 * h.length := by
  obtain ⟨⟨k, q1⟩, _⟩ := q
  have := q1.cnt hy
  have h1 := hy.1 T
  omega
theorem rPc.st {s : List tE} {b j u : Nat} (q : rPc y sz M sk pl s b j u T W c l h) (hc : agN M M2 c) (hl : agN M M2 l) (e1 : u < 40 → (8, u, 0) ∈ s → pl2 (40 * j + u) = pl (40 * j + u)) (e2 : 40 ≤ u → u < 40 + wl s → sk2 (b + (u - 40)) = sk (b + (u - 40))) : rPc y sz M2 sk2 pl2 s b j u T W c l h := by
  obtain ⟨q1, q2, q3⟩ := q
  refine ⟨fun a b => ?_, fun a b => ?_, q3⟩
  · rw [e1 a b]; exact (q1 a b).st hc hl
  · rw [e2 a b]; exact ⟨(q2 a b).1, (q2 a b).2.st hl⟩
theorem rPc.cnt {s : List tE} {b j u : Nat} (hy : nYk y zn sz rk) (q : rPc y sz M sk pl s b j u T W c l h) (hw : wl s ≤ 177) : c.length + l.length ≤ (if u < 217 then 32 else 0) + 2 * h.length := by
  obtain ⟨q1, q2, q3⟩ := q
  by_cases e : kSc s u
  · rw [if_pos (by rcases e with e | e <;> omega)]
    rcases e with ⟨a, b⟩ | ⟨a, b⟩
    · exact (q1 a b).cnt hy
    · obtain ⟨z1, z2⟩ := q2 a b
      have := z2.cnt hy
      rw [z1]; show 0 + _ ≤ _; omega
  · obtain ⟨z1, z2, z3⟩ := q3 e
    rw [z1, z2]; show 0 + 0 ≤ _; omega
theorem psN_if {m c : Nat} : ∀ {n : Nat}, psN (fun u => if u < m then c else 0) n ≤ m * c
  | 0 => Nat.zero_le _
  | n + 1 => by
    by_cases e : n < m
    · have h1 : psN (fun u => if u < m then c else 0) (n + 1) ≤ psN (fun _ => c) (n + 1) := psN_le (fun k _ => by by_cases q : k < m; rw [if_pos q]; exact Nat.le_refl _; rw [if_neg q]; exact Nat.zero_le _)
      rw [psN_c9] at h1
      exact Nat.le_trans h1 (Nat.mul_le_mul_right _ e)
    · show psN (fun u => if u < m then c else 0) n + (if n < m then c else 0) ≤ _
      rw [if_neg e]
      exact psN_if
/-- there is room for some nodes more -/
theorem kN.room (hy : nYk y zn sz rk) (h : kN y zn sz M sk pl f x rt V bs C L H) (hc : kC C L H fl t tk) (hf : f < 60) (hw : ∀ j : Nat, j ≤ f → wl (x j).2.1 ≤ 177) (hfl : ∀ n ∈ fl, n ≤ t) : t ≤ fl.length + 424640 := by
  obtain ⟨h1, h2, _⟩ := h
  obtain ⟨c1, c2⟩ := hc
  have hin : ∀ (r : Nat × Nat) (a : Nat), r.1 < 60 → r.2 < 300 → (a ∈ C r ∨ a ∈ L r) → a < t + 1 := fun r a r1 r2 w => by
    have g := sm2_i1 (G := fun r => cnN a (C r) + cnN a (L r)) r1 r2
    have e : 1 ≤ cnN a (C r) + cnN a (L r) := by
      rcases w with w | w
      · have := cnN_mem.mp w; omega
      · have := cnN_mem.mp w; omega
    have g : cnN a (C r) + cnN a (L r) ≤ sm2 (fun r => cnN a (C r) + cnN a (L r)) := g
    have e2 := c1 a
    unfold ind at e2
    by_cases q : 1 ≤ a ∧ a ≤ t
    · omega
    · rw [if_neg q] at e2; omega
  have hih : ∀ (r : Nat × Nat) (q : Nat), r.1 < 60 → r.2 < 300 → q ∈ H r → q < 4000 := fun r q r1 r2 w => by
    have g : cnN q (H r) ≤ sm2 (fun r => cnN q (H r)) := sm2_i1 (G := fun r => cnN q (H r)) r1 r2
    have e := cnN_mem.mp w
    exact ((c2 q).2 (by omega)).1
  have s1 : sm2 (fun r => (C r).length + (L r).length) + fl.length = t := by
    have e1 : sm2 (fun r => (C r).length + (L r).length) = psN (fun a => sm2 (fun r => cnN a (C r) + cnN a (L r))) (t + 1) := by
      rw [← sm2_sw (G := fun r a => cnN a (C r) + cnN a (L r))]
      refine sm2_cg (fun r r1 r2 => ?_)
      show (C r).length + (L r).length = psN (fun a => cnN a (C r) + cnN a (L r)) (t + 1)
      rw [psN_ad, cnN_len (fun a w => hin r a r1 r2 (Or.inl w)), cnN_len (fun a w => hin r a r1 r2 (Or.inr w))]
    rw [e1, ← cnN_len (l := fl) (m := t + 1) (fun a w => by have := hfl a w; omega), ← psN_ad, psN_cg (fun a _ => c1 a), ind_len]
  have s2 : sm2 (fun r => (H r).length) ≤ 4000 := by
    have e1 : sm2 (fun r => (H r).length) = psN (fun q => sm2 (fun r => cnN q (H r))) 4000 := by
      rw [← sm2_sw (G := fun r q => cnN q (H r))]
      exact sm2_cg (fun r r1 r2 => (cnN_len (fun a w => hih r a r1 r2 w)).symm)
    rw [e1]
    have := psN_le (w := fun q => sm2 (fun r => cnN q (H r))) (w2 := fun _ => 1) (n := 4000) (fun q _ => (c2 q).1)
    rw [psN_c9] at this
    omega
  have s3 : sm2 (fun r => (C r).length + (L r).length) ≤ sm2 (fun r => (if r.2 < 217 then 32 else 0) + 2 * (H r).length) := sm2_le (fun r r1 r2 => by
    obtain ⟨j, u⟩ := r
    show (C (j, u)).length + (L (j, u)).length ≤ (if u < 217 then 32 else 0) + 2 * (H (j, u)).length
    by_cases e : j ≤ f
    · exact (h1 j u e).cnt hy (hw j e)
    · obtain ⟨z1, z2, z3⟩ := h2 j u (by omega)
      rw [z1, z2]; show 0 + 0 ≤ _; omega)
  have s4 : sm2 (fun r => (if r.2 < 217 then 32 else 0) + 2 * (H r).length) = sm2 (fun r => if r.2 < 217 then 32 else 0) + sm2 (fun r => 2 * (H r).length) := sm2_ad
  have s5 : sm2 (fun r => 2 * (H r).length) = 2 * sm2 (fun r => (H r).length) := by
    unfold sm2
    rw [← psN_2]
    exact psN_cg (fun j _ => psN_2)
  have s6 : sm2 (fun r => if r.2 < 217 then 32 else 0) ≤ 60 * (217 * 32) := by
    unfold sm2
    have := psN_le (w := fun j => psN (fun u => if ((j, u) : Nat × Nat).2 < 217 then 32 else 0) 300) (w2 := fun _ => 217 * 32) (n := 60) (fun j _ => psN_if (m := 217) (c := 32) (n := 300))
    rw [psN_c9] at this
    exact this
  omega
end PS44
