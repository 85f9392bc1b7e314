/-- the route of a way: what is added ahead of each star, and behind the last one -/
def rtU (y : qY) (z : qZ) : Nat → Nat → lLc → List Nat × Nat
  | _, o, [] => ([], o)
  | T, o, (0, j) :: π => rtU y z (y.2.2.2.2 T 0 j) (o + z.2 T 0 j) π
  | T, o, (1, _) :: π => (o :: (rtU y z (y.2.1 T) 0 π).1, (rtU y z (y.2.1 T) 0 π).2)
  | T, o, (g + 2, j) :: π => rtU y z (y.2.2.2.2 T g j) (o + z.2 T g j) π
theorem rtF_A {y : qY} {z : qZ} {c : Nat → Int} : ∀ {π : lLc} {T o a : Nat}, qA y z c T (a + o) π = rA c a (rtU y z T o π).1 (rtU y z T o π).2
  | [], T, o, a => rfl
  | (0, j) :: π, T, o, a => by
    show qA y z c (y.2.2.2.2 T 0 j) (a + o + z.2 T 0 j) π = rA c a (rtU y z (y.2.2.2.2 T 0 j) (o + z.2 T 0 j) π).1 (rtU y z (y.2.2.2.2 T 0 j) (o + z.2 T 0 j) π).2
    rw [Nat.add_assoc]; exact rtF_A
  | (1, j) :: π, T, o, a => by
    show qA y z c (y.2.1 T) (c (a + o)).toNat π = rA c (c (a + o)).toNat (rtU y z (y.2.1 T) 0 π).1 (rtU y z (y.2.1 T) 0 π).2
    exact rtF_A (o := 0)
  | (g + 2, j) :: π, T, o, a => by
    show qA y z c (y.2.2.2.2 T g j) (a + o + z.2 T g j) π = rA c a (rtU y z (y.2.2.2.2 T g j) (o + z.2 T g j) π).1 (rtU y z (y.2.2.2.2 T g j) (o + z.2 T g j) π).2
    rw [Nat.add_assoc]; exact rtF_A
/-- cells that tell where they were read -/
def eC (M : Nat) : Nat → Int := fun k => ((M * (k + 1) : Nat) : Int)
theorem eC_S {M o o2 : Nat} {os : List Nat} : rA (eC M) 0 (os ++ [o]) o2 = M * (rA (eC M) 0 os o + 1) + o2 := by
  rw [rA_app]; show Int.toNat ((M * (rA (eC M) 0 os o + 1) : Nat) : Int) + o2 = _
  rw [Int.toNat_natCast]
theorem eC_inj {M : Nat} : ∀ (n : Nat) (os os2 : List Nat) (o o2 : Nat), os.length = n → (∀ x : Nat, x ∈ os → x < M) → (∀ x : Nat, x ∈ os2 → x < M) → o < M → o2 < M → rA (eC M) 0 os o = rA (eC M) 0 os2 o2 → os = os2 ∧ o = o2
  | 0, os, os2, o, o2, h0, h1, h2, h3, h4, h => by
    obtain rfl := List.eq_nil_of_length_eq_zero h0
    rcases List.eq_nil_or_concat os2 with e | ⟨l, b, e⟩
    · subst e
      have h : 0 + o = 0 + o2 := h
      exact ⟨rfl, by omega⟩
    · subst e
      rw [List.concat_eq_append, eC_S] at h
      have h : 0 + o = M * (rA (eC M) 0 l b + 1) + o2 := h
      rw [Nat.mul_add, Nat.mul_one] at h
      omega
  | n + 1, os, os2, o, o2, h0, h1, h2, h3, h4, h => by
    rcases List.eq_nil_or_concat os with e | ⟨l, b, e⟩
    · subst e; simp at h0
    · subst e
      rw [List.concat_eq_append] at h h0 h1 ⊢
      rw [eC_S] at h
      rcases List.eq_nil_or_concat os2 with e | ⟨l2, b2, e⟩
      · subst e
        have h : M * (rA (eC M) 0 l b + 1) + o = 0 + o2 := h
        rw [Nat.mul_add, Nat.mul_one] at h
        omega
      · subst e
        rw [List.concat_eq_append] at h h2 ⊢
        rw [eC_S] at h
        have hM : 0 < M := by omega
        have d1 : (M * (rA (eC M) 0 l b + 1) + o) / M = rA (eC M) 0 l b + 1 := by
          rw [Nat.mul_add_div hM, Nat.div_eq_of_lt h3, Nat.add_zero]
        have d2 : (M * (rA (eC M) 0 l2 b2 + 1) + o2) / M = rA (eC M) 0 l2 b2 + 1 := by
          rw [Nat.mul_add_div hM, Nat.div_eq_of_lt h4, Nat.add_zero]
        have e1 : rA (eC M) 0 l b = rA (eC M) 0 l2 b2 := by
          rw [h, d2] at d1; omega
        have e2 : o = o2 := by
          rw [e1] at h; omega
        have hl : l.length = n := by
          rw [List.length_append] at h0; simp at h0; exact h0
        obtain ⟨g1, g2⟩ := eC_inj n l l2 b b2 hl (fun x hx => h1 x (List.mem_append_left _ hx)) (fun x hx => h2 x (List.mem_append_left _ hx)) (h1 b (by simp)) (h2 b2 (by simp)) e1
        exact ⟨by rw [g1, g2], e2⟩
theorem ls_bd : ∀ (l : List Nat), ∃ M : Nat, ∀ x : Nat, x ∈ l → x < M
  | [] => ⟨0, fun x h => by simp at h⟩
  | a :: l => by
    obtain ⟨M, h⟩ := ls_bd l
    refine ⟨M + a + 1, fun x hx => ?_⟩
    rcases List.mem_cons.mp hx with e | e
    · omega
    · have := h x e; omega
theorem rA_inj {os os2 : List Nat} {o o2 : Nat} (h : ∀ (c : Nat → Int) (a : Nat), rA c a os o = rA c a os2 o2) : os = os2 ∧ o = o2 := by
  obtain ⟨M1, h1⟩ := ls_bd os
  obtain ⟨M2, h2⟩ := ls_bd os2
  exact eC_inj (M := M1 + M2 + o + o2 + 1) os.length os os2 o o2 rfl (fun x hx => by have := h1 x hx; omega) (fun x hx => by have := h2 x hx; omega) (by omega) (by omega) (h _ 0)
/-- the cells of a route's stars lie below n and hold numbers -/
def rOk (c : Nat → Int) (n : Nat) : Nat → List Nat → Prop
  | _, [] => True
  | a, x :: os => a + x < n ∧ (∃ b : Nat, c (a + x) = (b : Int) ∧ b < 2 ^ 31) ∧ rOk c n (c (a + x)).toNat os
section
variable {y : qY} {z : qZ} {hp n : Nat} {tk : Nat → Prop} {c : Nat → Int} {rt ra : Nat × Nat → Nat} {V : Nat × Nat → qV} {r : Nat × Nat}
theorem rW_ok (hm : qMm y z hp tk c rt ra V) (hlt : ∀ (π : lLc) (w : Nat × Nat), V r π = some w → qA y z c (rt r) (ra r) π < n) (hz : qLy y z) (hpn : hp < 2 ^ 31) : ∀ {π2 π1 : lLc} {T1 t a o : Nat}, qW y (rt r) π1 T1 → qW y T1 π2 t → qPl (V r) (π1 ++ π2) → a + o = qA y z c (rt r) (ra r) π1 → rOk c n a (rtU y z T1 o π2).1
  | [], π1, T1, t, a, o, _, _, _, _ => trivial
  | (0, j) :: π2, π1, T1, t, a, o, h1, h2, h3, h4 => by
    show rOk c n a (rtU y z (y.2.2.2.2 T1 0 j) (o + z.2 T1 0 j) π2).1
    have w : qW y T1 [(0, j)] (y.2.2.2.2 T1 0 j) := ⟨h2.1, h2.2.1, rfl⟩
    refine rW_ok hm hlt hz hpn (π1 := π1 ++ [(0, j)]) (qW_app h1 w) h2.2.2 (by rw [List.append_assoc]; exact h3) ?_
    rw [qA_app h1, ← h4]
    show a + (o + z.2 T1 0 j) = a + o + z.2 T1 0 j
    omega
  | (g + 2, j) :: π2, π1, T1, t, a, o, h1, h2, h3, h4 => by
    show rOk c n a (rtU y z (y.2.2.2.2 T1 g j) (o + z.2 T1 g j) π2).1
    have w : qW y T1 [(g + 2, j)] (y.2.2.2.2 T1 g j) := ⟨h2.1, h2.2.1, h2.2.2.1, rfl⟩
    refine rW_ok hm hlt hz hpn (π1 := π1 ++ [(g + 2, j)]) (qW_app h1 w) h2.2.2.2 (by rw [List.append_assoc]; exact h3) ?_
    rw [qA_app h1, ← h4]
    show a + (o + z.2 T1 g j) = a + o + z.2 T1 g j
    omega
  | (1, j) :: π2, π1, T1, t, a, o, h1, h2, h3, h4 => by
    obtain ⟨⟨t1, g1⟩, e1⟩ := qPl_par (hm.1 r) h3
    obtain rfl : t1 = T1 := qW_det ((hm.1 r).1 π1 t1 g1 e1).1 h1
    obtain ⟨b, b1, b2, -⟩ := (hm.2.1 r π1 t1 g1 e1).2 h2.2.1
    have p1 := hz.1 (y.2.1 t1)
    have e2 := hlt π1 _ e1
    have w : qW y t1 [(1, j)] (y.2.1 t1) := ⟨h2.1, h2.2.1, rfl⟩
    show a + o < n ∧ (∃ b : Nat, c (a + o) = (b : Int) ∧ b < 2 ^ 31) ∧ rOk c n (c (a + o)).toNat (rtU y z (y.2.1 t1) 0 π2).1
    refine ⟨by omega, ⟨b, by rw [h4]; exact b1, by omega⟩, ?_⟩
    refine rW_ok hm hlt hz hpn (π1 := π1 ++ [(1, j)]) (qW_app h1 w) h2.2.2 (by rw [List.append_assoc]; exact h3) ?_
    rw [qA_app h1, ← h4]
    rfl
/-- a place that holds something ends by n -/
theorem qEnd (hz : qLy y z) (hm : qMm y z hp tk c rt ra V) (hr : ∀ (π : lLc) (w : Nat × Nat), V r π = some w → ra r + z.1 (rt r) ≤ n) (hpn : hp ≤ n) {π : lLc} {T : Nat} (hw : qW y (rt r) π T) (hp1 : qPl (V r) π) : qA y z c (rt r) (ra r) π + z.1 T ≤ n := by
  rcases qN_last π with h | ⟨π1, j, π2, rfl, h⟩
  · have h2 := (qA_in (c := c) hz (a := ra r) hw h).2
    obtain ⟨σ, w, e⟩ := hp1
    have h3 := hr _ _ e
    omega
  · obtain ⟨⟨t1, g1⟩, e⟩ := qPl_par (hm.1 r) hp1
    obtain ⟨T1, w1, w2⟩ := qW_cut hw
    obtain rfl : t1 = T1 := qW_det ((hm.1 r).1 π1 t1 g1 e).1 w1
    obtain ⟨j0, k4, w3⟩ := w2
    obtain ⟨b, b1, b2, -⟩ := (hm.2.1 r π1 t1 g1 e).2 k4
    have h2 := (qA_in (c := c) hz (a := b) w3 h).2
    rw [qA_app w1]
    show qA y z c (y.2.1 t1) (c (qA y z c (rt r) (ra r) π1)).toNat π2 + z.1 T ≤ n
    rw [b1, Int.toNat_natCast]
    omega
/-- behind a star lie cells of the heap -/
theorem qEndH (hz : qLy y z) (hm : qMm y z hp tk c rt ra V) {π1 π2 : lLc} {j T : Nat} (hw : qW y (rt r) (π1 ++ (1, j) :: π2) T) (h : qN π2) (hp1 : qPl (V r) (π1 ++ (1, j) :: π2)) : qA y z c (rt r) (ra r) (π1 ++ (1, j) :: π2) + z.1 T ≤ hp := by
  obtain ⟨⟨t1, g1⟩, e⟩ := qPl_par (hm.1 r) hp1
  obtain ⟨T1, w1, w2⟩ := qW_cut hw
  obtain rfl : t1 = T1 := qW_det ((hm.1 r).1 π1 t1 g1 e).1 w1
  obtain ⟨j0, k4, w3⟩ := w2
  obtain ⟨b, b1, b2, -⟩ := (hm.2.1 r π1 t1 g1 e).2 k4
  have h2 := (qA_in (c := c) hz (a := b) w3 h).2
  rw [qA_app w1]
  show qA y z c (y.2.1 t1) (c (qA y z c (rt r) (ra r) π1)).toNat π2 + z.1 T ≤ hp
  rw [b1, Int.toNat_natCast]
  omega
end
