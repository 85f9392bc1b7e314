/-- a place's way, a digit a step: 13 a star, j + 1 member j -/
def dgP : List Nat → Nat
  | [] => 0
  | d :: ds => d + 16 * dgP ds
def stO (d : Nat) : Nat × Nat := if d = 13 then (1, 0) else (0, d - 1)
theorem dgP_app {c : Nat} : ∀ ds : List Nat, dgP (ds ++ [c]) = dgP ds + c * 16 ^ ds.length
  | [] => by show c + 16 * 0 = 0 + c * 16 ^ 0; omega
  | d :: ds => by
    show d + 16 * dgP (ds ++ [c]) = d + 16 * dgP ds + c * 16 ^ (ds.length + 1)
    rw [dgP_app ds, Nat.pow_succ, Nat.mul_add, ← Nat.mul_assoc c, Nat.mul_comm (c * 16 ^ ds.length) 16]; omega
theorem dgP_lt : ∀ {ds : List Nat}, (∀ d : Nat, d ∈ ds → d < 16) → dgP ds < 16 ^ ds.length
  | [], _ => by show 0 < 16 ^ 0; decide
  | d :: ds, h => by
    have h1 := h d List.mem_cons_self
    have h2 := dgP_lt (ds := ds) (fun x hx => h x (List.mem_cons_of_mem _ hx))
    show d + 16 * dgP ds < 16 ^ (ds.length + 1)
    rw [Nat.pow_succ]; omega
/-- the address by a route: os the offsets ahead of each star, o behind the last -/
def rA (c : Nat → Int) : Nat → List Nat → Nat → Nat
  | a, [], o => a + o
  | a, x :: os, o => rA c (c (a + x)).toNat os o
theorem rA_app {c : Nat → Int} {o o2 : Nat} : ∀ {os : List Nat} {a : Nat}, rA c a (os ++ [o]) o2 = (c (rA c a os o)).toNat + o2
  | [], a => rfl
  | x :: os, a => by
    show rA c (c (a + x)).toNat (os ++ [o]) o2 = _
    rw [rA_app]; rfl
theorem rA_o {c : Nat → Int} {o o2 : Nat} : ∀ {os : List Nat} {a : Nat}, rA c a os (o + o2) = rA c a os o + o2
  | [], a => by show a + (o + o2) = a + o + o2; omega
  | x :: os, a => by
    show rA c (c (a + x)).toNat os (o + o2) = rA c (c (a + x)).toNat os o + o2
    exact rA_o (os := os)
/-- a way of the table from type T0 to T, its route -/
def pD (F X : tF) (yp yt T0 : Nat) (π : lLc) (T : Nat) (os : List Nat) (o : Nat) : Prop := qW (yF F X yp yt) T0 π T ∧ (∀ (c : Nat → Int) (a : Nat), qA (yF F X yp yt) (zF F X yt) c T0 a π = rA c a os o) ∧ (∀ x : Nat, x ∈ os → x ≤ 15) ∧ o + (zF F X yt).1 T ≤ 16 ∧ tyN yp (F 20) T ∧ T < yt
/-- what is known of the types -/
def tbO (F X : tF) (yp yt : Nat) : Prop := tyOK yp (yt, F 20, F 21, F 22, F 23, F 24, F 25, F 26) ∧ shQ yp yt (F 20) X ∧ szI yp yp (F 22) ∧ msI yp (F 20) (X 0) (X 1) (F 22) (X 2) (X 3)
theorem zF_16 {F X : tF} {yp yt T : Nat} (h : tbO F X yp yt) (hT : tyN yp (F 20) T) (hy : T < yt) : (zF F X yt).1 T ≤ 16 ∧ 1 ≤ (zF F X yt).1 T := by
  obtain ⟨hty, hsq, hsz, hms⟩ := h
  have e : (zF F X yt).1 T = max 1 (min 16 (cN (F 22 T))) := if_pos hy
  rw [e]
  refine ⟨?_, by omega⟩
  obtain ⟨z0, z1, z2, z3⟩ := hty.2.2.2.2.1
  rcases hT with hT | hT | hT
  · rcases hT with rfl | rfl | rfl
    · have z1 : F 22 1 = 1 := z1
      rw [z1]; decide
    · have z2 : F 22 2 = 1 := z2
      rw [z2]; decide
    · have z3 : F 22 3 = 1 := z3
      rw [z3]; decide
  · obtain ⟨z, q1, q2, q3⟩ := hsz (T - 4) (by omega)
    rw [show 4 + (T - 4) = T by omega] at q1
    rw [q1, cN_nI (by omega)]; omega
  · have q : F 22 T = 1 := (hty.2.2.2.2.2.2.2.1 T hT.1 hy).2.1
    rw [q]; decide
theorem yF_4 {F X : tF} {yp yt T : Nat} (h34 : 34 ≤ T) (hyp : yp ≤ 30) (hT : T < yt) (hy : yt ≤ 3040) (hk : F 20 T = 4) : (yF F X yp yt).1 T = 4 := by
  show (if 10000 ≤ T ∧ T < 30000 then 5 + T % 2 else if 4 ≤ T ∧ T < 4 + yp then (if F 20 T = 3 then 3 else if cN (X 1 ((T - 4) * 12)) = 0 then 0 else 2) else if 34 ≤ T ∧ T < yt ∧ F 20 T = 4 then 4 else 0) = 4
  rw [if_neg (by omega), if_neg (by omega), if_pos ⟨h34, hT, hk⟩]
theorem yF_s {F X : tF} {yp yt T : Nat} (h4 : 4 ≤ T) (hT : T < 4 + yp) (hyp : yp ≤ 30) (hk : F 20 T = 2) (hn : cN (X 1 ((T - 4) * 12)) ≠ 0) : (yF F X yp yt).1 T = 2 := by
  show (if 10000 ≤ T ∧ T < 30000 then 5 + T % 2 else if 4 ≤ T ∧ T < 4 + yp then (if F 20 T = 3 then 3 else if cN (X 1 ((T - 4) * 12)) = 0 then 0 else 2) else if 34 ≤ T ∧ T < yt ∧ F 20 T = 4 then 4 else 0) = 2
  rw [if_neg (by omega), if_pos ⟨h4, hT⟩, if_neg (by rw [hk]; decide), if_neg hn]
theorem tyN_4 {F X : tF} {yp yt T : Nat} (h : tbO F X yp yt) (hT : tyN yp (F 20) T) (hk : F 20 T = 4) : 34 ≤ T := by
  obtain ⟨k0, k1, k2, k3⟩ := h.1.2.2.2.1
  rcases hT with hT | hT | hT
  · rcases hT with rfl | rfl | rfl
    · have k1 : F 20 1 = 0 := k1
      rw [k1] at hk; exact absurd hk (by decide)
    · have k2 : F 20 2 = 0 := k2
      rw [k2] at hk; exact absurd hk (by decide)
    · have k3 : F 20 3 = 1 := k3
      rw [k3] at hk; exact absurd hk (by decide)
  · have := h.1.2.2.2.2.2.2.1 (T - 4) (by omega)
    rw [show 4 + (T - 4) = T by omega] at this
    rcases this with q | q <;> rw [hk] at q <;> exact absurd q (by decide)
  · exact hT.1
theorem tyN_2 {F X : tF} {yp yt T : Nat} (h : tbO F X yp yt) (hT : tyN yp (F 20) T) (hk : F 20 T = 2) : 4 ≤ T ∧ T < 4 + yp := by
  obtain ⟨k0, k1, k2, k3⟩ := h.1.2.2.2.1
  rcases hT with hT | hT | hT
  · rcases hT with rfl | rfl | rfl
    · have k1 : F 20 1 = 0 := k1
      rw [k1] at hk; exact absurd hk (by decide)
    · have k2 : F 20 2 = 0 := k2
      rw [k2] at hk; exact absurd hk (by decide)
    · have k3 : F 20 3 = 1 := k3
      rw [k3] at hk; exact absurd hk (by decide)
  · exact hT
  · rw [hT.2] at hk; exact absurd hk (by decide)
theorem tyN_nr {F X : tF} {yp yt T : Nat} (h : tbO F X yp yt) (hT : tyN yp (F 20) T) : F 20 T ≠ 5 ∧ F 20 T ≠ 6 := by
  obtain ⟨k0, k1, k2, k3⟩ := h.1.2.2.2.1
  rcases hT with hT | hT | hT
  · rcases hT with rfl | rfl | rfl
    · have k1 : F 20 1 = 0 := k1
      rw [k1]; decide
    · have k2 : F 20 2 = 0 := k2
      rw [k2]; decide
    · have k3 : F 20 3 = 1 := k3
      rw [k3]; decide
  · have := h.1.2.2.2.2.2.2.1 (T - 4) (by omega)
    rw [show 4 + (T - 4) = T by omega] at this
    rcases this with q | q <;> rw [q] <;> decide
  · rw [hT.2]; decide
theorem pD_0 {F X : tF} {yp yt T : Nat} (h : tbO F X yp yt) (hT : tyN yp (F 20) T) (hy : T < yt) : pD F X yp yt T [] T [] 0 :=
  ⟨rfl, fun c a => rfl, fun x hx => by simp at hx, by have := (zF_16 h hT hy).1; omega, hT, hy⟩
/-- one star more -/
theorem pD_s {F X : tF} {yp yt T0 T U o : Nat} {π : lLc} {os : List Nat} (h : tbO F X yp yt) (hp : pD F X yp yt T0 π T os o) (hk : F 20 T = 4) (hU : F 21 T = nI U) (hU2 : U < 2 ^ 31) : pD F X yp yt T0 (π ++ [(1, 0)]) U (os ++ [o]) 0 := by
  obtain ⟨p1, p2, p3, p4, p5, p6⟩ := hp
  have h34 := tyN_4 h p5 hk
  have hyp : yp ≤ 30 := h.1.2.2.1
  have hyt : yt ≤ 3040 := h.1.2.1
  obtain ⟨q1, q2, q3, u, u1, u2, u3⟩ := h.1.2.2.2.2.2.2.2.1 T h34 p6
  obtain rfl : U = u := (nI_eq (a := U) (b := u) (by omega) (by omega)).mp (hU.symm.trans u2)
  have e4 := yF_4 (X := X) h34 hyp p6 hyt hk
  have eo : (yF F X yp yt).2.1 T = U := by
    show (if 10000 ≤ T then (T - 10000) / 2 else cN (F 21 T)) = U
    rw [if_neg (by omega), hU, cN_nI hU2]
  have hw : qW (yF F X yp yt) T [(1, 0)] U := ⟨rfl, e4, eo.symm⟩
  refine ⟨qW_app p1 hw, fun c a => ?_, fun x hx => ?_, by have := (zF_16 h u3 (by omega)).1; omega, u3, by omega⟩
  · rw [qA_app p1, p2 c a, rA_app]
    show (c (rA c a os o)).toNat = _
    omega
  · rcases List.mem_append.mp hx with z | z
    · exact p3 x z
    · rw [List.mem_singleton.mp z]
      have := (zF_16 h p5 p6).2
      omega
/-- one member more -/
theorem pD_m {F X : tF} {yp yt T0 T U o j : Nat} {π : lLc} {os : List Nat} (h : tbO F X yp yt) (hp : pD F X yp yt T0 π T os o) (hk : F 20 T = 2) (hj : j < 12) (hjn : nI j < X 1 ((T - 4) * 12)) (hU : X 2 ((T - 4) * 12 * 12 + j) = nI U) (hU2 : U < 2 ^ 31) : pD F X yp yt T0 (π ++ [(0, j)]) U os (o + cN (X 3 ((T - 4) * 12 * 12 + j))) := by
  obtain ⟨p1, p2, p3, p4, p5, p6⟩ := hp
  obtain ⟨h4, h4y⟩ := tyN_2 h p5 hk
  have hyp : yp ≤ 30 := h.1.2.2.1
  obtain ⟨n, n1, n2, n3, n4, n5⟩ := h.2.1 (T - 4) (by omega)
  obtain ⟨m, m1, m2, m3⟩ := n5 0 (by omega)
  rw [Nat.add_zero] at m1 m3
  have hcm : cN (X 1 ((T - 4) * 12)) = m := by rw [m1, cN_nI (by omega)]
  have hjm : j < m := by
    rw [m1] at hjn
    exact (nI_ltI (by omega) (by omega)).mp hjn
  obtain ⟨u, u1, u2, u3⟩ := m3 j hjm
  have hyt : yt ≤ 3040 := h.1.2.1
  obtain rfl : U = u := (nI_eq (a := U) (b := u) (by omega) (by omega)).mp (hU.symm.trans u1)
  have e2 := yF_s (yt := yt) (X := X) h4 h4y hyp hk (by omega)
  have ep : (yF F X yp yt).2.2.2.2 T 0 j = U := by
    show cN (X 2 (((T - 4) * 12 + 0) * 12 + j)) = U
    rw [Nat.add_zero, hU, cN_nI hU2]
  have hw : qW (yF F X yp yt) T [(0, j)] U := ⟨e2, by show j < cN (X 1 ((T - 4) * 12 + 0)); rw [Nat.add_zero, hcm]; exact hjm, ep.symm⟩
  have hr := (yz_row (sh := T - 4) (g := 0) h.1 h.2.1 h.2.2.1 h.2.2.2 (by omega) (by rw [n1, cN_nI (by omega)]; omega)).1 j (by rw [Nat.add_zero, hcm]; exact hjm)
  rw [Nat.add_zero, show 4 + (T - 4) = T by omega, hU, cN_nI hU2] at hr
  refine ⟨qW_app p1 hw, fun c a => ?_, p3, by omega, u2, u3⟩
  rw [qA_app p1, p2 c a, rA_o]
  show rA c a os o + cN (X 3 (((T - 4) * 12 + 0) * 12 + j)) = _
  rw [Nat.add_zero]
