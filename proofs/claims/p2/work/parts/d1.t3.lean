/-- roots (frame, variable or value): their types rt, addresses ra, values V; c the cells, hp the heap's length, tk the cells that are taken -/
def qMm (y : qY) (z : qZ) (hp : Nat) (tk : Nat → Prop) (c : Nat → Int) (rt ra : Nat × Nat → Nat) (V : Nat × Nat → qV) : Prop :=
  (∀ r : Nat × Nat, qOk y (rt r) (V r)) ∧
  (∀ (r : Nat × Nat) (π : lLc) (t g : Nat), V r π = some (t, g) → (y.1 t = 3 → c (qA y z c (rt r) (ra r) π) = g) ∧ (y.1 t = 4 → ∃ b : Nat, c (qA y z c (rt r) (ra r) π) = b ∧ b + z.1 (y.2.1 t) ≤ hp ∧ ∀ k : Nat, b ≤ k → k < b + z.1 (y.2.1 t) → tk k)) ∧
  (∀ (r : Nat × Nat) (π : lLc) (t g : Nat) (r2 : Nat × Nat) (π2 : lLc) (t2 g2 b b2 : Nat), V r π = some (t, g) → V r2 π2 = some (t2, g2) → y.1 t = 4 → y.1 t2 = 4 → (r, π) ≠ (r2, π2) → c (qA y z c (rt r) (ra r) π) = b → c (qA y z c (rt r2) (ra r2) π2) = b2 → b + z.1 (y.2.1 t) ≤ b2 ∨ b2 + z.1 (y.2.1 t2) ≤ b) ∧
  (∀ (r : Nat × Nat) (π : lLc) (x : Nat × Nat), V r π = some x → hp ≤ ra r) ∧
  (∀ (r r2 : Nat × Nat) (π π2 : lLc) (x x2 : Nat × Nat), r ≠ r2 → V r π = some x → V r2 π2 = some x2 → ra r + z.1 (rt r) ≤ ra r2 ∨ ra r2 + z.1 (rt r2) ≤ ra r)
/-- behind a star: the box, and where it lies -/
theorem qH {y : qY} {z : qZ} {c : Nat → Int} {T : Nat} {V : qV} {π1 π2 : lLc} {j : Nat} {x : Nat × Nat} {t : Nat} (h : qOk y T V) {σ : lLc} (hv : V (π1 ++ (1, j) :: π2 ++ σ) = some x) (ht : qW y T (π1 ++ (1, j) :: π2) t) : ∃ t1 g1 : Nat, V π1 = some (t1, g1) ∧ y.1 t1 = 4 ∧ qW y T π1 t1 ∧ qW y (y.2.1 t1) π2 t ∧ ∀ a : Nat, qA y z c T a (π1 ++ (1, j) :: π2) = qA y z c (y.2.1 t1) (c (qA y z c T a π1)).toNat π2 := by
  obtain ⟨⟨t1, g1⟩, h1⟩ := h.2.1 π1 (π2 ++ σ) j x (by rw [List.append_assoc] at hv; exact hv)
  have h2 := (h.1 π1 t1 g1 h1).1
  have h3 : qW y t1 ((1, j) :: π2) t := qW_rest ht h2
  exact ⟨t1, g1, h1, h3.2.1, h2, h3.2.2, fun a => qA_app h2⟩
/-- no other value's cell lies in the cells of a place -/
theorem qOwn {y : qY} {z : qZ} {hp : Nat} {tk : Nat → Prop} {c : Nat → Int} {rt ra : Nat × Nat → Nat} {V : Nat × Nat → qV} (hz : qLy y z) (h : qMm y z hp tk c rt ra V) {r r2 : Nat × Nat} {ρ σ π : lLc} {x0 : Nat × Nat} {T1 t g : Nat} (h0 : V r (ρ ++ σ) = some x0) (hρ : qW y (rt r) ρ T1) (hv : V r2 π = some (t, g)) (hn : ¬ (r = r2 ∧ lP ρ π)) : ¬ (qA y z c (rt r) (ra r) ρ ≤ qA y z c (rt r2) (ra r2) π ∧ qA y z c (rt r2) (ra r2) π < qA y z c (rt r) (ra r) ρ + z.1 T1) := by
  obtain ⟨m1, m2, m3, m4, m5⟩ := h
  obtain ⟨w1, w2, w3, w4, w5⟩ := (m1 r2).1 π t g hv
  have p1 := hz.1 t
  have ag : ∀ (A B : lLc) (T : Nat) (U : qV), qOk y T U → (∃ s u, U (A ++ s) = some u) → (∃ u, U B = some u) → ∀ (κ ρ1 π1 : lLc) (g1 j1 g2 j2 : Nat), A = κ ++ (g1 + 2, j1) :: ρ1 → B = κ ++ (g2 + 2, j2) :: π1 → g1 = g2 := by
    rintro A B T U hU ⟨s, u, hu⟩ ⟨u2, hu2⟩ κ ρ1 π1 g1 j1 g2 j2 rfl rfl
    rw [List.append_assoc] at hu
    obtain ⟨t1, e1⟩ := hU.2.2 κ _ g1 j1 u hu
    obtain ⟨t2, e2⟩ := hU.2.2 κ _ g2 j2 u2 hu2
    rw [e1] at e2
    injection e2 with e2; injection e2
  rcases qN_last ρ with nρ | ⟨ρ1, j, ρ2, rfl, nρ⟩
  · have i1 := qA_in (c := c) hz (a := ra r) hρ nρ
    have q1 := m4 r _ x0 h0
    rcases qN_last π with nπ | ⟨π1, i, π2, rfl, nπ⟩
    · by_cases e : r = r2
      · subst e
        exact qA_ap hz hρ w1 nρ nπ (fun q => hn ⟨rfl, q⟩) w2 (ag ρ π _ _ (m1 r) ⟨σ, x0, h0⟩ ⟨_, hv⟩)
      · have i2 := qA_in (c := c) hz (a := ra r2) w1 nπ
        have := m5 r r2 _ _ _ _ e h0 hv
        omega
    · obtain ⟨t1, g1, k1, k2, k3, k4, k5⟩ := qH (z := z) (c := c) (m1 r2) (σ := []) (by rw [List.append_nil]; exact hv) w1
      obtain ⟨b, b1, b2, b3⟩ := (m2 r2 π1 t1 g1 k1).2 k2
      have k6 := k5 (ra r2)
      rw [b1] at k6
      have i2 := qA_in (c := c) hz (a := b) k4 nπ
      rw [k6]
      show ¬ (_ ≤ qA y z c (y.2.1 t1) b π2 ∧ _)
      omega
  · obtain ⟨s1, f1, l1, l2, l3, l4, l5⟩ := qH (z := z) (c := c) (m1 r) h0 hρ
    obtain ⟨e, e1, e2, e3⟩ := (m2 r ρ1 s1 f1 l1).2 l2
    have l6 := l5 (ra r)
    rw [e1] at l6
    have i1 := qA_in (c := c) hz (a := e) l4 nρ
    rw [l6]
    show ¬ (qA y z c (y.2.1 s1) e ρ2 ≤ _ ∧ _ < qA y z c (y.2.1 s1) e ρ2 + _)
    rcases qN_last π with nπ | ⟨π1, i, π2, rfl, nπ⟩
    · have i2 := qA_in (c := c) hz (a := ra r2) w1 nπ
      have q1 := m4 r2 _ _ hv
      omega
    · obtain ⟨t1, g1, k1, k2, k3, k4, k5⟩ := qH (z := z) (c := c) (m1 r2) (σ := []) (by rw [List.append_nil]; exact hv) w1
      obtain ⟨b, b1, b2, b3⟩ := (m2 r2 π1 t1 g1 k1).2 k2
      have k6 := k5 (ra r2)
      rw [b1] at k6
      have i2 := qA_in (c := c) hz (a := b) k4 nπ
      rw [k6]
      show ¬ (qA y z c (y.2.1 s1) e ρ2 ≤ qA y z c (y.2.1 t1) b π2 ∧ qA y z c (y.2.1 t1) b π2 < qA y z c (y.2.1 s1) e ρ2 + _)
      by_cases q : (r, ρ1) = (r2, π1)
      · injection q with q1 q2
        subst q1; subst q2
        rw [l1] at k1
        injection k1 with k1; injection k1 with k7 k8
        subst k7
        obtain rfl : e = b := by rw [e1] at b1; exact Int.ofNat.inj b1
        have e9 : ∀ i : Nat, (1, i) :: π2 = [((1, i) : Nat × Nat)] ++ π2 := fun _ => rfl
        obtain ⟨o1, -, -, -, o2⟩ := (m1 r).1 ρ1 s1 f1 l1
        have j0 : j = 0 := by
          have := qW_rest hρ l3
          exact this.1
        have i0 : i = 0 := by
          have := qW_rest w1 l3
          exact this.1
        subst j0; subst i0
        refine qA_ap hz l4 k4 nρ nπ (fun q => hn ⟨rfl, ?_⟩) w2 (ag ρ2 π2 (y.2.1 s1) (qS (V r) (ρ1 ++ [(1, 0)])) (qOk_S (m1 r) (qW_app l3 (show qW y s1 [(1, 0)] _ from ⟨rfl, l2, rfl⟩))) ⟨σ, x0, ?_⟩ ⟨(t, g), ?_⟩)
        · exact lP_shiftI (lP_consI q)
        · show V r (ρ1 ++ [(1, 0)] ++ (ρ2 ++ σ)) = some x0
          rw [← h0]; simp
        · show V r (ρ1 ++ [(1, 0)] ++ π2) = some (t, g)
          rw [← hv]; simp
      · have := m3 r ρ1 s1 f1 r2 π1 t1 g1 e b l1 k1 l2 k2 q e1 b1
        omega
/-- the same cells at the stars on the way: the same address -/
theorem qA_fr {y : qY} {z : qZ} {c c2 : Nat → Int} : ∀ (n : Nat) {π : lLc} {T t a : Nat}, π.length ≤ n → qW y T π t → (∀ (π1 : lLc) (j : Nat) (π2 : lLc), π = π1 ++ (1, j) :: π2 → c2 (qA y z c T a π1) = c (qA y z c T a π1)) → qA y z c2 T a π = qA y z c T a π
  | 0, π, T, t, a, hl, hw, _ => by
    have : π = [] := List.eq_nil_of_length_eq_zero (by omega)
    subst this
    rfl
  | n + 1, π, T, t, a, hl, hw, hc => by
    rcases qN_last π with h | ⟨π1, j, π2, rfl, h⟩
    · have := qA_sh (z := z) (c := c2) (c2 := c) (a := a) (b := a) hw h
      omega
    · obtain ⟨t1, w1, w2⟩ := qW_cut hw
      have e1 := qA_fr (c := c) (c2 := c2) (z := z) n (a := a) (by simp only [List.length_append, List.length_cons] at hl; omega) w1 (fun σ1 i σ2 e => hc σ1 i (σ2 ++ (1, j) :: π2) (by rw [e]; simp))
      rw [qA_app w1, qA_app w1, e1]
      show qA y z c2 (y.2.1 t1) (c2 (qA y z c T a π1)).toNat π2 = qA y z c (y.2.1 t1) (c (qA y z c T a π1)).toNat π2
      rw [hc π1 j π2 rfl]
      have := qA_sh (z := z) (c := c2) (c2 := c) (a := (c (qA y z c T a π1)).toNat) (b := (c (qA y z c T a π1)).toNat) w2.2.2 h
      omega
/-- roots where nothing lies may be told anew -/
theorem qMm_em {y : qY} {z : qZ} {hp : Nat} {tk : Nat → Prop} {c : Nat → Int} {rt ra rt2 ra2 : Nat × Nat → Nat} {V : Nat × Nat → qV} (h : qMm y z hp tk c rt ra V) (h2 : ∀ r : Nat × Nat, (∀ π : lLc, V r π = none) ∨ (rt2 r = rt r ∧ ra2 r = ra r)) : qMm y z hp tk c rt2 ra2 V := by
  obtain ⟨m1, m2, m3, m4, m5⟩ := h
  have k : ∀ (r : Nat × Nat) (π : lLc) (x : Nat × Nat), V r π = some x → rt2 r = rt r ∧ ra2 r = ra r := fun r π x hx => by
    rcases h2 r with z | z
    · rw [z π] at hx; simp at hx
    · exact z
  refine ⟨fun r => ?_, fun r π t g hv => ?_, fun r π t g r2 π2 t2 g2 b b2 hv hv2 => ?_, fun r π x hx => ?_, fun r r2 π π2 x x2 hne hx hx2 => ?_⟩
  · rcases h2 r with e | e
    · rw [show V r = fun _ => none from funext e]; exact qOk_none
    · rw [e.1]; exact m1 r
  · rw [(k r π _ hv).1, (k r π _ hv).2]; exact m2 r π t g hv
  · rw [(k r π _ hv).1, (k r π _ hv).2, (k r2 π2 _ hv2).1, (k r2 π2 _ hv2).2]; exact m3 r π t g r2 π2 t2 g2 b b2 hv hv2
  · rw [(k r π _ hx).2]; exact m4 r π x hx
  · rw [(k r π _ hx).1, (k r π _ hx).2, (k r2 π2 _ hx2).1, (k r2 π2 _ hx2).2]; exact m5 r r2 π π2 x x2 hne hx hx2
/-- less lies there -/
theorem qMm_sub {y : qY} {z : qZ} {hp : Nat} {tk : Nat → Prop} {c : Nat → Int} {rt ra : Nat × Nat → Nat} {V V2 : Nat × Nat → qV} (h : qMm y z hp tk c rt ra V) (h1 : ∀ r : Nat × Nat, qOk y (rt r) (V2 r)) (h2 : ∀ (r : Nat × Nat) (π : lLc) (x : Nat × Nat), V2 r π = some x → V r π = some x) : qMm y z hp tk c rt ra V2 := by
  obtain ⟨m1, m2, m3, m4, m5⟩ := h
  exact ⟨h1, fun r π t g hv => m2 r π t g (h2 r π _ hv), fun r π t g r2 π2 t2 g2 b b2 hv hv2 => m3 r π t g r2 π2 t2 g2 b b2 (h2 r π _ hv) (h2 r2 π2 _ hv2), fun r π x hx => m4 r π x (h2 r π x hx), fun r r2 π π2 x x2 hne hx hx2 => m5 r r2 π π2 x x2 hne (h2 r π x hx) (h2 r2 π2 x2 hx2)⟩
