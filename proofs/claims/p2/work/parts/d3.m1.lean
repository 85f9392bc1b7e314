/-- cells of an entry of the stack -/
def kes (z : qZ) : tE → Nat
  | (0, t, _) => if t = 0 then 0 else z.1 t
  | (7, t, _) => z.1 t
  | (4, r, _) => z.1 (4 + r / 12)
  | (8, _, _) => 0
  | _ => 1
def khs (z : qZ) : List tE → Nat
  | [] => 0
  | e :: s => khs z s + kes z e
/-- sizes of one cell -/
def qZ1 (z : qZ) : Prop := z.1 1 = 1 ∧ ∀ T : Nat, z.1 (10000 + 2 * T) = 1 ∧ z.1 (10001 + 2 * T) = 1
/-- where an entry lies: A, n normal ones below -/
def kAe (y : qY) (z : qZ) (c : Nat → Int) (ra : Nat × Nat → Nat) (j A n : Nat) : tE → Prop
  | (0, t, _) => t ≠ 0 → ra (j, 40 + n) = A
  | (1, _, _) => ra (j, 40 + n) = A
  | (2, _, _) => ra (j, 40 + n) = A
  | (3, g, _) => ra (j, 40 + n) = A ∧ c A = g
  | (4, r, m) => ∀ i : Nat, m ≤ i → i < y.2.2.2.1 (4 + r / 12) (r % 12) → ra (j, 400 + i) = A + z.2 (4 + r / 12) (r % 12) i
  | (5, _, _) => ra (j, 300) = A
  | (6, _, _) => ra (j, 300) = A
  | (7, _, _) => ra (j, 40 + n) = A
  | _ => True
/-- from B on -/
def kAk (y : qY) (z : qZ) (c : Nat → Int) (ra : Nat × Nat → Nat) (j B : Nat) : List tE → Prop
  | [] => True
  | e :: s => kAe y z c ra j (B + khs z s) (wl s) e ∧ kAk y z c ra j B s
theorem khs_app {z : qZ} : ∀ {E S : List tE}, khs z (E ++ S) = khs z E + khs z S
  | [], S => by show khs z S = 0 + khs z S; omega
  | e :: E, S => by
    show khs z (E ++ S) + _ = khs z E + _ + khs z S
    rw [khs_app (E := E)]; omega
theorem khs_le {z : qZ} {e : tE} {s : List tE} : khs z s ≤ khs z (e :: s) := Nat.le_add_right _ _
/-- what lies in a root of the stack lies in its entry -/
theorem kAk_at {y : qY} {z : qZ} {c : Nat → Int} {rt ra : Nat × Nat → Nat} {V : Nat × Nat → qV} {j B : Nat} {x : kFm} (hz : qLy y z) (hz1 : qZ1 z) (hky : ∀ r : Nat × Nat, qOk y (rt r) (V r)) (h3 : ∀ r m : Nat, (4, r, m) ∈ x.2.1 → y.1 (4 + r / 12) = 3 ∧ r % 12 < y.2.2.1 (4 + r / 12)) {u : Nat} {π : lLc} {w : Nat × Nat} (hv : V (j, u) π = some w) : ∀ {S : List tE}, (∀ e : tE, e ∈ S → e ∈ x.2.1) → kK y rt V j x S → kAk y z c ra j B S → ((40 ≤ u ∧ u < 40 + wl S) ∨ (u = 300 ∧ ∃ r m : Nat, (5, r, m) ∈ S ∨ (6, r, m) ∈ S) ∨ (∃ r m i : Nat, (4, r, m) ∈ S ∧ u = 400 + i ∧ m ≤ i ∧ i < y.2.2.2.1 (4 + r / 12) (r % 12))) → wl S ≤ 211 → B ≤ ra (j, u) ∧ ra (j, u) + z.1 (rt (j, u)) ≤ B + khs z S
  | [], _, _, _, h, _ => by
    rcases h with h | ⟨-, r, m, h⟩ | ⟨r, m, i, h, -⟩
    · have h2 := h.2
      have h2 : u < 40 + 0 := h2
      omega
    · rcases h with h | h <;> simp at h
    · simp at h
  | e :: s, hin, hk, ha, h, hwl => by
    have hle := khs_le (z := z) (e := e) (s := s)
    have rcc : ((40 ≤ u ∧ u < 40 + wl s) ∨ (u = 300 ∧ ∃ r m : Nat, (5, r, m) ∈ s ∨ (6, r, m) ∈ s) ∨ (∃ r m i : Nat, (4, r, m) ∈ s ∧ u = 400 + i ∧ m ≤ i ∧ i < y.2.2.2.1 (4 + r / 12) (r % 12))) → B ≤ ra (j, u) ∧ ra (j, u) + z.1 (rt (j, u)) ≤ B + khs z (e :: s) := fun q => by
      have := kAk_at hz hz1 hky h3 hv (S := s) (fun e he => hin e (List.mem_cons_of_mem _ he)) hk.2 ha.2 q (Nat.le_trans wl_le hwl)
      omega
    have he1 := hk.1
    have he2 := ha.1
    have hsz : khs z (e :: s) = khs z s + kes z e := rfl
    obtain ⟨k, t, m⟩ := e
    match k, hin, hk, ha, h, hwl, hle, rcc, he1, he2, hsz with
    | 0, hin, hk, ha, h, hwl, hle, rcc, he1, he2, hsz =>
      rcases h with h | ⟨h0, r, n, h⟩ | ⟨r, n, i, h, h1⟩
      · by_cases c1 : u < 40 + wl s
        · exact rcc (Or.inl ⟨h.1, c1⟩)
        · have hw1 : wl (((0, t, m) : tE) :: s) = wl s + 1 := wl_n (by show ¬ ((0 : Nat) = 8 ∨ (0 : Nat) = 4 ∨ (0 : Nat) = 5 ∨ (0 : Nat) = 6); decide)
          have hu : u = 40 + wl s := by omega
          subst hu
          by_cases ct : t = 0
          · rw [he1.2.2.2.2 ct π] at hv; simp at hv
          · have e3 := he2 ct
            have e4 := (he1.2.2.2.1 ct).1
            have e5 : kes z (0, t, m) = z.1 t := if_neg ct
            rw [e3, e4, hsz, e5]
            omega
      · rcases h with h | h
        · rcases List.mem_cons.mp h with q | q
          · injection q with q1 q2; exact absurd q1 (by decide)
          · exact rcc (Or.inr (Or.inl ⟨h0, r, n, Or.inl q⟩))
        · rcases List.mem_cons.mp h with q | q
          · injection q with q1 q2; exact absurd q1 (by decide)
          · exact rcc (Or.inr (Or.inl ⟨h0, r, n, Or.inr q⟩))
      · rcases List.mem_cons.mp h with q | q
        · injection q with q1 q2; exact absurd q1 (by decide)
        · exact rcc (Or.inr (Or.inr ⟨r, n, i, q, h1⟩))
    | 1, hin, hk, ha, h, hwl, hle, rcc, he1, he2, hsz =>
      rcases h with h | ⟨h0, r, n, h⟩ | ⟨r, n, i, h, h1⟩
      · by_cases c1 : u < 40 + wl s
        · exact rcc (Or.inl ⟨h.1, c1⟩)
        · have hw1 : wl (((1, t, m) : tE) :: s) = wl s + 1 := wl_n (by show ¬ ((1 : Nat) = 8 ∨ (1 : Nat) = 4 ∨ (1 : Nat) = 5 ∨ (1 : Nat) = 6); decide)
          have hu : u = 40 + wl s := by omega
          subst hu
          have e3 : ra (j, 40 + wl s) = B + khs z s := he2
          have e4 : rt (j, 40 + wl s) = 10000 + 2 * t := he1.1
          have e5 : kes z (1, t, m) = 1 := rfl
          rw [e3, e4, hsz, e5, (hz1.2 t).1]
          omega
      · rcases h with h | h
        · rcases List.mem_cons.mp h with q | q
          · injection q with q1 q2; exact absurd q1 (by decide)
          · exact rcc (Or.inr (Or.inl ⟨h0, r, n, Or.inl q⟩))
        · rcases List.mem_cons.mp h with q | q
          · injection q with q1 q2; exact absurd q1 (by decide)
          · exact rcc (Or.inr (Or.inl ⟨h0, r, n, Or.inr q⟩))
      · rcases List.mem_cons.mp h with q | q
        · injection q with q1 q2; exact absurd q1 (by decide)
        · exact rcc (Or.inr (Or.inr ⟨r, n, i, q, h1⟩))
    | 2, hin, hk, ha, h, hwl, hle, rcc, he1, he2, hsz =>
      rcases h with h | ⟨h0, r, n, h⟩ | ⟨r, n, i, h, h1⟩
      · by_cases c1 : u < 40 + wl s
        · exact rcc (Or.inl ⟨h.1, c1⟩)
        · have hw1 : wl (((2, t, m) : tE) :: s) = wl s + 1 := wl_n (by show ¬ ((2 : Nat) = 8 ∨ (2 : Nat) = 4 ∨ (2 : Nat) = 5 ∨ (2 : Nat) = 6); decide)
          have hu : u = 40 + wl s := by omega
          subst hu
          have e3 : ra (j, 40 + wl s) = B + khs z s := he2
          have e4 : rt (j, 40 + wl s) = 10001 + 2 * t := he1.1
          have e5 : kes z (2, t, m) = 1 := rfl
          rw [e3, e4, hsz, e5, (hz1.2 t).2]
          omega
      · rcases h with h | h
        · rcases List.mem_cons.mp h with q | q
          · injection q with q1 q2; exact absurd q1 (by decide)
          · exact rcc (Or.inr (Or.inl ⟨h0, r, n, Or.inl q⟩))
        · rcases List.mem_cons.mp h with q | q
          · injection q with q1 q2; exact absurd q1 (by decide)
          · exact rcc (Or.inr (Or.inl ⟨h0, r, n, Or.inr q⟩))
      · rcases List.mem_cons.mp h with q | q
        · injection q with q1 q2; exact absurd q1 (by decide)
        · exact rcc (Or.inr (Or.inr ⟨r, n, i, q, h1⟩))
    | 3, hin, hk, ha, h, hwl, hle, rcc, he1, he2, hsz =>
      rcases h with h | ⟨h0, r, n, h⟩ | ⟨r, n, i, h, h1⟩
      · by_cases c1 : u < 40 + wl s
        · exact rcc (Or.inl ⟨h.1, c1⟩)
        · have hw1 : wl (((3, t, m) : tE) :: s) = wl s + 1 := wl_n (by show ¬ ((3 : Nat) = 8 ∨ (3 : Nat) = 4 ∨ (3 : Nat) = 5 ∨ (3 : Nat) = 6); decide)
          have hu : u = 40 + wl s := by omega
          subst hu
          have e3 : ra (j, 40 + wl s) = B + khs z s := he2.1
          have e4 : rt (j, 40 + wl s) = 1 := he1.2.1
          have e5 : kes z (3, t, m) = 1 := rfl
          rw [e3, e4, hsz, e5, hz1.1]
          omega
      · rcases h with h | h
        · rcases List.mem_cons.mp h with q | q
          · injection q with q1 q2; exact absurd q1 (by decide)
          · exact rcc (Or.inr (Or.inl ⟨h0, r, n, Or.inl q⟩))
        · rcases List.mem_cons.mp h with q | q
          · injection q with q1 q2; exact absurd q1 (by decide)
          · exact rcc (Or.inr (Or.inl ⟨h0, r, n, Or.inr q⟩))
      · rcases List.mem_cons.mp h with q | q
        · injection q with q1 q2; exact absurd q1 (by decide)
        · exact rcc (Or.inr (Or.inr ⟨r, n, i, q, h1⟩))
    | 4, hin, hk, ha, h, hwl, hle, rcc, he1, he2, hsz =>
      have hw1 : wl (((4, t, m) : tE) :: s) = wl s := wl_0 (Or.inr (Or.inl rfl))
      rcases h with h | ⟨h0, r, n, h⟩ | ⟨r, n, i, h, h1, h2⟩
      · exact rcc (Or.inl ⟨h.1, by omega⟩)
      · rcases h with h | h
        · rcases List.mem_cons.mp h with q | q
          · injection q with q1 q2; exact absurd q1 (by decide)
          · exact rcc (Or.inr (Or.inl ⟨h0, r, n, Or.inl q⟩))
        · rcases List.mem_cons.mp h with q | q
          · injection q with q1 q2; exact absurd q1 (by decide)
          · exact rcc (Or.inr (Or.inl ⟨h0, r, n, Or.inr q⟩))
      · rcases List.mem_cons.mp h with q | q
        · injection q with q1 q2
          injection q2 with q3 q4
          subst q3; subst q4; subst h1
          have e3 := he2 i h2.1 h2.2
          have e4 := (he1 i h2.1 h2.2).1
          obtain ⟨k3, kg⟩ := h3 r n (hin _ (List.mem_cons_self ..))
          have e6 := (hz.2.2.2.1 (4 + r / 12) (r % 12) i k3 kg h2.2).2
          have e5 : kes z (4, r, n) = z.1 (4 + r / 12) := rfl
          rw [e3, e4, hsz, e5]
          omega
        · exact rcc (Or.inr (Or.inr ⟨r, n, i, q, h1, h2⟩))
    | 5, hin, hk, ha, h, hwl, hle, rcc, he1, he2, hsz =>
      have hw1 : wl (((5, t, m) : tE) :: s) = wl s := wl_0 (Or.inr (Or.inr (Or.inl rfl)))
      rcases h with h | ⟨h0, r, n, h⟩ | ⟨r, n, i, h, h1, h2⟩
      · exact rcc (Or.inl ⟨h.1, by omega⟩)
      · subst h0
        have e3 : ra (j, 300) = B + khs z s := he2
        have e4 : rt (j, 300) = 10000 + 2 * (4 + t / 12) := he1.1
        have e5 : kes z (5, t, m) = 1 := rfl
        rw [e3, e4, hsz, e5, (hz1.2 _).1]
        omega
      · rcases List.mem_cons.mp h with q | q
        · injection q with q1 q2; exact absurd q1 (by decide)
        · exact rcc (Or.inr (Or.inr ⟨r, n, i, q, h1, h2⟩))
    | 6, hin, hk, ha, h, hwl, hle, rcc, he1, he2, hsz =>
      have hw1 : wl (((6, t, m) : tE) :: s) = wl s := wl_0 (Or.inr (Or.inr (Or.inr rfl)))
      rcases h with h | ⟨h0, r, n, h⟩ | ⟨r, n, i, h, h1, h2⟩
      · exact rcc (Or.inl ⟨h.1, by omega⟩)
      · subst h0
        have e3 : ra (j, 300) = B + khs z s := he2
        have e4 : rt (j, 300) = 10001 + 2 * (4 + t / 12) := he1.1
        have e5 : kes z (6, t, m) = 1 := rfl
        rw [e3, e4, hsz, e5, (hz1.2 _).2]
        omega
      · rcases List.mem_cons.mp h with q | q
        · injection q with q1 q2; exact absurd q1 (by decide)
        · exact rcc (Or.inr (Or.inr ⟨r, n, i, q, h1, h2⟩))
    | 7, hin, hk, ha, h, hwl, hle, rcc, he1, he2, hsz =>
      rcases h with h | ⟨h0, r, n, h⟩ | ⟨r, n, i, h, h1⟩
      · by_cases c1 : u < 40 + wl s
        · exact rcc (Or.inl ⟨h.1, c1⟩)
        · have hw1 : wl (((7, t, m) : tE) :: s) = wl s + 1 := wl_n (by show ¬ ((7 : Nat) = 8 ∨ (7 : Nat) = 4 ∨ (7 : Nat) = 5 ∨ (7 : Nat) = 6); decide)
          have hu : u = 40 + wl s := by omega
          subst hu
          have e3 : ra (j, 40 + wl s) = B + khs z s := he2
          have e4 : rt (j, 40 + wl s) = t := he1.2.2.1
          have e5 : kes z (7, t, m) = z.1 t := rfl
          rw [e3, e4, hsz, e5]
          omega
      · rcases h with h | h
        · rcases List.mem_cons.mp h with q | q
          · injection q with q1 q2; exact absurd q1 (by decide)
          · exact rcc (Or.inr (Or.inl ⟨h0, r, n, Or.inl q⟩))
        · rcases List.mem_cons.mp h with q | q
          · injection q with q1 q2; exact absurd q1 (by decide)
          · exact rcc (Or.inr (Or.inl ⟨h0, r, n, Or.inr q⟩))
      · rcases List.mem_cons.mp h with q | q
        · injection q with q1 q2; exact absurd q1 (by decide)
        · exact rcc (Or.inr (Or.inr ⟨r, n, i, q, h1⟩))
    | 8, hin, hk, ha, h, hwl, hle, rcc, he1, he2, hsz =>
      have hw1 : wl (((8, t, m) : tE) :: s) = wl s := wl_0 (Or.inl rfl)
      rcases h with h | ⟨h0, r, n, h⟩ | ⟨r, n, i, h, h1⟩
      · exact rcc (Or.inl ⟨h.1, by omega⟩)
      · rcases h with h | h
        · rcases List.mem_cons.mp h with q | q
          · injection q with q1 q2; exact absurd q1 (by decide)
          · exact rcc (Or.inr (Or.inl ⟨h0, r, n, Or.inl q⟩))
        · rcases List.mem_cons.mp h with q | q
          · injection q with q1 q2; exact absurd q1 (by decide)
          · exact rcc (Or.inr (Or.inl ⟨h0, r, n, Or.inr q⟩))
      · rcases List.mem_cons.mp h with q | q
        · injection q with q1 q2; exact absurd q1 (by decide)
        · exact rcc (Or.inr (Or.inr ⟨r, n, i, q, h1⟩))
    | k + 9, hin, hk, ha, h, hwl, hle, rcc, he1, he2, hsz => exact he1.elim
