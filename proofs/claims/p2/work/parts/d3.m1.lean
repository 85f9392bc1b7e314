-- d3.m1.lean.txt
section
/-- cells of an entry of the stack -/
def kes (z : qZ) : tE → Nat
  | (0, t, _) => if t = 0 then 0 else z.1 t
  | (7, t, _) => z.1 t
  | (4, r, _) => z.1 (4 + r / 12)
  | (8, _, _) => 0
  | _ => 1
def khs (z : qZ) : List tE → Nat
  | [] => 0
  | e :: s => khs z s + kes z e
/-- sizes of one cell -/
def qZ1 (z : qZ) : Prop := z.1 1 = 1 ∧ ∀ T : Nat, z.1 (10000 + 2 * T) = 1 ∧ z.1 (10001 + 2 * T) = 1
/-- where an entry lies: A, n normal ones below -/
def kAe (y : qY) (z : qZ) (c : Nat → Int) (ra : Nat × Nat → Nat) (j A n : Nat) : tE → Prop
  | (0, t, _) => t ≠ 0 → ra (j, 40 + n) = A
  | (1, _, _) => ra (j, 40 + n) = A
  | (2, _, _) => ra (j, 40 + n) = A
  | (3, g, _) => ra (j, 40 + n) = A ∧ c A = g
  | (4, r, m) => ∀ i : Nat, m ≤ i → i < y.2.2.2.1 (4 + r / 12) (r % 12) → ra (j, 400 + i) = A + z.2 (4 + r / 12) (r % 12) i
  | (5, _, _) => ra (j, 300) = A
  | (6, _, _) => ra (j, 300) = A
  | (7, _, _) => ra (j, 40 + n) = A
  | _ => True
/-- from B on -/
def kAk (y : qY) (z : qZ) (c : Nat → Int) (ra : Nat × Nat → Nat) (j B : Nat) : List tE → Prop
  | [] => True
  | e :: s => kAe y z c ra j (B + khs z s) (wl s) e ∧ kAk y z c ra j B s
theorem khs_app {z : qZ} : ∀ {E S : List tE}, khs z (E ++ S) = khs z E + khs z S
  | [], S => by show khs z S = 0 + khs z S; omega
  | e :: E, S => by
    show khs z (E ++ S) + _ = khs z E + _ + khs z S
    rw [khs_app (E := E)]; omega
theorem khs_le {z : qZ} {e : tE} {s : List tE} : khs z s ≤ khs z (e :: s) := Nat.le_add_right _ _
/-- what lies in a root of the stack lies in its entry -/
theorem kAk_at {y : qY} {z : qZ} {c : Nat → Int} {rt ra : Nat × Nat → Nat} {V : Nat × Nat → qV} {j B : Nat} {x : kFm} (hz : qLy y z) (hz1 : qZ1 z) (hky : ∀ r : Nat × Nat, qOk y (rt r) (V r)) (h3 : ∀ r m : Nat, (4, r, m) ∈ x.2.1 → y.1 (4 + r / 12) = 3 ∧ r % 12 < y.2.2.1 (4 + r / 12)) {u : Nat} {π : lLc} {w : Nat × Nat} (hv : V (j, u) π = some w) : ∀ {S : List tE}, (∀ e : tE, e ∈ S → e ∈ x.2.1) → kK y rt V j x S → kAk y z c ra j B S → ((40 ≤ u ∧ u < 40 + wl S) ∨ (u = 300 ∧ ∃ r m : Nat, (5, r, m) ∈ S ∨ (6, r, m) ∈ S) ∨ (∃ r m i : Nat, (4, r, m) ∈ S ∧ u = 400 + i ∧ m ≤ i ∧ i < y.2.2.2.1 (4 + r / 12) (r % 12))) → wl S ≤ 211 → B ≤ ra (j, u) ∧ ra (j, u) + z.1 (rt (j, u)) ≤ B + khs z S
  | [], _, _, _, h, _ => by
    rcases h with h | ⟨-, r, m, h⟩ | ⟨r, m, i, h, -⟩
    · have h2 := h.2
      have h2 : u < 40 + 0 := h2
      omega
    · rcases h with h | h <;> simp at h
    · simp at h
  | e :: s, hin, hk, ha, h, hwl => by
    have hle := khs_le (z := z) (e := e) (s := s)
    have rcc : ((40 ≤ u ∧ u < 40 + wl s) ∨ (u = 300 ∧ ∃ r m : Nat, (5, r, m) ∈ s ∨ (6, r, m) ∈ s) ∨ (∃ r m i : Nat, (4, r, m) ∈ s ∧ u = 400 + i ∧ m ≤ i ∧ i < y.2.2.2.1 (4 + r / 12) (r % 12))) → B ≤ ra (j, u) ∧ ra (j, u) + z.1 (rt (j, u)) ≤ B + khs z (e :: s) := fun q => by
      have := kAk_at hz hz1 hky h3 hv (S := s) (fun e he => hin e (List.mem_cons_of_mem _ he)) hk.2 ha.2 q (Nat.le_trans wl_le hwl)
      omega
    have he1 := hk.1
    have he2 := ha.1
    have hsz : khs z (e :: s) = khs z s + kes z e := rfl
    obtain ⟨k, t, m⟩ := e
    match k, hin, hk, ha, h, hwl, hle, rcc, he1, he2, hsz with
    | 0, hin, hk, ha, h, hwl, hle, rcc, he1, he2, hsz =>
      rcases h with h | ⟨h0, r, n, h⟩ | ⟨r, n, i, h, h1⟩
      · by_cases c1 : u < 40 + wl s
        · exact rcc (Or.inl ⟨h.1, c1⟩)
        · have hw1 : wl (((0, t, m) : tE) :: s) = wl s + 1 := wl_n (by show ¬ ((0 : Nat) = 8 ∨ (0 : Nat) = 4 ∨ (0 : Nat) = 5 ∨ (0 : Nat) = 6); decide)
          have hu : u = 40 + wl s := by omega
          subst hu
          by_cases ct : t = 0
          · rw [he1.2.2.2.2 ct π] at hv; simp at hv
          · have e3 := he2 ct
            have e4 := (he1.2.2.2.1 ct).1
            have e5 : kes z (0, t, m) = z.1 t := if_neg ct
            rw [e3, e4, hsz, e5]
            omega
      · rcases h with h | h
        · rcases List.mem_cons.mp h with q | q
          · injection q with q1 q2; exact absurd q1 (by decide)
          · exact rcc (Or.inr (Or.inl ⟨h0, r, n, Or.inl q⟩))
        · rcases List.mem_cons.mp h with q | q
          · injection q with q1 q2; exact absurd q1 (by decide)
          · exact rcc (Or.inr (Or.inl ⟨h0, r, n, Or.inr q⟩))
      · rcases List.mem_cons.mp h with q | q
        · injection q with q1 q2; exact absurd q1 (by decide)
        · exact rcc (Or.inr (Or.inr ⟨r, n, i, q, h1⟩))
    | 1, hin, hk, ha, h, hwl, hle, rcc, he1, he2, hsz =>
      rcases h with h | ⟨h0, r, n, h⟩ | ⟨r, n, i, h, h1⟩
      · by_cases c1 : u < 40 + wl s
        · exact rcc (Or.inl ⟨h.1, c1⟩)
        · have hw1 : wl (((1, t, m) : tE) :: s) = wl s + 1 := wl_n (by show ¬ ((1 : Nat) = 8 ∨ (1 : Nat) = 4 ∨ (1 : Nat) = 5 ∨ (1 : Nat) = 6); decide)
          have hu : u = 40 + wl s := by omega
          subst hu
          have e3 : ra (j, 40 + wl s) = B + khs z s := he2
          have e4 : rt (j, 40 + wl s) = 10000 + 2 * t := he1.1
          have e5 : kes z (1, t, m) = 1 := rfl
          rw [e3, e4, hsz, e5, (hz1.2 t).1]
          omega
      · rcases h with h | h
        · rcases List.mem_cons.mp h with q | q
          · injection q with q1 q2; exact absurd q1 (by decide)
          · exact rcc (Or.inr (Or.inl ⟨h0, r, n, Or.inl q⟩))
        · rcases List.mem_cons.mp h with q | q
          · injection q with q1 q2; exact absurd q1 (by decide)
          · exact rcc (Or.inr (Or.inl ⟨h0, r, n, Or.inr q⟩))
      · rcases List.mem_cons.mp h with q | q
        · injection q with q1 q2; exact absurd q1 (by decide)
        · exact rcc (Or.inr (Or.inr ⟨r, n, i, q, h1⟩))
    | 2, hin, hk, ha, h, hwl, hle, rcc, he1, he2, hsz =>
      rcases h with h | ⟨h0, r, n, h⟩ | ⟨r, n, i, h, h1⟩
      · by_cases c1 : u < 40 + wl s
        · exact rcc (Or.inl ⟨h.1, c1⟩)
        · have hw1 : wl (((2, t, m) : tE) :: s) = wl s + 1 := wl_n (by show ¬ ((2 : Nat) = 8 ∨ (2 : Nat) = 4 ∨ (2 : Nat) = 5 ∨ (2 : Nat) = 6); decide)
          have hu : u = 40 + wl s := by omega
          subst hu
          have e3 : ra (j, 40 + wl s) = B + khs z s := he2
          have e4 : rt (j, 40 + wl s) = 10001 + 2 * t := he1.1
          have e5 : kes z (2, t, m) = 1 := rfl
          rw [e3, e4, hsz, e5, (hz1.2 t).2]
          omega
      · rcases h with h | h
        · rcases List.mem_cons.mp h with q | q
          · injection q with q1 q2; exact absurd q1 (by decide)
          · exact rcc (Or.inr (Or.inl ⟨h0, r, n, Or.inl q⟩))
        · rcases List.mem_cons.mp h with q | q
          · injection q with q1 q2; exact absurd q1 (by decide)
          · exact rcc (Or.inr (Or.inl ⟨h0, r, n, Or.inr q⟩))
      · rcases List.mem_cons.mp h with q | q
        · injection q with q1 q2; exact absurd q1 (by decide)
        · exact rcc (Or.inr (Or.inr ⟨r, n, i, q, h1⟩))
    | 3, hin, hk, ha, h, hwl, hle, rcc, he1, he2, hsz =>
      rcases h with h | ⟨h0, r, n, h⟩ | ⟨r, n, i, h, h1⟩
      · by_cases c1 : u < 40 + wl s
        · exact rcc (Or.inl ⟨h.1, c1⟩)
        · have hw1 : wl (((3, t, m) : tE) :: s) = wl s + 1 := wl_n (by show ¬ ((3 : Nat) = 8 ∨ (3 : Nat) = 4 ∨ (3 : Nat) = 5 ∨ (3 : Nat) = 6); decide)
          have hu : u = 40 + wl s := by omega
          subst hu
          have e3 : ra (j, 40 + wl s) = B + khs z s := he2.1
          have e4 : rt (j, 40 + wl s) = 1 := he1.2.1
          have e5 : kes z (3, t, m) = 1 := rfl
          rw [e3, e4, hsz, e5, hz1.1]
          omega
      · rcases h with h | h
        · rcases List.mem_cons.mp h with q | q
          · injection q with q1 q2; exact absurd q1 (by decide)
          · exact rcc (Or.inr (Or.inl ⟨h0, r, n, Or.inl q⟩))
        · rcases List.mem_cons.mp h with q | q
          · injection q with q1 q2; exact absurd q1 (by decide)
          · exact rcc (Or.inr (Or.inl ⟨h0, r, n, Or.inr q⟩))
      · rcases List.mem_cons.mp h with q | q
        · injection q with q1 q2; exact absurd q1 (by decide)
        · exact rcc (Or.inr (Or.inr ⟨r, n, i, q, h1⟩))
    | 4, hin, hk, ha, h, hwl, hle, rcc, he1, he2, hsz =>
      have hw1 : wl (((4, t, m) : tE) :: s) = wl s := wl_0 (Or.inr (Or.inl rfl))
      rcases h with h | ⟨h0, r, n, h⟩ | ⟨r, n, i, h, h1, h2⟩
      · exact rcc (Or.inl ⟨h.1, by omega⟩)
      · rcases h with h | h
        · rcases List.mem_cons.mp h with q | q
          · injection q with q1 q2; exact absurd q1 (by decide)
          · exact rcc (Or.inr (Or.inl ⟨h0, r, n, Or.inl q⟩))
        · rcases List.mem_cons.mp h with q | q
          · injection q with q1 q2; exact absurd q1 (by decide)
          · exact rcc (Or.inr (Or.inl ⟨h0, r, n, Or.inr q⟩))
      · rcases List.mem_cons.mp h with q | q
        · injection q with q1 q2
          injection q2 with q3 q4
          subst q3; subst q4; subst h1
          have e3 := he2 i h2.1 h2.2
          have e4 := (he1 i h2.1 h2.2).1
          obtain ⟨k3, kg⟩ := h3 r n (hin _ (List.mem_cons_self ..))
          have e6 := (hz.2.2.2.1 (4 + r / 12) (r % 12) i k3 kg h2.2).2
          have e5 : kes z (4, r, n) = z.1 (4 + r / 12) := rfl
          rw [e3, e4, hsz, e5]
          omega
        · exact rcc (Or.inr (Or.inr ⟨r, n, i, q, h1, h2⟩))
    | 5, hin, hk, ha, h, hwl, hle, rcc, he1, he2, hsz =>
      have hw1 : wl (((5, t, m) : tE) :: s) = wl s := wl_0 (Or.inr (Or.inr (Or.inl rfl)))
      rcases h with h | ⟨h0, r, n, h⟩ | ⟨r, n, i, h, h1, h2⟩
      · exact rcc (Or.inl ⟨h.1, by omega⟩)
      · subst h0
        have e3 : ra (j, 300) = B + khs z s := he2
        have e4 : rt (j, 300) = 10000 + 2 * (4 + t / 12) := he1.1
        have e5 : kes z (5, t, m) = 1 := rfl
        rw [e3, e4, hsz, e5, (hz1.2 _).1]
        omega
      · rcases List.mem_cons.mp h with q | q
        · injection q with q1 q2; exact absurd q1 (by decide)
        · exact rcc (Or.inr (Or.inr ⟨r, n, i, q, h1, h2⟩))
    | 6, hin, hk, ha, h, hwl, hle, rcc, he1, he2, hsz =>
      have hw1 : wl (((6, t, m) : tE) :: s) = wl s := wl_0 (Or.inr (Or.inr (Or.inr rfl)))
      rcases h with h | ⟨h0, r, n, h⟩ | ⟨r, n, i, h, h1, h2⟩
      · exact rcc (Or.inl ⟨h.1, by omega⟩)
      · subst h0
        have e3 : ra (j, 300) = B + khs z s := he2
        have e4 : rt (j, 300) = 10001 + 2 * (4 + t / 12) := he1.1
        have e5 : kes z (6, t, m) = 1 := rfl
        rw [e3, e4, hsz, e5, (hz1.2 _).2]
        omega
      · rcases List.mem_cons.mp h with q | q
        · injection q with q1 q2; exact absurd q1 (by decide)
        · exact rcc (Or.inr (Or.inr ⟨r, n, i, q, h1, h2⟩))
    | 7, hin, hk, ha, h, hwl, hle, rcc, he1, he2, hsz =>
      rcases h with h | ⟨h0, r, n, h⟩ | ⟨r, n, i, h, h1⟩
      · by_cases c1 : u < 40 + wl s
        · exact rcc (Or.inl ⟨h.1, c1⟩)
        · have hw1 : wl (((7, t, m) : tE) :: s) = wl s + 1 := wl_n (by show ¬ ((7 : Nat) = 8 ∨ (7 : Nat) = 4 ∨ (7 : Nat) = 5 ∨ (7 : Nat) = 6); decide)
          have hu : u = 40 + wl s := by omega
          subst hu
          have e3 : ra (j, 40 + wl s) = B + khs z s := he2
          have e4 : rt (j, 40 + wl s) = t := he1.2.2.1
          have e5 : kes z (7, t, m) = z.1 t := rfl
          rw [e3, e4, hsz, e5]
          omega
      · rcases h with h | h
        · rcases List.mem_cons.mp h with q | q
          · injection q with q1 q2; exact absurd q1 (by decide)
          · exact rcc (Or.inr (Or.inl ⟨h0, r, n, Or.inl q⟩))
        · rcases List.mem_cons.mp h with q | q
          · injection q with q1 q2; exact absurd q1 (by decide)
          · exact rcc (Or.inr (Or.inl ⟨h0, r, n, Or.inr q⟩))
      · rcases List.mem_cons.mp h with q | q
        · injection q with q1 q2; exact absurd q1 (by decide)
        · exact rcc (Or.inr (Or.inr ⟨r, n, i, q, h1⟩))
    | 8, hin, hk, ha, h, hwl, hle, rcc, he1, he2, hsz =>
      have hw1 : wl (((8, t, m) : tE) :: s) = wl s := wl_0 (Or.inl rfl)
      rcases h with h | ⟨h0, r, n, h⟩ | ⟨r, n, i, h, h1⟩
      · exact rcc (Or.inl ⟨h.1, by omega⟩)
      · rcases h with h | h
        · rcases List.mem_cons.mp h with q | q
          · injection q with q1 q2; exact absurd q1 (by decide)
          · exact rcc (Or.inr (Or.inl ⟨h0, r, n, Or.inl q⟩))
        · rcases List.mem_cons.mp h with q | q
          · injection q with q1 q2; exact absurd q1 (by decide)
          · exact rcc (Or.inr (Or.inl ⟨h0, r, n, Or.inr q⟩))
      · rcases List.mem_cons.mp h with q | q
        · injection q with q1 q2; exact absurd q1 (by decide)
        · exact rcc (Or.inr (Or.inr ⟨r, n, i, q, h1⟩))
    | k + 9, hin, hk, ha, h, hwl, hle, rcc, he1, he2, hsz => exact he1.elim
end
-- d3.m2.lean.txt
section
/-- the address of a place -/
def qAd (y : qY) (z : qZ) (c : Nat → Int) (rt ra : Nat × Nat → Nat) : lLc → Nat
  | [] => 0
  | r :: π => qA y z c (rt r) (ra r) π
/-- variables of a function: types, offsets, cells: inside and apart -/
def kFt (z : qZ) (vt vo : Nat → Nat → Nat) (vc : Nat → Nat) : Prop := (∀ g v : Nat, v < 40 → vt g v ≠ 0 → vo g v + z.1 (vt g v) ≤ vc g) ∧ ∀ g v w : Nat, v < 40 → w < 40 → v ≠ w → vt g v ≠ 0 → vt g w ≠ 0 → vo g v + z.1 (vt g v) ≤ vo g w ∨ vo g w + z.1 (vt g w) ≤ vo g v
/-- cells: fb where frames begin, fil which cells of a frame's variables are told to have a value -/
def kL (y : qY) (z : qZ) (vt vo : Nat → Nat → Nat) (vc : Nat → Nat) (hp : Nat) (tk : Nat → Prop) (c : Nat → Int) (f : Nat) (x : Nat → kFm) (rt ra : Nat × Nat → Nat) (V : Nat × Nat → qV) (fb : Nat → Nat) (top : Nat) (fil : Nat → Nat → Nat → Prop) : Prop :=
  qMm y z hp tk c rt ra V ∧
  (∀ j : Nat, j ≤ f → ∀ (u : Nat) (a : lLc), (kA (x j) u ∨ u = 300) → kR (x j) u = some a → (∃ w : Nat × Nat, V (j, u) [] = some w) → c (ra (j, u)) = qAd y z c rt ra a) ∧
  (∀ j : Nat, j ≤ f → kAk y z c ra j (fb j + vc (x j).1) (x j).2.1) ∧
  (∀ j : Nat, j ≤ f → ∀ v : Nat, v < 40 → (8, v, 0) ∈ (x j).2.1 → ra (j, v) = fb j + vo (x j).1 v) ∧
  fb 0 = hp ∧ (∀ j : Nat, j < f → fb (j + 1) = fb j + vc (x j).1 + khs z (x j).2.1) ∧ top = fb f + vc (x f).1 + khs z (x f).2.1 ∧
  (∀ j : Nat, j ≤ f → ∀ v : Nat, v < 40 → (8, v, 0) ∈ (x j).2.1 → ∀ (π : lLc) (t : Nat), qM π → qW y (vt (x j).1 v) π t → y.1 t ≠ 2 → fil j v (qA y z c (vt (x j).1 v) 0 π) → ∃ w : Nat × Nat, V (j, v) π = some w) ∧
  (∀ (j u : Nat) (π : lLc) (w : Nat × Nat), u < 40 → V (j, u) π = some w → vt (x j).1 u ≠ 0) ∧
  (∀ j : Nat, j ≤ f → ∀ r m : Nat, (4, r, m) ∈ (x j).2.1 → y.1 (4 + r / 12) = 3 ∧ r % 12 < y.2.2.1 (4 + r / 12))
/-- what lies in a root of frame j lies in the frame -/
theorem kLo {y : qY} {z : qZ} {vt vo : Nat → Nat → Nat} {vc : Nat → Nat} {tb : Nat → lTb} {hp : Nat} {tk : Nat → Prop} {c : Nat → Int} {f : Nat} {x : Nat → kFm} {rt ra : Nat × Nat → Nat} {V : Nat × Nat → qV} {fb : Nat → Nat} {top : Nat} {fil : Nat → Nat → Nat → Prop} (hz : qLy y z) (hz1 : qZ1 z) (hft : kFt z vt vo vc) (hJ : kJ y vt tb f x rt V) (h : kL y z vt vo vc hp tk c f x rt ra V fb top fil) {j u : Nat} {π : lLc} {w : Nat × Nat} (hv : V (j, u) π = some w) : j ≤ f ∧ (u < 40 → ra (j, u) = fb j + vo (x j).1 u ∧ rt (j, u) = vt (x j).1 u ∧ (8, u, 0) ∈ (x j).2.1 ∧ ra (j, u) + z.1 (rt (j, u)) ≤ fb j + vc (x j).1) ∧ (40 ≤ u → fb j + vc (x j).1 ≤ ra (j, u) ∧ ra (j, u) + z.1 (rt (j, u)) ≤ fb j + vc (x j).1 + khs z (x j).2.1) := by
  obtain ⟨h0, h1, h2, h3, h4, h5, h6, h7, h8⟩ := hJ
  obtain ⟨l0, l1, l2, l3, l4, l5, l6, l7, l8, l9⟩ := h
  obtain ⟨k0, k1, k2⟩ := h5 j u π w hv
  refine ⟨k0, fun u4 => ?_, fun u4 => ?_⟩
  · have hm : (8, u, 0) ∈ (x j).2.1 := by
      rcases k1 with ⟨a, b⟩ | ⟨a, b⟩ | ⟨a, b⟩ | ⟨r2, m2, i, a, b, b2⟩
      · exact b
      · omega
      · omega
      · omega
    have e1 := l3 j k0 u u4 hm
    have e2 := k2 u4
    have e3 := hft.1 (x j).1 u u4 (l8 j u π w u4 hv)
    exact ⟨e1, e2, hm, by rw [e1, e2]; omega⟩
  · refine kAk_at hz hz1 h0 (fun r m hm => l9 j k0 r m hm) hv (fun e he => he) (h4 j k0) (l2 j k0) ?_ (h8 j k0)
    rcases k1 with ⟨a, b⟩ | ⟨a, b⟩ | ⟨a, r, m, b⟩ | ⟨r2, m2, i, a, b, b2⟩
    · omega
    · exact Or.inl ⟨a, b⟩
    · exact Or.inr (Or.inl ⟨a, r, m, b⟩)
    · exact Or.inr (Or.inr ⟨r2, m2, i, a, b, b2⟩)
theorem kFb {z : qZ} {vc : Nat → Nat} {x : Nat → kFm} {fb : Nat → Nat} {f : Nat} (h : ∀ j : Nat, j < f → fb (j + 1) = fb j + vc (x j).1 + khs z (x j).2.1) : ∀ {i j : Nat}, i < j → j ≤ f → fb i + vc (x i).1 + khs z (x i).2.1 ≤ fb j
  | i, 0, h1, _ => absurd h1 (Nat.not_lt_zero i)
  | i, j + 1, h1, h2 => by
    by_cases e : i = j
    · rw [e, h j (by omega)]; exact Nat.le_refl _
    · have := kFb h (i := i) (j := j) (by omega) (by omega)
      rw [h j (by omega)]; omega
theorem kFb0 {z : qZ} {vc : Nat → Nat} {x : Nat → kFm} {fb : Nat → Nat} {f : Nat} (h : ∀ j : Nat, j < f → fb (j + 1) = fb j + vc (x j).1 + khs z (x j).2.1) : ∀ {j : Nat}, j ≤ f → fb 0 ≤ fb j
  | 0, _ => Nat.le_refl _
  | j + 1, h2 => by
    have := kFb0 h (j := j) (by omega)
    rw [h j (by omega)]; omega
/-- what lies in roots ends by top; and by fb f if it isn't the latest frame's -/
theorem kTop {y : qY} {z : qZ} {vt vo : Nat → Nat → Nat} {vc : Nat → Nat} {tb : Nat → lTb} {hp : Nat} {tk : Nat → Prop} {c : Nat → Int} {f : Nat} {x : Nat → kFm} {rt ra : Nat × Nat → Nat} {V : Nat × Nat → qV} {fb : Nat → Nat} {top : Nat} {fil : Nat → Nat → Nat → Prop} (hz : qLy y z) (hz1 : qZ1 z) (hft : kFt z vt vo vc) (hJ : kJ y vt tb f x rt V) (h : kL y z vt vo vc hp tk c f x rt ra V fb top fil) {r : Nat × Nat} {π : lLc} {w : Nat × Nat} (hv : V r π = some w) : hp ≤ ra r ∧ ra r + z.1 (rt r) ≤ top ∧ (r.1 ≠ f → ra r + z.1 (rt r) ≤ fb f) ∧ (r.1 = f → fb f ≤ ra r) := by
  obtain ⟨j, u⟩ := r
  obtain ⟨k0, k1, k2⟩ := kLo hz hz1 hft hJ h hv
  obtain ⟨l0, l1, l2, l3, l4, l5, l6, l7, l8, l9⟩ := h
  have hb : fb j ≤ ra (j, u) ∧ ra (j, u) + z.1 (rt (j, u)) ≤ fb j + vc (x j).1 + khs z (x j).2.1 := by
    by_cases c : u < 40
    · obtain ⟨a1, a2, a3, a4⟩ := k1 c
      exact ⟨by omega, by omega⟩
    · obtain ⟨a1, a2⟩ := k2 (by omega)
      exact ⟨by omega, a2⟩
  have h0 := kFb0 l5 k0
  by_cases e : j = f
  · subst e
    exact ⟨by omega, by omega, fun q => absurd rfl q, fun _ => hb.1⟩
  · have := kFb l5 (i := j) (j := f) (by omega) (Nat.le_refl _)
    exact ⟨by omega, by omega, fun _ => by omega, fun q => absurd q e⟩
theorem kAe_cg {y : qY} {z : qZ} {c c2 : Nat → Int} {ra ra2 : Nat × Nat → Nat} {j A n : Nat} : ∀ {e : tE}, kAe y z c ra j A n e → (∀ u : Nat, u = 40 + n ∨ 300 ≤ u → ra2 (j, u) = ra (j, u)) → (∀ g m : Nat, e = (3, g, m) → c2 A = c A) → kAe y z c2 ra2 j A n e
  | (0, t, m), h, e, _ => fun q => (e _ (Or.inl rfl)).trans (h q)
  | (1, t, m), h, e, _ => (e _ (Or.inl rfl)).trans h
  | (2, t, m), h, e, _ => (e _ (Or.inl rfl)).trans h
  | (3, t, m), h, e, hc => ⟨(e _ (Or.inl rfl)).trans h.1, (hc t m rfl).trans h.2⟩
  | (4, r, m), h, e, _ => fun i h1 h2 => (e _ (Or.inr (by omega))).trans (h i h1 h2)
  | (5, t, m), h, e, _ => (e _ (Or.inr (by omega))).trans h
  | (6, t, m), h, e, _ => (e _ (Or.inr (by omega))).trans h
  | (7, t, m), h, e, _ => (e _ (Or.inl rfl)).trans h
  | (k + 8, t, m), _, _, _ => trivial
/-- the same entries: ra as it was, tags as they were -/
theorem kAk_cg {y : qY} {z : qZ} {c c2 : Nat → Int} {rt ra ra2 : Nat × Nat → Nat} {V : Nat × Nat → qV} {j B : Nat} {x : kFm} : ∀ {S : List tE}, kK y rt V j x S → kAk y z c ra j B S → (∀ u : Nat, (40 ≤ u ∧ u < 40 + wl S) ∨ 300 ≤ u → ra2 (j, u) = ra (j, u)) → (∀ (u : Nat) (w : Nat × Nat), 40 ≤ u → u < 40 + wl S → V (j, u) [] = some w → c2 (ra (j, u)) = c (ra (j, u))) → kAk y z c2 ra2 j B S
  | [], _, _, _, _ => trivial
  | e :: s, hk, h, h2, h3 => by
    refine ⟨?_, kAk_cg hk.2 h.2 (fun u hu => h2 u (hu.imp (fun z => ⟨z.1, by have := wl_le (e := e) (s := s); omega⟩) id)) (fun u w h4 h5 h6 => h3 u w h4 (by have := wl_le (e := e) (s := s); omega) h6)⟩
    by_cases he : e.1 = 8 ∨ e.1 = 4 ∨ e.1 = 5 ∨ e.1 = 6
    · obtain ⟨k, t, m⟩ := e
      have h1 := h.1
      match k, he, h1, h2 with
      | 0, he, _, _ => exact absurd he (by show ¬ ((0 : Nat) = 8 ∨ (0 : Nat) = 4 ∨ (0 : Nat) = 5 ∨ (0 : Nat) = 6); decide)
      | 1, he, _, _ => exact absurd he (by show ¬ ((1 : Nat) = 8 ∨ (1 : Nat) = 4 ∨ (1 : Nat) = 5 ∨ (1 : Nat) = 6); decide)
      | 2, he, _, _ => exact absurd he (by show ¬ ((2 : Nat) = 8 ∨ (2 : Nat) = 4 ∨ (2 : Nat) = 5 ∨ (2 : Nat) = 6); decide)
      | 3, he, _, _ => exact absurd he (by show ¬ ((3 : Nat) = 8 ∨ (3 : Nat) = 4 ∨ (3 : Nat) = 5 ∨ (3 : Nat) = 6); decide)
      | 4, _, h1, h2 => exact fun i h4 h5 => (h2 _ (Or.inr (by omega))).trans (h1 i h4 h5)
      | 5, _, h1, h2 => exact (h2 300 (Or.inr (by omega))).trans h1
      | 6, _, h1, h2 => exact (h2 300 (Or.inr (by omega))).trans h1
      | 7, he, _, _ => exact absurd he (by show ¬ ((7 : Nat) = 8 ∨ (7 : Nat) = 4 ∨ (7 : Nat) = 5 ∨ (7 : Nat) = 6); decide)
      | k + 8, _, _, _ => exact trivial
    · have hwn := wl_n (s := s) he
      refine kAe_cg h.1 (fun u hu => h2 u (hu.imp (fun z => ⟨by omega, by omega⟩) id)) (fun g m e2 => ?_)
      subst e2
      have h1 := h.1.1
      have hk1 := hk.1
      obtain ⟨w, hw⟩ := hk1.2.2
      have := h3 (40 + wl s) w (by omega) (by omega) hw
      rw [h1] at this
      exact this
end
-- d3.m3.lean.txt
section
/-- only the latest frame, its roots and cells change -/
theorem kL_top {y : qY} {z : qZ} {vt vo : Nat → Nat → Nat} {vc : Nat → Nat} {tb : Nat → lTb} {hp : Nat} {tk tk2 : Nat → Prop} {c c2 : Nat → Int} {f : Nat} {x : Nat → kFm} {rt ra rt2 ra2 : Nat × Nat → Nat} {V V2 : Nat × Nat → qV} {fb : Nat → Nat} {top top2 : Nat} {fil fil2 : Nat → Nat → Nat → Prop} (hJ : kJ y vt tb f x rt V) (h : kL y z vt vo vc hp tk c f x rt ra V fb top fil) (X : kFm) (hX1 : X.1 = (x f).1) (q : qMm y z hp tk2 c2 rt2 ra2 V2) (e1 : ∀ j u : Nat, j ≠ f → rt2 (j, u) = rt (j, u) ∧ ra2 (j, u) = ra (j, u) ∧ V2 (j, u) = V (j, u)) (o1 : ∀ (j u : Nat) (w : Nat × Nat), j ≠ f → V (j, u) [] = some w → c2 (ra (j, u)) = c (ra (j, u))) (o2 : ∀ (j u : Nat) (a : lLc), j < f → (kA (x j) u ∨ u = 300) → kR (x j) u = some a → (∃ w : Nat × Nat, V (j, u) [] = some w) → qAd y z c2 rt2 ra2 a = qAd y z c rt ra a) (r1 : ∀ (u : Nat) (a : lLc), (kA X u ∨ u = 300) → kR X u = some a → (∃ w : Nat × Nat, V2 (f, u) [] = some w) → c2 (ra2 (f, u)) = qAd y z c2 rt2 ra2 a) (s1 : kAk y z c2 ra2 f (fb f + vc X.1) X.2.1) (v1 : ∀ v : Nat, v < 40 → (8, v, 0) ∈ X.2.1 → ra2 (f, v) = fb f + vo X.1 v) (t1 : top2 = fb f + vc X.1 + khs z X.2.1) (f1 : ∀ j : Nat, j ≠ f → fil2 j = fil j) (f2 : ∀ v : Nat, v < 40 → (8, v, 0) ∈ X.2.1 → ∀ (π : lLc) (t : Nat), qM π → qW y (vt X.1 v) π t → y.1 t ≠ 2 → fil2 f v (qA y z c2 (vt X.1 v) 0 π) → ∃ w : Nat × Nat, V2 (f, v) π = some w) (n1 : ∀ (u : Nat) (π : lLc) (w : Nat × Nat), u < 40 → V2 (f, u) π = some w → vt X.1 u ≠ 0) (m1 : ∀ r m : Nat, (4, r, m) ∈ X.2.1 → y.1 (4 + r / 12) = 3 ∧ r % 12 < y.2.2.1 (4 + r / 12)) : kL y z vt vo vc hp tk2 c2 f (kUx x f X) rt2 ra2 V2 fb top2 fil2 := by
  obtain ⟨l0, l1, l2, l3, l4, l5, l6, l7, l8, l9⟩ := h
  refine ⟨q, fun j hj u a hu ha hw => ?_, fun j hj => ?_, fun j hj v v4 hv => ?_, l4, fun j hj => ?_, ?_, fun j hj v v4 hv π t g1 g2 g3 g4 => ?_, fun j u π w u4 hw => ?_, fun j hj r m hm => ?_⟩
  · by_cases ej : j = f
    · subst ej
      rw [kUx_eq] at hu ha
      exact r1 u a hu ha hw
    · rw [kUx_ne ej] at hu ha
      obtain ⟨a1, a2, a3⟩ := e1 j u ej
      rw [a3] at hw
      rw [a2, o2 j u a (by omega) hu ha hw, ← l1 j hj u a hu ha hw]
      obtain ⟨w, hw⟩ := hw
      exact o1 j u w ej hw
  · by_cases ej : j = f
    · subst ej
      rw [kUx_eq]; exact s1
    · rw [kUx_ne ej]
      exact kAk_cg (hJ.2.2.2.2.1 j hj) (l2 j hj) (fun u _ => (e1 j u ej).2.1) (fun u w _ _ hw => o1 j u w ej hw)
  · by_cases ej : j = f
    · subst ej
      rw [kUx_eq] at hv ⊢
      exact v1 v v4 hv
    · rw [kUx_ne ej] at hv ⊢
      rw [(e1 j v ej).2.1]
      exact l3 j hj v v4 hv
  · rw [kUx_ne (by omega)]
    exact l5 j hj
  · rw [kUx_eq]; exact t1
  · by_cases ej : j = f
    · subst ej
      rw [kUx_eq] at hv g2 g4
      exact f2 v v4 hv π t g1 g2 g3 g4
    · rw [kUx_ne ej] at hv g2 g4
      rw [f1 j ej] at g4
      rw [(e1 j v ej).2.2]
      have e := qA_sh (z := z) (c := c2) (c2 := c) (a := 0) (b := 0) g2 (qN_M g1)
      exact l7 j hj v v4 hv π t g1 g2 g3 (by rw [← Nat.add_right_cancel e]; exact g4)
  · by_cases ej : j = f
    · subst ej
      rw [kUx_eq]; exact n1 u π w u4 hw
    · rw [kUx_ne ej]
      rw [(e1 j u ej).2.2] at hw
      exact l8 j u π w u4 hw
  · by_cases ej : j = f
    · subst ej
      rw [kUx_eq] at hm
      exact m1 r m hm
    · rw [kUx_ne ej] at hm
      exact l9 j hj r m hm
/-- the address of a place that no written cell lies on the way to -/
theorem qAd_pl {y : qY} {z : qZ} {c c2 : Nat → Int} {rt ra rt2 ra2 : Nat × Nat → Nat} {V : Nat × Nat → qV} {a : lLc} {T : Nat} (h0 : ∀ r : Nat × Nat, qOk y (rt r) (V r)) (ht : qTg y rt V a T) (he : ∀ (r : Nat × Nat) (π : lLc), a = r :: π → rt2 r = rt r ∧ ra2 r = ra r) (hc : ∀ (r : Nat × Nat) (π π1 : lLc) (w : Nat × Nat), a = r :: π → V r π1 = some w → lP π1 π → π1 ≠ π → c2 (qA y z c (rt r) (ra r) π1) = c (qA y z c (rt r) (ra r) π1)) : qAd y z c2 rt2 ra2 a = qAd y z c rt ra a := by
  obtain ⟨r, π, rfl, h4, h5, h6⟩ := ht
  obtain ⟨e1, e2⟩ := he r π rfl
  show qA y z c2 (rt2 r) (ra2 r) π = qA y z c (rt r) (ra r) π
  rw [e1, e2]
  exact qA_pl (h0 r) (qF_pl h6) h5 (fun π1 w hw g1 g2 => hc r π π1 w rfl hw g1 g2)
/-- cells from A on, n of them, that nothing lies in -/
theorem kFree {y : qY} {z : qZ} {vt vo : Nat → Nat → Nat} {vc : Nat → Nat} {tb : Nat → lTb} {hp : Nat} {tk : Nat → Prop} {c : Nat → Int} {f : Nat} {x : Nat → kFm} {rt ra : Nat × Nat → Nat} {V : Nat × Nat → qV} {fb : Nat → Nat} {top : Nat} {fil : Nat → Nat → Nat → Prop} (hz : qLy y z) (hz1 : qZ1 z) (hft : kFt z vt vo vc) (hJ : kJ y vt tb f x rt V) (h : kL y z vt vo vc hp tk c f x rt ra V fb top fil) {n : Nat} {r : Nat × Nat} {π : lLc} {w : Nat × Nat} (hv : V r π = some w) : ¬ (top ≤ qA y z c (rt r) (ra r) π ∧ qA y z c (rt r) (ra r) π < top + n) := by
  obtain ⟨a1, a2, -, -⟩ := kTop hz hz1 hft hJ h hv
  obtain ⟨t1, -⟩ := kTop hz hz1 hft hJ h hv
  have hp1 : hp ≤ top := by
    have := hz.1 (rt r)
    omega
  exact qFresh hz h.1 hp1 hv (Or.inl a2)
end
-- d3.m4.lean.txt
section
/-- what the tables promise -/
def kYs (y : qY) (z : qZ) (vt vo : Nat → Nat → Nat) (vc : Nat → Nat) : Prop := qLy y z ∧ qZ1 z ∧ kFt z vt vo vc ∧ qCr y ∧ qRf y
/-- all cells of what lies there are below top -/
theorem kLt {y : qY} {z : qZ} {vt vo : Nat → Nat → Nat} {vc : Nat → Nat} {tb : Nat → lTb} {hp : Nat} {tk : Nat → Prop} {c : Nat → Int} {f : Nat} {x : Nat → kFm} {rt ra : Nat × Nat → Nat} {V : Nat × Nat → qV} {fb : Nat → Nat} {top : Nat} {fil : Nat → Nat → Nat → Prop} (hy : kYs y z vt vo vc) (hJ : kJ y vt tb f x rt V) (h : kL y z vt vo vc hp tk c f x rt ra V fb top fil) {r : Nat × Nat} {π : lLc} {w : Nat × Nat} (hv : V r π = some w) : qA y z c (rt r) (ra r) π < top := by
  have := kFree (n := qA y z c (rt r) (ra r) π + 1) hy.1 hy.2.1 hy.2.2.1 hJ h hv
  omega
/-- the latest values E are gone -/
theorem kL_pop {y : qY} {z : qZ} {vt vo : Nat → Nat → Nat} {vc : Nat → Nat} {tb : Nat → lTb} {hp : Nat} {tk tk2 : Nat → Prop} {c : Nat → Int} {f : Nat} {x : Nat → kFm} {rt ra : Nat × Nat → Nat} {V : Nat × Nat → qV} {fb : Nat → Nat} {top : Nat} {fil : Nat → Nat → Nat → Prop} (hJ : kJ y vt tb f x rt V) (h : kL y z vt vo vc hp tk c f x rt ra V fb top fil) {E S : List tE} (hS : (x f).2.1 = E ++ S) (hE : ∀ e : tE, e ∈ E → kNm e) (hn : (x f).2.2.1 = 0) (q : qMm y z hp tk2 c rt ra (kCl V f (wl S))) : kL y z vt vo vc hp tk2 c f (kUx x f ((x f).1, S, 0, kR (x f), kH (x f), kal (x f), klo (x f), kAn (x f))) rt ra (kCl V f (wl S)) fb (fb f + vc (x f).1 + khs z S) fil := by
  have hL := h
  obtain ⟨l0, l1, l2, l3, l4, l5, l6, l7, l8, l9⟩ := h
  have hf := Nat.le_refl f
  have h8 := hJ.2.2.2.2.2.2.2.2 f hf
  have hwl : wl (x f).2.1 = wl E + wl S := by rw [hS, wl_app]
  have out : ∀ e : tE, e ∈ S → e ∈ (x f).2.1 := fun e he => by rw [hS]; exact List.mem_append_right _ he
  refine kL_top hJ hL _ rfl q (fun j u hj => ⟨rfl, rfl, kCl_f hj⟩) (fun _ _ _ _ _ => rfl) (fun _ _ _ _ _ _ _ => rfl) (fun u a hu ha hw => ?_) ?_ (fun v v4 hv => l3 f hf v v4 (out _ hv)) rfl (fun _ _ => rfl) (fun v v4 hv π t g1 g2 g3 g4 => ?_) (fun u π w u4 hw => ?_) (fun r m hm => l9 f hf r m (out _ hm))
  · obtain ⟨w, hw⟩ := hw
    obtain ⟨c1, hw⟩ := kCl_some hw
    refine l1 f hf u a ?_ ha ⟨w, hw⟩
    rcases hu with hu | hu
    · left
      rcases hu with ⟨a, b⟩ | ⟨a, b⟩
      · exact Or.inl ⟨a, b⟩
      · have b : u < 40 + wl S + 0 := b
        exact Or.inr ⟨a, by omega⟩
    · exact Or.inr hu
  · have hk := l2 f hf
    rw [hS] at hk
    clear hS hE hwl out
    induction E with
    | nil => exact hk
    | cons e E ih => exact ih hk.2
  · rw [kCl_out (Or.inl (by omega))]
    exact l7 f hf v v4 (out _ hv) π t g1 g2 g3 g4
  · exact l8 f u π w u4 (kCl_some hw).2
/-- a value comes on top: its root's tree W of type t -/
theorem kL_push {y : qY} {z : qZ} {vt vo : Nat → Nat → Nat} {vc : Nat → Nat} {tb : Nat → lTb} {hp : Nat} {tk tk2 : Nat → Prop} {c c2 : Nat → Int} {f : Nat} {x : Nat → kFm} {rt ra : Nat × Nat → Nat} {V : Nat × Nat → qV} {fb : Nat → Nat} {top : Nat} {fil : Nat → Nat → Nat → Prop} (hy : kYs y z vt vo vc) (hJ : kJ y vt tb f x rt V) (h : kL y z vt vo vc hp tk c f x rt ra V fb top fil) {e : tE} {t : Nat} {W : qV} {ro : Option lLc} {hd : Nat → Prop} {al2 : Nat → Prop} (he : kNm e) (hn : (x f).2.2.1 = 0) (hal : ∀ u : Nat, al2 u → kal (x f) u) (q : qMm y z hp tk2 c2 (qRt rt (f, 40 + wl (x f).2.1) t) (qRt ra (f, 40 + wl (x f).2.1) top) (qUp V (f, 40 + wl (x f).2.1) W)) (hc : ∀ (r : Nat × Nat) (π : lLc) (w : Nat × Nat), V r π = some w → c2 (qA y z c (rt r) (ra r) π) = c (qA y z c (rt r) (ra r) π)) (hA : kAe y z c2 (qRt ra (f, 40 + wl (x f).2.1) top) f top (wl (x f).2.1) e) (hro : ∀ a : lLc, ro = some a → qTg y rt V a (y.2.1 t) ∧ c2 top = qAd y z c rt ra a) : kL y z vt vo vc hp tk2 c2 f (kUx x f ((x f).1, e :: (x f).2.1, 0, lUp (kR (x f)) (40 + wl (x f).2.1) ro, lUp (kH (x f)) (40 + wl (x f).2.1) hd, al2, klo (x f), kAn (x f))) (qRt rt (f, 40 + wl (x f).2.1) t) (qRt ra (f, 40 + wl (x f).2.1) top) (qUp V (f, 40 + wl (x f).2.1) W) fb (top + kes z e) fil := by
  have hL := h
  obtain ⟨l0, l1, l2, l3, l4, l5, l6, l7, l8, l9⟩ := h
  have hf := Nat.le_refl f
  have h8 := hJ.2.2.2.2.2.2.2.2 f hf
  have hwl : wl (e :: (x f).2.1) = wl (x f).2.1 + 1 := wl_n he
  generalize hu0 : 40 + wl (x f).2.1 = u0 at *
  have hne : ∀ u : Nat, u ≠ u0 → ((f, u) : Nat × Nat) ≠ (f, u0) := fun u hu q => hu (by injection q)
  have hnj : ∀ j u : Nat, j ≠ f → ((j, u) : Nat × Nat) ≠ (f, u0) := fun j u hj q => hj (by injection q)
  have own : ∀ (r : Nat × Nat) (w : Nat × Nat), V r [] = some w → c2 (ra r) = c (ra r) := fun r w hw => hc r [] w hw
  have ads : ∀ (a : lLc) (T : Nat), qTg y rt V a T → qAd y z c2 (qRt rt (f, u0) t) (qRt ra (f, u0) top) a = qAd y z c rt ra a := fun a T ha => by
    have ha2 := ha
    obtain ⟨r, π, ea, hr, -⟩ := ha2
    refine qAd_pl hJ.1 ha (fun r2 π2 e2 => ?_) (fun r2 π2 π1 w e2 hw _ _ => hc r2 π1 w hw)
    rw [ea] at e2
    injection e2 with e3 e4
    have : r2 ≠ (f, u0) := fun z => by
      rw [e3, z] at hr
      have hr : u0 < 40 := hr
      omega
    exact ⟨qRt_ne this, qRt_ne this⟩
  have mem : ∀ e2 : tE, ¬ kNm e2 → e2 ∈ e :: (x f).2.1 → e2 ∈ (x f).2.1 := fun e2 h2 hm => by
    rcases List.mem_cons.mp hm with z | z
    · rw [z] at h2; exact absurd he h2
    · exact z
  refine kL_top hJ hL _ rfl q (fun j u hj => ⟨qRt_ne (hnj j u hj), qRt_ne (hnj j u hj), qUp_ne (hnj j u hj)⟩) (fun j u w _ hw => own _ w hw) (fun j u a hj hu ha hw => ?_) (fun u a hu ha hw => ?_) ⟨?_, ?_⟩ (fun v v4 hv => ?_) ?_ (fun _ _ => rfl) (fun v v4 hv π t g1 g2 g3 g4 => ?_) (fun u π w u4 hw => ?_) (fun r m hm => l9 f hf r m (mem _ (fun z => z (Or.inr (Or.inl rfl))) hm))
  · rcases hu with hu | hu
    · exact ads a _ (hJ.2.2.1 j (by omega) u a hu ha).2
    · subst hu
      obtain ⟨w, hw⟩ := hw
      rcases (hJ.2.2.2.2.2.1 j 300 [] w hw).2.1 with ⟨b1, b2⟩ | ⟨b1, b2⟩ | ⟨b1, r2, m, b2⟩ | ⟨r2, m2, i, b1, b2, b3⟩
      · omega
      · have := hJ.2.2.2.2.2.2.2.2 j (by omega)
        omega
      · have h7 := hJ.2.2.2.2.2.2.2.1 j (by omega) r2 m
        rcases b2 with b2 | b2
        · have := (h7.1 b2).1; omega
        · have := (h7.2 b2).1; omega
      · omega
  · have ha : lUp (kR (x f)) u0 ro u = some a := ha
    by_cases c1 : u = u0
    · rw [c1, lUp_eq] at ha
      obtain ⟨t1, t2⟩ := hro a ha
      rw [c1, qRt_eq, ads a _ t1]
      exact t2
    · rw [lUp_ne c1] at ha
      rw [qUp_ne (hne u c1)] at hw
      rw [qRt_ne (hne u c1)]
      have hu2 : kA (x f) u ∨ u = 300 := by
        rcases hu with hu | hu
        · left
          rcases hu with ⟨b1, b2⟩ | ⟨b1, b2⟩
          · exact Or.inl ⟨b1, hal u b2⟩
          · have b2 : u < 40 + wl (e :: (x f).2.1) + 0 := b2
            exact Or.inr ⟨b1, by omega⟩
        · exact Or.inr hu
      have l1u := l1 f hf u a hu2 ha hw
      obtain ⟨w, hw⟩ := hw
      rw [own (f, u) w hw, l1u]
      rcases hu2 with hu2 | hu2
      · rw [ads a _ (hJ.2.2.1 f hf u a hu2 ha).2]
      · subst hu2
        have h7 : ∃ q2 r2 m : Nat, kPm y rt V f (tb (x f).1) (x f) q2 r2 m := by
          rcases (hJ.2.2.2.2.2.1 f 300 [] w hw).2.1 with ⟨b1, b2⟩ | ⟨b1, b2⟩ | ⟨b1, r2, m, b2⟩ | ⟨r2, m2, i, b1, b2, b3⟩
          · omega
          · omega
          · have h7 := hJ.2.2.2.2.2.2.2.1 f hf r2 m
            rcases b2 with b2 | b2
            · exact ⟨5, r2, m, (h7.1 b2).2⟩
            · exact ⟨6, r2, m, (h7.2 b2).2⟩
          · omega
        obtain ⟨q2, r2, m, a0, π0, p1, p2, p3, p4, -⟩ := h7
        obtain rfl := Option.some.inj (p1.symm.trans ha)
        refine congrArg Int.ofNat (?_ : qAd y z c2 (qRt rt (f, u0) t) (qRt ra (f, u0) top) (a0 :: π0) = qAd y z c rt ra (a0 :: π0)).symm
        have hn0 : a0 ≠ (f, u0) := fun z => by
          rw [z] at p2
          have p2 : u0 < 40 := p2
          omega
        show qA y z c2 (qRt rt (f, u0) t a0) (qRt ra (f, u0) top a0) π0 = qA y z c (rt a0) (ra a0) π0
        rw [qRt_ne hn0, qRt_ne hn0]
        exact qA_pl (hJ.1 a0) (qPl_of p4) p3 (fun π1 w hw _ _ => hc a0 π1 w hw)
  · show kAe y z c2 (qRt ra (f, u0) top) f (fb f + vc (x f).1 + khs z (x f).2.1) (wl (x f).2.1) e
    rw [← l6]; exact hA
  · refine kAk_cg (hJ.2.2.2.2.1 f hf) (l2 f hf) (fun u hu => qRt_ne (hne u (by omega))) (fun u w _ _ hw => own _ w hw)
  · rw [qRt_ne (hne v (by omega))]
    exact l3 f hf v v4 (mem _ (fun z => z (Or.inl rfl)) hv)
  · show top + kes z e = fb f + vc (x f).1 + (khs z (x f).2.1 + kes z e)
    omega
  · rw [qUp_ne (hne v (by omega))]
    have e := qA_sh (z := z) (c := c2) (c2 := c) (a := 0) (b := 0) g2 (qN_M g1)
    exact l7 f hf v v4 (mem _ (fun z => z (Or.inl rfl)) hv) π t g1 g2 g3 (by rw [← Nat.add_right_cancel e]; exact g4)
  · rw [qUp_ne (hne u (by omega))] at hw
    exact l8 f u π w u4 hw
end
-- d3.m5.lean.txt
section
theorem khs_8 {z : qZ} : ∀ {O : List tE}, (∀ e : tE, e ∈ O → ∃ v : Nat, e = (8, v, 0)) → khs z O = 0
  | [], _ => rfl
  | e :: O, h => by
    obtain ⟨v, rfl⟩ := h e (List.mem_cons_self ..)
    show khs z O + 0 = 0
    rw [khs_8 (fun e he => h e (List.mem_cons_of_mem _ he))]
theorem wl_8 : ∀ {O : List tE}, (∀ e : tE, e ∈ O → ∃ v : Nat, e = (8, v, 0)) → wl O = 0
  | [], _ => rfl
  | e :: O, h => by
    obtain ⟨v, rfl⟩ := h e (List.mem_cons_self ..)
    rw [wl_0 (Or.inl rfl)]
    exact wl_8 (fun e he => h e (List.mem_cons_of_mem _ he))
theorem kAk_8 {y : qY} {z : qZ} {c : Nat → Int} {ra : Nat × Nat → Nat} {j B : Nat} : ∀ {O S : List tE}, (∀ e : tE, e ∈ O → ∃ v : Nat, e = (8, v, 0)) → (kAk y z c ra j B (O ++ S) ↔ kAk y z c ra j B S)
  | [], _, _ => Iff.rfl
  | e :: O, S, h => by
    obtain ⟨v, rfl⟩ := h e (List.mem_cons_self ..)
    have := kAk_8 (y := y) (z := z) (c := c) (ra := ra) (j := j) (B := B) (O := O) (S := S) (fun e he => h e (List.mem_cons_of_mem _ he))
    exact ⟨fun q => this.mp q.2, fun q => ⟨trivial, this.mpr q⟩⟩
/-- only the latest frame's variables change -/
theorem kL_var {y : qY} {z : qZ} {vt vo : Nat → Nat → Nat} {vc : Nat → Nat} {tb : Nat → lTb} {hp : Nat} {tk tk2 : Nat → Prop} {c c2 : Nat → Int} {f : Nat} {x : Nat → kFm} {rt ra rt2 ra2 : Nat × Nat → Nat} {V V2 : Nat × Nat → qV} {fb : Nat → Nat} {top : Nat} {fil fil2 : Nat → Nat → Nat → Prop} (hJ : kJ y vt tb f x rt V) (h : kL y z vt vo vc hp tk c f x rt ra V fb top fil) {S2 : List tE} {R2 : Nat → Option lLc} {H2 : Nat → Nat → Prop} {al2 : Nat → Prop} {lo2 : Nat → lLc → Prop} (hn : (x f).2.2.1 = 0) (e1 : ∀ j u : Nat, j ≠ f ∨ 40 ≤ u → rt2 (j, u) = rt (j, u) ∧ ra2 (j, u) = ra (j, u) ∧ V2 (j, u) = V (j, u)) (hR : ∀ u : Nat, 40 ≤ u → R2 u = kR (x f) u) (hS : ∃ O : List tE, (∀ e : tE, e ∈ O → ∃ v : Nat, e = (8, v, 0)) ∧ ((x f).2.1 = O ++ S2 ∨ S2 = O ++ (x f).2.1)) (hmt : ∀ r m : Nat, (5, r, m) ∉ (x f).2.1 ∧ (6, r, m) ∉ (x f).2.1) (q : qMm y z hp tk2 c2 rt2 ra2 V2) (hc : ∀ (j u : Nat) (w : Nat × Nat), j ≠ f ∨ 40 ≤ u → V (j, u) [] = some w → c2 (ra (j, u)) = c (ra (j, u))) (ad : ∀ (j u : Nat) (a : lLc), j ≤ f → kA (x j) u → kR (x j) u = some a → (j = f → 40 ≤ u) → qAd y z c2 rt2 ra2 a = qAd y z c rt ra a) (rv : ∀ (u : Nat) (a : lLc), u < 40 → al2 u → R2 u = some a → (∃ w : Nat × Nat, V2 (f, u) [] = some w) → c2 (ra2 (f, u)) = qAd y z c2 rt2 ra2 a) (v1 : ∀ v : Nat, v < 40 → (8, v, 0) ∈ S2 → ra2 (f, v) = fb f + vo (x f).1 v) (f1 : ∀ j : Nat, j ≠ f → fil2 j = fil j) (f2 : ∀ v : Nat, v < 40 → (8, v, 0) ∈ S2 → ∀ (π : lLc) (t : Nat), qM π → qW y (vt (x f).1 v) π t → y.1 t ≠ 2 → fil2 f v (qA y z c2 (vt (x f).1 v) 0 π) → ∃ w : Nat × Nat, V2 (f, v) π = some w) (n1 : ∀ (u : Nat) (π : lLc) (w : Nat × Nat), u < 40 → V2 (f, u) π = some w → vt (x f).1 u ≠ 0) : kL y z vt vo vc hp tk2 c2 f (kUx x f ((x f).1, S2, 0, R2, H2, al2, lo2, kAn (x f))) rt2 ra2 V2 fb top fil2 := by
  have hL := h
  obtain ⟨l0, l1, l2, l3, l4, l5, l6, l7, l8, l9⟩ := h
  have hf := Nat.le_refl f
  have h8 := hJ.2.2.2.2.2.2.2.2 f hf
  obtain ⟨O, hO, hS⟩ := hS
  have wO := wl_8 hO
  have kO := khs_8 (z := z) hO
  have wS : wl S2 = wl (x f).2.1 := by
    rcases hS with e | e
    · rw [e, wl_app, wO]; omega
    · rw [e, wl_app, wO]; omega
  have kS : khs z S2 = khs z (x f).2.1 := by
    rcases hS with e | e
    · rw [e, khs_app, kO]; omega
    · rw [e, khs_app, kO]; omega
  have mem : ∀ e : tE, e.1 ≠ 8 → e ∈ S2 → e ∈ (x f).2.1 := fun e he hm => by
    rcases hS with z | z
    · rw [z]; exact List.mem_append_right _ hm
    · rw [z] at hm
      rcases List.mem_append.mp hm with q | q
      · obtain ⟨v, rfl⟩ := hO e q
        exact absurd rfl he
      · exact q
  have no300 : ∀ j : Nat, j ≤ f → ∀ w : Nat × Nat, V (j, 300) [] = some w → False := fun j hj w hw => by
    rcases (hJ.2.2.2.2.2.1 j 300 [] w hw).2.1 with ⟨b1, b2⟩ | ⟨b1, b2⟩ | ⟨b1, r2, m, b2⟩ | ⟨r2, m2, i, b1, b2, b3⟩
    · omega
    · have := hJ.2.2.2.2.2.2.2.2 j hj
      omega
    · have h7 := hJ.2.2.2.2.2.2.2.1 j hj r2 m
      rcases b2 with b2 | b2
      · obtain ⟨rfl, -⟩ := h7.1 b2
        exact (hmt r2 m).1 b2
      · obtain ⟨rfl, -⟩ := h7.2 b2
        exact (hmt r2 m).2 b2
    · omega
  refine kL_top hJ hL _ rfl q (fun j u hj => e1 j u (Or.inl hj)) (fun j u w hj hw => hc j u w (Or.inl hj) hw) (fun j u a hj hu ha hw => ?_) (fun u a hu ha hw => ?_) ?_ v1 ?_ f1 f2 n1 (fun r m hm => l9 f hf r m (mem _ (by show (4 : Nat) ≠ 8; decide) hm))
  · rcases hu with hu | hu
    · exact ad j u a (by omega) hu ha (fun q => absurd q (by omega))
    · subst hu
      obtain ⟨w, hw⟩ := hw
      exact (no300 j (by omega) w hw).elim
  · have ha : R2 u = some a := ha
    rcases hu with hu | hu
    · rcases hu with ⟨b1, b2⟩ | ⟨b1, b2⟩
      · exact rv u a b1 b2 ha hw
      · have b2 : u < 40 + wl S2 + 0 := b2
        obtain ⟨a1, a2, a3⟩ := e1 f u (Or.inr b1)
        rw [hR u b1] at ha
        rw [a3] at hw
        have hA : kA (x f) u := Or.inr ⟨b1, by omega⟩
        rw [a2, ad f u a hf hA ha (fun _ => b1), ← l1 f hf u a (Or.inl hA) ha hw]
        obtain ⟨w, hw⟩ := hw
        exact hc f u w (Or.inr b1) hw
    · subst hu
      rw [(e1 f 300 (Or.inr (by omega))).2.2] at hw
      obtain ⟨w, hw⟩ := hw
      exact (no300 f hf w hw).elim
  · show kAk y z c2 ra2 f (fb f + vc (x f).1) S2
    have k0 : kAk y z c2 ra2 f (fb f + vc (x f).1) (x f).2.1 := kAk_cg (hJ.2.2.2.2.1 f hf) (l2 f hf) (fun u hu => (e1 f u (Or.inr (by omega))).2.1) (fun u w h4 _ hw => hc f u w (Or.inr h4) hw)
    rcases hS with e | e
    · rw [e] at k0
      exact (kAk_8 hO).mp k0
    · rw [e]
      exact (kAk_8 hO).mpr k0
  · show top = fb f + vc (x f).1 + khs z S2
    rw [kS]; exact l6
end
-- d3.m6.lean.txt
section
/-- a matched reference's root holds something only where it is matched on -/
theorem k300 {y : qY} {vt : Nat → Nat → Nat} {tb : Nat → lTb} {f : Nat} {x : Nat → kFm} {rt : Nat × Nat → Nat} {V : Nat × Nat → qV} (hJ : kJ y vt tb f x rt V) {j : Nat} {w : Nat × Nat} (hw : V (j, 300) [] = some w) : j = f ∧ ∃ q r m : Nat, (q = 5 ∨ q = 6) ∧ (q, r, m) ∈ (x f).2.1 ∧ kPm y rt V f (tb (x f).1) (x f) q r m := by
  obtain ⟨k0, k1, -⟩ := hJ.2.2.2.2.2.1 j 300 [] w hw
  have h8 := hJ.2.2.2.2.2.2.2.2 j k0
  rcases k1 with ⟨b1, b2⟩ | ⟨b1, b2⟩ | ⟨b1, r2, m, b2⟩ | ⟨r2, m2, i, b1, b2, b3⟩
  · omega
  · omega
  · have h7 := hJ.2.2.2.2.2.2.2.1 j k0 r2 m
    rcases b2 with b2 | b2
    · obtain ⟨rfl, hp⟩ := h7.1 b2
      exact ⟨rfl, 5, r2, m, Or.inl rfl, b2, hp⟩
    · obtain ⟨rfl, hp⟩ := h7.2 b2
      exact ⟨rfl, 6, r2, m, Or.inr rfl, b2, hp⟩
  · omega
/-- a whole place of any frame is written -/
theorem kL_as2 {y : qY} {z : qZ} {vt vo : Nat → Nat → Nat} {vc : Nat → Nat} {tb : Nat → lTb} {hp : Nat} {tk tk2 : Nat → Prop} {c c2 : Nat → Int} {f : Nat} {x : Nat → kFm} {rt ra : Nat × Nat → Nat} {V : Nat × Nat → qV} {fb : Nat → Nat} {top : Nat} {fil : Nat → Nat → Nat → Prop} (hJ : kJ y vt tb f x rt V) (h : kL y z vt vo vc hp tk c f x rt ra V fb top fil) {d : Nat × Nat} {T1 : Nat} {ρ : lLc} {W : qV} (hd4 : d.2 < 40) (hmt : ∀ r m : Nat, (5, r, m) ∉ (x f).2.1 ∧ (6, r, m) ∉ (x f).2.1) (hρ : qW y (rt d) ρ T1) (hfl : qF y (V d) ρ T1) (hW : qFu y T1 W) (hk1 : y.1 T1 ≠ 5 ∧ y.1 T1 ≠ 6) (ha : ∀ (j u : Nat) (b : lLc), j ≤ f → kA (x j) u → kR (x j) u = some b → lCmp b (d :: ρ) → lP b (d :: ρ)) (q : qMm y z hp tk2 c2 rt ra (qUp V d (qG (V d) ρ W))) (hc : ∀ (r : Nat × Nat) (π : lLc) (w : Nat × Nat), V r π = some w → ¬ (r = d ∧ lP ρ π) → c2 (qA y z c (rt r) (ra r) π) = c (qA y z c (rt r) (ra r) π)) : kL y z vt vo vc hp tk2 c2 f x rt ra (qUp V d (qG (V d) ρ W)) fb top fil := by
  obtain ⟨l0, l1, l2, l3, l4, l5, l6, l7, l8, l9⟩ := h
  have own : ∀ (j u : Nat) (w : Nat × Nat), V (j, u) [] = some w → ((j, u) = d → ρ ≠ []) → c2 (ra (j, u)) = c (ra (j, u)) := fun j u w hw hn => hc (j, u) [] w hw (fun q => by
    obtain ⟨s, e⟩ := q.2
    exact hn q.1 (List.append_eq_nil_iff.mp e.symm).1)
  refine ⟨q, fun j hj u a hu ha2 hw => ?_, fun j hj => ?_, l3, l4, l5, l6, fun j hj v v4 hv π t g1 g2 g3 g4 => ?_, fun j u π w u4 hw => ?_, l9⟩
  · have hne : ((j, u) : Nat × Nat) = d → ρ ≠ [] := fun e e2 => by
      rcases hu with hu | hu
      · have := (hJ.2.2.1 j hj u a hu ha2).1
        rw [e] at this
        have hρ2 : T1 = rt d := by rw [e2] at hρ; exact hρ
        rw [← hρ2] at this
        exact this.elim hk1.1 hk1.2
      · rw [← e] at hd4
        have hd4 : u < 40 := hd4
        omega
    have hw2 : ∃ w : Nat × Nat, V (j, u) [] = some w := by
      obtain ⟨w, hw⟩ := hw
      by_cases e : ((j, u) : Nat × Nat) = d
      · rw [e, qUp_eq, qG_out (fun q => hne e (by obtain ⟨s, e3⟩ := q; exact (List.append_eq_nil_iff.mp e3.symm).1))] at hw
        exact ⟨w, by rw [e]; exact hw⟩
      · rw [qUp_ne e] at hw; exact ⟨w, hw⟩
    have l1u := l1 j hj u a hu ha2 hw2
    obtain ⟨w, hw2⟩ := hw2
    rw [own j u w hw2 hne, l1u]
    rcases hu with hu | hu
    · refine congrArg Int.ofNat (qAd_pl hJ.1 (hJ.2.2.1 j hj u a hu ha2).2 (fun _ _ _ => ⟨rfl, rfl⟩) (fun r π π1 w e hw h5 h6 => hc r π1 w hw (fun q => h6 ?_))).symm
      have h7 := ha j u a hj hu ha2 (Or.inr (by rw [e, q.1]; exact lP_consI (lP_tr q.2 h5)))
      rw [e, q.1] at h7
      exact lP_anti h5 (lP_tr (lP_cons h7).2 q.2)
    · subst hu
      obtain ⟨rfl, q2, r2, m, b1, b2, -⟩ := k300 hJ hw2
      rcases b1 with rfl | rfl
      · exact absurd b2 (hmt r2 m).1
      · exact absurd b2 (hmt r2 m).2
  · refine kAk_cg (hJ.2.2.2.2.1 j hj) (l2 j hj) (fun _ _ => rfl) (fun u w h4 _ hw => own j u w hw (fun e => ?_))
    rw [← e] at hd4
    have hd4 : u < 40 := hd4
    omega
  · have e := qA_sh (z := z) (c := c2) (c2 := c) (a := 0) (b := 0) g2 (qN_M g1)
    obtain ⟨w, hw⟩ := l7 j hj v v4 hv π t g1 g2 g3 (by rw [← Nat.add_right_cancel e]; exact g4)
    by_cases e2 : ((j, v) : Nat × Nat) = d
    · subst e2
      rw [qUp_eq]
      exact (qQ_G hρ (by rw [(hJ.2.2.2.2.2.2.1 j hj v v4 hv).1]; exact g2) g1 hW.2 (Or.inl ⟨fun _ => ⟨w, hw⟩, fun z => absurd z g3⟩)).1 g3
    · rw [qUp_ne e2]; exact ⟨w, hw⟩
  · by_cases e2 : ((j, u) : Nat × Nat) = d
    · subst e2
      obtain ⟨τ, w2, hw2⟩ := qF_pl hfl
      exact l8 j u _ w2 u4 hw2
    · rw [qUp_ne e2] at hw
      exact l8 j u π w u4 hw
/-- a call: the arguments lie where the parameters are to be -/
theorem kL_call {y : qY} {z : qZ} {vt vo : Nat → Nat → Nat} {vc : Nat → Nat} {tb : Nat → lTb} {hp : Nat} {tk : Nat → Prop} {c : Nat → Int} {f : Nat} {x : Nat → kFm} {rt ra : Nat × Nat → Nat} {V : Nat × Nat → qV} {fb : Nat → Nat} {top : Nat} {fil fil2 : Nat → Nat → Nat → Prop} (hJ : kJ y vt tb f x rt V) (h : kL y z vt vo vc hp tk c f x rt ra V fb top fil) {g n : Nat} {E r P : List tE} {al2 : Nat → Prop} {lo2 : Nat → lLc → Prop} {H' : Nat → Nat → Prop} {al' : Nat → Prop} {lo' : Nat → lLc → Prop} {An' : Nat → lLc → Nat → Prop} (hS : (x f).2.1 = E ++ r) (hEn : wl E = n) (hn12 : n ≤ 12) (hty : ∀ i : Nat, i < n → rt (f, 40 + wl r + i) = vt g i ∧ ra (f, 40 + wl r + i) = fb f + vc (x f).1 + khs z r + vo g i ∧ qF y (V (f, 40 + wl r + i)) [] (vt g i) ∧ vt g i ≠ 0) (hal : ∀ u : Nat, al2 u → kal (x f) u) (hmt : ∀ r m : Nat, (5, r, m) ∉ (x f).2.1 ∧ (6, r, m) ∉ (x f).2.1) (hP : ∀ e : tE, e ∈ P ↔ ∃ v : Nat, e = (8, v, 0) ∧ v < n) (hf2 : ∀ j : Nat, j ≤ f → fil2 j = fil j) : kL y z vt vo vc hp tk c (f + 1) (kUx (kUx x f ((x f).1, r, n, kR (x f), kH (x f), al2, lo2, kAn (x f))) (f + 1) (g, P, 0, (fun i => if i < n then kR (x f) (40 + wl r + i) else none), H', al', lo', An')) (kCt rt (vt g) f) (kCt ra (fun i => fb f + vc (x f).1 + khs z r + vo g i) f) (kCa V f (wl r) n) (fun j => if j = f + 1 then fb f + vc (x f).1 + khs z r else fb j) (fb f + vc (x f).1 + khs z r + vc g) fil2 := by
  have hL := h
  obtain ⟨l0, l1, l2, l3, l4, l5, l6, l7, l8, l9⟩ := h
  have hf := Nat.le_refl f
  have hwl : wl (x f).2.1 = wl r + n := by rw [hS, wl_app, hEn]; omega
  have h211 := hJ.2.2.2.2.2.2.2.2 f hf
  generalize hXf : (((x f).1, r, n, kR (x f), kH (x f), al2, lo2, kAn (x f)) : kFm) = Xf
  generalize hX : ((g, P, 0, (fun i => if i < n then kR (x f) (40 + wl r + i) else none), H', al', lo', An') : kFm) = X
  generalize hra : (fun i => fb f + vc (x f).1 + khs z r + vo g i) = rg
  have hrg : ∀ i : Nat, rg i = fb f + vc (x f).1 + khs z r + vo g i := fun i => by rw [← hra]
  have xf1 : kUx (kUx x f Xf) (f + 1) X (f + 1) = X := kUx_eq
  have xff : kUx (kUx x f Xf) (f + 1) X f = Xf := by rw [kUx_ne (by omega)]; exact kUx_eq
  have xj : ∀ j : Nat, j < f → kUx (kUx x f Xf) (f + 1) X j = x j := fun j hj => by rw [kUx_ne (by omega), kUx_ne (by omega)]
  have eP : X.2.1 = P := by rw [← hX]
  have eg : X.1 = g := by rw [← hX]
  have er : Xf.2.1 = r := by rw [← hXf]
  have ef : Xf.1 = (x f).1 := by rw [← hXf]
  have fbn : (fun j => if j = f + 1 then fb f + vc (x f).1 + khs z r else fb j) (f + 1) = fb f + vc (x f).1 + khs z r := if_pos rfl
  have fbo : ∀ j : Nat, j ≤ f → (fun j => if j = f + 1 then fb f + vc (x f).1 + khs z r else fb j) j = fb j := fun j hj => if_neg (by omega)
  have hP8 : ∀ e : tE, e ∈ P → ∃ v : Nat, e = (8, v, 0) := fun e he => by
    obtain ⟨v, e1, -⟩ := (hP e).mp he
    exact ⟨v, e1⟩
  have RX : ∀ (u : Nat) (a : lLc), kR X u = some a → u < n ∧ kR (x f) (40 + wl r + u) = some a := fun u a ha => by
    rw [← hX] at ha
    have ha : (if u < n then kR (x f) (40 + wl r + u) else none) = some a := ha
    by_cases c : u < n
    · rw [if_pos c] at ha; exact ⟨c, ha⟩
    · rw [if_neg c] at ha; simp at ha
  have Aa : ∀ u : Nat, u < n → kA (x f) (40 + wl r + u) := fun u hu => Or.inr ⟨by omega, by omega⟩
  have out : ∀ e : tE, e ∈ r → e ∈ (x f).2.1 := fun e he => by rw [hS]; exact List.mem_append_right _ he
  have ads : ∀ (j u : Nat) (a : lLc), j ≤ f → kA (x j) u → kR (x j) u = some a → qAd y z c (kCt rt (vt g) f) (kCt ra rg f) a = qAd y z c rt ra a := fun j u a hj hu ha => by
    obtain ⟨i, v, w, e2, hi⟩ := lIv_fr (hJ.2.1.1 j hj) hu ha
    subst e2
    show qA y z c (kCt rt (vt g) f (i, v)) (kCt ra rg f (i, v)) w = qA y z c (rt (i, v)) (ra (i, v)) w
    rw [kCt_f (by omega), kCt_f (by omega)]
  have no3 : ∀ (j : Nat) (w : Nat × Nat), V (j, 300) [] = some w → False := fun j w hw => by
    obtain ⟨-, q2, r2, m, b1, b2, -⟩ := k300 hJ hw
    rcases b1 with rfl | rfl
    · exact (hmt r2 m).1 b2
    · exact (hmt r2 m).2 b2
  have Vo : ∀ (j u : Nat) (π : lLc) (w : Nat × Nat), j ≠ f + 1 → kCa V f (wl r) n (j, u) π = some w → V (j, u) π = some w ∧ (j = f → u < 40 + wl r ∨ 300 ≤ u) := fun j u π w hj hw => by
    rw [kCa_f hj] at hw
    by_cases e : j = f
    · subst e
      exact ⟨(kCl_some hw).2, fun _ => (kCl_some hw).1⟩
    · rw [kCl_f e] at hw
      exact ⟨hw, fun q => absurd q e⟩
  refine ⟨?_, fun j hj u a hu ha hw => ?_, fun j hj => ?_, fun j hj v v4 hv => ?_, ?_, fun j hj => ?_, ?_, fun j hj v v4 hv π t g1 g2 g3 g4 => ?_, fun j u π w u4 hw => ?_, fun j hj r1 m hm => ?_⟩
  · refine qMm_ren l0 (fun q => if q.1 = f + 1 then (f, 40 + wl r + q.2) else q) (fun q => ?_) (fun q q2 π π2 w w2 hw hw2 e => ?_)
    · obtain ⟨j, u⟩ := q
      by_cases cj : j = f + 1
      · subst cj
        by_cases cn : u < n
        · right
          show kCa V f (wl r) n (f + 1, u) = V (if f + 1 = f + 1 then (f, 40 + wl r + u) else (f + 1, u)) ∧ kCt rt (vt g) f (f + 1, u) = rt (if f + 1 = f + 1 then (f, 40 + wl r + u) else (f + 1, u)) ∧ kCt ra rg f (f + 1, u) = ra (if f + 1 = f + 1 then (f, 40 + wl r + u) else (f + 1, u))
          rw [if_pos rfl, kCa_n cn, kCt_n, kCt_n, hrg]
          exact ⟨rfl, (hty u cn).1.symm, (hty u cn).2.1.symm⟩
        · left
          intro π
          rw [kCa_o cn]
      · by_cases cl : j = f ∧ 40 + wl r ≤ u ∧ u < 300
        · left
          intro π
          rw [kCa_f cj, cl.1]
          exact kCl_in cl.2.1 cl.2.2
        · right
          show kCa V f (wl r) n (j, u) = V (if j = f + 1 then (f, 40 + wl r + u) else (j, u)) ∧ kCt rt (vt g) f (j, u) = rt (if j = f + 1 then (f, 40 + wl r + u) else (j, u)) ∧ kCt ra rg f (j, u) = ra (if j = f + 1 then (f, 40 + wl r + u) else (j, u))
          rw [if_neg cj, kCa_f cj, kCt_f cj, kCt_f cj]
          refine ⟨?_, rfl, rfl⟩
          by_cases e : j = f
          · subst e
            exact kCl_out (by omega)
          · exact kCl_f e
    · obtain ⟨j, u⟩ := q
      obtain ⟨j2, u2⟩ := q2
      have e : (if j = f + 1 then (f, 40 + wl r + u) else (j, u)) = (if j2 = f + 1 then (f, 40 + wl r + u2) else (j2, u2)) := e
      by_cases c1 : j = f + 1
      · rw [if_pos c1] at e
        by_cases c2 : j2 = f + 1
        · rw [if_pos c2] at e
          injection e with e1 e2
          rw [c1, c2, show u = u2 by omega]
        · rw [if_neg c2] at e
          injection e with e1 e2
          have := (Vo j2 u2 π2 w2 c2 hw2).2 e1.symm
          have cn : u < n := by
            by_cases cn : u < n
            · exact cn
            · rw [c1, kCa_o cn] at hw; simp at hw
          omega
      · rw [if_neg c1] at e
        by_cases c2 : j2 = f + 1
        · rw [if_pos c2] at e
          injection e with e1 e2
          have := (Vo j u π w c1 hw).2 e1
          have cn : u2 < n := by
            by_cases cn : u2 < n
            · exact cn
            · rw [c2, kCa_o cn] at hw2; simp at hw2
          omega
        · rw [if_neg c2] at e
          exact e
  · by_cases cj : j = f + 1
    · subst cj
      rw [xf1] at hu ha
      obtain ⟨u1, u2⟩ := RX u a ha
      rw [kCa_n u1] at hw
      rw [kCt_n, hrg, ← (hty u u1).2.1, ads f _ a hf (Aa u u1) u2]
      exact l1 f hf _ a (Or.inl (Aa u u1)) u2 hw
    · rw [kCt_f cj]
      obtain ⟨w, hw⟩ := hw
      have hw2 := (Vo j u [] w cj hw).1
      by_cases e : j = f
      · subst e
        rw [xff] at hu ha
        have ha2 : kR (x j) u = some a := by rw [← hXf] at ha; exact ha
        rcases hu with hu | hu
        · have hA : kA (x j) u := by
            rw [← hXf] at hu
            rcases hu with ⟨b1, b2⟩ | ⟨b1, b2⟩
            · exact Or.inl ⟨b1, hal u b2⟩
            · have b2 : u < 40 + wl r + n := b2
              exact Or.inr ⟨b1, by omega⟩
          rw [ads j u a hf hA ha2]
          exact l1 j hf u a (Or.inl hA) ha2 ⟨w, hw2⟩
        · subst hu
          exact (no3 j w hw2).elim
      · rw [xj j (by omega)] at hu ha
        rcases hu with hu | hu
        · rw [ads j u a (by omega) hu ha]
          exact l1 j (by omega) u a (Or.inl hu) ha ⟨w, hw2⟩
        · subst hu
          exact (no3 j w hw2).elim
  · by_cases cj : j = f + 1
    · subst cj
      rw [xf1, eP]
      have := (kAk_8 (y := y) (z := z) (c := c) (ra := kCt ra rg f) (j := f + 1) (B := (fun j => if j = f + 1 then fb f + vc (x f).1 + khs z r else fb j) (f + 1) + vc X.1) (S := []) hP8).mpr trivial
      rw [List.append_nil] at this
      exact this
    · rw [fbo j (by omega)]
      by_cases e : j = f
      · subst e
        rw [xff, er, ef]
        have hk := l2 j hf
        rw [hS] at hk
        have hk2 : kAk y z c ra j (fb j + vc (x j).1) r := by
          clear hS hEn out
          induction E with
          | nil => exact hk
          | cons e E ih => exact ih hk.2
        have hkk := hJ.2.2.2.2.1 j hf
        rw [hS] at hkk
        have hkk2 : kK y rt V j (x j) r := by
          clear hS hEn out hk hk2
          induction E with
          | nil => exact hkk
          | cons e E ih => exact ih hkk.2
        exact kAk_cg hkk2 hk2 (fun u _ => kCt_f cj) (fun _ _ _ _ _ => rfl)
      · rw [xj j (by omega)]
        exact kAk_cg (hJ.2.2.2.2.1 j (by omega)) (l2 j (by omega)) (fun u _ => kCt_f cj) (fun _ _ _ _ _ => rfl)
  · by_cases cj : j = f + 1
    · subst cj
      rw [xf1, eg, kCt_n, hrg, fbn]
    · rw [kCt_f cj, fbo j (by omega)]
      by_cases e : j = f
      · subst e
        rw [xff] at hv ⊢
        rw [er] at hv
        rw [ef]
        exact l3 j hf v v4 (out _ hv)
      · rw [xj j (by omega)] at hv ⊢
        exact l3 j (by omega) v v4 hv
  · rw [fbo 0 (by omega)]; exact l4
  · by_cases e : j = f
    · subst e
      rw [fbn, fbo j hf, xff, er, ef]
    · rw [fbo j (by omega), fbo (j + 1) (by omega), xj j (by omega)]
      exact l5 j (by omega)
  · rw [fbn, xf1, eg, eP, khs_8 hP8]; rfl
  · by_cases cj : j = f + 1
    · subst cj
      rw [xf1] at hv g2
      rw [eP] at hv
      rw [eg] at g2
      obtain ⟨v2, e3, e4⟩ := (hP _).mp hv
      obtain rfl : v = v2 := by injection e3 with q1 q2; injection q2
      rw [kCa_n e4]
      have := (hty v e4).2.2.1 π t g1 g2
      rw [List.nil_append] at this
      exact this.1 g3
    · rw [kCa_f cj]
      by_cases e : j = f
      · subst e
        rw [xff] at hv g2 g4
        rw [er] at hv
        rw [ef] at g2 g4
        rw [kCl_out (Or.inl (by omega))]
        rw [hf2 j hf] at g4
        exact l7 j hf v v4 (out _ hv) π t g1 g2 g3 g4
      · rw [xj j (by omega)] at hv g2 g4
        rw [kCl_f e]
        rw [hf2 j (by omega)] at g4
        exact l7 j (by omega) v v4 hv π t g1 g2 g3 g4
  · by_cases cj : j = f + 1
    · subst cj
      rw [xf1, eg]
      by_cases cn : u < n
      · exact (hty u cn).2.2.2
      · rw [kCa_o cn] at hw; simp at hw
    · have hw2 := (Vo j u π w cj hw).1
      by_cases e : j = f
      · subst e
        rw [xff, ef]
        exact l8 j u π w u4 hw2
      · have hj : j ≤ f := (hJ.2.2.2.2.2.1 j u π w hw2).1
        rw [xj j (by omega)]
        exact l8 j u π w u4 hw2
  · by_cases cj : j = f + 1
    · subst cj
      rw [xf1, eP] at hm
      obtain ⟨v, e⟩ := hP8 _ hm
      injection e with e1 e2
      exact absurd e1 (by decide)
    · by_cases e : j = f
      · subst e
        rw [xff, er] at hm
        exact l9 j hf r1 m (out _ hm)
      · rw [xj j (by omega)] at hm
        exact l9 j (by omega) r1 m hm
end
-- d3.m7.lean.txt
section
/-- a return: the value lies where the called frame began -/
theorem kL_ret {y : qY} {z : qZ} {vt vo : Nat → Nat → Nat} {vc : Nat → Nat} {tb : Nat → lTb} {hp : Nat} {tk tk2 : Nat → Prop} {c c2 : Nat → Int} {f : Nat} {x : Nat → kFm} {rt ra : Nat × Nat → Nat} {V : Nat × Nat → qV} {fb : Nat → Nat} {top : Nat} {fil : Nat → Nat → Nat → Prop} (hJ : kJ y vt tb (f + 1) x rt V) (h : kL y z vt vo vc hp tk c (f + 1) x rt ra V fb top fil) {e : tE} {t : Nat} {W : qV} {ro : Option lLc} {hd : Nat → Prop} {al2 : Nat → Prop} {lo2 : Nat → lLc → Prop} (he : kNm e) (hal : ∀ u : Nat, al2 u → kal (x f) u) (q : qMm y z hp tk2 c2 (qRt rt (f, 40 + wl (x f).2.1) t) (qRt ra (f, 40 + wl (x f).2.1) (fb (f + 1))) (kRv V f (40 + wl (x f).2.1) W)) (hc : ∀ (r : Nat × Nat) (π : lLc) (w : Nat × Nat), r.1 ≤ f → V r π = some w → c2 (qA y z c (rt r) (ra r) π) = c (qA y z c (rt r) (ra r) π)) (hA : kAe y z c2 (qRt ra (f, 40 + wl (x f).2.1) (fb (f + 1))) f (fb (f + 1)) (wl (x f).2.1) e) (hro : ∀ a : lLc, ro = some a → qTg y rt V a (y.2.1 t) ∧ (∃ (j v : Nat) (s : lLc), a = (j, v) :: s ∧ j ≤ f) ∧ c2 (fb (f + 1)) = qAd y z c rt ra a) : kL y z vt vo vc hp tk2 c2 f (kUx x f ((x f).1, e :: (x f).2.1, 0, lUp (kR (x f)) (40 + wl (x f).2.1) ro, lUp (kH (x f)) (40 + wl (x f).2.1) hd, al2, lo2, kAn (x f))) (qRt rt (f, 40 + wl (x f).2.1) t) (qRt ra (f, 40 + wl (x f).2.1) (fb (f + 1))) (kRv V f (40 + wl (x f).2.1) W) fb (fb (f + 1) + kes z e) fil := by
  obtain ⟨l0, l1, l2, l3, l4, l5, l6, l7, l8, l9⟩ := h
  have hf : f ≤ f + 1 := Nat.le_succ f
  have h8 := hJ.2.2.2.2.2.2.2.2 f hf
  have hwl : wl (e :: (x f).2.1) = wl (x f).2.1 + 1 := wl_n he
  have lf5 := l5 f (Nat.lt_succ_self f)
  generalize hu0 : 40 + wl (x f).2.1 = u0 at *
  generalize hX : (((x f).1, e :: (x f).2.1, 0, lUp (kR (x f)) u0 ro, lUp (kH (x f)) u0 hd, al2, lo2, kAn (x f)) : kFm) = X
  have xff : kUx x f X f = X := kUx_eq
  have xj : ∀ j : Nat, j ≠ f → kUx x f X j = x j := fun j hj => kUx_ne hj
  have e1 : X.1 = (x f).1 := by rw [← hX]
  have e2 : X.2.1 = e :: (x f).2.1 := by rw [← hX]
  have hne : ∀ u : Nat, u ≠ u0 → ((f, u) : Nat × Nat) ≠ (f, u0) := fun u hu q => hu (by injection q)
  have hnj : ∀ j u : Nat, j ≠ f → ((j, u) : Nat × Nat) ≠ (f, u0) := fun j u hj q => hj (by injection q)
  have own : ∀ (j u : Nat) (w : Nat × Nat), j ≤ f → V (j, u) [] = some w → c2 (ra (j, u)) = c (ra (j, u)) := fun j u w hj hw => hc (j, u) [] w hj hw
  have ads : ∀ (a : lLc) (T : Nat), (∃ (j v : Nat) (s : lLc), a = (j, v) :: s ∧ j ≤ f) → qTg y rt V a T → qAd y z c2 (qRt rt (f, u0) t) (qRt ra (f, u0) (fb (f + 1))) a = qAd y z c rt ra a := fun a T ⟨j, v, s, ea, hj⟩ ht => by
    have ht2 := ht
    obtain ⟨r, π, er, hr, -⟩ := ht2
    refine qAd_pl hJ.1 ht (fun r2 π2 e3 => ?_) (fun r2 π2 π1 w e3 hw _ _ => hc r2 π1 w ?_ hw)
    · rw [er] at e3
      injection e3 with e4 e5
      have : r2 ≠ (f, u0) := fun z => by
        rw [e4, z] at hr
        have hr : u0 < 40 := hr
        omega
      exact ⟨qRt_ne this, qRt_ne this⟩
    · rw [ea] at e3
      injection e3 with e4 e5
      rw [← e4]; exact hj
  have no3 : ∀ (j : Nat) (w : Nat × Nat), j ≤ f → V (j, 300) [] = some w → False := fun j w hj hw => by
    obtain ⟨e3, -⟩ := k300 hJ hw
    omega
  refine ⟨q, fun j hj u a hu ha hw => ?_, fun j hj => ?_, fun j hj v v4 hv => ?_, l4, fun j hj => ?_, ?_, fun j hj v v4 hv π t1 g1 g2 g3 g4 => ?_, fun j u π w u4 hw => ?_, fun j hj r1 m hm => ?_⟩
  · by_cases ej : j = f
    · subst ej
      rw [xff] at hu ha
      have ha : lUp (kR (x j)) u0 ro u = some a := by rw [← hX] at ha; exact ha
      by_cases c1 : u = u0
      · rw [c1, lUp_eq] at ha
        obtain ⟨t1, t2, t3⟩ := hro a ha
        rw [c1, qRt_eq, ads a _ t2 t1]
        exact t3
      · rw [lUp_ne c1] at ha
        rw [kRv_ne (by omega) (hne u c1)] at hw
        rw [qRt_ne (hne u c1)]
        rcases hu with hu | hu
        · have hA2 : kA (x j) u := by
            rw [← hX] at hu
            rcases hu with ⟨b1, b2⟩ | ⟨b1, b2⟩
            · exact Or.inl ⟨b1, hal u b2⟩
            · have b2 : u < 40 + wl (e :: (x j).2.1) + 0 := b2
              exact Or.inr ⟨b1, by omega⟩
          obtain ⟨i, v, s, ea, hi⟩ := lIv_fr (hJ.2.1.1 j hf) hA2 ha
          rw [ads a _ ⟨i, v, s, ea, hi⟩ (hJ.2.2.1 j hf u a hA2 ha).2, ← l1 j hf u a (Or.inl hA2) ha hw]
          obtain ⟨w, hw⟩ := hw
          exact own j u w (Nat.le_refl _) hw
        · subst hu
          obtain ⟨w, hw⟩ := hw
          exact (no3 j w (Nat.le_refl _) hw).elim
    · rw [xj j ej] at hu ha
      rw [kRv_ne (by omega) (hnj j u ej)] at hw
      rw [qRt_ne (hnj j u ej)]
      rcases hu with hu | hu
      · obtain ⟨i, v, s, ea, hi⟩ := lIv_fr (hJ.2.1.1 j (by omega)) hu ha
        rw [ads a _ ⟨i, v, s, ea, by omega⟩ (hJ.2.2.1 j (by omega) u a hu ha).2, ← l1 j (by omega) u a (Or.inl hu) ha hw]
        obtain ⟨w, hw⟩ := hw
        exact own j u w hj hw
      · subst hu
        obtain ⟨w, hw⟩ := hw
        exact (no3 j w hj hw).elim
  · by_cases ej : j = f
    · subst ej
      rw [xff, e1, e2]
      refine ⟨?_, kAk_cg (hJ.2.2.2.2.1 j hf) (l2 j hf) (fun u hu => qRt_ne (hne u (by omega))) (fun u w _ _ hw => own j u w (Nat.le_refl _) hw)⟩
      rw [← lf5]; exact hA
    · rw [xj j ej]
      exact kAk_cg (hJ.2.2.2.2.1 j (by omega)) (l2 j (by omega)) (fun u _ => qRt_ne (hnj j u ej)) (fun u w _ _ hw => own j u w hj hw)
  · by_cases ej : j = f
    · subst ej
      rw [xff] at hv ⊢
      rw [e2] at hv
      rw [e1, qRt_ne (hne v (by omega))]
      rcases List.mem_cons.mp hv with z | z
      · exact absurd (Or.inl (by rw [← z])) he
      · exact l3 j hf v v4 z
    · rw [xj j ej] at hv ⊢
      rw [qRt_ne (hnj j v ej)]
      exact l3 j (by omega) v v4 hv
  · rw [xj j (by omega)]
    exact l5 j (by omega)
  · rw [xff, e1, e2]
    show fb (f + 1) + kes z e = fb f + vc (x f).1 + (khs z (x f).2.1 + kes z e)
    omega
  · have e3 := qA_sh (z := z) (c := c2) (c2 := c) (a := 0) (b := 0) g2 (qN_M g1)
    by_cases ej : j = f
    · subst ej
      rw [xff] at hv g2 g4 e3
      rw [e2] at hv
      rw [e1] at g2 g4 e3
      rw [kRv_ne (by omega) (hne v (by omega))]
      rcases List.mem_cons.mp hv with z | z
      · exact absurd (Or.inl (by rw [← z])) he
      · exact l7 j hf v v4 z π t1 g1 g2 g3 (by rw [← Nat.add_right_cancel e3]; exact g4)
    · rw [xj j ej] at hv g2 g4 e3
      rw [kRv_ne (by omega) (hnj j v ej)]
      exact l7 j (by omega) v v4 hv π t1 g1 g2 g3 (by rw [← Nat.add_right_cancel e3]; exact g4)
  · by_cases c0 : j = f + 1
    · subst c0
      rw [kRv_n] at hw; simp at hw
    · by_cases ej : j = f
      · subst ej
        rw [xff, e1]
        rw [kRv_ne c0 (hne u (by omega))] at hw
        exact l8 j u π w u4 hw
      · rw [xj j ej]
        rw [kRv_ne c0 (hnj j u ej)] at hw
        exact l8 j u π w u4 hw
  · by_cases ej : j = f
    · subst ej
      rw [xff, e2] at hm
      rcases List.mem_cons.mp hm with z | z
      · exact absurd (Or.inr (Or.inl (by rw [← z]))) he
      · exact l9 j hf r1 m z
    · rw [xj j ej] at hm
      exact l9 j (by omega) r1 m hm
end
-- d3.m8.lean.txt
section
theorem kTg_top {y : qY} {z : qZ} {c c2 : Nat → Int} {vt : Nat → Nat → Nat} {tb : Nat → lTb} {f : Nat} {x : Nat → kFm} {rt ra rt2 ra2 : Nat × Nat → Nat} {V : Nat × Nat → qV} (hJ : kJ y vt tb f x rt V) (he : ∀ j u : Nat, u < 40 → qPl (V (j, u)) [] → rt2 (j, u) = rt (j, u) ∧ ra2 (j, u) = ra (j, u)) (hc : ∀ (r : Nat × Nat) (π : lLc) (w : Nat × Nat), V r π = some w → c2 (qA y z c (rt r) (ra r) π) = c (qA y z c (rt r) (ra r) π)) {a : lLc} {T : Nat} (ht : qTg y rt V a T) : qAd y z c2 rt2 ra2 a = qAd y z c rt ra a := by
  have ht2 := ht
  obtain ⟨r, π, er, hr, -, hf⟩ := ht2
  refine qAd_pl hJ.1 ht (fun r2 π2 e3 => ?_) (fun r2 π2 π1 w e3 hw _ _ => hc r2 π1 w hw)
  rw [er] at e3
  injection e3 with e4 e5
  subst e4
  obtain ⟨j, u⟩ := r
  obtain ⟨τ, w, hw⟩ := qF_pl hf
  exact he j u hr ⟨π ++ τ, w, hw⟩
theorem kAk_nm {y : qY} {z : qZ} {c c2 : Nat → Int} {rt ra ra2 : Nat × Nat → Nat} {V : Nat × Nat → qV} {j B : Nat} {x : kFm} : ∀ {S : List tE}, kK y rt V j x S → kAk y z c ra j B S → (∀ e : tE, e ∈ S → ¬ (e.1 = 4 ∨ e.1 = 5 ∨ e.1 = 6)) → (∀ u : Nat, 40 ≤ u → u < 40 + wl S → ra2 (j, u) = ra (j, u)) → (∀ (u : Nat) (w : Nat × Nat), 40 ≤ u → u < 40 + wl S → V (j, u) [] = some w → c2 (ra (j, u)) = c (ra (j, u))) → kAk y z c2 ra2 j B S
  | [], _, _, _, _, _ => trivial
  | e :: s, hk, h, hm, h2, h3 => by
    refine ⟨?_, kAk_nm hk.2 h.2 (fun e he => hm e (List.mem_cons_of_mem _ he)) (fun u h4 h5 => h2 u h4 (by have := wl_le (e := e) (s := s); omega)) (fun u w h4 h5 h6 => h3 u w h4 (by have := wl_le (e := e) (s := s); omega) h6)⟩
    have he := hm e (List.mem_cons_self ..)
    have h1 := h.1
    have hk1 := hk.1
    by_cases c8 : e.1 = 8
    · obtain ⟨k, t, n⟩ := e
      have c8 : k = 8 := c8
      subst c8; trivial
    · have hwe : wl (e :: s) = wl s + 1 := wl_n (by rintro (q | q); exact c8 q; exact he q)
      have a1 := h2 (40 + wl s) (by omega) (by omega)
      obtain ⟨k, t, n⟩ := e
      match k, he, c8, h1, hk1 with
      | 0, _, _, h1, _ => exact fun q => a1.trans (h1 q)
      | 1, _, _, h1, _ => exact a1.trans h1
      | 2, _, _, h1, _ => exact a1.trans h1
      | 3, _, _, h1, hk1 =>
        obtain ⟨w, hw⟩ := hk1.2.2
        have := h3 (40 + wl s) w (by omega) (by omega) hw
        rw [h1.1] at this
        exact ⟨a1.trans h1.1, this.trans h1.2⟩
      | 4, he, _, _, _ => exact absurd (Or.inl rfl) he
      | 5, he, _, _, _ => exact absurd (Or.inr (Or.inl rfl)) he
      | 6, he, _, _, _ => exact absurd (Or.inr (Or.inr rfl)) he
      | 7, _, _, h1, _ => exact a1.trans h1
      | k + 8, _, _, _, _ => trivial
/-- a value is matched on -/
theorem kL_sw0 {y : qY} {z : qZ} {vt vo : Nat → Nat → Nat} {vc : Nat → Nat} {tb : Nat → lTb} {hp : Nat} {tk : Nat → Prop} {c : Nat → Int} {f : Nat} {x : Nat → kFm} {rt ra : Nat × Nat → Nat} {V : Nat × Nat → qV} {fb : Nat → Nat} {top : Nat} {fil : Nat → Nat → Nat → Prop} (hy : kYs y z vt vo vc) (hJ : kJ y vt tb f x rt V) (h : kL y z vt vo vc hp tk c f x rt ra V fb top fil) {r : List tE} {sh g m : Nat} (hn : (x f).2.2.1 = 0) (hS : (x f).2.1 = (0, 4 + sh, m) :: r) (hmt : ∀ e : tE, e ∈ r → ¬ (e.1 = 4 ∨ e.1 = 5 ∨ e.1 = 6)) (hg : g < 12) (hk : y.1 (4 + sh) = 3) (hv : V (f, 40 + wl r) [] = some (4 + sh, g)) : kL y z vt vo vc hp tk c f (kUx x f ((x f).1, (4, sh * 12 + g, 0) :: r, 0, kR (x f), kH (x f), kal (x f), klo (x f), kAn (x f))) (kSt rt f (y.2.2.2.2 (4 + sh) g)) (kSt ra f (fun i => ra (f, 40 + wl r) + z.2 (4 + sh) g i)) (kSv V f (wl r) g (y.2.2.2.1 (4 + sh) g)) fb top fil := by
  have hL := h
  obtain ⟨l0, l1, l2, l3, l4, l5, l6, l7, l8, l9⟩ := h
  have hf := Nat.le_refl f
  have h8 := hJ.2.2.2.2.2.2.2.2 f hf
  obtain ⟨e1, e2⟩ := kR_row (sh := sh) hg
  have hwl : wl (x f).2.1 = wl r + 1 := by rw [hS]; exact wl_n (by show ¬ ((0 : Nat) = 8 ∨ (0 : Nat) = 4 ∨ (0 : Nat) = 5 ∨ (0 : Nat) = 6); decide)
  have hwl2 : wl (((4, sh * 12 + g, 0) : tE) :: r) = wl r := wl_0 (Or.inr (Or.inl rfl))
  obtain ⟨w1, w2, w3, w4, w5⟩ := (hJ.1 (f, 40 + wl r)).1 [] _ _ hv
  have hrt : rt (f, 40 + wl r) = 4 + sh := (show 4 + sh = rt (f, 40 + wl r) from w1).symm
  have hk2 := l2 f hf
  rw [hS] at hk2
  have hra : ra (f, 40 + wl r) = fb f + vc (x f).1 + khs z r := hk2.1 (by omega)
  have hkk := hJ.2.2.2.2.1 f hf
  rw [hS] at hkk
  have no4 : ∀ (u : Nat) (π : lLc) (w : Nat × Nat), 300 ≤ u → V (f, u) π = some w → False := fun u π w hu hw => by
    rcases (hJ.2.2.2.2.2.1 f u π w hw).2.1 with ⟨b1, b2⟩ | ⟨b1, b2⟩ | ⟨b1, r2, m2, b2⟩ | ⟨r2, m2, i, b1, b2, b3⟩
    · omega
    · omega
    · rw [hS] at b2
      rcases b2 with b2 | b2
      · rcases List.mem_cons.mp b2 with q | q
        · injection q with q1 q2; exact absurd q1 (by decide)
        · exact hmt _ q (Or.inr (Or.inl rfl))
      · rcases List.mem_cons.mp b2 with q | q
        · injection q with q1 q2; exact absurd q1 (by decide)
        · exact hmt _ q (Or.inr (Or.inr rfl))
    · rw [hS] at b1
      rcases List.mem_cons.mp b1 with q | q
      · injection q with q1 q2; exact absurd q1 (by decide)
      · exact hmt _ q (Or.inl rfl)
  have rt4 : ∀ (s : Nat × Nat → Nat) (p : Nat → Nat) (j u : Nat), u < 40 → kSt s f p (j, u) = s (j, u) := fun s p j u hu => kSt_l (Or.inr (by omega))
  have out : ∀ e : tE, e ∈ r → e ∈ (x f).2.1 := fun e he => by rw [hS]; exact List.mem_cons_of_mem _ he
  have q := (qMm_spl (rt2 := kSt rt f (y.2.2.2.2 (4 + sh) g)) (ra2 := kSt ra f (fun i => ra (f, 40 + wl r) + z.2 (4 + sh) g i)) (V2 := kSv V f (wl r) g (y.2.2.2.1 (4 + sh) g)) hy.1 l0 (s := (f, 40 + wl r)) (t := 4 + sh) (g := g) (fun j => (f, 400 + j)) (fun i j _ _ e => by injection e with e1 e2; omega) hv hk hrt (fun j hj => ⟨kSt_p, kSt_p, kSv_p hj⟩) (fun s => by
    obtain ⟨j, u⟩ := s
    by_cases cj : j = f
    · subst cj
      by_cases c4 : 400 ≤ u
      · obtain ⟨i, rfl⟩ : ∃ i : Nat, u = 400 + i := ⟨u - 400, by omega⟩
        by_cases ci : i < y.2.2.2.1 (4 + sh) g
        · exact Or.inl ⟨i, ci, rfl⟩
        · exact Or.inr (Or.inl (fun π => by rw [kSv_o (by omega)]))
      · by_cases cl : 40 + wl r ≤ u ∧ u < 300
        · exact Or.inr (Or.inl (fun π => by rw [kSv_l (Or.inr (by omega))]; exact kCl_in cl.1 cl.2))
        · refine Or.inr (Or.inr ⟨?_, kSt_l (Or.inr (by omega)), kSt_l (Or.inr (by omega)), fun e => ?_⟩)
          · rw [kSv_l (Or.inr (by omega))]; exact kCl_out (by omega)
          · injection e with e3 e4
            omega
    · refine Or.inr (Or.inr ⟨?_, kSt_l (Or.inl cj), kSt_l (Or.inl cj), fun e => cj (by injection e)⟩)
      rw [kSv_l (Or.inl cj)]; exact kCl_f cj)).1
  have ads : ∀ (a : lLc) (T : Nat), qTg y rt V a T → qAd y z c (kSt rt f (y.2.2.2.2 (4 + sh) g)) (kSt ra f (fun i => ra (f, 40 + wl r) + z.2 (4 + sh) g i)) a = qAd y z c rt ra a := fun a T ht => kTg_top hJ (fun j u hu _ => ⟨rt4 _ _ j u hu, rt4 _ _ j u hu⟩) (fun _ _ _ _ => rfl) ht
  refine kL_top hJ hL _ rfl q (fun j u hj => ⟨kSt_l (Or.inl hj), kSt_l (Or.inl hj), by rw [kSv_l (Or.inl hj)]; exact kCl_f hj⟩) (fun _ _ _ _ _ => rfl) (fun j u a hj hu ha hw => ?_) (fun u a hu ha hw => ?_) ⟨?_, ?_⟩ (fun v v4 hv2 => ?_) ?_ (fun _ _ => rfl) (fun v v4 hv2 π t g1 g2 g3 g4 => ?_) (fun u π w u4 hw => ?_) (fun r1 m1 hm => ?_)
  · rcases hu with hu | hu
    · exact ads a _ (hJ.2.2.1 j (by omega) u a hu ha).2
    · subst hu
      obtain ⟨w, hw⟩ := hw
      obtain ⟨e3, -⟩ := k300 hJ hw
      omega
  · rcases hu with hu | hu
    · have u4 : u < 40 + wl r := by
        rcases hu with ⟨b1, b2⟩ | ⟨b1, b2⟩
        · omega
        · have b2 : u < 40 + wl (((4, sh * 12 + g, 0) : tE) :: r) + 0 := b2
          omega
      have hA : kA (x f) u := by
        rcases hu with ⟨b1, b2⟩ | ⟨b1, b2⟩
        · exact Or.inl ⟨b1, b2⟩
        · exact Or.inr ⟨b1, by omega⟩
      rw [kSv_l (Or.inr (by omega)), kCl_out (Or.inl u4)] at hw
      rw [kSt_l (Or.inr (by omega)), ads a _ (hJ.2.2.1 f hf u a hA ha).2]
      exact l1 f hf u a (Or.inl hA) ha hw
    · subst hu
      obtain ⟨w, hw⟩ := hw
      rw [kSv_l (Or.inr (by omega)), kCl_out (Or.inr (by omega))] at hw
      exact (no4 300 [] w (by omega) hw).elim
  · show kAe y z c (kSt ra f (fun i => ra (f, 40 + wl r) + z.2 (4 + sh) g i)) f (fb f + vc (x f).1 + khs z r) (wl r) (4, sh * 12 + g, 0)
    intro i _ hi
    rw [kSt_p, e1, e2, hra]
  · exact kAk_nm hkk.2 hk2.2 hmt (fun u h4 h5 => kSt_l (Or.inr (by omega))) (fun _ _ _ _ _ => rfl)
  · rw [rt4 _ _ f v v4]
    refine l3 f hf v v4 ?_
    rcases List.mem_cons.mp hv2 with q | q
    · injection q with q1 q2; exact absurd q1 (by decide)
    · exact out _ q
  · show top = fb f + vc (x f).1 + (khs z r + z.1 (4 + (sh * 12 + g) / 12))
    rw [l6, hS, e1]
    show fb f + vc (x f).1 + (khs z r + (if 4 + sh = 0 then 0 else z.1 (4 + sh))) = _
    rw [if_neg (by omega)]
  · rw [kSv_l (Or.inr (by omega)), kCl_out (Or.inl (by omega))]
    refine l7 f hf v v4 ?_ π t g1 g2 g3 g4
    rcases List.mem_cons.mp hv2 with q | q
    · injection q with q1 q2; exact absurd q1 (by decide)
    · exact out _ q
  · rw [kSv_l (Or.inr (by omega)), kCl_out (Or.inl (by omega))] at hw
    exact l8 f u π w u4 hw
  · rcases List.mem_cons.mp hm with q | q
    · injection q with q1 q2
      injection q2 with q3 q4
      rw [q3, e1, e2]
      exact ⟨hk, w3 hk⟩
    · exact absurd (Or.inl rfl) (hmt _ q)
/-- a reference is matched on -/
theorem kL_sw1 {y : qY} {z : qZ} {vt vo : Nat → Nat → Nat} {vc : Nat → Nat} {tb : Nat → lTb} {hp : Nat} {tk : Nat → Prop} {c : Nat → Int} {f : Nat} {x : Nat → kFm} {rt ra : Nat × Nat → Nat} {V : Nat × Nat → qV} {fb : Nat → Nat} {top : Nat} {fil : Nat → Nat → Nat → Prop} (hJ : kJ y vt tb f x rt V) (h : kL y z vt vo vc hp tk c f x rt ra V fb top fil) {r : List tE} {sh g q m : Nat} {a0 : lLc} {hd : Nat → Prop} (hn : (x f).2.2.1 = 0) (hq : q = 1 ∨ q = 2) (hS : (x f).2.1 = (q, 4 + sh, m) :: r) (hmt : ∀ e : tE, e ∈ r → ¬ (e.1 = 4 ∨ e.1 = 5 ∨ e.1 = 6)) (hR : kR (x f) (40 + wl r) = some a0) : kL y z vt vo vc hp tk c f (kUx x f ((x f).1, (q + 4, sh * 12 + g, m) :: r, 0, lUp (kR (x f)) 300 (some a0), lUp (kH (x f)) 300 hd, kal (x f), klo (x f), kAn (x f))) (qRt rt (f, 300) (rt (f, 40 + wl r))) (qRt ra (f, 300) (ra (f, 40 + wl r))) (qUp (kCl V f (wl r)) (f, 300) (V (f, 40 + wl r))) fb top fil := by
  have hL := h
  obtain ⟨l0, l1, l2, l3, l4, l5, l6, l7, l8, l9⟩ := h
  have hf := Nat.le_refl f
  have h8 := hJ.2.2.2.2.2.2.2.2 f hf
  have hnm : kNm (q, 4 + sh, m) := by
    show ¬ (q = 8 ∨ q = 4 ∨ q = 5 ∨ q = 6)
    omega
  have hwl : wl (x f).2.1 = wl r + 1 := by rw [hS]; exact wl_n hnm
  have hmq : (q + 4, sh * 12 + g, m).1 = 8 ∨ (q + 4, sh * 12 + g, m).1 = 4 ∨ (q + 4, sh * 12 + g, m).1 = 5 ∨ (q + 4, sh * 12 + g, m).1 = 6 := by
    show q + 4 = 8 ∨ q + 4 = 4 ∨ q + 4 = 5 ∨ q + 4 = 6
    omega
  have hwl2 : wl (((q + 4, sh * 12 + g, m) : tE) :: r) = wl r := wl_0 hmq
  have hk2 := l2 f hf
  rw [hS] at hk2
  have hra : ra (f, 40 + wl r) = fb f + vc (x f).1 + khs z r := by
    have hk3 := hk2.1
    rcases hq with rfl | rfl
    · exact hk3
    · exact hk3
  have hkk := hJ.2.2.2.2.1 f hf
  rw [hS] at hkk
  have out : ∀ e : tE, e ∈ r → e ∈ (x f).2.1 := fun e he => by rw [hS]; exact List.mem_cons_of_mem _ he
  have hne : ∀ u : Nat, u ≠ 300 → ((f, u) : Nat × Nat) ≠ (f, 300) := fun u hu q => hu (by injection q)
  have hnj : ∀ j u : Nat, j ≠ f → ((j, u) : Nat × Nat) ≠ (f, 300) := fun j u hj q => hj (by injection q)
  have hl4 : ∀ (s : Nat × Nat → Nat) (n j u : Nat), u < 40 → qRt s (f, 300) n (j, u) = s (j, u) := fun s n j u hu => qRt_ne (fun q => by injection q with q1 q2; omega)
  have mem : ∀ e : tE, e.1 ≠ q + 4 → e ∈ ((q + 4, sh * 12 + g, m) : tE) :: r → e ∈ r := fun e he hm => by
    rcases List.mem_cons.mp hm with z | z
    · exact absurd (by rw [z]) he
    · exact z
  have q9 : qMm y z hp tk c (qRt rt (f, 300) (rt (f, 40 + wl r))) (qRt ra (f, 300) (ra (f, 40 + wl r))) (qUp (kCl V f (wl r)) (f, 300) (V (f, 40 + wl r))) := by
    refine qMm_ren l0 (fun s => if s = (f, 300) then (f, 40 + wl r) else s) (fun s => ?_) (fun s s2 π π2 w w2 hw hw2 e => ?_)
    · by_cases e : s = (f, 300)
      · right
        show qUp (kCl V f (wl r)) (f, 300) (V (f, 40 + wl r)) s = V (if s = (f, 300) then (f, 40 + wl r) else s) ∧ qRt rt (f, 300) (rt (f, 40 + wl r)) s = rt (if s = (f, 300) then (f, 40 + wl r) else s) ∧ qRt ra (f, 300) (ra (f, 40 + wl r)) s = ra (if s = (f, 300) then (f, 40 + wl r) else s)
        rw [if_pos e, e, qUp_eq, qRt_eq, qRt_eq]
        exact ⟨rfl, rfl, rfl⟩
      · obtain ⟨j, u⟩ := s
        by_cases cl : j = f ∧ 40 + wl r ≤ u ∧ u < 300
        · left
          intro π
          rw [qUp_ne e, cl.1]
          exact kCl_in cl.2.1 cl.2.2
        · right
          show qUp (kCl V f (wl r)) (f, 300) (V (f, 40 + wl r)) (j, u) = V (if (j, u) = (f, 300) then (f, 40 + wl r) else (j, u)) ∧ qRt rt (f, 300) (rt (f, 40 + wl r)) (j, u) = rt (if (j, u) = (f, 300) then (f, 40 + wl r) else (j, u)) ∧ qRt ra (f, 300) (ra (f, 40 + wl r)) (j, u) = ra (if (j, u) = (f, 300) then (f, 40 + wl r) else (j, u))
          rw [if_neg e, qUp_ne e, qRt_ne e, qRt_ne e]
          refine ⟨?_, rfl, rfl⟩
          by_cases ej : j = f
          · subst ej; exact kCl_out (by omega)
          · exact kCl_f ej
    · have e : (if s = (f, 300) then (f, 40 + wl r) else s) = (if s2 = (f, 300) then (f, 40 + wl r) else s2) := e
      have no : ∀ (s : Nat × Nat) (π : lLc) (w : Nat × Nat), s ≠ (f, 300) → qUp (kCl V f (wl r)) (f, 300) (V (f, 40 + wl r)) s π = some w → s ≠ (f, 40 + wl r) := fun s π w hs hw es => by
        rw [qUp_ne hs, es, kCl_in (by omega) (by omega)] at hw
        simp at hw
      by_cases c1 : s = (f, 300)
      · by_cases c2 : s2 = (f, 300)
        · rw [c1, c2]
        · rw [if_pos c1, if_neg c2] at e
          exact absurd e.symm (no s2 π2 w2 c2 hw2)
      · by_cases c2 : s2 = (f, 300)
        · rw [if_neg c1, if_pos c2] at e
          exact absurd e (no s π w c1 hw)
        · rw [if_neg c1, if_neg c2] at e
          exact e
  have ads : ∀ (a : lLc) (T : Nat), qTg y rt V a T → qAd y z c (qRt rt (f, 300) (rt (f, 40 + wl r))) (qRt ra (f, 300) (ra (f, 40 + wl r))) a = qAd y z c rt ra a := fun a T ht => kTg_top hJ (fun j u hu _ => ⟨hl4 _ _ j u hu, hl4 _ _ j u hu⟩) (fun _ _ _ _ => rfl) ht
  have hAt : kA (x f) (40 + wl r) := Or.inr ⟨by omega, by omega⟩
  refine kL_top hJ hL _ rfl q9 (fun j u hj => ⟨qRt_ne (hnj j u hj), qRt_ne (hnj j u hj), by rw [qUp_ne (hnj j u hj)]; exact kCl_f hj⟩) (fun _ _ _ _ _ => rfl) (fun j u a hj hu ha hw => ?_) (fun u a hu ha hw => ?_) ⟨?_, ?_⟩ (fun v v4 hv2 => ?_) ?_ (fun _ _ => rfl) (fun v v4 hv2 π t g1 g2 g3 g4 => ?_) (fun u π w u4 hw => ?_) (fun r1 m1 hm => ?_)
  · rcases hu with hu | hu
    · exact ads a _ (hJ.2.2.1 j (by omega) u a hu ha).2
    · subst hu
      obtain ⟨w, hw⟩ := hw
      obtain ⟨e3, -⟩ := k300 hJ hw
      omega
  · have ha : lUp (kR (x f)) 300 (some a0) u = some a := ha
    rcases hu with hu | hu
    · have u4 : u < 40 + wl r := by
        rcases hu with ⟨b1, b2⟩ | ⟨b1, b2⟩
        · omega
        · have b2 : u < 40 + wl (((q + 4, sh * 12 + g, m) : tE) :: r) + 0 := b2
          omega
      have hA : kA (x f) u := by
        rcases hu with ⟨b1, b2⟩ | ⟨b1, b2⟩
        · exact Or.inl ⟨b1, b2⟩
        · exact Or.inr ⟨b1, by omega⟩
      rw [lUp_ne (by omega)] at ha
      rw [qUp_ne (hne u (by omega)), kCl_out (Or.inl u4)] at hw
      rw [qRt_ne (hne u (by omega)), ads a _ (hJ.2.2.1 f hf u a hA ha).2]
      exact l1 f hf u a (Or.inl hA) ha hw
    · subst hu
      rw [lUp_eq] at ha
      obtain rfl := Option.some.inj ha
      rw [qUp_eq] at hw
      rw [qRt_eq, ads a0 _ (hJ.2.2.1 f hf _ a0 hAt hR).2]
      exact l1 f hf _ a0 (Or.inl hAt) hR hw
  · rcases hq with rfl | rfl
    · show qRt ra (f, 300) (ra (f, 40 + wl r)) (f, 300) = fb f + vc (x f).1 + khs z r
      rw [qRt_eq]; exact hra
    · show qRt ra (f, 300) (ra (f, 40 + wl r)) (f, 300) = fb f + vc (x f).1 + khs z r
      rw [qRt_eq]; exact hra
  · exact kAk_nm hkk.2 hk2.2 hmt (fun u h4 h5 => qRt_ne (hne u (by omega))) (fun _ _ _ _ _ => rfl)
  · rw [hl4 _ _ f v v4]
    exact l3 f hf v v4 (out _ (mem _ (by show (8 : Nat) ≠ q + 4; omega) hv2))
  · rw [l6, hS]
    rcases hq with rfl | rfl
    · rfl
    · rfl
  · rw [qUp_ne (hne v (by omega)), kCl_out (Or.inl (by omega))]
    exact l7 f hf v v4 (out _ (mem _ (by show (8 : Nat) ≠ q + 4; omega) hv2)) π t g1 g2 g3 g4
  · rw [qUp_ne (hne u (by omega)), kCl_out (Or.inl (by omega))] at hw
    exact l8 f u π w u4 hw
  · exact l9 f hf r1 m1 (out _ (mem _ (by show (4 : Nat) ≠ q + 4; omega) hm))
/-- the matched value is gone -/
theorem kL_popM {y : qY} {z : qZ} {vt vo : Nat → Nat → Nat} {vc : Nat → Nat} {tb : Nat → lTb} {hp : Nat} {tk : Nat → Prop} {c : Nat → Int} {f : Nat} {x : Nat → kFm} {rt ra : Nat × Nat → Nat} {V : Nat × Nat → qV} {fb : Nat → Nat} {top : Nat} {fil : Nat → Nat → Nat → Prop} (hJ : kJ y vt tb f x rt V) (h : kL y z vt vo vc hp tk c f x rt ra V fb top fil) {e : tE} {r : List tE} (hn : (x f).2.2.1 = 0) (hS : (x f).2.1 = e :: r) (he : e.1 = 4 ∨ e.1 = 5 ∨ e.1 = 6) (hmt : ∀ e : tE, e ∈ r → ¬ (e.1 = 4 ∨ e.1 = 5 ∨ e.1 = 6)) : kL y z vt vo vc hp tk c f (kUx x f ((x f).1, r, 0, kR (x f), kH (x f), kal (x f), klo (x f), kAn (x f))) rt ra (kC3 V f) fb (fb f + vc (x f).1 + khs z r) fil := by
  have hL := h
  obtain ⟨l0, l1, l2, l3, l4, l5, l6, l7, l8, l9⟩ := h
  have hf := Nat.le_refl f
  have h8 := hJ.2.2.2.2.2.2.2.2 f hf
  have hwl : wl (x f).2.1 = wl r := by rw [hS]; exact wl_0 (Or.inr he)
  have hk2 := l2 f hf
  rw [hS] at hk2
  have hkk := hJ.2.2.2.2.1 f hf
  rw [hS] at hkk
  have out : ∀ e : tE, e ∈ r → e ∈ (x f).2.1 := fun e he => by rw [hS]; exact List.mem_cons_of_mem _ he
  have q9 : qMm y z hp tk c rt ra (kC3 V f) := by
    refine qMm_sub l0 (fun s => ?_) (fun s π w hw => ?_)
    · obtain ⟨j, u⟩ := s
      by_cases c1 : j = f ∧ 300 ≤ u
      · rw [c1.1, kC3_in c1.2]; exact qOk_none
      · rw [kC3_out (by omega)]; exact hJ.1 _
    · obtain ⟨j, u⟩ := s
      by_cases c1 : j = f ∧ 300 ≤ u
      · rw [c1.1, kC3_in c1.2] at hw; simp at hw
      · rw [kC3_out (by omega)] at hw; exact hw
  refine kL_top hJ hL _ rfl q9 (fun j u hj => ⟨rfl, rfl, kC3_out (Or.inl hj)⟩) (fun _ _ _ _ _ => rfl) (fun _ _ _ _ _ _ _ => rfl) (fun u a hu ha hw => ?_) ?_ (fun v v4 hv2 => l3 f hf v v4 (out _ hv2)) rfl (fun _ _ => rfl) (fun v v4 hv2 π t g1 g2 g3 g4 => ?_) (fun u π w u4 hw => ?_) (fun r1 m1 hm => l9 f hf r1 m1 (out _ hm))
  · by_cases c1 : 300 ≤ u
    · obtain ⟨w, hw⟩ := hw
      rw [kC3_in c1] at hw; simp at hw
    · rw [kC3_out (Or.inr (by omega))] at hw
      refine l1 f hf u a ?_ ha hw
      rcases hu with hu | hu
      · exact Or.inl (kA_al (x := x f) hwl.symm hn hu id)
      · exact Or.inr hu
  · exact kAk_nm hkk.2 hk2.2 hmt (fun _ _ _ => rfl) (fun _ _ _ _ _ => rfl)
  · rw [kC3_out (Or.inr (by omega))]
    exact l7 f hf v v4 (out _ hv2) π t g1 g2 g3 g4
  · rw [kC3_out (Or.inr (by omega))] at hw
    exact l8 f u π w u4 hw
end
