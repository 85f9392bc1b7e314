/-- the address of a place -/
def qAd (y : qY) (z : qZ) (c : Nat → Int) (rt ra : Nat × Nat → Nat) : lLc → Nat
  | [] => 0
  | r :: π => qA y z c (rt r) (ra r) π
/-- variables of a function: types, offsets, cells: inside and apart -/
def kFt (z : qZ) (vt vo : Nat → Nat → Nat) (vc : Nat → Nat) : Prop := (∀ g v : Nat, v < 40 → vt g v ≠ 0 → vo g v + z.1 (vt g v) ≤ vc g) ∧ ∀ g v w : Nat, v < 40 → w < 40 → v ≠ w → vt g v ≠ 0 → vt g w ≠ 0 → vo g v + z.1 (vt g v) ≤ vo g w ∨ vo g w + z.1 (vt g w) ≤ vo g v
/-- cells: fb where frames begin, fil which cells of a frame's variables are told to have a value -/
def kL (y : qY) (z : qZ) (vt vo : Nat → Nat → Nat) (vc : Nat → Nat) (hp : Nat) (tk : Nat → Prop) (c : Nat → Int) (f : Nat) (x : Nat → kFm) (rt ra : Nat × Nat → Nat) (V : Nat × Nat → qV) (fb : Nat → Nat) (top : Nat) (fil : Nat → Nat → Nat → Prop) : Prop :=
  qMm y z hp tk c rt ra V ∧
  (∀ j : Nat, j ≤ f → ∀ (u : Nat) (a : lLc), (kA (x j) u ∨ u = 300) → kR (x j) u = some a → (∃ w : Nat × Nat, V (j, u) [] = some w) → c (ra (j, u)) = qAd y z c rt ra a) ∧
  (∀ j : Nat, j ≤ f → kAk y z c ra j (fb j + vc (x j).1) (x j).2.1) ∧
  (∀ j : Nat, j ≤ f → ∀ v : Nat, v < 40 → (8, v, 0) ∈ (x j).2.1 → ra (j, v) = fb j + vo (x j).1 v) ∧
  fb 0 = hp ∧ (∀ j : Nat, j < f → fb (j + 1) = fb j + vc (x j).1 + khs z (x j).2.1) ∧ top = fb f + vc (x f).1 + khs z (x f).2.1 ∧
  (∀ j : Nat, j ≤ f → ∀ v : Nat, v < 40 → (8, v, 0) ∈ (x j).2.1 → ∀ (π : lLc) (t : Nat), qM π → qW y (vt (x j).1 v) π t → y.1 t ≠ 2 → fil j v (qA y z c (vt (x j).1 v) 0 π) → ∃ w : Nat × Nat, V (j, v) π = some w) ∧
  (∀ (j u : Nat) (π : lLc) (w : Nat × Nat), u < 40 → V (j, u) π = some w → vt (x j).1 u ≠ 0) ∧
  (∀ j : Nat, j ≤ f → ∀ r m : Nat, (4, r, m) ∈ (x j).2.1 → y.1 (4 + r / 12) = 3 ∧ r % 12 < y.2.2.1 (4 + r / 12))
/-- what lies in a root of frame j lies in the frame -/
theorem kLo {y : qY} {z : qZ} {vt vo : Nat → Nat → Nat} {vc : Nat → Nat} {tb : Nat → lTb} {hp : Nat} {tk : Nat → Prop} {c : Nat → Int} {f : Nat} {x : Nat → kFm} {rt ra : Nat × Nat → Nat} {V : Nat × Nat → qV} {fb : Nat → Nat} {top : Nat} {fil : Nat → Nat → Nat → Prop} (hz : qLy y z) (hz1 : qZ1 z) (hft : kFt z vt vo vc) (hJ : kJ y vt tb f x rt V) (h : kL y z vt vo vc hp tk c f x rt ra V fb top fil) {j u : Nat} {π : lLc} {w : Nat × Nat} (hv : V (j, u) π = some w) : j ≤ f ∧ (u < 40 → ra (j, u) = fb j + vo (x j).1 u ∧ rt (j, u) = vt (x j).1 u ∧ (8, u, 0) ∈ (x j).2.1 ∧ ra (j, u) + z.1 (rt (j, u)) ≤ fb j + vc (x j).1) ∧ (40 ≤ u → fb j + vc (x j).1 ≤ ra (j, u) ∧ ra (j, u) + z.1 (rt (j, u)) ≤ fb j + vc (x j).1 + khs z (x j).2.1) := by
  obtain ⟨h0, h1, h2, h3, h4, h5, h6, h7, h8⟩ := hJ
  obtain ⟨l0, l1, l2, l3, l4, l5, l6, l7, l8, l9⟩ := h
  obtain ⟨k0, k1, k2⟩ := h5 j u π w hv
  refine ⟨k0, fun u4 => ?_, fun u4 => ?_⟩
  · have hm : (8, u, 0) ∈ (x j).2.1 := by
      rcases k1 with ⟨a, b⟩ | ⟨a, b⟩ | ⟨a, b⟩ | ⟨r2, m2, i, a, b, b2⟩
      · exact b
      · omega
      · omega
      · omega
    have e1 := l3 j k0 u u4 hm
    have e2 := k2 u4
    have e3 := hft.1 (x j).1 u u4 (l8 j u π w u4 hv)
    exact ⟨e1, e2, hm, by rw [e1, e2]; omega⟩
  · refine kAk_at hz hz1 h0 (fun r m hm => l9 j k0 r m hm) hv (fun e he => he) (h4 j k0) (l2 j k0) ?_ (h8 j k0)
    rcases k1 with ⟨a, b⟩ | ⟨a, b⟩ | ⟨a, r, m, b⟩ | ⟨r2, m2, i, a, b, b2⟩
    · omega
    · exact Or.inl ⟨a, b⟩
    · exact Or.inr (Or.inl ⟨a, r, m, b⟩)
    · exact Or.inr (Or.inr ⟨r2, m2, i, a, b, b2⟩)
theorem kFb {z : qZ} {vc : Nat → Nat} {x : Nat → kFm} {fb : Nat → Nat} {f : Nat} (h : ∀ j : Nat, j < f → fb (j + 1) = fb j + vc (x j).1 + khs z (x j).2.1) : ∀ {i j : Nat}, i < j → j ≤ f → fb i + vc (x i).1 + khs z (x i).2.1 ≤ fb j
  | i, 0, h1, _ => absurd h1 (Nat.not_lt_zero i)
  | i, j + 1, h1, h2 => by
    by_cases e : i = j
    · rw [e, h j (by omega)]; exact Nat.le_refl _
    · have := kFb h (i := i) (j := j) (by omega) (by omega)
      rw [h j (by omega)]; omega
theorem kFb0 {z : qZ} {vc : Nat → Nat} {x : Nat → kFm} {fb : Nat → Nat} {f : Nat} (h : ∀ j : Nat, j < f → fb (j + 1) = fb j + vc (x j).1 + khs z (x j).2.1) : ∀ {j : Nat}, j ≤ f → fb 0 ≤ fb j
  | 0, _ => Nat.le_refl _
  | j + 1, h2 => by
    have := kFb0 h (j := j) (by omega)
    rw [h j (by omega)]; omega
/-- what lies in roots ends by top; and by fb f if it isn't the latest frame's -/
theorem kTop {y : qY} {z : qZ} {vt vo : Nat → Nat → Nat} {vc : Nat → Nat} {tb : Nat → lTb} {hp : Nat} {tk : Nat → Prop} {c : Nat → Int} {f : Nat} {x : Nat → kFm} {rt ra : Nat × Nat → Nat} {V : Nat × Nat → qV} {fb : Nat → Nat} {top : Nat} {fil : Nat → Nat → Nat → Prop} (hz : qLy y z) (hz1 : qZ1 z) (hft : kFt z vt vo vc) (hJ : kJ y vt tb f x rt V) (h : kL y z vt vo vc hp tk c f x rt ra V fb top fil) {r : Nat × Nat} {π : lLc} {w : Nat × Nat} (hv : V r π = some w) : hp ≤ ra r ∧ ra r + z.1 (rt r) ≤ top ∧ (r.1 ≠ f → ra r + z.1 (rt r) ≤ fb f) ∧ (r.1 = f → fb f ≤ ra r) := by
  obtain ⟨j, u⟩ := r
  obtain ⟨k0, k1, k2⟩ := kLo hz hz1 hft hJ h hv
  obtain ⟨l0, l1, l2, l3, l4, l5, l6, l7, l8, l9⟩ := h
  have hb : fb j ≤ ra (j, u) ∧ ra (j, u) + z.1 (rt (j, u)) ≤ fb j + vc (x j).1 + khs z (x j).2.1 := by
    by_cases c : u < 40
    · obtain ⟨a1, a2, a3, a4⟩ := k1 c
      exact ⟨by omega, by omega⟩
    · obtain ⟨a1, a2⟩ := k2 (by omega)
      exact ⟨by omega, a2⟩
  have h0 := kFb0 l5 k0
  by_cases e : j = f
  · subst e
    exact ⟨by omega, by omega, fun q => absurd rfl q, fun _ => hb.1⟩
  · have := kFb l5 (i := j) (j := f) (by omega) (Nat.le_refl _)
    exact ⟨by omega, by omega, fun _ => by omega, fun q => absurd q e⟩
theorem kAe_cg {y : qY} {z : qZ} {c c2 : Nat → Int} {ra ra2 : Nat × Nat → Nat} {j A n : Nat} : ∀ {e : tE}, kAe y z c ra j A n e → (∀ u : Nat, u = 40 + n ∨ 300 ≤ u → ra2 (j, u) = ra (j, u)) → (∀ g m : Nat, e = (3, g, m) → c2 A = c A) → kAe y z c2 ra2 j A n e
  | (0, t, m), h, e, _ => fun q => (e _ (Or.inl rfl)).trans (h q)
  | (1, t, m), h, e, _ => (e _ (Or.inl rfl)).trans h
  | (2, t, m), h, e, _ => (e _ (Or.inl rfl)).trans h
  | (3, t, m), h, e, hc => ⟨(e _ (Or.inl rfl)).trans h.1, (hc t m rfl).trans h.2⟩
  | (4, r, m), h, e, _ => fun i h1 h2 => (e _ (Or.inr (by omega))).trans (h i h1 h2)
  | (5, t, m), h, e, _ => (e _ (Or.inr (by omega))).trans h
  | (6, t, m), h, e, _ => (e _ (Or.inr (by omega))).trans h
  | (7, t, m), h, e, _ => (e _ (Or.inl rfl)).trans h
  | (k + 8, t, m), _, _, _ => trivial
/-- the same entries: ra as it was, tags as they were -/
theorem kAk_cg {y : qY} {z : qZ} {c c2 : Nat → Int} {rt ra ra2 : Nat × Nat → Nat} {V : Nat × Nat → qV} {j B : Nat} {x : kFm} : ∀ {S : List tE}, kK y rt V j x S → kAk y z c ra j B S → (∀ u : Nat, (40 ≤ u ∧ u < 40 + wl S) ∨ 300 ≤ u → ra2 (j, u) = ra (j, u)) → (∀ (u : Nat) (w : Nat × Nat), 40 ≤ u → u < 40 + wl S → V (j, u) [] = some w → c2 (ra (j, u)) = c (ra (j, u))) → kAk y z c2 ra2 j B S
  | [], _, _, _, _ => trivial
  | e :: s, hk, h, h2, h3 => by
    refine ⟨?_, kAk_cg hk.2 h.2 (fun u hu => h2 u (hu.imp (fun z => ⟨z.1, by have := wl_le (e := e) (s := s); omega⟩) id)) (fun u w h4 h5 h6 => h3 u w h4 (by have := wl_le (e := e) (s := s); omega) h6)⟩
    by_cases he : e.1 = 8 ∨ e.1 = 4 ∨ e.1 = 5 ∨ e.1 = 6
    · obtain ⟨k, t, m⟩ := e
      have h1 := h.1
      match k, he, h1, h2 with
      | 0, he, _, _ => exact absurd he (by show ¬ ((0 : Nat) = 8 ∨ (0 : Nat) = 4 ∨ (0 : Nat) = 5 ∨ (0 : Nat) = 6); decide)
      | 1, he, _, _ => exact absurd he (by show ¬ ((1 : Nat) = 8 ∨ (1 : Nat) = 4 ∨ (1 : Nat) = 5 ∨ (1 : Nat) = 6); decide)
      | 2, he, _, _ => exact absurd he (by show ¬ ((2 : Nat) = 8 ∨ (2 : Nat) = 4 ∨ (2 : Nat) = 5 ∨ (2 : Nat) = 6); decide)
      | 3, he, _, _ => exact absurd he (by show ¬ ((3 : Nat) = 8 ∨ (3 : Nat) = 4 ∨ (3 : Nat) = 5 ∨ (3 : Nat) = 6); decide)
      | 4, _, h1, h2 => exact fun i h4 h5 => (h2 _ (Or.inr (by omega))).trans (h1 i h4 h5)
      | 5, _, h1, h2 => exact (h2 300 (Or.inr (by omega))).trans h1
      | 6, _, h1, h2 => exact (h2 300 (Or.inr (by omega))).trans h1
      | 7, he, _, _ => exact absurd he (by show ¬ ((7 : Nat) = 8 ∨ (7 : Nat) = 4 ∨ (7 : Nat) = 5 ∨ (7 : Nat) = 6); decide)
      | k + 8, _, _, _ => exact trivial
    · have hwn := wl_n (s := s) he
      refine kAe_cg h.1 (fun u hu => h2 u (hu.imp (fun z => ⟨by omega, by omega⟩) id)) (fun g m e2 => ?_)
      subst e2
      have h1 := h.1.1
      have hk1 := hk.1
      obtain ⟨w, hw⟩ := hk1.2.2
      have := h3 (40 + wl s) w (by omega) (by omega) hw
      rw [h1] at this
      exact this
