/-- plain types, references -/
def yB (y : qY) : Prop := (∀ t : Nat, t < 4 → y.1 t = 0) ∧ (∀ t : Nat, 10000 ≤ t → y.1 t ≠ 2 ∧ y.1 t ≠ 3 ∧ y.1 t ≠ 4) ∧ qCr y ∧ qRf y
section PS49
variable {y : qY} {vt : Nat → Nat → Nat} {tb : Nat → lTb} {zn sz rk : Nat → Nat} {M : nM} {f : Nat} {x : Nat → kFm} {rt : Nat × Nat → Nat} {V : Nat × Nat → qV} {bs : Nat → Nat} {S : Sg} {al al2 : Nat → Prop} {n : Nat} {e e2 : tE} {s t : List tE}
theorem eps_b {p : Prop} : (Classical.epsilon (fun b : Bool => b = true ↔ p) = true) ↔ p := by
  have h := Classical.epsilon_spec (p := fun b : Bool => b = true ↔ p) (by
    by_cases q : p
    · exact ⟨true, fun _ => q, fun _ => rfl⟩
    · exact ⟨false, (fun w => by cases w), fun w => absurd w q⟩)
  exact h
theorem trE_d (h1 : e.1 = 1 ∨ e.1 = 2) (h2 : e.2.2 = 0) (h3 : ¬ al (40 + n)) : trE al n e = (0, 1, 0) := if_pos ⟨h1, h2, eps_b.mpr h3⟩
theorem trE_r (h1 : e.1 = 1 ∨ e.1 = 2) (h2 : e.2.2 ≠ 0 ∨ al (40 + n)) : trE al n e = e := by
  unfold trE
  rw [if_neg (fun w => h2.elim (fun z => z w.2.1) (fun z => (eps_b (p := ¬ al (40 + n))).mp w.2.2 z)), if_neg (by omega), if_neg (by omega)]
theorem trE_3 (h : e.1 = 3) : trE al n e = (0, e.2.1 / 12, 0) := by
  unfold trE
  rw [if_neg (fun w => by have := w.1; omega), if_pos h]
theorem trE_56 (h : e.1 = 5 ∨ e.1 = 6) : trE al n e = (e.1, e.2.1, 64 * (e.2.2 % 64)) := by
  unfold trE
  rw [if_neg (fun w => by have := w.1; omega), if_neg (by omega), if_pos h]
theorem trE_o (h1 : e.1 ≠ 1) (h2 : e.1 ≠ 2) (h3 : e.1 ≠ 3) (h5 : e.1 ≠ 5) (h6 : e.1 ≠ 6) : trE al n e = e := by
  unfold trE
  rw [if_neg (fun w => by have := w.1; omega), if_neg h3, if_neg (by omega)]
theorem trE_n : ((trE al n e).1 = 8 ∨ (trE al n e).1 = 4 ∨ (trE al n e).1 = 5 ∨ (trE al n e).1 = 6) ↔ (e.1 = 8 ∨ e.1 = 4 ∨ e.1 = 5 ∨ e.1 = 6) := by
  by_cases h1 : e.1 = 1 ∨ e.1 = 2
  · by_cases h2 : e.2.2 = 0 ∧ ¬ al (40 + n)
    · rw [trE_d h1 h2.1 h2.2]
      constructor
      · intro w; have w : (0 : Nat) = 8 ∨ (0 : Nat) = 4 ∨ (0 : Nat) = 5 ∨ (0 : Nat) = 6 := w; omega
      · intro w; omega
    · rw [trE_r h1 (by by_cases q : e.2.2 = 0; exact Or.inr (Classical.byContradiction (fun z => h2 ⟨q, z⟩)); exact Or.inl q)]
  · by_cases h3 : e.1 = 3
    · rw [trE_3 h3]
      constructor
      · intro w; have w : (0 : Nat) = 8 ∨ (0 : Nat) = 4 ∨ (0 : Nat) = 5 ∨ (0 : Nat) = 6 := w; omega
      · intro w; omega
    · by_cases h5 : e.1 = 5 ∨ e.1 = 6
      · rw [trE_56 h5]
      · rw [trE_o (by omega) (by omega) h3 (by omega) (by omega)]
theorem trL_wl : ∀ {s : List tE}, wl (trL al s) = wl s
  | [] => rfl
  | e :: s => by
    show wl (trL al s) + (if (trE al (wl s) e).1 = 8 ∨ (trE al (wl s) e).1 = 4 ∨ (trE al (wl s) e).1 = 5 ∨ (trE al (wl s) e).1 = 6 then 0 else 1) = wl s + (if e.1 = 8 ∨ e.1 = 4 ∨ e.1 = 5 ∨ e.1 = 6 then 0 else 1)
    rw [trL_wl]
    by_cases q : e.1 = 8 ∨ e.1 = 4 ∨ e.1 = 5 ∨ e.1 = 6
    · rw [if_pos q, if_pos (trE_n.mpr q)]
    · rw [if_neg q, if_neg (fun w => q (trE_n.mp w))]
theorem trL_8 {v : Nat} : ∀ {s : List tE}, (8, v, 0) ∈ trL al s ↔ (8, v, 0) ∈ s
  | [] => Iff.rfl
  | e :: s => by
    show (8, v, 0) ∈ trE al (wl s) e :: trL al s ↔ _
    rw [List.mem_cons, List.mem_cons, trL_8 (s := s)]
    refine or_congr ?_ Iff.rfl
    by_cases h8 : e.1 = 8
    · rw [trE_o (by omega) (by omega) (by omega) (by omega) (by omega)]
    · constructor
      · intro w
        have h := congrArg Prod.fst w
        have h : 8 = (trE al (wl s) e).1 := h
        have h2 := (trE_n (al := al) (n := wl s) (e := e)).mp (Or.inl h.symm)
        rcases h2 with z | z | z | z
        · exact absurd z h8
        · rw [trE_o (by omega) (by omega) (by omega) (by omega) (by omega)] at h; omega
        · rw [trE_56 (Or.inl z)] at h; have h : 8 = e.1 := h; omega
        · rw [trE_56 (Or.inr z)] at h; have h : 8 = e.1 := h; omega
      · intro w; rw [← w] at h8; exact absurd rfl h8
/-- where no place is matched on, none is -/
theorem trL_4 : ∀ {s : List tE}, (∀ e ∈ s, ¬ (e.1 = 4 ∨ e.1 = 5 ∨ e.1 = 6)) → ∀ e ∈ trL al s, ¬ (e.1 = 4 ∨ e.1 = 5 ∨ e.1 = 6)
  | [], _, e, h => by cases h
  | a :: s, q, e, h => by
    rcases List.mem_cons.mp h with w | w
    · rw [w]
      intro z
      have := (trE_n (al := al) (n := wl s) (e := a)).mp (Or.inr z)
      have hq := q a (List.mem_cons_self ..)
      rcases this with z8 | z2
      · rw [trE_o (by omega) (by omega) (by omega) (by omega) (by omega)] at z; omega
      · exact hq z2
    · exact trL_4 (fun e he => q e (List.mem_cons_of_mem a he)) e w
/-- an entry is told as the running sees it -/
theorem trE_w (h : wkE e e2) (h3 : e.1 ≠ 3) (h5 : e.1 ≠ 5) (h6 : e.1 ≠ 6) : wkE e (trE al2 n e2) := by
  rcases h with h | ⟨t2, h1, h2, h4⟩
  · subst h
    by_cases q : (e2.1 = 1 ∨ e2.1 = 2) ∧ e2.2.2 = 0 ∧ ¬ al2 (40 + n)
    · rw [trE_d q.1 q.2.1 q.2.2]
      refine Or.inr ⟨1, Or.inl rfl, rfl, Or.inr ⟨e2.2.1, ?_⟩⟩
      obtain ⟨a, b, c⟩ := e2
      obtain ⟨q1, q2, _⟩ := q
      have q2 : c = 0 := q2
      subst q2
      rcases q1 with q1 | q1
      · have q1 : a = 1 := q1
        subst q1; exact Or.inl rfl
      · have q1 : a = 2 := q1
        subst q1; exact Or.inr rfl
    · by_cases w : e2.1 = 1 ∨ e2.1 = 2
      · rw [trE_r w (by by_cases z : e2.2.2 = 0; exact Or.inr (Classical.byContradiction (fun z2 => q ⟨w, z, z2⟩)); exact Or.inl z)]; exact Or.inl rfl
      · rw [trE_o (by omega) (by omega) h3 h5 h6]; exact Or.inl rfl
  · subst h2
    rw [trE_o (by show (0 : Nat) ≠ 1; decide) (by show (0 : Nat) ≠ 2; decide) (by show (0 : Nat) ≠ 3; decide) (by show (0 : Nat) ≠ 5; decide) (by show (0 : Nat) ≠ 6; decide)]
    exact Or.inr ⟨t2, h1, rfl, h4⟩
theorem trE_t (h : wkE e e2) (ha : al2 (40 + n) → al (40 + n)) : wkE (trE al n e) (trE al2 n e2) := by
  by_cases h3 : e.1 = 3 ∨ e.1 = 5 ∨ e.1 = 6
  · have he : e2 = e := by
      rcases h with h | ⟨t2, h1, h2, ⟨t, _, h4⟩ | ⟨T, h4 | h4⟩⟩
      · exact h
      · rw [h4] at h3; have h3 : (0 : Nat) = 3 ∨ (0 : Nat) = 5 ∨ (0 : Nat) = 6 := h3; omega
      · rw [h4] at h3; have h3 : (1 : Nat) = 3 ∨ (1 : Nat) = 5 ∨ (1 : Nat) = 6 := h3; omega
      · rw [h4] at h3; have h3 : (2 : Nat) = 3 ∨ (2 : Nat) = 5 ∨ (2 : Nat) = 6 := h3; omega
    subst he
    rcases h3 with w | w
    · rw [trE_3 w, trE_3 w]; exact Or.inl rfl
    · rw [trE_56 w, trE_56 w]; exact Or.inl rfl
  · by_cases q : (e.1 = 1 ∨ e.1 = 2) ∧ e.2.2 = 0 ∧ ¬ al (40 + n)
    · rw [trE_d q.1 q.2.1 q.2.2]
      have q2 : ¬ al2 (40 + n) := fun w => q.2.2 (ha w)
      have p0 : ∃ t : Nat, (t = 1 ∨ t = 2 ∨ t = 3) ∧ ((0, 1, 0) : tE) = (0, t, 0) := ⟨1, Or.inl rfl, rfl⟩
      rcases h with h | ⟨t2, h1, h2, h4⟩
      · subst h
        rw [trE_d q.1 q.2.1 q2]; exact Or.inl rfl
      · subst h2
        rw [trE_o (by show (0 : Nat) ≠ 1; decide) (by show (0 : Nat) ≠ 2; decide) (by show (0 : Nat) ≠ 3; decide) (by show (0 : Nat) ≠ 5; decide) (by show (0 : Nat) ≠ 6; decide)]
        exact Or.inr ⟨t2, h1, rfl, Or.inl p0⟩
    · have e1 : trE al n e = e := by
        by_cases w : e.1 = 1 ∨ e.1 = 2
        · exact trE_r w (by by_cases z : e.2.2 = 0; exact Or.inr (Classical.byContradiction (fun z2 => q ⟨w, z, z2⟩)); exact Or.inl z)
        · exact trE_o (by omega) (by omega) (by omega) (by omega) (by omega)
      rw [e1]
      exact trE_w h (by omega) (by omega) (by omega)
/-- a stack is told as the running sees it -/
theorem trL_t : ∀ {s t : List tE}, wkS s t → (∀ n : Nat, n < wl s → al2 (40 + n) → al (40 + n)) → wkS (trL al s) (trL al2 t)
  | [], [], _, _ => trivial
  | e :: s, e2 :: t, h, ha => by
    have hw := wkS_wl h.2
    refine ⟨?_, trL_t h.2 (fun n hn => ha n (Nat.lt_of_lt_of_le hn wl_le))⟩
    rw [hw]
    by_cases q : e.1 = 8 ∨ e.1 = 4 ∨ e.1 = 5 ∨ e.1 = 6
    · have q2 := h.1.n.mp q
      rcases h.1 with z | ⟨t2, z1, z2, _⟩
      · rw [z]
        rcases q with q | q | q | q
        · rw [trE_o (by omega) (by omega) (by omega) (by omega) (by omega), trE_o (by omega) (by omega) (by omega) (by omega) (by omega)]; exact Or.inl rfl
        · rw [trE_o (by omega) (by omega) (by omega) (by omega) (by omega), trE_o (by omega) (by omega) (by omega) (by omega) (by omega)]; exact Or.inl rfl
        · rw [trE_56 (Or.inl q), trE_56 (Or.inl q)]; exact Or.inl rfl
        · rw [trE_56 (Or.inr q), trE_56 (Or.inr q)]; exact Or.inl rfl
      · rw [z2] at q2; have q2 : (0 : Nat) = 8 ∨ (0 : Nat) = 4 ∨ (0 : Nat) = 5 ∨ (0 : Nat) = 6 := q2; omega
    · refine trE_t h.1 (ha (wl s) ?_)
      rw [wl_n q]; omega
  | [], _ :: _, h, _ => h.elim
  | _ :: _, [], h, _ => h.elim
end PS49
