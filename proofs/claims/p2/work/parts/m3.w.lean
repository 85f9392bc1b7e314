-- m3.w.lean.txt
section
theorem pw_inj : ∀ {a b m n : Nat}, 2 ^ a * (2 * m + 1) = 2 ^ b * (2 * n + 1) → a = b ∧ m = n
  | 0, 0, m, n, h => by
    rw [Nat.pow_zero] at h; omega
  | 0, b + 1, m, n, h => by
    rw [Nat.pow_zero, Nat.pow_succ, Nat.mul_assoc, Nat.mul_comm (2 ^ b), Nat.mul_assoc] at h
    omega
  | a + 1, 0, m, n, h => by
    rw [Nat.pow_zero, Nat.pow_succ, Nat.mul_assoc, Nat.mul_comm (2 ^ a), Nat.mul_assoc] at h
    omega
  | a + 1, b + 1, m, n, h => by
    rw [Nat.pow_succ, Nat.pow_succ, Nat.mul_comm (2 ^ a), Nat.mul_comm (2 ^ b), Nat.mul_assoc, Nat.mul_assoc] at h
    obtain ⟨e1, e2⟩ := pw_inj (a := a) (b := b) (m := m) (n := n) (by rw [Nat.mul_comm (2 ^ a), Nat.mul_comm (2 ^ b)]; rw [Nat.mul_comm (2 ^ a), Nat.mul_comm (2 ^ b)] at h; omega)
    exact ⟨by omega, e2⟩
theorem pw_1 {a m : Nat} : 1 ≤ 2 ^ a * (2 * m + 1) := Nat.le_trans (by omega) (Nat.mul_le_mul (Nat.one_le_pow a 2 (by decide)) (show 1 ≤ 2 * m + 1 by omega))
theorem cdL_inj : ∀ {ρ σ : lLc}, cdL ρ = cdL σ → ρ = σ
  | [], [], _ => rfl
  | [], (a, b) :: σ, h => by
    have h : 0 = 2 ^ a * (2 * (2 ^ b * (2 * cdL σ + 1)) + 1) := h
    have := pw_1 (a := a) (m := 2 ^ b * (2 * cdL σ + 1)); omega
  | (a, b) :: ρ, [], h => by
    have h : 2 ^ a * (2 * (2 ^ b * (2 * cdL ρ + 1)) + 1) = 0 := h
    have := pw_1 (a := a) (m := 2 ^ b * (2 * cdL ρ + 1)); omega
  | (a, b) :: ρ, (c, d) :: σ, h => by
    obtain ⟨e1, e2⟩ := pw_inj (show 2 ^ a * (2 * (2 ^ b * (2 * cdL ρ + 1)) + 1) = 2 ^ c * (2 * (2 ^ d * (2 * cdL σ + 1)) + 1) from h)
    obtain ⟨e3, e4⟩ := pw_inj e2
    rw [e1, e3, cdL_inj e4]
theorem cdP_inj {v w : Nat} {ρ σ : lLc} (h : cdP v ρ = cdP w σ) : v = w ∧ ρ = σ := by
  obtain ⟨e1, e2⟩ := pw_inj (show 2 ^ v * (2 * cdL ρ + 1) = 2 ^ w * (2 * cdL σ + 1) from h)
  exact ⟨e1, cdL_inj e2⟩
/-- the number of a loan: of which place, whether shared -/
def lm (v : Nat) (ρ : lLc) (sh : Nat) : Nat := 100 + (2 * cdP v ρ + sh % 2)
theorem lm_inj {v w s q : Nat} {ρ σ : lLc} (h : lm v ρ s = lm w σ q) : v = w ∧ ρ = σ ∧ s % 2 = q % 2 := by
  unfold lm at h
  obtain ⟨e1, e2⟩ := cdP_inj (show cdP v ρ = cdP w σ by omega)
  exact ⟨e1, e2, by omega⟩
theorem lm_100 {v s : Nat} {ρ : lLc} : ¬ lm v ρ s < 100 := by unfold lm; omega
/-- a function's points and what the passes told of them -/
abbrev fD := eV × (Nat × Nat × Nat × Nat × Nat) × (Nat → iR) × (Nat → List tE) × (Nat → Prop) × (Nat → Int32) × (Nat → Nat) × (Nat → Int64) × (Nat → Int64) × (Nat → Nat → Int64) × (Nat → Nat)
def fD.E (D : fD) : eV := D.1
def fD.mn (D : fD) : Nat := D.2.1.1
def fD.Ps (D : fD) : Nat := D.2.1.2.1
def fD.Pe (D : fD) : Nat := D.2.1.2.2.1
def fD.L0 (D : fD) : Nat := D.2.1.2.2.2.1
def fD.L (D : fD) : Nat := D.2.1.2.2.2.2
def fD.I (D : fD) : Nat → iR := D.2.2.1
def fD.st (D : fD) : Nat → List tE := D.2.2.2.1
def fD.W (D : fD) : Nat → Prop := D.2.2.2.2.1
def fD.rc (D : fD) : Nat → Int32 := D.2.2.2.2.2.1
def fD.tv (D : fD) : Nat → Nat := D.2.2.2.2.2.2.1
def fD.mv (D : fD) : Nat → Int64 := D.2.2.2.2.2.2.2.1
def fD.lv (D : fD) : Nat → Int64 := D.2.2.2.2.2.2.2.2.1
def fD.H (D : fD) : Nat → Nat → Int64 := D.2.2.2.2.2.2.2.2.2.1
def fD.ql (D : fD) : Nat → Nat := D.2.2.2.2.2.2.2.2.2.2
def FnD (R : yR) (S0 : Sg) (i : Nat) (D : fD) : Prop := FnP R S0 D.E i D.mn D.Ps D.Pe D.L0 D.L D.I D.st D.W D.rc D.tv D.mv D.lv D.H D.ql
/-- who is used at k or behind it -/
def AL (D : fD) (k u : Nat) : Prop := AHd (D.I k) D.lv k u
/-- what lacks a value at k -/
def LO (R : yR) (S0 : Sg) (D : fD) (k v : Nat) (π : lLc) : Prop := qM π → (∃ T : Nat, qW D.E.y (D.E.vt v) π T) → ∃ c : Nat, inR R S0 (D.E.vt v) v π c ∧ rb D.mv (10 * k) c = true
/-- the instruction makes the loan l of the place -/
def lnI (i : iR) (l v : Nat) (ρ : lLc) (sh : Nat) : Prop := i.ln = some l ∧ i.n3 % 2 = sh % 2 ∧ ((i.kd = 3 ∧ ∃ T : Nat, i.pa = some (v, ρ, T)) ∨ (i.kd = 23 ∧ ∃ g m T : Nat, i.pa = some (v, ρ ++ [(g + 2, m)], T)))
/-- who holds which loan at k -/
def HK (D : fD) (k u κ : Nat) : Prop := (κ < 100 ∧ ((κ < D.mn ∧ isRf (D.E.vt κ)) → ∃ l : Nat, l < D.L0 ∧ D.ql l = κ ∧ rb (D.H l) (4 * k) u = true)) ∨ ∃ (k2 l v sh : Nat) (ρ : lLc), κ = lm v ρ sh ∧ D.Ps ≤ k2 ∧ k2 < D.Pe ∧ lnI (D.I k2) l v ρ sh ∧ rb (D.H l) (4 * k) u = true
/-- a reference that a function gives back lies there -/
def mkS (s : List tE) : Prop := ∃ e ∈ s, (e.1 = 1 ∨ e.1 = 2) ∧ e.2.2 ≠ 0
/-- .. a parameter whose life is that of what is given back -/
def okl (R : yR) (S0 : Sg) (i : Nat) (D : fD) (κ : Nat) : Prop := κ < 100 → (κ < D.mn ∧ isRf (D.E.vt κ)) → ¬ rlS R S0 i < 0 → lfS R S0 i κ = rlS R S0 i
def HKm (R : yR) (S0 : Sg) (i : Nat) (D : fD) (k u κ : Nat) : Prop := HK D k u κ ∧ (40 ≤ u → AL D k u ∨ mkS (D.st k)) ∧ (mkS (D.st k) → u = 40 → okl R S0 i D κ)
/-- .. of a place that is matched on too (300) -/
def HA (R : yR) (S0 : Sg) (i : Nat) (D : fD) (k u κ : Nat) : Prop := (u ≠ 300 ∧ HKm R S0 i D k u κ) ∨ (u = 300 ∧ ∃ (v q r m : Nat) (ρ : lLc) (s : List tE), D.st k = (q, r, 64 * cdP v ρ + m) :: s ∧ (q = 5 ∨ q = 6) ∧ (m < 64 ∧ v < 40) ∧ (κ = lm v ρ (if q = 5 then 1 else 0) ∨ (isRf (D.E.vt v) ∧ HKm R S0 i D k v κ)))
/-- what a loan's number tells -/
noncomputable def dcd (κ : Nat) : Nat × lLc × Nat := Classical.epsilon (fun x : Nat × lLc × Nat => κ = lm x.1 x.2.1 x.2.2)
theorem dcd_lm {v s : Nat} {ρ : lLc} : (dcd (lm v ρ s)).1 = v ∧ (dcd (lm v ρ s)).2.1 = ρ ∧ (dcd (lm v ρ s)).2.2 % 2 = s % 2 := by
  have h := Classical.epsilon_spec (p := fun x : Nat × lLc × Nat => lm v ρ s = lm x.1 x.2.1 x.2.2) ⟨(v, ρ, s), rfl⟩
  obtain ⟨e1, e2, e3⟩ := lm_inj h
  exact ⟨e1.symm, e2.symm, e3.symm⟩
/-- a function's loans -/
noncomputable def tbD (D : fD) : lTb := (fun κ => (dcd κ).1, fun κ => (dcd κ).2.1, fun κ => (dcd κ).2.2 % 2 = 1, fun κ => κ < 100, fun v => isRf (D.E.vt v))

/-- an entry as the running sees it: a reference that is no longer used is a number -/
noncomputable def trE (al : Nat → Prop) (n : Nat) (e : tE) : tE := if (e.1 = 1 ∨ e.1 = 2) ∧ e.2.2 = 0 ∧ Classical.epsilon (fun b : Bool => b = true ↔ ¬ al (40 + n)) = true then (0, 1, 0) else if e.1 = 3 then (0, e.2.1 / 12, 0) else if e.1 = 5 ∨ e.1 = 6 then (e.1, e.2.1, 64 * (e.2.2 % 64)) else e
noncomputable def trL (al : Nat → Prop) : List tE → List tE
  | [] => []
  | e :: s => trE al (wl s) e :: trL al s
end
-- m3.x.lean.txt
section
/-- plain types, references -/
def yB (y : qY) : Prop := (∀ t : Nat, t < 4 → y.1 t = 0) ∧ (∀ t : Nat, 10000 ≤ t → y.1 t ≠ 2 ∧ y.1 t ≠ 3 ∧ y.1 t ≠ 4) ∧ qCr y ∧ qRf y
section PS49
variable {y : qY} {vt : Nat → Nat → Nat} {tb : Nat → lTb} {zn sz rk : Nat → Nat} {M : nM} {f : Nat} {x : Nat → kFm} {rt : Nat × Nat → Nat} {V : Nat × Nat → qV} {bs : Nat → Nat} {S : Sg} {al al2 : Nat → Prop} {n : Nat} {e e2 : tE} {s t : List tE}
theorem eps_b {p : Prop} : (Classical.epsilon (fun b : Bool => b = true ↔ p) = true) ↔ p := by
  have h := Classical.epsilon_spec (p := fun b : Bool => b = true ↔ p) (by
    by_cases q : p
    · exact ⟨true, fun _ => q, fun _ => rfl⟩
    · exact ⟨false, (fun w => by cases w), fun w => absurd w q⟩)
  exact h
theorem trE_d (h1 : e.1 = 1 ∨ e.1 = 2) (h2 : e.2.2 = 0) (h3 : ¬ al (40 + n)) : trE al n e = (0, 1, 0) := if_pos ⟨h1, h2, eps_b.mpr h3⟩
theorem trE_r (h1 : e.1 = 1 ∨ e.1 = 2) (h2 : e.2.2 ≠ 0 ∨ al (40 + n)) : trE al n e = e := by
  unfold trE
  rw [if_neg (fun w => h2.elim (fun z => z w.2.1) (fun z => (eps_b (p := ¬ al (40 + n))).mp w.2.2 z)), if_neg (by omega), if_neg (by omega)]
theorem trE_3 (h : e.1 = 3) : trE al n e = (0, e.2.1 / 12, 0) := by
  unfold trE
  rw [if_neg (fun w => by have := w.1; omega), if_pos h]
theorem trE_56 (h : e.1 = 5 ∨ e.1 = 6) : trE al n e = (e.1, e.2.1, 64 * (e.2.2 % 64)) := by
  unfold trE
  rw [if_neg (fun w => by have := w.1; omega), if_neg (by omega), if_pos h]
theorem trE_o (h1 : e.1 ≠ 1) (h2 : e.1 ≠ 2) (h3 : e.1 ≠ 3) (h5 : e.1 ≠ 5) (h6 : e.1 ≠ 6) : trE al n e = e := by
  unfold trE
  rw [if_neg (fun w => by have := w.1; omega), if_neg h3, if_neg (by omega)]
theorem trE_n : ((trE al n e).1 = 8 ∨ (trE al n e).1 = 4 ∨ (trE al n e).1 = 5 ∨ (trE al n e).1 = 6) ↔ (e.1 = 8 ∨ e.1 = 4 ∨ e.1 = 5 ∨ e.1 = 6) := by
  by_cases h1 : e.1 = 1 ∨ e.1 = 2
  · by_cases h2 : e.2.2 = 0 ∧ ¬ al (40 + n)
    · rw [trE_d h1 h2.1 h2.2]
      constructor
      · intro w; have w : (0 : Nat) = 8 ∨ (0 : Nat) = 4 ∨ (0 : Nat) = 5 ∨ (0 : Nat) = 6 := w; omega
      · intro w; omega
    · rw [trE_r h1 (by by_cases q : e.2.2 = 0; exact Or.inr (Classical.byContradiction (fun z => h2 ⟨q, z⟩)); exact Or.inl q)]
  · by_cases h3 : e.1 = 3
    · rw [trE_3 h3]
      constructor
      · intro w; have w : (0 : Nat) = 8 ∨ (0 : Nat) = 4 ∨ (0 : Nat) = 5 ∨ (0 : Nat) = 6 := w; omega
      · intro w; omega
    · by_cases h5 : e.1 = 5 ∨ e.1 = 6
      · rw [trE_56 h5]
      · rw [trE_o (by omega) (by omega) h3 (by omega) (by omega)]
theorem trL_wl : ∀ {s : List tE}, wl (trL al s) = wl s
  | [] => rfl
  | e :: s => by
    show wl (trL al s) + (if (trE al (wl s) e).1 = 8 ∨ (trE al (wl s) e).1 = 4 ∨ (trE al (wl s) e).1 = 5 ∨ (trE al (wl s) e).1 = 6 then 0 else 1) = wl s + (if e.1 = 8 ∨ e.1 = 4 ∨ e.1 = 5 ∨ e.1 = 6 then 0 else 1)
    rw [trL_wl]
    by_cases q : e.1 = 8 ∨ e.1 = 4 ∨ e.1 = 5 ∨ e.1 = 6
    · rw [if_pos q, if_pos (trE_n.mpr q)]
    · rw [if_neg q, if_neg (fun w => q (trE_n.mp w))]
theorem trL_8 {v : Nat} : ∀ {s : List tE}, (8, v, 0) ∈ trL al s ↔ (8, v, 0) ∈ s
  | [] => Iff.rfl
  | e :: s => by
    show (8, v, 0) ∈ trE al (wl s) e :: trL al s ↔ _
    rw [List.mem_cons, List.mem_cons, trL_8 (s := s)]
    refine or_congr ?_ Iff.rfl
    by_cases h8 : e.1 = 8
    · rw [trE_o (by omega) (by omega) (by omega) (by omega) (by omega)]
    · constructor
      · intro w
        have h := congrArg Prod.fst w
        have h : 8 = (trE al (wl s) e).1 := h
        have h2 := (trE_n (al := al) (n := wl s) (e := e)).mp (Or.inl h.symm)
        rcases h2 with z | z | z | z
        · exact absurd z h8
        · rw [trE_o (by omega) (by omega) (by omega) (by omega) (by omega)] at h; omega
        · rw [trE_56 (Or.inl z)] at h; have h : 8 = e.1 := h; omega
        · rw [trE_56 (Or.inr z)] at h; have h : 8 = e.1 := h; omega
      · intro w; rw [← w] at h8; exact absurd rfl h8
/-- where no place is matched on, none is -/
theorem trL_4 : ∀ {s : List tE}, (∀ e ∈ s, ¬ (e.1 = 4 ∨ e.1 = 5 ∨ e.1 = 6)) → ∀ e ∈ trL al s, ¬ (e.1 = 4 ∨ e.1 = 5 ∨ e.1 = 6)
  | [], _, e, h => by cases h
  | a :: s, q, e, h => by
    rcases List.mem_cons.mp h with w | w
    · rw [w]
      intro z
      have := (trE_n (al := al) (n := wl s) (e := a)).mp (Or.inr z)
      have hq := q a (List.mem_cons_self ..)
      rcases this with z8 | z2
      · rw [trE_o (by omega) (by omega) (by omega) (by omega) (by omega)] at z; omega
      · exact hq z2
    · exact trL_4 (fun e he => q e (List.mem_cons_of_mem a he)) e w
/-- an entry is told as the running sees it -/
theorem trE_w (h : wkE e e2) (h3 : e.1 ≠ 3) (h5 : e.1 ≠ 5) (h6 : e.1 ≠ 6) : wkE e (trE al2 n e2) := by
  rcases h with h | ⟨t2, h1, h2, h4⟩
  · subst h
    by_cases q : (e2.1 = 1 ∨ e2.1 = 2) ∧ e2.2.2 = 0 ∧ ¬ al2 (40 + n)
    · rw [trE_d q.1 q.2.1 q.2.2]
      refine Or.inr ⟨1, Or.inl rfl, rfl, Or.inr ⟨e2.2.1, ?_⟩⟩
      obtain ⟨a, b, c⟩ := e2
      obtain ⟨q1, q2, _⟩ := q
      have q2 : c = 0 := q2
      subst q2
      rcases q1 with q1 | q1
      · have q1 : a = 1 := q1
        subst q1; exact Or.inl rfl
      · have q1 : a = 2 := q1
        subst q1; exact Or.inr rfl
    · by_cases w : e2.1 = 1 ∨ e2.1 = 2
      · rw [trE_r w (by by_cases z : e2.2.2 = 0; exact Or.inr (Classical.byContradiction (fun z2 => q ⟨w, z, z2⟩)); exact Or.inl z)]; exact Or.inl rfl
      · rw [trE_o (by omega) (by omega) h3 h5 h6]; exact Or.inl rfl
  · subst h2
    rw [trE_o (by show (0 : Nat) ≠ 1; decide) (by show (0 : Nat) ≠ 2; decide) (by show (0 : Nat) ≠ 3; decide) (by show (0 : Nat) ≠ 5; decide) (by show (0 : Nat) ≠ 6; decide)]
    exact Or.inr ⟨t2, h1, rfl, h4⟩
theorem trE_t (h : wkE e e2) (ha : al2 (40 + n) → al (40 + n)) : wkE (trE al n e) (trE al2 n e2) := by
  by_cases h3 : e.1 = 3 ∨ e.1 = 5 ∨ e.1 = 6
  · have he : e2 = e := by
      rcases h with h | ⟨t2, h1, h2, ⟨t, _, h4⟩ | ⟨T, h4 | h4⟩⟩
      · exact h
      · rw [h4] at h3; have h3 : (0 : Nat) = 3 ∨ (0 : Nat) = 5 ∨ (0 : Nat) = 6 := h3; omega
      · rw [h4] at h3; have h3 : (1 : Nat) = 3 ∨ (1 : Nat) = 5 ∨ (1 : Nat) = 6 := h3; omega
      · rw [h4] at h3; have h3 : (2 : Nat) = 3 ∨ (2 : Nat) = 5 ∨ (2 : Nat) = 6 := h3; omega
    subst he
    rcases h3 with w | w
    · rw [trE_3 w, trE_3 w]; exact Or.inl rfl
    · rw [trE_56 w, trE_56 w]; exact Or.inl rfl
  · by_cases q : (e.1 = 1 ∨ e.1 = 2) ∧ e.2.2 = 0 ∧ ¬ al (40 + n)
    · rw [trE_d q.1 q.2.1 q.2.2]
      have q2 : ¬ al2 (40 + n) := fun w => q.2.2 (ha w)
      have p0 : ∃ t : Nat, (t = 1 ∨ t = 2 ∨ t = 3) ∧ ((0, 1, 0) : tE) = (0, t, 0) := ⟨1, Or.inl rfl, rfl⟩
      rcases h with h | ⟨t2, h1, h2, h4⟩
      · subst h
        rw [trE_d q.1 q.2.1 q2]; exact Or.inl rfl
      · subst h2
        rw [trE_o (by show (0 : Nat) ≠ 1; decide) (by show (0 : Nat) ≠ 2; decide) (by show (0 : Nat) ≠ 3; decide) (by show (0 : Nat) ≠ 5; decide) (by show (0 : Nat) ≠ 6; decide)]
        exact Or.inr ⟨t2, h1, rfl, Or.inl p0⟩
    · have e1 : trE al n e = e := by
        by_cases w : e.1 = 1 ∨ e.1 = 2
        · exact trE_r w (by by_cases z : e.2.2 = 0; exact Or.inr (Classical.byContradiction (fun z2 => q ⟨w, z, z2⟩)); exact Or.inl z)
        · exact trE_o (by omega) (by omega) (by omega) (by omega) (by omega)
      rw [e1]
      exact trE_w h (by omega) (by omega) (by omega)
/-- a stack is told as the running sees it -/
theorem trL_t : ∀ {s t : List tE}, wkS s t → (∀ n : Nat, n < wl s → al2 (40 + n) → al (40 + n)) → wkS (trL al s) (trL al2 t)
  | [], [], _, _ => trivial
  | e :: s, e2 :: t, h, ha => by
    have hw := wkS_wl h.2
    refine ⟨?_, trL_t h.2 (fun n hn => ha n (Nat.lt_of_lt_of_le hn wl_le))⟩
    rw [hw]
    by_cases q : e.1 = 8 ∨ e.1 = 4 ∨ e.1 = 5 ∨ e.1 = 6
    · have q2 := h.1.n.mp q
      rcases h.1 with z | ⟨t2, z1, z2, _⟩
      · rw [z]
        rcases q with q | q | q | q
        · rw [trE_o (by omega) (by omega) (by omega) (by omega) (by omega), trE_o (by omega) (by omega) (by omega) (by omega) (by omega)]; exact Or.inl rfl
        · rw [trE_o (by omega) (by omega) (by omega) (by omega) (by omega), trE_o (by omega) (by omega) (by omega) (by omega) (by omega)]; exact Or.inl rfl
        · rw [trE_56 (Or.inl q), trE_56 (Or.inl q)]; exact Or.inl rfl
        · rw [trE_56 (Or.inr q), trE_56 (Or.inr q)]; exact Or.inl rfl
      · rw [z2] at q2; have q2 : (0 : Nat) = 8 ∨ (0 : Nat) = 4 ∨ (0 : Nat) = 5 ∨ (0 : Nat) = 6 := q2; omega
    · refine trE_t h.1 (ha (wl s) ?_)
      rw [wl_n q]; omega
  | [], _ :: _, h, _ => h.elim
  | _ :: _, [], h, _ => h.elim
end PS49
end
-- m3.y.lean.txt
section
section PS50
variable {y : qY} {vt : Nat → Nat → Nat} {tb : Nat → lTb} {zn sz rk : Nat → Nat} {M M2 : nM} {sk sk2 : Nat → Int64} {pl pl2 : Nat → Int32} {f : Nat} {x x2 : Nat → kFm} {rt rt2 : Nat × Nat → Nat} {V V2 : Nat × Nat → qV} {bs : Nat → Nat} {C L H C2 L2 H2 : Nat × Nat → List Nat} {S : Sg} {T : Nat} {W : qV} {xv : Int64} {l h : List Nat}
/-- a value without nodes -/
theorem vaR.lf (q : vaR y sz M T W xv l h) (h2 : y.1 T ≠ 2) (h3 : y.1 T ≠ 3) (h4 : y.1 T ≠ 4) : l = [] ∧ h = [] := by
  rcases q with ⟨q1, _⟩ | ⟨_, k, ⟨q1, _⟩ | ⟨q1, _⟩ | ⟨_, _, _, a, b⟩⟩
  · exact absurd q1 h2
  · exact absurd q1 h3
  · exact absurd q1 h4
  · exact ⟨a, b⟩
theorem vaR.mk (h2 : y.1 T ≠ 2) (h3 : y.1 T ≠ 3) (h4 : y.1 T ≠ 4) (hW : ∃ z : Nat × Nat, W [] = some z) : vaR y sz M T W xv [] [] := Or.inr ⟨h2, 0, Or.inr (Or.inr ⟨h3, h4, hW, rfl, rfl⟩)⟩
theorem agN.rf {l : List Nat} : agN M M l := fun _ _ => ⟨rfl, rfl, rfl⟩
/-- one root of the latest frame changes -/
theorem kN.r1 {u0 : Nat} (hy : nYk y zn sz rk) (hJ : kJ y vt tb f x rt V) (h : kN y zn sz M sk pl f x rt V bs C L H)
  (hx : ∀ j : Nat, j ≠ f → x2 j = x j) (h8 : ∀ u : Nat, u ≠ u0 → ((8, u, 0) ∈ (x2 f).2.1 ↔ (8, u, 0) ∈ (x f).2.1)) (hw : ∀ u : Nat, u ≠ u0 → 40 ≤ u → (u < 40 + wl (x2 f).2.1 ↔ u < 40 + wl (x f).2.1))
  (hV : ∀ r : Nat × Nat, r ≠ (f, u0) → rt2 r = rt r ∧ V2 r = V r ∧ C2 r = C r ∧ L2 r = L r ∧ H2 r = H r) (hM : ∀ r : Nat × Nat, r ≠ (f, u0) → r.1 ≤ f → kSc (x r.1).2.1 r.2 → agN M M2 (C r) ∧ agN M M2 (L r))
  (hp : ∀ r : Nat × Nat, r ≠ (f, u0) → r.1 ≤ f → r.2 < 40 → (8, r.2, 0) ∈ (x r.1).2.1 → pl2 (40 * r.1 + r.2) = pl (40 * r.1 + r.2)) (hs : ∀ r : Nat × Nat, r ≠ (f, u0) → r.1 ≤ f → 40 ≤ r.2 → r.2 < 40 + wl (x r.1).2.1 → sk2 (bs r.1 + (r.2 - 40)) = sk (bs r.1 + (r.2 - 40)))
  (hn : rPc y sz M2 sk2 pl2 (x2 f).2.1 (bs f) f u0 (rt2 (f, u0)) (V2 (f, u0)) (C2 (f, u0)) (L2 (f, u0)) (H2 (f, u0)))
  (hr : ∀ (j u : Nat) (d : Nat × Nat) (π : lLc), j ≤ f → kA (x2 j) u → kSc (x2 j).2.1 u → kR (x2 j) u = some (d :: π) → ((j, u) ≠ (f, u0) ∧ d ≠ (f, u0) ∧ kA (x j) u ∧ kR (x j) u = some (d :: π)) ∨ rfA y zn M2 sk2 (bs j) u (rt2 d) (C2 d) (C2 (j, u)) π) : kN y zn sz M2 sk2 pl2 f x2 rt2 V2 bs C2 L2 H2 := by
  have hag : ∀ r : Nat × Nat, r ≠ (f, u0) → r.1 ≤ f → agN M M2 (C r) ∧ agN M M2 (L r) := fun r h1 h2 => by
    by_cases c : kSc (x r.1).2.1 r.2
    · exact hM r h1 h2 c
    · obtain ⟨z1, z2, _⟩ := (h.1 r.1 r.2 h2).2.2 c
      have z1 : C r = [] := z1
      have z2 : L r = [] := z2
      rw [z1, z2]
      exact ⟨fun _ w => (by cases w), fun _ w => (by cases w)⟩
  refine kN.up (bs := bs) (f2 := f) hy hJ h (fun r => r ≠ (f, u0) ∧ r.1 ≤ f) (fun j u ⟨k1, k2⟩ => ?_) (fun j u hj hk => ?_) (fun j u hj => ?_) ⟨h.2.2.1.1, fun j hj => ?_⟩ (fun j u d π hj ha hc he => ?_)
  · obtain ⟨v1, v2, v3, v4, v5⟩ := hV (j, u) k1
    obtain ⟨a1, a2⟩ := hag (j, u) k1 k2
    refine ⟨⟨k2, rfl⟩, ?_, fun a => ?_, ⟨v1, v2⟩, ⟨v3, v4, v5⟩, a1, a2, fun a b => hp (j, u) k1 k2 a b, fun a b => hs (j, u) k1 k2 a b⟩
    · by_cases e : j = f
      · subst e; exact h8 u (fun w => k1 (by rw [w]))
      · rw [hx j e]
    · by_cases e : j = f
      · subst e; exact hw u (fun w => k1 (by rw [w])) a
      · rw [hx j e]
  · have e : (j, u) = (f, u0) := Classical.byContradiction (fun w => hk ⟨w, hj⟩)
    cases e
    exact hn
  · obtain ⟨_, _, v3, v4, v5⟩ := hV (j, u) (fun w => by have := (Prod.mk.inj w).1; omega)
    rw [v3, v4, v5]; exact h.2.1 j u hj
  · rw [hx j (by omega)]; exact h.2.2.1.2 j hj
  · rcases hr j u d π hj ha hc he with ⟨w1, w2, w3, w4⟩ | w
    · exact Or.inl ⟨⟨w1, hj⟩, ⟨w2, (hJ.ld hj w3 w4).1⟩, w3, w4⟩
    · exact Or.inr w
theorem ne40 {j u n : Nat} {d : Nat × Nat} (h : d.2 < 40) : d ≠ (j, 40 + n) := fun e => by
  rw [e] at h
  have h : 40 + n < 40 := h
  omega
/-- a value is told as a plain one -/
theorem kT.one (hy : nYk y zn sz rk) (hB : yB y) (hk : kT y zn sz vt tb f x bs S) {E s : List tE} {e1 : tE} {t2 : Nat} (hS : (x f).2.1 = E ++ e1 :: s) (he : (∃ t : Nat, (t = 1 ∨ t = 2 ∨ t = 3) ∧ e1 = (0, t, 0)) ∨ ∃ T : Nat, e1 = (1, T, 0) ∨ e1 = (2, T, 0)) (ht : t2 = 1 ∨ t2 = 2 ∨ t2 = 3) : kT y zn sz vt tb f (kUx x f ((x f).1, E ++ (0, t2, 0) :: s, (x f).2.2.1, lUp (kR (x f)) (40 + wl s) none, kH (x f), kal (x f), klo (x f), kAn (x f))) bs S := by
  obtain ⟨rt, V, C, L, H, fl, t, hJ, hN, hC, hF⟩ := hk
  have hn : kNm e1 := by
    rcases he with ⟨t, _, w⟩ | ⟨T, w | w⟩
    · rw [w]; show ¬ ((0 : Nat) = 8 ∨ (0 : Nat) = 4 ∨ (0 : Nat) = 5 ∨ (0 : Nat) = 6); decide
    · rw [w]; show ¬ ((1 : Nat) = 8 ∨ (1 : Nat) = 4 ∨ (1 : Nat) = 5 ∨ (1 : Nat) = 6); decide
    · rw [w]; show ¬ ((2 : Nat) = 8 ∨ (2 : Nat) = 4 ∨ (2 : Nat) = 5 ∨ (2 : Nat) = 6); decide
  have h0 : y.1 t2 = 0 := hB.1 t2 (by omega)
  have hJ2 := kJ_one (m := 0) hJ hS hn (t2 := t2) ⟨by rw [h0]; decide, by rw [h0]; decide, by rw [h0]; decide, by rw [h0]; decide, by rw [h0]; decide⟩ (by omega)
  have hw : wl (E ++ (0, t2, 0) :: s) = wl (x f).2.1 := by rw [hS]; exact on_wl hn
  have hlt : 40 + wl s < 40 + wl (x f).2.1 := by
    rw [hS, wl_app, wl_n hn]; omega
  have hK : kK y rt V f (x f) (E ++ e1 :: s) := by rw [← hS]; exact hJ.2.2.2.2.1 f (Nat.le_refl _)
  have hE : kE y rt V f (x f) (wl s) e1 := (kK_app hK).1
  -- nothing lies below it
  have hty : y.1 (rt (f, 40 + wl s)) ≠ 2 ∧ y.1 (rt (f, 40 + wl s)) ≠ 3 ∧ y.1 (rt (f, 40 + wl s)) ≠ 4 := by
    rcases he with ⟨t, w1, w⟩ | ⟨T, w | w⟩
    · rw [w] at hE
      have z : y.1 t = 0 := hB.1 t (by omega)
      rw [(hE.2.2.2.1 (by omega)).1, z]; decide
    · rw [w] at hE
      rw [hE.1]; exact hB.2.1 _ (by omega)
    · rw [w] at hE
      rw [hE.1]; exact hB.2.1 _ (by omega)
  obtain ⟨c0, v0⟩ := (hN.1 f (40 + wl s) (Nat.le_refl _)).2.1 (by omega) hlt
  obtain ⟨l0, hh0⟩ := v0.lf hty.1 hty.2.1 hty.2.2
  refine ⟨_, _, C, L, H, fl, t, hJ2, kN.r1 (u0 := 40 + wl s) hy hJ hN (fun j hj => kUx_lo hj) (fun u hu => ?_) (fun u hu h4 => ?_) (fun r hr => ⟨qRt_ne hr, qUp_ne hr, rfl, rfl, rfl⟩) (fun r _ _ _ => ⟨agN.rf, agN.rf⟩) (fun _ _ _ _ _ => rfl) (fun _ _ _ _ _ => rfl) ?_ (fun j u d π hj ha hc hr => Or.inl ?_), hC, hF⟩
  · rw [kUx_top, hS]
    exact (on_mem (t2 := t2) (m := 0) hn (Or.inl rfl)).symm
  · rw [kUx_top]; show u < 40 + wl (E ++ (0, t2, 0) :: s) ↔ _; rw [hw]
  · rw [qRt_eq, qUp_eq, kUx_top, c0, l0, hh0]
    refine ⟨fun a => by omega, fun _ _ => ⟨rfl, vaR.mk (by rw [h0]; decide) (by rw [h0]; decide) (by rw [h0]; decide) ⟨(t2, 0), rfl⟩⟩, fun w => absurd (Or.inr ⟨by omega, ?_⟩) w⟩
    show 40 + wl s < 40 + wl (E ++ (0, t2, 0) :: s)
    rw [hw]; exact hlt
  · by_cases e : j = f
    · subst e
      rw [kUx_top] at ha hr
      have hr : lUp (kR (x j)) (40 + wl s) none u = some (d :: π) := hr
      have hu : u ≠ 40 + wl s := fun w => by rw [w, lUp_eq] at hr; cases hr
      rw [lUp_ne hu] at hr
      have ha2 : kA (x j) u := by
        rcases ha with z | ⟨z1, z2⟩
        · exact Or.inl z
        · have z2 : u < 40 + wl (E ++ (0, t2, 0) :: s) + (x j).2.2.1 := z2
          rw [hw] at z2; exact Or.inr ⟨z1, z2⟩
      exact ⟨fun w => hu (Prod.mk.inj w).2, ne40 (j := j) (u := 0) (hJ.ld (Nat.le_refl _) ha2 hr).2.1, ha2, hr⟩
    · rw [kUx_lo e] at ha hr
      exact ⟨fun w => e (Prod.mk.inj w).1, ne40 (j := f) (u := 0) (hJ.ld hj ha hr).2.1, ha, hr⟩
/-- the stack is told more weakly -/
theorem kT.wks (hy : nYk y zn sz rk) (hB : yB y) : ∀ {s s2 P : List tE} {x : Nat → kFm}, kT y zn sz vt tb f x bs S → (x f).2.1 = P ++ s → wkS s s2 → ∃ R2 : Nat → Option lLc, (∀ u : Nat, R2 u = kR (x f) u ∨ (R2 u = none ∧ 40 ≤ u)) ∧ kT y zn sz vt tb f (kUx x f ((x f).1, P ++ s2, (x f).2.2.1, R2, kH (x f), kal (x f), klo (x f), kAn (x f))) bs S
  | [], [], P, x, h, e, _ => ⟨kR (x f), fun _ => Or.inl rfl, by
    have e2 : kUx x f ((x f).1, P ++ [], (x f).2.2.1, kR (x f), kH (x f), kal (x f), klo (x f), kAn (x f)) = x := funext fun j => by
      by_cases q : j = f
      · subst q; rw [kUx_top, ← e]; rfl
      · rw [kUx_lo q]
    rw [e2]; exact h⟩
  | [], _ :: _, _, _, _, _, w => w.elim
  | _ :: _, [], _, _, _, _, w => w.elim
  | e1 :: s, e2 :: s2, P, x, h, e, ⟨w1, w2⟩ => by
    obtain ⟨R2, r1, r2⟩ := kT.wks hy hB (s := s) (s2 := s2) (P := P ++ [e1]) h (by rw [e, List.append_assoc]; rfl) w2
    rcases w1 with w1 | ⟨t2, t3, w1, w3⟩
    · refine ⟨R2, r1, ?_⟩
      rw [w1]
      rw [List.append_assoc] at r2
      exact r2
    · have q := kT.one hy hB r2 (E := P) (s := s2) (e1 := e1) (t2 := t2) (by rw [kUx_top, List.append_assoc]; rfl) w3 t3
      rw [kUx_top, kUx2] at q
      rw [w1]
      refine ⟨lUp R2 (40 + wl s2) none, fun u => ?_, q⟩
      by_cases z : u = 40 + wl s2
      · rw [z, lUp_eq]; exact Or.inr ⟨rfl, by omega⟩
      · rw [lUp_ne z]; exact r1 u
end PS50
end
-- m3.z.lean.txt
section
/-- who is used behind k -/
def AB (D : fD) (k u : Nat) : Prop := rb D.lv (4 * k) u = true
section PS51
variable {R : yR} {S0 : Sg} {D : fD} {i k j u κ : Nat}
/-- a way from k to j -/
def edg (D : fD) (k j : Nat) : Prop := D.Ps ≤ k ∧ k < D.Pe ∧ D.rc k ≠ 0 ∧ j ∈ (D.I k).sc
theorem FnD.in (h : FnD R S0 i D) (e : edg D k j) : D.Ps ≤ j ∧ j < D.Pe ∧ (D.W k → D.W j) ∧ (k < j ∨ (D.I j).kd = 0) ∧ D.rc j ≠ 0 := by
  obtain ⟨e1, e2, e3, e4⟩ := e
  obtain ⟨q1, q2, q3, q4⟩ := (h.1.2.2 k e1 e2).1 j e4
  exact ⟨q1, q2, q3, q4, h.2.1.2 k e1 e2 e3 j e4⟩
theorem FnD.ab (h : FnD R S0 i D) (e : edg D k j) (hu : u < 256) (q : AL D j u) : AB D k u := h.2.2.2.1 k e.1 e.2.1 j e.2.2.2 u hu q
theorem AB.al (q : AB D k u) (h : (D.I k).ho ≠ some u) : AL D k u := Or.inr ⟨q, h⟩
theorem AL.ab (q : AL D k u) (h : u ∉ (D.I k).us) : AB D k u ∧ (D.I k).ho ≠ some u := q.resolve_left h
theorem FnD.al (h : FnD R S0 i D) (e : edg D k j) (hu : u < 256) (ho : (D.I k).ho ≠ some u) (q : AL D j u) : AL D k u := (h.ab e hu q).al ho
theorem FnD.lL (h : FnD R S0 i D) {k2 l v sh : Nat} {ρ : lLc} (h1 : D.Ps ≤ k2) (h2 : k2 < D.Pe) (q : lnI (D.I k2) l v ρ sh) : l < D.L := ((h.1.2.2 k2 h1 h2).2.2.2.1 l q.1).2.1
theorem FnD.bit (h : FnD R S0 i D) (e : edg D k j) {l : Nat} (hl : l < D.L) (hu : u < 256) (q : HBh (D.I k) (D.H l) k l u) : rb (D.H l) (4 * j) u = true := (h.2.2.2.2.1 l hl).1 k e.1 e.2.1 e.2.2.1 j e.2.2.2 u hu q
/-- what is held stays held -/
theorem FnD.hk (h : FnD R S0 i D) (e : edg D k j) (hu : u < 256) (ho : (D.I k).ho ≠ some u) (q : HK D k u κ) : HK D j u κ := by
  have h0 := h.2.2.2.2.2.1
  rcases q with ⟨q1, q2⟩ | ⟨k2, l, v, sh, ρ, q1, q2, q3, q4, q5⟩
  · refine Or.inl ⟨q1, fun w => ?_⟩
    obtain ⟨l, l1, l2, l3⟩ := q2 w
    exact ⟨l, l1, l2, h.bit e (by omega) hu (Or.inr ⟨ho, l3⟩)⟩
  · exact Or.inr ⟨k2, l, v, sh, ρ, q1, q2, q3, q4, h.bit e (h.lL q2 q3 q4) hu (Or.inr ⟨ho, q5⟩)⟩
/-- .. is handed on -/
theorem FnD.hf (h : FnD R S0 i D) (e : edg D k j) {w : Nat} (hu : u < 256) (ho : (D.I k).ho = some u) (k24 : (D.I k).kd ≠ 24) (hw : w ∈ (D.I k).fr) (q : HK D k w κ) : HK D j u κ := by
  have h0 := h.2.2.2.2.2.1
  rcases q with ⟨q1, q2⟩ | ⟨k2, l, v, sh, ρ, q1, q2, q3, q4, q5⟩
  · refine Or.inl ⟨q1, fun z => ?_⟩
    obtain ⟨l, l1, l2, l3⟩ := q2 z
    exact ⟨l, l1, l2, h.bit e (by omega) hu (Or.inl ⟨ho, Or.inr ⟨k24, w, hw, l3⟩⟩)⟩
  · exact Or.inr ⟨k2, l, v, sh, ρ, q1, q2, q3, q4, h.bit e (h.lL q2 q3 q4) hu (Or.inl ⟨ho, Or.inr ⟨k24, w, hw, q5⟩⟩)⟩
/-- .. begins -/
theorem FnD.hn (h : FnD R S0 i D) (e : edg D k j) {l v sh : Nat} {ρ : lLc} (hu : u < 256) (ho : (D.I k).ho = some u) (q : lnI (D.I k) l v ρ sh) : HK D j u (lm v ρ sh) := Or.inr ⟨k, l, v, sh, ρ, rfl, e.1, e.2.1, q, h.bit e (h.lL e.1 e.2.1 q) hu (Or.inl ⟨ho, Or.inl q.1⟩)⟩
theorem FnD.pt (h : FnD R S0 i D) (h1 : D.Ps ≤ k) (h2 : k < D.Pe) : tPt D.E k (D.W k) (D.I k) (D.st k) (fun j s => D.Ps ≤ j ∧ j < D.Pe ∧ wkS s (D.st j)) ∧ wl (D.st k) ≤ 177 := ⟨(h.1.2.2 k h1 h2).2.2.1, (h.1.2.2 k h1 h2).2.1⟩
/-- a place's variable -/
theorem tPt.ad {E : eV} {lv : Prop} {ii : iR} {s : List tE} {J : Nat → List tE → Prop} (h : tPt E k lv ii s J) {v T : Nat} {ρ : lLc} (e : ii.pa = some (v, ρ, T)) : E.ad v = ii.n2 := by
  by_cases q : ii.kd = 24
  · unfold tPt at h
    rw [q] at h
    obtain ⟨_, _, _, _, w, _, _, _, ⟨_, a⟩, _, b, _⟩ := h
    rw [b] at e; cases e; exact a
  · exact (h.pv q e).1
theorem qW_3 {y : qY} {T U : Nat} {s : Nat × Nat} {π : lLc} (h3 : y.1 T = 3) (hs : s.1 = 0 ∨ s.1 = 1) : ¬ qW y T (s :: π) U := fun h => by
  obtain ⟨a, b⟩ := s
  rcases hs with e | e
  · have e : a = 0 := e
    subst e
    have := h.1; rw [h3] at this; cases this
  · have e : a = 1 := e
    subst e
    have := h.2.1; rw [h3] at this; cases this
/-- behind an enum no further step leads -/
theorem pTy_3 {y : qY} {T0 T U : Nat} {ρ π : lLc} {s : Nat × Nat} (h : pTy y T0 ρ T) (h3 : y.1 T = 3) (g : pTy y T0 (ρ ++ s :: π) U) (hT : T < 10000) (hs : s.1 = 0 ∨ s.1 = 1) : False := by
  rcases h with ⟨a1, a2⟩ | ⟨a1, ⟨a2, a3⟩ | ⟨ρ2, a2, a3⟩⟩
  · rcases g with ⟨_, b2⟩ | ⟨b1, _⟩
    · exact qW_3 h3 hs (qW_rest b2 a2)
    · exact a1 b1
  · have := a1.1; omega
  · rcases g with ⟨b1, _⟩ | ⟨_, ⟨b2, _⟩ | ⟨ρ3, b2, b3⟩⟩
    · exact b1 a1
    · rw [a2] at b2; cases b2
    · rw [a2] at b2
      have e : ρ3 = ρ2 ++ s :: π := (List.cons.inj b2).2.symm
      rw [e] at b3
      exact qW_3 h3 hs (qW_rest b3 a3)
/-- nobody who is used behind an access holds a loan that it meets -/
theorem FnD.ck (h : FnD R S0 i D) (h1 : D.Ps ≤ k) (h2 : k < D.Pe) (hr : D.rc k ≠ 0) {v T : Nat} {ρ : lLc} (hp : (D.I k).pa = some (v, ρ, T)) (ha : (D.I k).ac ≠ 0) (hs : ¬ (((D.I k).ac = 7 ∨ (D.I k).ac = 6) ∧ ρ = [] ∧ isRf T)) (ht : ρ = [] ∨ (qMs ρ ∧ ∃ U : Nat, pTy D.E.y (D.E.vt v) ρ U)) {A2 : Nat → Prop} (hA : ∀ u κ : Nat, A2 u → HA R S0 i D k u κ → u < 256 ∧ AB D k u ∧ (D.I k).ho ≠ some u) : lCk (tbD D) (HA R S0 i D k) A2 v ρ ((D.I k).ac = 1 ∨ (D.I k).ac = 2) := fun u κ hu hκ ho hv hc => by
  obtain ⟨u1, u2, u3⟩ := hA u κ hu hκ
  have q : HK D k u κ := by
    rcases hκ with ⟨_, w⟩ | ⟨w, _⟩
    · exact w.1
    · omega
  have ho : ¬ κ < 100 := ho
  rcases q with ⟨q1, _⟩ | ⟨k2, l, v2, sh, ρ2, q1, q2, q3, q4, q5⟩
  · exact absurd q1 ho
  · subst q1
    obtain ⟨d1, d2, d3⟩ := dcd_lm (v := v2) (s := sh) (ρ := ρ2)
    have hv : (dcd (lm v2 ρ2 sh)).1 = v := hv
    have hc : lCmp (dcd (lm v2 ρ2 sh)).2.1 ρ := hc
    rw [d1] at hv
    rw [d2] at hc
    subst hv
    obtain ⟨e1, e2, e3⟩ := q4
    have key : ∀ (T2 : Nat) (ρ3 : lLc), (D.I k2).pa = some (v2, ρ3, T2) → lCmp ρ ρ3 → ((D.I k).ac = 1 ∨ (D.I k).ac = 2) ∧ (tbD D).2.2.1 (lm v2 ρ2 sh) := fun T2 ρ3 z1 z2 => by
      have := (h.2.2.2.2.1 l (h.lL q2 q3 ⟨e1, e2, e3⟩)).2 k k2 v2 T2 ρ3 h1 h2 hr q2 q3 e1 z1
      rcases this with w | w
      · have := w u u1 u3 (Or.inr ⟨u3, q5⟩)
        have u2 : rb D.lv (4 * k) u = true := u2
        rw [u2] at this; cases this
      · have hn : (D.I k).n2 = (D.I k2).n2 := ((h.pt h1 h2).1.ad hp).symm.trans ((h.pt q2 q3).1.ad z1)
        rcases w v2 T ρ hp ha hn z2 with ⟨z3, z4⟩ | z3
        · refine ⟨z3, ?_⟩
          show (dcd (lm v2 ρ2 sh)).2.2 % 2 = 1
          rw [d3, ← e2]
          have hle := ((h.1.2.2 k2 q2 q3).2.2.2.1 l e1).2.2
          have : (D.I k2).n3 ≠ 0 := fun w => z4 (by rw [w]; rfl)
          omega
        · exact absurd z3 hs
    rcases e3 with ⟨k3, T2, z⟩ | ⟨k3, g, m, T2, z⟩
    · exact key T2 ρ2 z (lCmp_sym hc)
    · refine key T2 _ z ?_
      rcases hc with ⟨σ, hc⟩ | hc
      · cases σ with
        | nil => rw [List.append_nil] at hc; rw [hc]; exact Or.inl (lP_app _ _)
        | cons s σ =>
          exfalso
          have hbd := (h.1.2.2 k2 q2 q3).2.2.1
          unfold tPt at hbd
          rw [k3] at hbd
          obtain ⟨_, v9, ρ9, w9, q9, g9, m9, r9, _, _, _, _, _, _, _, a1, a2, a3, a4, a5, a6, _, _, a7, a8, _⟩ := hbd
          rw [z] at a6
          obtain ⟨z1, z2⟩ := Prod.mk.inj (Option.some.inj a6)
          obtain ⟨z2, _⟩ := Prod.mk.inj z2
          obtain ⟨z3, _⟩ := List.append_inj' z2 rfl
          rw [← z1, ← z3] at a7
          rcases ht with ht | ⟨ht, U, hU⟩
          · rw [ht] at hc; cases ρ2 <;> cases hc
          · rw [hc] at hU ht
            exact pTy_3 a7 a3 hU (by omega) (ht s (List.mem_append_right _ (List.mem_cons_self ..)))
      · exact Or.inl (lP_tr hc (lP_app _ _))
end PS51
end
-- m4.a.lean.txt
section
section PS52
variable {R : yR} {S0 : Sg} {D : fD} {i k j u κ : Nat} {g : Nat → Int32}
/-- where a member's place lies among the leaves -/
theorem pfO_q (hy : nYk (yT R S0) (zN R S0) (szN R S0) (rkN R S0 g)) : ∀ {ρ : lLc} {T U : Nat}, qM ρ → qW (yT R S0) T ρ U → (pfO R S0 T ρ).2 = U ∧ (pfO R S0 T ρ).1 + zN R S0 U ≤ zN R S0 T
  | [], T, U, _, h => by
    obtain rfl := (show _ = _ from h)
    exact ⟨rfl, by show 0 + _ ≤ _; omega⟩
  | (0, q) :: ρ, T, U, hm, h => by
    obtain ⟨h1, h2, h3⟩ := h
    obtain ⟨e1, e2⟩ := pfO_q hy (qM_cons.mp hm).2 h3
    have hz := (hy.2.2.1 T h1).1
    show (if (0 : Nat) = 0 then (ofN R S0 T q + (pfO R S0 (yQ R S0 T 0 q) ρ).1, (pfO R S0 (yQ R S0 T 0 q) ρ).2) else (0, T)).2 = U ∧ (if (0 : Nat) = 0 then (ofN R S0 T q + (pfO R S0 (yQ R S0 T 0 q) ρ).1, (pfO R S0 (yQ R S0 T 0 q) ρ).2) else (0, T)).1 + _ ≤ _
    rw [if_pos rfl]
    refine ⟨e1, ?_⟩
    have e3 : psN (fun j => zN R S0 (yQ R S0 T 0 j)) (q + 1) ≤ zN R S0 T := by
      rw [hz]; exact psN_mo (by show q + 1 ≤ (yT R S0).2.2.2.1 T 0; exact h2)
    have e4 : psN (fun j => zN R S0 (yQ R S0 T 0 j)) (q + 1) = ofN R S0 T q + zN R S0 (yQ R S0 T 0 q) := rfl
    show ofN R S0 T q + (pfO R S0 (yQ R S0 T 0 q) ρ).1 + zN R S0 U ≤ zN R S0 T
    have e2 : (pfO R S0 (yQ R S0 T 0 q) ρ).1 + zN R S0 U ≤ zN R S0 (yQ R S0 T 0 q) := e2
    omega
  | (a + 1, q) :: ρ, T, U, hm, h => absurd (qM_cons.mp hm).1 (by show a + 1 ≠ 0; omega)
theorem pfO_app : ∀ {ρ τ : lLc} {T : Nat}, qM ρ → (pfO R S0 T (ρ ++ τ)).1 = (pfO R S0 T ρ).1 + (pfO R S0 (pfO R S0 T ρ).2 τ).1 ∧ (pfO R S0 T (ρ ++ τ)).2 = (pfO R S0 (pfO R S0 T ρ).2 τ).2
  | [], τ, T, _ => ⟨by show _ = 0 + _; rw [Nat.zero_add]; rfl, rfl⟩
  | (0, q) :: ρ, τ, T, hm => by
    obtain ⟨e1, e2⟩ := pfO_app (τ := τ) (T := yQ R S0 T 0 q) (qM_cons.mp hm).2
    have d : ∀ σ : lLc, pfO R S0 T ((0, q) :: σ) = (ofN R S0 T q + (pfO R S0 (yQ R S0 T 0 q) σ).1, (pfO R S0 (yQ R S0 T 0 q) σ).2) := fun σ => by
      show (if (0 : Nat) = 0 then _ else _) = _
      rw [if_pos rfl]
    show (pfO R S0 T ((0, q) :: (ρ ++ τ))).1 = _ ∧ (pfO R S0 T ((0, q) :: (ρ ++ τ))).2 = _
    rw [d, d]
    show ofN R S0 T q + (pfO R S0 (yQ R S0 T 0 q) (ρ ++ τ)).1 = ofN R S0 T q + (pfO R S0 (yQ R S0 T 0 q) ρ).1 + _ ∧ _
    rw [e1, e2]
    show ofN R S0 T q + ((pfO R S0 (yQ R S0 T 0 q) ρ).1 + (pfO R S0 (pfO R S0 (yQ R S0 T 0 q) ρ).2 τ).1) = ofN R S0 T q + (pfO R S0 (yQ R S0 T 0 q) ρ).1 + (pfO R S0 (pfO R S0 (yQ R S0 T 0 q) ρ).2 τ).1 ∧ _
    exact ⟨by omega, rfl⟩
  | (a + 1, q) :: ρ, τ, T, hm => absurd (qM_cons.mp hm).1 (by show a + 1 ≠ 0; omega)
/-- up to the first star -/
theorem pfO_st {ρ ρ1 : lLc} {q T : Nat} (hm : qM ρ) : pfO R S0 T (ρ ++ (1, q) :: ρ1) = pfO R S0 T ρ := by
  obtain ⟨e1, e2⟩ := pfO_app (R := R) (S0 := S0) (τ := (1, q) :: ρ1) (T := T) hm
  have e3 : pfO R S0 (pfO R S0 T ρ).2 ((1, q) :: ρ1) = (0, (pfO R S0 T ρ).2) := by
    show (if (1 : Nat) = 0 then _ else _) = _
    rw [if_neg (by decide)]
  rw [e3] at e1 e2
  exact Prod.ext e1 e2
theorem inR_sub (hy : nYk (yT R S0) (zN R S0) (szN R S0) (rkN R S0 g)) {ρ τ : lLc} {T0 U v c : Nat} (hm : qM ρ) (ht : qM τ) (hw : qW (yT R S0) T0 (ρ ++ τ) U) (h : inR R S0 T0 v (ρ ++ τ) c) : inR R S0 T0 v ρ c := by
  obtain ⟨T1, w1, w2⟩ := qW_cut hw
  obtain ⟨a1, a2⟩ := pfO_q hy hm w1
  obtain ⟨b1, b2⟩ := pfO_q hy ht w2
  obtain ⟨c1, c2⟩ := pfO_app (R := R) (S0 := S0) (τ := τ) (T := T0) hm
  unfold inR at h ⊢
  rw [c1, c2, a1, b1] at h
  rw [a1]
  omega
theorem inR_ex (hy : nYk (yT R S0) (zN R S0) (szN R S0) (rkN R S0 g)) {ρ : lLc} {T0 v : Nat} : inR R S0 T0 v ρ (16 * v + (pfO R S0 T0 ρ).1) := by
  have := (hy.1 (pfO R S0 T0 ρ).2).1
  unfold inR; omega
theorem inR_16 (hy : nYk (yT R S0) (zN R S0) (szN R S0) (rkN R S0 g)) {ρ : lLc} {T0 U v c : Nat} (hm : qM ρ) (hw : qW (yT R S0) T0 ρ U) (h : inR R S0 T0 v ρ c) : 16 * v ≤ c ∧ c < 16 * v + 16 := by
  obtain ⟨a1, a2⟩ := pfO_q hy hm hw
  have := (hy.1 T0).2.1
  unfold inR at h
  rw [a1] at h
  omega
/-- places of members that share a leaf lie one in the other -/
theorem pf_cmp (hy : nYk (yT R S0) (zN R S0) (szN R S0) (rkN R S0 g)) : ∀ {ρ σ : lLc} {T U W c : Nat}, qM ρ → qM σ → qW (yT R S0) T ρ U → qW (yT R S0) T σ W → (pfO R S0 T ρ).1 ≤ c → c < (pfO R S0 T ρ).1 + zN R S0 U → (pfO R S0 T σ).1 ≤ c → c < (pfO R S0 T σ).1 + zN R S0 W → lCmp ρ σ
  | [], σ, _, _, _, _, _, _, _, _, _, _, _, _ => Or.inl ⟨σ, rfl⟩
  | ρ, [], _, _, _, _, _, _, _, _, _, _, _, _ => Or.inr ⟨ρ, rfl⟩
  | (0, p) :: ρ, (0, q) :: σ, T, U, W, c, hm, hn, h, g9, a1, a2, b1, b2 => by
    have d : ∀ (r : Nat) (σ : lLc), pfO R S0 T ((0, r) :: σ) = (ofN R S0 T r + (pfO R S0 (yQ R S0 T 0 r) σ).1, (pfO R S0 (yQ R S0 T 0 r) σ).2) := fun r σ => by
      show (if (0 : Nat) = 0 then _ else _) = _
      rw [if_pos rfl]
    rw [d] at a1 a2 b1 b2
    obtain ⟨e1, e2⟩ := pfO_q hy (qM_cons.mp hm).2 h.2.2
    obtain ⟨f1, f2⟩ := pfO_q hy (qM_cons.mp hn).2 g9.2.2
    have a1 : ofN R S0 T p + (pfO R S0 (yQ R S0 T 0 p) ρ).1 ≤ c := a1
    have a2 : c < ofN R S0 T p + (pfO R S0 (yQ R S0 T 0 p) ρ).1 + zN R S0 U := a2
    have b1 : ofN R S0 T q + (pfO R S0 (yQ R S0 T 0 q) σ).1 ≤ c := b1
    have b2 : c < ofN R S0 T q + (pfO R S0 (yQ R S0 T 0 q) σ).1 + zN R S0 W := b2
    have e2 : (pfO R S0 (yQ R S0 T 0 p) ρ).1 + zN R S0 U ≤ zN R S0 (yQ R S0 T 0 p) := e2
    have f2 : (pfO R S0 (yQ R S0 T 0 q) σ).1 + zN R S0 W ≤ zN R S0 (yQ R S0 T 0 q) := f2
    have m : ∀ a b : Nat, a < b → ofN R S0 T a + zN R S0 (yQ R S0 T 0 a) ≤ ofN R S0 T b := fun a b hab => psN_mo (w := fun j => zN R S0 (yQ R S0 T 0 j)) (show a + 1 ≤ b from hab)
    have e : p = q := by
      rcases Nat.lt_trichotomy p q with w | w | w
      · have := m p q w; omega
      · exact w
      · have := m q p w; omega
    subst e
    have hh : qW (yT R S0) (yQ R S0 T 0 p) ρ U := h.2.2
    have gg : qW (yT R S0) (yQ R S0 T 0 p) σ W := g9.2.2
    exact (pf_cmp hy (c := c - ofN R S0 T p) (qM_cons.mp hm).2 (qM_cons.mp hn).2 hh gg (by omega) (by omega) (by omega) (by omega)).imp lP_consI lP_consI
  | (a + 1, p) :: ρ, _ :: _, _, _, _, _, hm, _, _, _, _, _, _, _ => absurd (qM_cons.mp hm).1 (by show a + 1 ≠ 0; omega)
  | (0, p) :: ρ, (a + 1, q) :: σ, _, _, _, _, _, hn, _, _, _, _, _, _ => absurd (qM_cons.mp hn).1 (by show a + 1 ≠ 0; omega)
theorem inR_cmp (hy : nYk (yT R S0) (zN R S0) (szN R S0) (rkN R S0 g)) {ρ σ : lLc} {T U W v c : Nat} (hm : qM ρ) (hn : qM σ) (h : qW (yT R S0) T ρ U) (g9 : qW (yT R S0) T σ W) (a : inR R S0 T v ρ c) (b : inR R S0 T v σ c) : lCmp ρ σ := by
  obtain ⟨e1, _⟩ := pfO_q hy hm h
  obtain ⟨f1, _⟩ := pfO_q hy hn g9
  unfold inR at a b
  rw [e1] at a
  rw [f1] at b
  exact pf_cmp hy (c := c - 16 * v) hm hn h g9 (by omega) (by omega) (by omega) (by omega)
/-- what lacks its value lacks it behind, if nothing comes there -/
theorem FnD.lo (hy : nYk (yT R S0) (zN R S0) (szN R S0) (rkN R S0 g)) (hE : D.E.y = yT R S0) (h : FnD R S0 i D) (e : edg D k j) {v : Nat} {π : lLc} (hv : v < 40) (q : LO R S0 D k v π) (hn : ∀ c : Nat, inR R S0 (D.E.vt v) v π c → rb D.mv (10 * k) c = true → ¬ MvK R S0 (D.tv k) (D.I k) c) : LO R S0 D j v π := fun h1 ⟨T, h2⟩ => by
  obtain ⟨c, c1, c2⟩ := q h1 ⟨T, h2⟩
  rw [hE] at h2
  have := inR_16 hy h1 h2 c1
  exact ⟨c, c1, h.2.2.1.2.1 k e.1 e.2.1 e.2.2.1 j e.2.2.2 c (by omega) (Or.inr (Or.inr ⟨c2, hn c c1 c2⟩))⟩
/-- what is looked at is there -/
theorem FnD.fu (hy : nYk (yT R S0) (zN R S0) (szN R S0) (rkN R S0 g)) (hE : D.E.y = yT R S0) (h : FnD R S0 i D) (h1 : D.Ps ≤ k) (h2 : k < D.Pe) (hr : D.rc k ≠ 0) {v T : Nat} {ρ : lLc} (hp : (D.I k).pa = some (v, ρ, T)) (h24 : (D.I k).kd ≠ 24) (ha : (D.I k).ac ≠ 0) (h7 : (D.I k).ac ≠ 7) (h6 : (D.I k).ac ≠ 6 ∨ ∃ s ∈ ρ, s.1 = 1) (ht : qM ρ → qW D.E.y (D.E.vt v) ρ T) (ht2 : ∀ (ρ0 : lLc) (q : Nat) (ρ1 : lLc), ρ = ρ0 ++ (1, q) :: ρ1 → qM ρ0 → ∃ U : Nat, qW D.E.y (D.E.vt v) ρ0 U) : fuL D.E.y (LO R S0 D k) v ρ T := by
  have htv := h.2.2.1.1 k v T ρ h1 h2 h24 hp
  have hw := h.2.2.1.2.2 k h1 h2 hr ha h7 v ρ T hp h6
  rw [htv] at hw
  refine ⟨fun hm τ t z1 z2 z3 => ?_, fun ρ0 q ρ1 e0 z1 z2 => ?_⟩
  · have w1 := qW_app (ht hm) z2
    obtain ⟨c, c1, c2⟩ := z3 (qM_app.mpr ⟨hm, z1⟩) ⟨t, w1⟩
    rw [hE] at w1
    rw [hw c (inR_sub hy hm z1 w1 c1)] at c2
    cases c2
  · obtain ⟨U, hU⟩ := ht2 ρ0 q ρ1 e0 z1
    obtain ⟨c, c1, c2⟩ := z2 z1 ⟨U, hU⟩
    have : inR R S0 (D.E.vt v) v ρ c := by
      unfold inR at c1 ⊢
      rw [e0, pfO_st z1]; exact c1
    rw [hw c this] at c2
    cases c2
end PS52
end
-- m4.b.lean.txt
section
/-- where the latest frame stands -/
def atT (R : yR) (S0 : Sg) (i : Nat) (D : fD) (k : Nat) (X : kFm) : Prop := X.1 = i ∧ X.2.1 = trL (AL D k) (D.st k) ∧ X.2.2.1 = 0 ∧ kH X = HA R S0 i D k ∧ kal X = (fun u => u < 40 ∧ AL D k u) ∧ klo X = LO R S0 D k
section PS53
variable {R : yR} {S0 S : Sg} {D : fD} {i k j f n : Nat} {y : qY} {vt : Nat → Nat → Nat} {tb : Nat → lTb} {zn sz rk : Nat → Nat} {x : Nat → kFm} {rt : Nat × Nat → Nat} {V : Nat × Nat → qV} {bs : Nat → Nat} {al : Nat → Prop}
theorem yB_yT : yB (yT R S0) := by
  have lo : ∀ t : Nat, t < 10000 → yK R S0 t ≠ 5 ∧ yK R S0 t ≠ 6 := fun t ht => by
    unfold yK
    rw [if_neg (by omega)]
    by_cases c : 4 ≤ t ∧ t < 4 + R.im
    · rw [if_pos c]
      by_cases c1 : R.ik (t - 4) = 10
      · rw [if_pos c1]; decide
      · rw [if_neg c1]
        by_cases c2 : R.ik (t - 4) = 11
        · rw [if_pos c2]; decide
        · rw [if_neg c2]; decide
    · rw [if_neg c]
      by_cases c3 : 100 ≤ t ∧ t < 100 + tmS S0
      · rw [if_pos c3]
        cases Zq S0 18 (t - 100) with
        | none => simp
        | some x =>
          by_cases c4 : fN (obF S0 x) 0 = 5
          · simp [c4]
          · simp [c4]
      · rw [if_neg c3]; decide
  refine ⟨fun t ht => ?_, fun t ht => ?_, fun T hT => ⟨?_, ?_, ?_, ?_⟩, fun t ht => ?_⟩
  · show yK R S0 t = 0
    unfold yK
    rw [if_neg (by omega), if_neg (by omega), if_neg (by omega)]
  · show yK R S0 t ≠ 2 ∧ yK R S0 t ≠ 3 ∧ yK R S0 t ≠ 4
    unfold yK
    rw [if_pos ht]
    by_cases c : t < 30000
    · rw [if_pos c]
      by_cases c2 : t % 2 = 0
      · rw [if_pos c2]; decide
      · rw [if_neg c2]; decide
    · rw [if_neg c]; decide
  · show yK R S0 (10000 + 2 * T) = 5
    unfold yK
    rw [if_pos (by omega), if_pos (by omega), if_pos (by omega)]
  · show yO S0 (10000 + 2 * T) = T
    unfold yO
    rw [if_pos (by omega)]; omega
  · show yK R S0 (10001 + 2 * T) = 6
    unfold yK
    rw [if_pos (by omega), if_pos (by omega), if_neg (by omega)]
  · show yO S0 (10001 + 2 * T) = T
    unfold yO
    rw [if_pos (by omega)]; omega
  · have ht : yK R S0 t = 5 ∨ yK R S0 t = 6 := ht
    have h1 : 10000 ≤ t ∧ t < 30000 := by
      by_cases c : 10000 ≤ t
      · refine ⟨c, ?_⟩
        by_cases c2 : t < 30000
        · exact c2
        · unfold yK at ht
          rw [if_pos c, if_neg c2] at ht
          rcases ht with z | z <;> cases z
      · have := lo t (by omega)
        rcases ht with z | z
        · exact absurd z this.1
        · exact absurd z this.2
    show yK R S0 (yO S0 t) ≠ 5 ∧ yK R S0 (yO S0 t) ≠ 6
    unfold yO
    rw [if_pos h1.1]
    exact lo _ (by omega)
/-- a value that leads somewhere is a reference that is used, or is given back -/
theorem kK_ref {X : kFm} {q : Nat} {a : lLc} : ∀ {s : List tE}, kK y rt V q X (trL al s) → n < wl s → kR X (40 + n) = some a → al (40 + n) ∨ mkS s
  | [], _, h, _ => by cases h
  | e :: s, h, hn, hr => by
    by_cases c : n < wl s
    · exact (kK_ref (s := s) h.2 c hr).imp id (fun ⟨b, b1, b2⟩ => ⟨b, List.mem_cons_of_mem _ b1, b2⟩)
    · by_cases hnm : e.1 = 8 ∨ e.1 = 4 ∨ e.1 = 5 ∨ e.1 = 6
      · rw [wl_0 hnm] at hn; omega
      · rw [wl_n hnm] at hn
        obtain rfl : n = wl s := by omega
        have h1 : kE y rt V q X (wl (trL al s)) (trE al (wl s) e) := h.1
        rw [trL_wl] at h1
        by_cases c1 : e.1 = 1 ∨ e.1 = 2
        · by_cases c2 : e.2.2 = 0
          · by_cases c3 : al (40 + wl s)
            · exact Or.inl c3
            · rw [trE_d c1 c2 c3] at h1
              rw [h1.1] at hr; cases hr
          · exact Or.inr ⟨e, List.mem_cons_self .., c1, c2⟩
        · by_cases c3 : e.1 = 3
          · rw [trE_3 c3] at h1
            rw [h1.1] at hr; cases hr
          · rw [trE_o (by omega) (by omega) c3 (by omega) (by omega)] at h1
            obtain ⟨e1, e2, e3⟩ := e
            have c1 : ¬ (e1 = 1 ∨ e1 = 2) := c1
            have c3 : ¬ e1 = 3 := c3
            have hnm : ¬ (e1 = 8 ∨ e1 = 4 ∨ e1 = 5 ∨ e1 = 6) := hnm
            match e1, h1 with
            | 0, h1 => rw [h1.1] at hr; cases hr
            | 1, _ => omega
            | 2, _ => omega
            | 3, _ => omega
            | 4, _ => omega
            | 5, _ => omega
            | 6, _ => omega
            | 7, h1 => rw [h1.1] at hr; cases hr
            | 8, _ => omega
            | e1 + 9, h1 => exact h1.elim
/-- the step's end: the frame as the certificate tells it at j -/
theorem kT.finR (hy : nYk y zn sz rk) (hB : yB y) (h : kT y zn sz vt tb f x bs S) (h0 : (x f).2.2.1 = 0) (hi : (x f).1 = i) (hs : wkS (x f).2.1 (trL (AL D j) (D.st j)))
  (hal : ∀ u : Nat, u < 40 → AL D j u → kal (x f) u) (hH1 : ∀ u κ : Nat, u < 40 → AL D j u → kH (x f) u κ → HK D j u κ) (hH2 : ∀ m κ : Nat, m < wl (D.st j) → AL D j (40 + m) ∨ mkS (D.st j) → kH (x f) (40 + m) κ → HK D j (40 + m) κ ∧ (mkS (D.st j) → m = 0 → okl R S0 i D κ)) (hH3 : ∀ (κ r m : Nat), (5, r, m) ∈ trL (AL D j) (D.st j) ∨ (6, r, m) ∈ trL (AL D j) (D.st j) → kH (x f) 300 κ → HA R S0 i D j 300 κ) (hlo : ∀ (v : Nat) (π : lLc), v < 40 → (8, v, 0) ∈ D.st j → klo (x f) v π → LO R S0 D j v π) :
  ∃ X : kFm, atT R S0 i D j X ∧ kAn X = kAn (x f) ∧ kT y zn sz vt tb f (kUx x f X) bs S ∧ ∀ u : Nat, kR X u = kR (x f) u ∨ (kR X u = none ∧ 40 ≤ u) := by
  obtain ⟨R2, r1, r2⟩ := kT.wks hy hB (P := []) h rfl hs
  rw [List.nil_append] at r2
  have r3 := r2.wk (H2 := HA R S0 i D j) (al2 := fun u => u < 40 ∧ AL D j u) (lo2 := LO R S0 D j) (by rw [kUx_top]; exact h0) (fun u a κ hu ha hk => ?_) (fun u hu => by rw [kUx_top]; exact hal u hu.1 hu.2) (fun v π hv h8 hk => ?_)
  · rw [kUx_top, kUx2] at r3
    exact ⟨((x f).1, trL (AL D j) (D.st j), 0, R2, HA R S0 i D j, (fun u => u < 40 ∧ AL D j u), LO R S0 D j, kAn (x f)), ⟨hi, rfl, rfl, rfl, rfl, rfl⟩, rfl, r3, r1⟩
  · rw [kUx_top] at hu ha hk
    have hk : kH (x f) u κ := hk
    have ha : R2 u = some a := ha
    have hu : lv2 (trL (AL D j) (D.st j)) (fun u => u < 40 ∧ AL D j u) u := hu
    rcases hu with ⟨u1, _, u2⟩ | ⟨u1, u2⟩ | ⟨u1, r, m, u2⟩
    · exact Or.inl ⟨by omega, hH1 u κ u1 u2 hk, fun w => by omega, fun _ w => by omega⟩
    · rw [trL_wl] at u2
      obtain ⟨m, rfl⟩ : ∃ m : Nat, u = 40 + m := ⟨u - 40, by omega⟩
      obtain ⟨rt, V, C, L, H, fl, t, hJ, _⟩ := r2
      have hK := hJ.2.2.2.2.1 f (Nat.le_refl _)
      have hw : wl (kUx x f ((x f).1, trL (AL D j) (D.st j), (x f).2.2.1, R2, kH (x f), kal (x f), klo (x f), kAn (x f)) f).2.1 ≤ 211 := hJ.2.2.2.2.2.2.2.2 f (Nat.le_refl _)
      rw [kUx_top] at hK hw
      have hw : wl (trL (AL D j) (D.st j)) ≤ 211 := hw
      rw [trL_wl] at hw
      have hor := kK_ref (n := m) (a := a) hK (by omega) ha
      obtain ⟨q1, q2⟩ := hH2 m κ (by omega) hor hk
      exact Or.inl ⟨by omega, q1, fun _ => hor, fun w z => q2 w (by omega)⟩
    · subst u1
      exact hH3 κ r m u2 hk
  · rw [kUx_top] at h8 hk
    exact hlo v π hv (trL_8.mp h8) hk
theorem kT.fin (hy : nYk y zn sz rk) (hB : yB y) (h : kT y zn sz vt tb f x bs S) (h0 : (x f).2.2.1 = 0) (hi : (x f).1 = i) (hs : wkS (x f).2.1 (trL (AL D j) (D.st j)))
  (hal : ∀ u : Nat, u < 40 → AL D j u → kal (x f) u) (hH1 : ∀ u κ : Nat, u < 40 → AL D j u → kH (x f) u κ → HK D j u κ) (hH2 : ∀ m κ : Nat, m < wl (D.st j) → AL D j (40 + m) ∨ mkS (D.st j) → kH (x f) (40 + m) κ → HK D j (40 + m) κ ∧ (mkS (D.st j) → m = 0 → okl R S0 i D κ)) (hH3 : ∀ (κ r m : Nat), (5, r, m) ∈ trL (AL D j) (D.st j) ∨ (6, r, m) ∈ trL (AL D j) (D.st j) → kH (x f) 300 κ → HA R S0 i D j 300 κ) (hlo : ∀ (v : Nat) (π : lLc), v < 40 → (8, v, 0) ∈ D.st j → klo (x f) v π → LO R S0 D j v π) :
  ∃ X : kFm, atT R S0 i D j X ∧ kAn X = kAn (x f) ∧ kT y zn sz vt tb f (kUx x f X) bs S := by
  obtain ⟨X, x1, x2, x3, _⟩ := kT.finR hy hB h h0 hi hs hal hH1 hH2 hH3 hlo
  exact ⟨X, x1, x2, x3⟩
end PS53
end
-- m4.c.lean.txt
section
section PS54
variable {S S2 : Sg} {f n : Nat} {y : qY} {vt : Nat → Nat → Nat} {tb : Nat → lTb} {zn sz rk : Nat → Nat} {x x2 : Nat → kFm} {rt rt2 : Nat × Nat → Nat} {V V2 : Nat × Nat → qV} {bs : Nat → Nat} {C L H : Nat × Nat → List Nat} {M : nM} {sk sk2 : Nat → Int64} {pl : Nat → Int32}
theorem kN.bsm (h : kN y zn sz M sk pl f x rt V bs C L H) : ∀ {j q : Nat}, j ≤ q → q ≤ f → bs j ≤ bs q ∧ (j < q → bs j + wl (x j).2.1 ≤ bs q)
  | j, 0, h1, _ => by
    obtain rfl : j = 0 := by omega
    exact ⟨Nat.le_refl _, fun w => by omega⟩
  | j, q + 1, h1, h2 => by
    by_cases e : j = q + 1
    · subst e; exact ⟨Nat.le_refl _, fun w => by omega⟩
    · obtain ⟨a1, a2⟩ := kN.bsm h (j := j) (q := q) (by omega) (by omega)
      have e1 := h.2.2.1.2 q (by omega)
      refine ⟨by omega, fun _ => ?_⟩
      by_cases e2 : j = q
      · subst e2; omega
      · have := a2 (by omega); omega
theorem kN.bb (h : kN y zn sz M sk pl f x rt V bs C L H) (hw : ∀ j : Nat, j ≤ f → wl (x j).2.1 ≤ 177) : ∀ {q : Nat}, q ≤ f → bs q ≤ 177 * q
  | 0, _ => by rw [h.2.2.1.1]; omega
  | q + 1, hq => by
    have := kN.bb h hw (q := q) (by omega)
    have e1 := h.2.2.1.2 q (by omega)
    have := hw q (by omega)
    omega
/-- only the stack above what lies there changes -/
theorem kN.skc (h : kN y zn sz M sk pl f x rt V bs C L H) (hs : ∀ q : Nat, q < bs f + wl (x f).2.1 → sk2 q = sk q) : kN y zn sz M sk2 pl f x rt V bs C L H := by
  have key : ∀ j u : Nat, j ≤ f → 40 ≤ u → u < 40 + wl (x j).2.1 → sk2 (bs j + (u - 40)) = sk (bs j + (u - 40)) := fun j u hj h1 h2 => hs _ (by
    by_cases e : j = f
    · subst e; omega
    · have := (h.bsm (j := j) (q := f) hj (Nat.le_refl _)).2 (by omega); omega)
  refine ⟨fun j u hj => (h.1 j u hj).st (fun _ _ => ⟨rfl, rfl, rfl⟩) (fun _ _ => ⟨rfl, rfl, rfl⟩) (fun _ _ => rfl) (fun a b => key j u hj a b), h.2.1, h.2.2.1, fun j u d π hj ha hc hr => ?_⟩
  obtain ⟨m, m1, m2, m3, m4⟩ := h.2.2.2 j u d π hj ha hc hr
  refine ⟨m, m1, m2, m3, fun a => ?_⟩
  rw [key j u hj a (by rcases hc with z | z <;> omega)]; exact m4 a
theorem FLs.eq {fl : List Nat} {t : Nat} (h : FLs S fl t) (e4 : Zi S2 64 = Zi S 64) (e5 : Zi S2 65 = Zi S 65) (e3 : Zr S2 63 = Zr S 63) : FLs S2 fl t := by
  obtain ⟨h1, h2, ⟨x, h3, h4⟩, h5, h6⟩ := h
  exact ⟨e4.trans h1, h2, ⟨x, e5.trans h3, by rw [e3]; exact h4⟩, h5, h6⟩
/-- what the picture looks at is as it was -/
def sam (S S2 : Sg) : Prop := nMS S2 = nMS S ∧ Zr S2 74 = Zr S 74 ∧ Zr S2 67 = Zr S 67 ∧ Zi S2 64 = Zi S 64 ∧ Zi S2 65 = Zi S 65
theorem sam.rf : sam S S := ⟨rfl, rfl, rfl, rfl, rfl⟩
theorem sam.nx (h : sam S S2) : Zr S2 63 = Zr S 63 := congrArg (fun m : nM => m.2.2) h.1
theorem sam.fl (h : sam S S2) {fl : List Nat} {t : Nat} (q : FLs S fl t) : FLs S2 fl t := q.eq h.2.2.2.1 h.2.2.2.2 h.nx
theorem kT.skc (h : kT y zn sz vt tb f x bs S) (e : sam S S2) (hs : ∀ q : Nat, q < bs f + wl (x f).2.1 → Zl S2 72 q = Zl S 72 q) : kT y zn sz vt tb f x bs S2 := by
  obtain ⟨rt, V, C, L, H, fl, t, hJ, hN, hC, hF⟩ := h
  exact ⟨rt, V, C, L, H, fl, t, hJ, by rw [e.1, e.2.1]; exact hN.skc hs, by rw [e.2.2.1]; exact hC, e.fl hF⟩
theorem wl_u {e : tE} {s : List tE} (he : kNm e) {u : Nat} (hu : u ≠ 40 + wl s) (h4 : 40 ≤ u) : u < 40 + wl (e :: s) ↔ u < 40 + wl s := by
  rw [wl_n he]
  constructor
  · intro w; omega
  · intro w; omega
theorem nm_8 {e : tE} {s : List tE} (he : kNm e) {v : Nat} : (8, v, 0) ∈ e :: s ↔ (8, v, 0) ∈ s := by
  rw [List.mem_cons]
  constructor
  · rintro (w | w)
    · rw [← w] at he; exact absurd (Or.inl rfl) he
    · exact w
  · exact Or.inr
/-- a number comes on top -/
theorem kT.push0 (hy : nYk y zn sz rk) (hB : yB y) (h : kT y zn sz vt tb f x bs S) (h0 : (x f).2.2.1 = 0) (hl : wl (x f).2.1 < 211) {t2 : Nat} (ht : t2 = 1 ∨ t2 = 2 ∨ t2 = 3) : kT y zn sz vt tb f (kUx x f ((x f).1, (0, t2, 0) :: (x f).2.1, 0, lUp (kR (x f)) (40 + wl (x f).2.1) none, kH (x f), kal (x f), klo (x f), kAn (x f))) bs S := by
  obtain ⟨rt, V, C, L, H, fl, t, hJ, hN, hC, hF⟩ := h
  have z0 : y.1 t2 = 0 := hB.1 t2 (by omega)
  have hnm : kNm (0, t2, 0) := by show ¬ ((0 : Nat) = 8 ∨ (0 : Nat) = 4 ∨ (0 : Nat) = 5 ∨ (0 : Nat) = 6); decide
  have hJ2 := kJ_push (e := (0, t2, 0)) (t := t2) (W := qL t2) (hd := kH (x f) (40 + wl (x f).2.1)) hJ hnm h0 hl (qFu_L (by rw [z0]; decide) (by rw [z0]; decide) (by rw [z0]; decide)).1 (fun z hz => by
    have hz : some (t2, 0) = some z := hz
    cases hz
    show y.1 t2 ≠ 5 ∧ y.1 t2 ≠ 6
    rw [z0]; decide) ⟨lUp_eq, by rw [z0]; decide, by rw [z0]; decide, fun _ => ⟨qRt_eq, by rw [qUp_eq]; exact (qFu_L (by rw [z0]; decide) (by rw [z0]; decide) (by rw [z0]; decide)).2⟩, fun w => by omega⟩
  rw [lUp_self] at hJ2
  obtain ⟨c0, l0, hh0⟩ := (hN.1 f (40 + wl (x f).2.1) (Nat.le_refl _)).2.2 (fun w => by rcases w with w | w <;> omega)
  refine ⟨_, _, C, L, H, fl, t, hJ2, kN.r1 (u0 := 40 + wl (x f).2.1) hy hJ hN (fun j hj => kUx_lo hj) (fun u hu => by rw [kUx_top]; exact nm_8 hnm) (fun u hu h4 => by rw [kUx_top]; exact wl_u hnm hu h4) (fun r hr => ⟨qRt_ne hr, qUp_ne hr, rfl, rfl, rfl⟩) (fun r _ _ _ => ⟨agN.rf, agN.rf⟩) (fun _ _ _ _ _ => rfl) (fun _ _ _ _ _ => rfl) ?_ (fun j u d π hj ha hc hr => Or.inl ?_), hC, hF⟩
  · rw [qRt_eq, qUp_eq, kUx_top, c0, l0, hh0]
    refine ⟨fun a => by omega, fun _ _ => ⟨rfl, vaR.mk (by rw [z0]; decide) (by rw [z0]; decide) (by rw [z0]; decide) ⟨(t2, 0), rfl⟩⟩, fun w => absurd (Or.inr ⟨by omega, ?_⟩) w⟩
    show 40 + wl (x f).2.1 < 40 + wl ((0, t2, 0) :: (x f).2.1)
    rw [wl_n hnm]; omega
  · by_cases e : j = f
    · subst e
      rw [kUx_top] at ha hr
      have hr : lUp (kR (x j)) (40 + wl (x j).2.1) none u = some (d :: π) := hr
      have hu : u ≠ 40 + wl (x j).2.1 := fun w => by rw [w, lUp_eq] at hr; cases hr
      rw [lUp_ne hu] at hr
      have ha2 : kA (x j) u := by
        rcases ha with z | ⟨z1, z2⟩
        · exact Or.inl z
        · have z2 : u < 40 + wl ((0, t2, 0) :: (x j).2.1) + 0 := z2
          rw [wl_n hnm] at z2; exact Or.inr ⟨z1, by omega⟩
      exact ⟨fun w => hu (Prod.mk.inj w).2, ne40 (j := j) (u := 0) (hJ.ld (Nat.le_refl _) ha2 hr).2.1, ha2, hr⟩
    · rw [kUx_lo e] at ha hr
      exact ⟨fun w => e (Prod.mk.inj w).1, ne40 (j := f) (u := 0) (hJ.ld hj ha hr).2.1, ha, hr⟩
/-- a number, or a reference, goes -/
theorem kT.pop1 (hy : nYk y zn sz rk) (hB : yB y) (h : kT y zn sz vt tb f x bs S) (h0 : (x f).2.2.1 = 0) {e1 : tE} {s : List tE} (hS : (x f).2.1 = e1 :: s) (he : (∃ t : Nat, (t = 1 ∨ t = 2 ∨ t = 3) ∧ e1 = (0, t, 0)) ∨ ∃ T m : Nat, e1 = (1, T, m) ∨ e1 = (2, T, m)) : kT y zn sz vt tb f (kUx x f ((x f).1, s, 0, kR (x f), kH (x f), kal (x f), klo (x f), kAn (x f))) bs S := by
  obtain ⟨rt, V, C, L, H, fl, t, hJ, hN, hC, hF⟩ := h
  have hnm : kNm e1 := by
    rcases he with ⟨t, _, w⟩ | ⟨T, m, w | w⟩
    · rw [w]; show ¬ ((0 : Nat) = 8 ∨ (0 : Nat) = 4 ∨ (0 : Nat) = 5 ∨ (0 : Nat) = 6); decide
    · rw [w]; show ¬ ((1 : Nat) = 8 ∨ (1 : Nat) = 4 ∨ (1 : Nat) = 5 ∨ (1 : Nat) = 6); decide
    · rw [w]; show ¬ ((2 : Nat) = 8 ∨ (2 : Nat) = 4 ∨ (2 : Nat) = 5 ∨ (2 : Nat) = 6); decide
  have hJ2 := kJ_pop (E := [e1]) hJ hS (fun a ha => by rw [List.mem_singleton.mp ha]; exact hnm) h0
  have hK := hJ.2.2.2.2.1 f (Nat.le_refl _)
  have h211 := hJ.2.2.2.2.2.2.2.2 f (Nat.le_refl _)
  rw [hS] at hK h211
  rw [wl_n hnm] at h211
  have hE : kE y rt V f (x f) (wl s) e1 := hK.1
  have hty : y.1 (rt (f, 40 + wl s)) ≠ 2 ∧ y.1 (rt (f, 40 + wl s)) ≠ 3 ∧ y.1 (rt (f, 40 + wl s)) ≠ 4 := by
    rcases he with ⟨t, w1, w⟩ | ⟨T, m, w | w⟩
    · rw [w] at hE
      have z : y.1 t = 0 := hB.1 t (by omega)
      rw [(hE.2.2.2.1 (by omega)).1, z]; decide
    · rw [w] at hE
      rw [hE.1]; exact hB.2.1 _ (by omega)
    · rw [w] at hE
      rw [hE.1]; exact hB.2.1 _ (by omega)
  obtain ⟨c0, v0⟩ := (hN.1 f (40 + wl s) (Nat.le_refl _)).2.1 (by omega) (by rw [hS, wl_n hnm]; omega)
  obtain ⟨l0, hh0⟩ := v0.lf hty.1 hty.2.1 hty.2.2
  refine ⟨_, _, C, L, H, fl, t, hJ2, kN.r1 (u0 := 40 + wl s) hy hJ hN (fun j hj => kUx_lo hj) (fun u hu => by rw [kUx_top, hS]; exact (nm_8 hnm).symm) (fun u hu h4 => by rw [kUx_top, hS]; exact (wl_u hnm hu h4).symm) (fun r hr => ⟨rfl, ?_, rfl, rfl, rfl⟩) (fun r _ _ _ => ⟨agN.rf, agN.rf⟩) (fun _ _ _ _ _ => rfl) (fun _ _ _ _ _ => rfl) ?_ (fun j u d π hj ha hc hr => Or.inl ?_), hC, hF⟩
  · obtain ⟨j, u⟩ := r
    by_cases e : j = f
    · subst e
      by_cases e2 : u < 40 + wl s ∨ 300 ≤ u
      · exact kCl_out e2
      · funext π
        rw [kCl_in (by omega) (by omega)]
        have hu : u ≠ 40 + wl s := fun w => hr (by rw [w])
        refine Eq.symm (Classical.byContradiction (fun w => ?_))
        cases hv : V (j, u) π with
        | none => exact w hv
        | some z =>
          obtain ⟨_, k1, _⟩ := hJ.2.2.2.2.2.1 j u π z hv
          rw [hS] at k1
          rcases k1 with ⟨a, _⟩ | ⟨a, b⟩ | ⟨a, _⟩ | ⟨_, _, i9, _, a, _⟩
          · omega
          · rw [wl_n hnm] at b; omega
          · omega
          · omega
    · exact kCl_f e
  · rw [kUx_top, c0, l0, hh0]
    refine ⟨fun a => by omega, fun _ w => ?_, fun _ => ⟨rfl, rfl, rfl⟩⟩
    have w : 40 + wl s < 40 + wl s := w
    omega
  · by_cases e : j = f
    · subst e
      rw [kUx_top] at ha hr hc
      have hr : kR (x j) u = some (d :: π) := hr
      have hc : kSc s u := hc
      have ha2 : kA (x j) u := by
        rcases ha with z | ⟨z1, z2⟩
        · exact Or.inl z
        · have z2 : u < 40 + wl s + 0 := z2
          refine Or.inr ⟨z1, ?_⟩
          rw [hS, wl_n hnm]; omega
      have hu : u ≠ 40 + wl s := fun w => by rcases hc with z | z <;> omega
      exact ⟨fun w => hu (Prod.mk.inj w).2, ne40 (j := j) (u := 0) (hJ.ld (Nat.le_refl _) ha2 hr).2.1, ha2, hr⟩
    · rw [kUx_lo e] at ha hr
      exact ⟨fun w => e (Prod.mk.inj w).1, ne40 (j := f) (u := 0) (hJ.ld hj ha hr).2.1, ha, hr⟩
end PS54
end
-- m4.d.lean.txt
section
/-- below the top nothing is matched on -/
def gtS (s : List tE) : Prop := ∀ (e : tE) (r : List tE), s = e :: r → ∀ a ∈ r, pnE a
/-- what holds all the time while it runs -/
def RX (Sl S : Sg) : Prop := RNx Sl S ∧ wq S ∧ (∃ c : Nat, c ≤ 60 ∧ Zi S 86 = nI c) ∧ (∃ h : Nat, h ≤ 4000 ∧ Zi S 66 = nI h) ∧ Zi S 81 = nI 0
/-- the stack alone changes -/
def SO (S S2 : Sg) : Prop := ZL S2 = ZL S ∧ ZF S2 = ZF S ∧ (Zz S2 = Zz S ∧ Zn S2 = Zn S) ∧ Zq S2 = Zq S ∧ Zf S2 = Zf S ∧ (∀ r : Nat, r ≠ 72 → Zl S2 r = Zl S r) ∧ Zr S2 = Zr S ∧ ∀ j : Nat, j ≠ 73 → Zi S2 j = Zi S j
/-- where the running stands: at the point k of function i -/
def PK (R : yR) (S0 : Sg) (i : Nat) (D : fD) (k : Nat) : Prop := FnD R S0 i D ∧ (D.Ps ≤ k ∧ k < D.Pe ∧ D.rc k ≠ 0) ∧ D.W k ∧ gtS (D.st k) ∧ D.E.y = yT R S0
/-- root 300 leads to the place v ρ -/
def pd5 (f t : Nat) (r : Nat → Option lLc) (v : Nat) (ρ : lLc) : Prop := ∃ (d : Nat × Nat) (π : lLc), r 300 = some (d :: π) ∧ ((d = (f, v) ∧ π = ρ ∧ ¬ isRf t) ∨ ∃ π0 ρ2 : lLc, r v = some (d :: π0) ∧ π = π0 ++ ρ2 ∧ ρ = (1, 0) :: ρ2 ∧ isRf t)
/-- .. with what a value that is matched on is -/
def kT3 (y : qY) (zn sz : Nat → Nat) (vt : Nat → Nat → Nat) (tb : Nat → lTb) (f : Nat) (x : Nat → kFm) (bs : Nat → Nat) (S : Sg) (s : List tE) : Prop := ∃ (rt : Nat × Nat → Nat) (V : Nat × Nat → qV) (C L H : Nat × Nat → List Nat) (fl : List Nat) (t : Nat), (kJ y vt tb f x rt V ∧ kN y zn sz (nMS S) (Zl S 72) (Zr S 74) f x rt V bs C L H ∧ kC C L H fl t (Zr S 67) ∧ FLs S fl t) ∧ (∀ r m : Nat, (3, r, m) ∈ s → V (f, 40) [] = some (r / 12, r % 12)) ∧ ∀ (q r m v : Nat) (ρ : lLc), (q = 5 ∨ q = 6) → (q, r, 64 * cdP v ρ + m) ∈ s → m < 64 → v < 40 → pd5 f (vt (x f).1 v) (kR (x f)) v ρ
/-- the next point, in the same frame -/
def NXt (R : yR) (S0 : Sg) (vt : Nat → Nat → Nat) (tb : Nat → lTb) (i : Nat) (D : fD) (k f : Nat) (x : Nat → kFm) (bs : Nat → Nat) (S S2 : Sg) : Prop := ∃ (j : Nat) (X : kFm), edg D k j ∧ PK R S0 i D j ∧ Zi S2 77 = nI j ∧ Zi S2 73 = nI (bs f + wl (D.st j)) ∧ (Zr S2 75 = Zr S 75 ∧ Zi S2 76 = Zi S 76) ∧ atT R S0 i D j X ∧ kAn X = kAn (x f) ∧ kT3 (yT R S0) (zN R S0) (szN R S0) vt tb f (kUx x f X) bs S2 (D.st j)
section PS55
variable {R : yR} {S0 Sl S S1 S2 : Sg} {D : fD} {i k j f n u κ : Nat} {y : qY} {vt : Nat → Nat → Nat} {tb : Nat → lTb} {zn sz rk : Nat → Nat} {x : Nat → kFm} {bs : Nat → Nat} {s t : List tE} {K : Ky} {A B : Nat → Prop} {g : Nat → Int32}
theorem kT3.kt (h : kT3 y zn sz vt tb f x bs S s) : kT y zn sz vt tb f x bs S := by
  obtain ⟨rt, V, C, L, H, fl, t, h, _⟩ := h
  exact ⟨rt, V, C, L, H, fl, t, h⟩
theorem kT.t3 (h : kT y zn sz vt tb f x bs S) (hs : ∀ a ∈ s, pnE a) : kT3 y zn sz vt tb f x bs S s := by
  obtain ⟨rt, V, C, L, H, fl, t, h⟩ := h
  exact ⟨rt, V, C, L, H, fl, t, h, (fun r m w => absurd rfl (hs _ w).1), fun q r m v ρ hq w _ _ => (hq.elim (hs _ w).2.2.1 (hs _ w).2.2.2.1).elim⟩
theorem gtS.all (h : gtS s) (ht : nT s) : ∀ a ∈ s, pnE a := fun a ha => by
  cases s with
  | nil => cases ha
  | cons e r =>
    rcases List.mem_cons.mp ha with w | w
    · rw [w]; exact ht e r rfl
    · exact h e r rfl a w
theorem gtS.tl {e : tE} (h : gtS (e :: s)) : ∀ a ∈ s, pnE a := h e s rfl
theorem gtS.cn {e : tE} (h : ∀ a ∈ s, pnE a) : gtS (e :: s) := fun e2 r q => by cases q; exact h
theorem gtS.of (h : ∀ a ∈ s, pnE a) : gtS s := fun e r q a ha => h a (by rw [q]; exact List.mem_cons_of_mem _ ha)
theorem wkE.pn {e e2 : tE} (h : wkE e e2) (q : pnE e) : pnE e2 := by
  rcases h with h | ⟨t2, _, h, _⟩
  · rw [h]; exact q
  · rw [h]; exact pnE_k (Or.inl rfl)
theorem wkS_pn : ∀ {s t : List tE}, wkS s t → (∀ a ∈ s, pnE a) → ∀ a ∈ t, pnE a
  | [], [], _, _, _, h => by cases h
  | e :: s, e2 :: t, h, q, a, ha => by
    rcases List.mem_cons.mp ha with w | w
    · rw [w]; exact h.1.pn (q e (List.mem_cons_self ..))
    · exact wkS_pn h.2 (fun a z => q a (List.mem_cons_of_mem _ z)) a w
  | [], _ :: _, h, _, _, _ => h.elim
  | _ :: _, [], h, _, _, _ => h.elim
theorem wkS_gt (h : wkS s t) (q : gtS s) : gtS t := by
  cases s with
  | nil =>
    cases t with
    | nil => exact fun e r w => by cases w
    | cons a b => exact h.elim
  | cons e s =>
    cases t with
    | nil => exact h.elim
    | cons e2 t => exact gtS.cn (wkS_pn h.2 q.tl)
theorem pn_mk (h : ∀ a ∈ s, pnE a) : ¬ mkS s := fun ⟨a, a1, a2, a3⟩ => a3 ((h a a1).2.2.2.2 a2)
theorem pn_4 (h : ∀ a ∈ s, pnE a) : ∀ a ∈ s, ¬ (a.1 = 4 ∨ a.1 = 5 ∨ a.1 = 6) := fun a ha w => by
  obtain ⟨_, h1, h2, h3, _⟩ := h a ha
  rcases w with w | w | w
  · exact h1 w
  · exact h2 w
  · exact h3 w
theorem SO.rf : SO S S := ⟨rfl, rfl, ⟨rfl, rfl⟩, rfl, rfl, fun _ _ => rfl, rfl, fun _ _ => rfl⟩
theorem SO.tr (a : SO S S1) (b : SO S1 S2) : SO S S2 := ⟨b.1.trans a.1, b.2.1.trans a.2.1, ⟨b.2.2.1.1.trans a.2.2.1.1, b.2.2.1.2.trans a.2.2.1.2⟩, b.2.2.2.1.trans a.2.2.2.1, b.2.2.2.2.1.trans a.2.2.2.2.1, fun r h => (b.2.2.2.2.2.1 r h).trans (a.2.2.2.2.2.1 r h), b.2.2.2.2.2.2.1.trans a.2.2.2.2.2.2.1, fun r h => (b.2.2.2.2.2.2.2 r h).trans (a.2.2.2.2.2.2.2 r h)⟩
theorem SO.rn (e : SO S S2) : RNx S S2 := ⟨e.1, e.2.1, e.2.2.1, e.2.2.2.1, e.2.2.2.2.1, fun r _ => by rw [e.2.2.2.2.2.2.1], fun r h => e.2.2.2.2.2.1 r (by omega), fun j h _ => e.2.2.2.2.2.2.2 j (by omega)⟩
theorem SO.sam (e : SO S S2) : sam S S2 := ⟨by show (Zl S2 61, Zr S2 62, Zr S2 63) = (Zl S 61, Zr S 62, Zr S 63); rw [e.2.2.2.2.2.1 61 (by decide), e.2.2.2.2.2.2.1], by rw [e.2.2.2.2.2.2.1], by rw [e.2.2.2.2.2.2.1], e.2.2.2.2.2.2.2 64 (by decide), e.2.2.2.2.2.2.2 65 (by decide)⟩
theorem RX.mk (h : RX Sl S) (e : RNx S S2) (hw : wq S2) (h86 : Zi S2 86 = Zi S 86) (h66 : Zi S2 66 = Zi S 66) (h81 : Zi S2 81 = nI 0) : RX Sl S2 := by
  obtain ⟨h1, h2, ⟨c, c1, c2⟩, ⟨d, d1, d2⟩, h5⟩ := h
  exact ⟨h1.tr e, hw, ⟨c, c1, h86.trans c2⟩, ⟨d, d1, h66.trans d2⟩, h81⟩
theorem wq.eq (h : wq S) (h1 : Zi S2 83 = Zi S 83) (h2 : Zi S2 84 = Zi S 84) : wq S2 := by
  obtain ⟨f, l, a, b, c, d⟩ := h
  exact ⟨f, l, h1.trans a, b, h2.trans c, d⟩
theorem SO.rx (e : SO S S2) (h : RX Sl S) : RX Sl S2 := h.mk e.rn (h.2.1.eq (e.2.2.2.2.2.2.2 83 (by decide)) (e.2.2.2.2.2.2.2 84 (by decide))) (e.2.2.2.2.2.2.2 86 (by decide)) (e.2.2.2.2.2.2.2 66 (by decide)) ((e.2.2.2.2.2.2.2 81 (by decide)).trans h.2.2.2.2)
/-- push -/
theorem psh_ {p : Nat} {v : Int64} (hp : Zi S 73 = nI p) (h2 : p < 20000) : Rt (f_push K S v) (fun S2 _ => SO S S2 ∧ Zi S2 73 = nI (p + 1) ∧ Zl S2 72 p = v ∧ ∀ q : Nat, q ≠ p → Zl S2 72 q = Zl S 72 q) := by
  unfold f_push
  rw [hp]
  refine Rt.bd (wJ_n (show p < rlen 72 from h2) (by decide)) ?_
  refine Rt.bd (v := Ui (Ul S 72 (vp_updL (Zl S 72) p v)) 73 (nI (p + 1))) (by
    show some (Ui _ 73 (Zi S 73 + 1)) = _
    rw [hp, nI_1]) (Rt.rt ⟨⟨rfl, rfl, ⟨rfl, rfl⟩, rfl, rfl, fun r hr => Zl_un hr, rfl, fun j hj => Zi_n hj⟩, Zi_s, ?_, fun q hq => ?_⟩)
  · show Zl (Ul S 72 (vp_updL (Zl S 72) p v)) 72 p = v
    rw [Zl_us, upL_s]
  · show Zl (Ul S 72 (vp_updL (Zl S 72) p v)) 72 q = _
    rw [Zl_us]; exact upL_n hq
/-- pop -/
theorem pop_ {p : Nat} (hp : Zi S 73 = nI (p + 1)) (h2 : p < 20000) : Rt (f_pop K S) (fun S2 r => S2 = Ui S 73 (nI p) ∧ r = Zl S 72 p ∧ SO S S2 ∧ Zi S2 73 = nI p ∧ Zl S2 = Zl S) := by
  unfold f_pop
  rw [hp, nI_pred]
  refine Rt.bd (v := Ui S 73 (nI p)) rfl ?_
  rw [show Zi (Ui S 73 (nI p)) 73 = nI p from Zi_s]
  exact Rt.bd (rJ_n (show p < rlen 72 from h2) (by decide)) (Rt.rt ⟨rfl, rfl, ⟨rfl, rfl, ⟨rfl, rfl⟩, rfl, rfl, fun _ _ => rfl, rfl, fun j hj => Zi_n hj⟩, Zi_s, rfl⟩)
/-- no variable gets a value -/
def kdM (i : iR) : Prop := i.kd ≠ 12 ∧ i.kd ≠ 14 ∧ i.kd ≠ 22 ∧ i.kd ≠ 23 ∧ i.kd ≠ 24
theorem kdM.nk {T0 c : Nat} {ii : iR} (h : kdM ii) : ¬ MvK R S0 T0 ii c := fun w => by
  obtain ⟨h1, h2, h3, h4, h5⟩ := h
  rcases w with ⟨w, _⟩ | ⟨w, _⟩
  · omega
  · omega
/-- a step's end, if nobody holds anything new -/
theorem fin0 (hL : LFS R S0 g) (hk : PK R S0 i D k) (e : edg D k j) (hw : wkS s (D.st j)) (hs : ∀ a ∈ s, pnE a) (hm : kdM (D.I k)) (ho : (D.I k).ho = none)
  (h0 : (x f).2.2.1 = 0) (hi : (x f).1 = i) (hst : wkS (x f).2.1 (trL (AL D j) (D.st j))) (hH : kH (x f) = HA R S0 i D k) (hal : kal (x f) = fun u => u < 40 ∧ AL D k u) (hlo : klo (x f) = LO R S0 D k) (h : kT (yT R S0) (zN R S0) (szN R S0) vt tb f x bs S2) (h77 : Zi S2 77 = nI j) (h73 : Zi S2 73 = nI (bs f + wl (D.st j))) (h75 : Zr S2 75 = Zr S 75) (h76 : Zi S2 76 = Zi S 76) : NXt R S0 vt tb i D k f x bs S S2 := by
  obtain ⟨hD, hkk, hW, hG, hE⟩ := hk
  have hy := nYk_of hL
  have hj := wkS_pn hw hs
  obtain ⟨j1, j2, j3, j4, j5⟩ := hD.in e
  have hno : ∀ u : Nat, (D.I k).ho ≠ some u := fun u w => by rw [ho] at w; cases w
  have hwl := (hD.pt j1 j2).2
  have a1 : ∀ u κ : Nat, u < 40 → AL D j u → kH (x f) u κ → HK D j u κ := fun u κ hu q w => by
    rw [hH] at w
    rcases w with ⟨_, w⟩ | ⟨w, _⟩
    · exact hD.hk e (by omega) (hno u) w.1
    · omega
  have a2 : ∀ m κ : Nat, m < wl (D.st j) → AL D j (40 + m) ∨ mkS (D.st j) → kH (x f) (40 + m) κ → HK D j (40 + m) κ ∧ (mkS (D.st j) → m = 0 → okl R S0 i D κ) := fun m κ hm2 q w => by
    rw [hH] at w
    refine ⟨?_, fun z => absurd z (pn_mk hj)⟩
    rcases w with ⟨_, w⟩ | ⟨w, _⟩
    · exact hD.hk e (by omega) (hno _) w.1
    · omega
  have a3 : ∀ (κ r m : Nat), (5, r, m) ∈ trL (AL D j) (D.st j) ∨ (6, r, m) ∈ trL (AL D j) (D.st j) → kH (x f) 300 κ → HA R S0 i D j 300 κ := fun κ r m q => by
    rcases q with q | q
    · exact absurd (Or.inr (Or.inl rfl)) (trL_4 (pn_4 hj) _ q)
    · exact absurd (Or.inr (Or.inr rfl)) (trL_4 (pn_4 hj) _ q)
  have a4 : ∀ (v : Nat) (π : lLc), v < 40 → (8, v, 0) ∈ D.st j → klo (x f) v π → LO R S0 D j v π := fun v π hv _ w => by
    rw [hlo] at w
    exact hD.lo hy hE e hv w (fun c _ _ => hm.nk)
  obtain ⟨X, x1, x2, x3⟩ := kT.fin (D := D) (j := j) (i := i) (R := R) (S0 := S0) hy yB_yT h h0 hi hst (fun u hu q => by rw [hal]; exact ⟨hu, hD.al e (by omega) (hno u) q⟩) a1 a2 a3 a4
  exact ⟨j, X, e, ⟨hD, ⟨j1, j2, j5⟩, j3 hW, gtS.of hj, hE⟩, h77, h73, ⟨h75, h76⟩, x1, x2, x3.t3 hj⟩
end PS55
end
