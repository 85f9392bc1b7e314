/-- where the latest frame stands -/
def atT (R : yR) (S0 : Sg) (i : Nat) (D : fD) (k : Nat) (X : kFm) : Prop := X.1 = i ∧ X.2.1 = trL (AL D k) (D.st k) ∧ X.2.2.1 = 0 ∧ kH X = HA R S0 i D k ∧ kal X = (fun u => u < 40 ∧ AL D k u) ∧ klo X = LO R S0 D k
section PS53
variable {R : yR} {S0 S : Sg} {D : fD} {i k j f n : Nat} {y : qY} {vt : Nat → Nat → Nat} {tb : Nat → lTb} {zn sz rk : Nat → Nat} {x : Nat → kFm} {rt : Nat × Nat → Nat} {V : Nat × Nat → qV} {bs : Nat → Nat} {al : Nat → Prop}
theorem yB_yT : yB (yT R S0) := by
  have lo : ∀ t : Nat, t < 10000 → yK R S0 t ≠ 5 ∧ yK R S0 t ≠ 6 := fun t ht => by
    unfold yK
    rw [if_neg (by omega)]
    by_cases c : 4 ≤ t ∧ t < 4 + R.im
    · rw [if_pos c]
      by_cases c1 : R.ik (t - 4) = 10
      · rw [if_pos c1]; decide
      · rw [if_neg c1]
        by_cases c2 : R.ik (t - 4) = 11
        · rw [if_pos c2]; decide
        · rw [if_neg c2]; decide
    · rw [if_neg c]
      by_cases c3 : 100 ≤ t ∧ t < 100 + tmS S0
      · rw [if_pos c3]
        cases Zq S0 18 (t - 100) with
        | none => simp
        | some x =>
          by_cases c4 : fN (obF S0 x) 0 = 5
          · simp [c4]
          · simp [c4]
      · rw [if_neg c3]; decide
  refine ⟨fun t ht => ?_, fun t ht => ?_, fun T hT => ⟨?_, ?_, ?_, ?_⟩, fun t ht => ?_⟩
  · show yK R S0 t = 0
    unfold yK
    rw [if_neg (by omega), if_neg (by omega), if_neg (by omega)]
  · show yK R S0 t ≠ 2 ∧ yK R S0 t ≠ 3 ∧ yK R S0 t ≠ 4
    unfold yK
    rw [if_pos ht]
    by_cases c : t < 30000
    · rw [if_pos c]
      by_cases c2 : t % 2 = 0
      · rw [if_pos c2]; decide
      · rw [if_neg c2]; decide
    · rw [if_neg c]; decide
  · show yK R S0 (10000 + 2 * T) = 5
    unfold yK
    rw [if_pos (by omega), if_pos (by omega), if_pos (by omega)]
  · show yO S0 (10000 + 2 * T) = T
    unfold yO
    rw [if_pos (by omega)]; omega
  · show yK R S0 (10001 + 2 * T) = 6
    unfold yK
    rw [if_pos (by omega), if_pos (by omega), if_neg (by omega)]
  · show yO S0 (10001 + 2 * T) = T
    unfold yO
    rw [if_pos (by omega)]; omega
  · have ht : yK R S0 t = 5 ∨ yK R S0 t = 6 := ht
    have h1 : 10000 ≤ t ∧ t < 30000 := by
      by_cases c : 10000 ≤ t
      · refine ⟨c, ?_⟩
        by_cases c2 : t < 30000
        · exact c2
        · unfold yK at ht
          rw [if_pos c, if_neg c2] at ht
          rcases ht with z | z <;> cases z
      · have := lo t (by omega)
        rcases ht with z | z
        · exact absurd z this.1
        · exact absurd z this.2
    show yK R S0 (yO S0 t) ≠ 5 ∧ yK R S0 (yO S0 t) ≠ 6
    unfold yO
    rw [if_pos h1.1]
    exact lo _ (by omega)
/-- a value that leads somewhere is a reference that is used, or is given back -/
theorem kK_ref {X : kFm} {q : Nat} {a : lLc} : ∀ {s : List tE}, kK y rt V q X (trL al s) → n < wl s → kR X (40 + n) = some a → al (40 + n) ∨ mkS s
  | [], _, h, _ => by cases h
  | e :: s, h, hn, hr => by
    by_cases c : n < wl s
    · exact (kK_ref (s := s) h.2 c hr).imp id (fun ⟨b, b1, b2⟩ => ⟨b, List.mem_cons_of_mem _ b1, b2⟩)
    · by_cases hnm : e.1 = 8 ∨ e.1 = 4 ∨ e.1 = 5 ∨ e.1 = 6
      · rw [wl_0 hnm] at hn; omega
      · rw [wl_n hnm] at hn
        obtain rfl : n = wl s := by omega
        have h1 : kE y rt V q X (wl (trL al s)) (trE al (wl s) e) := h.1
        rw [trL_wl] at h1
        by_cases c1 : e.1 = 1 ∨ e.1 = 2
        · by_cases c2 : e.2.2 = 0
          · by_cases c3 : al (40 + wl s)
            · exact Or.inl c3
            · rw [trE_d c1 c2 c3] at h1
              rw [h1.1] at hr; cases hr
          · exact Or.inr ⟨e, List.mem_cons_self .., c1, c2⟩
        · by_cases c3 : e.1 = 3
          · rw [trE_3 c3] at h1
            rw [h1.1] at hr; cases hr
          · rw [trE_o (by omega) (by omega) c3 (by omega) (by omega)] at h1
            obtain ⟨e1, e2, e3⟩ := e
            have c1 : ¬ (e1 = 1 ∨ e1 = 2) := c1
            have c3 : ¬ e1 = 3 := c3
            have hnm : ¬ (e1 = 8 ∨ e1 = 4 ∨ e1 = 5 ∨ e1 = 6) := hnm
            match e1, h1 with
            | 0, h1 => rw [h1.1] at hr; cases hr
            | 1, _ => omega
            | 2, _ => omega
            | 3, _ => omega
            | 4, _ => omega
            | 5, _ => omega
            | 6, _ => omega
            | 7, h1 => rw [h1.1] at hr; cases hr
            | 8, _ => omega
            | e1 + 9, h1 => exact h1.elim
/-- the step's end: the frame as the certificate tells it at j -/
theorem kT.finR (hy : nYk y zn sz rk) (hB : yB y) (h : kT y zn sz vt tb f x bs S) (h0 : (x f).2.2.1 = 0) (hi : (x f).1 = i) (hs : wkS (x f).2.1 (trL (AL D j) (D.st j)))
  (hal : ∀ u : Nat, u < 40 → AL D j u → kal (x f) u) (hH1 : ∀ u κ : Nat, u < 40 → AL D j u → kH (x f) u κ → HK D j u κ) (hH2 : ∀ m κ : Nat, m < wl (D.st j) → AL D j (40 + m) ∨ mkS (D.st j) → kH (x f) (40 + m) κ → HK D j (40 + m) κ ∧ (mkS (D.st j) → m = 0 → okl R S0 i D κ)) (hH3 : ∀ (κ r m : Nat), (5, r, m) ∈ trL (AL D j) (D.st j) ∨ (6, r, m) ∈ trL (AL D j) (D.st j) → kH (x f) 300 κ → HA R S0 i D j 300 κ) (hlo : ∀ (v : Nat) (π : lLc), v < 40 → (8, v, 0) ∈ D.st j → klo (x f) v π → LO R S0 D j v π) :
  ∃ X : kFm, atT R S0 i D j X ∧ kAn X = kAn (x f) ∧ kT y zn sz vt tb f (kUx x f X) bs S ∧ ∀ u : Nat, kR X u = kR (x f) u ∨ (kR X u = none ∧ 40 ≤ u) := by
  obtain ⟨R2, r1, r2⟩ := kT.wks hy hB (P := []) h rfl hs
  rw [List.nil_append] at r2
  have r3 := r2.wk (H2 := HA R S0 i D j) (al2 := fun u => u < 40 ∧ AL D j u) (lo2 := LO R S0 D j) (by rw [kUx_top]; exact h0) (fun u a κ hu ha hk => ?_) (fun u hu => by rw [kUx_top]; exact hal u hu.1 hu.2) (fun v π hv h8 hk => ?_)
  · rw [kUx_top, kUx2] at r3
    exact ⟨((x f).1, trL (AL D j) (D.st j), 0, R2, HA R S0 i D j, (fun u => u < 40 ∧ AL D j u), LO R S0 D j, kAn (x f)), ⟨hi, rfl, rfl, rfl, rfl, rfl⟩, rfl, r3, r1⟩
  · rw [kUx_top] at hu ha hk
    have hk : kH (x f) u κ := hk
    have ha : R2 u = some a := ha
    have hu : lv2 (trL (AL D j) (D.st j)) (fun u => u < 40 ∧ AL D j u) u := hu
    rcases hu with ⟨u1, _, u2⟩ | ⟨u1, u2⟩ | ⟨u1, r, m, u2⟩
    · exact Or.inl ⟨by omega, hH1 u κ u1 u2 hk, fun w => by omega, fun _ w => by omega⟩
    · rw [trL_wl] at u2
      obtain ⟨m, rfl⟩ : ∃ m : Nat, u = 40 + m := ⟨u - 40, by omega⟩
      obtain ⟨rt, V, C, L, H, fl, t, hJ, _⟩ := r2
      have hK := hJ.2.2.2.2.1 f (Nat.le_refl _)
      have hw : wl (kUx x f ((x f).1, trL (AL D j) (D.st j), (x f).2.2.1, R2, kH (x f), kal (x f), klo (x f), kAn (x f)) f).2.1 ≤ 211 := hJ.2.2.2.2.2.2.2.2 f (Nat.le_refl _)
      rw [kUx_top] at hK hw
      have hw : wl (trL (AL D j) (D.st j)) ≤ 211 := hw
      rw [trL_wl] at hw
      have hor := kK_ref (n := m) (a := a) hK (by omega) ha
      obtain ⟨q1, q2⟩ := hH2 m κ (by omega) hor hk
      exact Or.inl ⟨by omega, q1, fun _ => hor, fun w z => q2 w (by omega)⟩
    · subst u1
      exact hH3 κ r m u2 hk
  · rw [kUx_top] at h8 hk
    exact hlo v π hv (trL_8.mp h8) hk
theorem kT.fin (hy : nYk y zn sz rk) (hB : yB y) (h : kT y zn sz vt tb f x bs S) (h0 : (x f).2.2.1 = 0) (hi : (x f).1 = i) (hs : wkS (x f).2.1 (trL (AL D j) (D.st j)))
  (hal : ∀ u : Nat, u < 40 → AL D j u → kal (x f) u) (hH1 : ∀ u κ : Nat, u < 40 → AL D j u → kH (x f) u κ → HK D j u κ) (hH2 : ∀ m κ : Nat, m < wl (D.st j) → AL D j (40 + m) ∨ mkS (D.st j) → kH (x f) (40 + m) κ → HK D j (40 + m) κ ∧ (mkS (D.st j) → m = 0 → okl R S0 i D κ)) (hH3 : ∀ (κ r m : Nat), (5, r, m) ∈ trL (AL D j) (D.st j) ∨ (6, r, m) ∈ trL (AL D j) (D.st j) → kH (x f) 300 κ → HA R S0 i D j 300 κ) (hlo : ∀ (v : Nat) (π : lLc), v < 40 → (8, v, 0) ∈ D.st j → klo (x f) v π → LO R S0 D j v π) :
  ∃ X : kFm, atT R S0 i D j X ∧ kAn X = kAn (x f) ∧ kT y zn sz vt tb f (kUx x f X) bs S := by
  obtain ⟨X, x1, x2, x3, _⟩ := kT.finR hy hB h h0 hi hs hal hH1 hH2 hH3 hlo
  exact ⟨X, x1, x2, x3⟩
end PS53
