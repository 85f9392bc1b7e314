/-- a struct of the members V -/
def qT9 (n : Nat) (V : Nat → qV) : qV := fun π => match π with | [] => none | (q, j) :: σ => if q = 0 ∧ j < n then V j σ else none
theorem qFu_T {y : qY} {t : Nat} {V : Nat → qV} (h2 : y.1 t = 2) (h1 : 1 ≤ y.2.2.2.1 t 0) (h : ∀ j : Nat, j < y.2.2.2.1 t 0 → qFu y (y.2.2.2.2 t 0 j) (V j)) : qFu y t (qT9 (y.2.2.2.1 t 0) V) := by
  have e1 : ∀ (j : Nat) (σ : lLc), j < y.2.2.2.1 t 0 → qT9 (y.2.2.2.1 t 0) V ((0, j) :: σ) = V j σ := fun j σ hj => (if_pos ⟨rfl, hj⟩ : (if (0 : Nat) = 0 ∧ j < y.2.2.2.1 t 0 then V j σ else none) = V j σ)
  have e2 : ∀ (q j : Nat) (σ : lLc) (x : Nat × Nat), qT9 (y.2.2.2.1 t 0) V ((q, j) :: σ) = some x → q = 0 ∧ j < y.2.2.2.1 t 0 ∧ V j σ = some x := fun q j σ x hx => by
    have hx : (if q = 0 ∧ j < y.2.2.2.1 t 0 then V j σ else none) = some x := hx
    by_cases c : q = 0 ∧ j < y.2.2.2.1 t 0
    · rw [if_pos c] at hx; exact ⟨c.1, c.2, hx⟩
    · rw [if_neg c] at hx; exact absurd hx (by simp)
  refine ⟨⟨fun π u g1 hv => ?_, fun π σ j x hx => ?_, fun π σ g1 j x hx => ?_⟩, fun ρ u g1 g2 => ?_⟩
  · cases π with
    | nil => cases hv
    | cons a π =>
      obtain ⟨q, j⟩ := a
      obtain ⟨rfl, hj, hv⟩ := e2 _ _ _ _ hv
      obtain ⟨k1, k2, k3, k5, k6⟩ := (h j hj).1.1 _ u g1 hv
      refine ⟨⟨h2, hj, k1⟩, k2, k3, fun z ρ w g1 g2 => ?_, fun z j2 hj2 ρ w g1 g2 => ?_⟩
      · exact qQ_cg (k5 z ρ w g1 g2) (fun τ => e1 j _ hj)
      · exact qQ_cg (k6 z j2 hj2 ρ w g1 g2) (fun τ => e1 j _ hj)
  · cases π with
    | nil =>
      obtain ⟨c, -, -⟩ := e2 _ _ _ _ hx
      omega
    | cons a π =>
      obtain ⟨q, i⟩ := a
      obtain ⟨rfl, hi, hx⟩ := e2 _ _ _ _ hx
      obtain ⟨z, hz⟩ := (h i hi).1.2.1 π σ j x hx
      exact ⟨z, (e1 i π hi).trans hz⟩
  · cases π with
    | nil =>
      obtain ⟨c, -, -⟩ := e2 _ _ _ _ hx
      omega
    | cons a π =>
      obtain ⟨q, i⟩ := a
      obtain ⟨rfl, hi, hx⟩ := e2 _ _ _ _ hx
      obtain ⟨z, hz⟩ := (h i hi).1.2.2 π σ g1 j x hx
      exact ⟨z, (e1 i π hi).trans hz⟩
  · cases ρ with
    | nil =>
      have g2 : u = t := g2
      subst g2
      refine ⟨fun z => absurd h2 z, fun _ => ?_⟩
      obtain ⟨σ, x, hx⟩ := qF_pl (h 0 h1).2
      exact ⟨(0, 0) :: σ, x, (e1 0 σ h1).trans hx⟩
    | cons a b =>
      obtain ⟨a1, a2⟩ := a
      obtain ⟨ha, hb⟩ := qM_cons.mp g1
      have ha : a1 = 0 := ha
      subst ha
      obtain ⟨_, k2, k3⟩ := g2
      exact qQ_cg ((h a2 k2).2 b u hb k3) (fun τ => e1 a2 (b ++ τ) k2)
theorem qS_T {n j : Nat} {V : Nat → qV} (hj : j < n) : qS (qT9 n V) [(0, j)] = V j := funext fun σ => (if_pos ⟨rfl, hj⟩ : (if (0 : Nat) = 0 ∧ j < n then V j σ else none) = V j σ)
theorem qS_E {t g n j : Nat} {V : Nat → qV} (hj : j < n) : qS (qE t g n V) [(g + 2, j)] = V j := funext fun σ => (if_pos ⟨rfl, hj⟩ : (if g + 2 = g + 2 ∧ j < n then V j σ else none) = V j σ)
/-- a sum with one summand -/
theorem psN_at {w : Nat → Nat} {i0 : Nat} : ∀ {n : Nat}, i0 < n → (∀ i : Nat, i < n → i ≠ i0 → w i = 0) → psN w n = w i0
  | n + 1, h, hz => by
    show psN w n + w n = w i0
    by_cases e : i0 = n
    · subst e
      rw [psN_cg (w2 := fun _ => 0) (fun i hi => hz i (by omega) (by omega)), psN_z]; omega
    · rw [psN_at (n := n) (by omega) (fun i hi => hz i (by omega)), hz n (by omega) (fun z => e z.symm)]; rfl
/-- a sum told in another order -/
theorem psN_pm {w q : Nat → Nat} {n : Nat} (h1 : ∀ i : Nat, i < n → q i < n) (h2 : ∀ a : Nat, a < n → ∃ i : Nat, i < n ∧ q i = a) (h3 : ∀ i j : Nat, i < n → j < n → q i = q j → i = j) : psN (fun i => w (q i)) n = psN w n := by
  have e1 : psN (fun i => w (q i)) n = psN (fun i => psN (fun a => if q i = a then w a else 0) n) n := psN_cg (fun i hi => by
    rw [psN_at (i0 := q i) (h1 i hi) (fun a _ ha => if_neg (fun z => ha z.symm)), if_pos rfl])
  have e2 : psN w n = psN (fun a => psN (fun i => if q i = a then w a else 0) n) n := psN_cg (fun a ha => by
    obtain ⟨i, hi, e⟩ := h2 a ha
    rw [psN_at (i0 := i) hi (fun j hj hne => if_neg (fun z => hne (h3 j i hj hi (z.trans e.symm)))), if_pos e])
  rw [e1, e2, psN_sw (w := fun i a => if q i = a then w a else 0)]
theorem lkN.app {f : Nat → Int32} {A B : List Nat} (h1 : lkN f A) (h2 : lkN f B) (hl : ∀ a b : Nat, A[A.length - 1]? = some a → B[0]? = some b → f a = nI b) : lkN f (A ++ B) := by
  refine ⟨fun a ha => ?_, fun i a b ha hb => ?_⟩
  · rcases List.mem_append.mp ha with w | w
    · exact h1.1 a w
    · exact h2.1 a w
  · by_cases c : i + 1 < A.length
    · rw [List.getElem?_append_left (by omega)] at ha
      rw [List.getElem?_append_left c] at hb
      exact h1.2 i a b ha hb
    · by_cases c2 : i < A.length
      · rw [List.getElem?_append_left c2] at ha
        rw [List.getElem?_append_right (by omega), show i + 1 - A.length = 0 by omega] at hb
        exact hl a b (by rw [show A.length - 1 = i by omega]; exact ha) hb
      · rw [List.getElem?_append_right (by omega)] at ha hb
        exact h2.2 (i - A.length) a b ha (by rw [show i - A.length + 1 = i + 1 - A.length by omega]; exact hb)
theorem lkN.up {f : Nat → Int32} {A : List Nat} {a0 : Nat} {v : Int32} (h : lkN f A) (hd : A.Nodup) (hl : A[A.length - 1]? = some a0) : lkN (upd f a0 v) A := by
  refine ⟨h.1, fun i a b ha hb => ?_⟩
  have hi1 := (List.getElem?_eq_some_iff.mp hb).1
  have hne : a ≠ a0 := fun e => by
    have := (List.getElem?_inj (i := i) (j := A.length - 1) (by omega) hd).mp (by rw [ha, hl, e])
    omega
  rw [upd_n hne]
  exact h.2 i a b ha hb
/-- a family of roots holds a node at most once -/
theorem kC.sub {C L H : Nat × Nat → List Nat} {fl : List Nat} {t : Nat} {tk : Nat → Int32} (hC : kC C L H fl t tk) {r : Nat → Nat × Nat} {n : Nat} (h1 : ∀ i : Nat, i < n → (r i).1 < 60 ∧ (r i).2 < 300) (h2 : ∀ i j : Nat, i < n → j < n → r i = r j → i = j) (a : Nat) : psN (fun i => cnN a (C (r i)) + cnN a (L (r i))) n + cnN a fl ≤ ind t a := by
  have e := sm2_fam (G2 := fun _ => 0) (r := r) (n := n) (G := fun q => if ∃ i : Nat, i < n ∧ q = r i then cnN a (C q) + cnN a (L q) else 0) h1 h2 (fun q hq => (if_neg (fun ⟨i, i1, i2⟩ => hq i i1 i2)).symm)
  have e2 : psN (fun i => if ∃ i2 : Nat, i2 < n ∧ r i = r i2 then cnN a (C (r i)) + cnN a (L (r i)) else 0) n = psN (fun i => cnN a (C (r i)) + cnN a (L (r i))) n := psN_cg (fun i hi => if_pos ⟨i, hi, rfl⟩)
  rw [e2] at e
  have e3 : sm2 (fun q => if ∃ i : Nat, i < n ∧ q = r i then cnN a (C q) + cnN a (L q) else 0) ≤ sm2 (fun q => cnN a (C q) + cnN a (L q)) := sm2_le (fun q _ _ => by
    by_cases c : ∃ i : Nat, i < n ∧ q = r i
    · rw [if_pos c]; exact Nat.le_refl _
    · rw [if_neg c]; exact Nat.zero_le _)
  have e4 := hC.1 a
  have e5 : psN (fun i => (fun _ : Nat × Nat => 0) (r i)) n = 0 := psN_z
  rw [e5] at e
  omega
