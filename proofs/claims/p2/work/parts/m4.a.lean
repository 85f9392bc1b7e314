section PS52
variable {R : yR} {S0 : Sg} {D : fD} {i k j u κ : Nat} {g : Nat → Int32}
/-- where a member's place lies among the leaves -/
theorem pfO_q (hy : nYk (yT R S0) (zN R S0) (szN R S0) (rkN R S0 g)) : ∀ {ρ : lLc} {T U : Nat}, qM ρ → qW (yT R S0) T ρ U → (pfO R S0 T ρ).2 = U ∧ (pfO R S0 T ρ).1 + zN R S0 U ≤ zN R S0 T
  | [], T, U, _, h => by
    obtain rfl := (show _ = _ from h)
    exact ⟨rfl, by show 0 + _ ≤ _; omega⟩
  | (0, q) :: ρ, T, U, hm, h => by
    obtain ⟨h1, h2, h3⟩ := h
    obtain ⟨e1, e2⟩ := pfO_q hy (qM_cons.mp hm).2 h3
    have hz := (hy.2.2.1 T h1).1
    show (if (0 : Nat) = 0 then (ofN R S0 T q + (pfO R S0 (yQ R S0 T 0 q) ρ).1, (pfO R S0 (yQ R S0 T 0 q) ρ).2) else (0, T)).2 = U ∧ (if (0 : Nat) = 0 then (ofN R S0 T q + (pfO R S0 (yQ R S0 T 0 q) ρ).1, (pfO R S0 (yQ R S0 T 0 q) ρ).2) else (0, T)).1 + _ ≤ _
    rw [if_pos rfl]
    refine ⟨e1, ?_⟩
    have e3 : psN (fun j => zN R S0 (yQ R S0 T 0 j)) (q + 1) ≤ zN R S0 T := by
      rw [hz]; exact psN_mo (by show q + 1 ≤ (yT R S0).2.2.2.1 T 0; exact h2)
    have e4 : psN (fun j => zN R S0 (yQ R S0 T 0 j)) (q + 1) = ofN R S0 T q + zN R S0 (yQ R S0 T 0 q) := rfl
    show ofN R S0 T q + (pfO R S0 (yQ R S0 T 0 q) ρ).1 + zN R S0 U ≤ zN R S0 T
    have e2 : (pfO R S0 (yQ R S0 T 0 q) ρ).1 + zN R S0 U ≤ zN R S0 (yQ R S0 T 0 q) := e2
    omega
  | (a + 1, q) :: ρ, T, U, hm, h => absurd (qM_cons.mp hm).1 (by show a + 1 ≠ 0; omega)
theorem pfO_app : ∀ {ρ τ : lLc} {T : Nat}, qM ρ → (pfO R S0 T (ρ ++ τ)).1 = (pfO R S0 T ρ).1 + (pfO R S0 (pfO R S0 T ρ).2 τ).1 ∧ (pfO R S0 T (ρ ++ τ)).2 = (pfO R S0 (pfO R S0 T ρ).2 τ).2
  | [], τ, T, _ => ⟨by show _ = 0 + _; rw [Nat.zero_add]; rfl, rfl⟩
  | (0, q) :: ρ, τ, T, hm => by
    obtain ⟨e1, e2⟩ := pfO_app (τ := τ) (T := yQ R S0 T 0 q) (qM_cons.mp hm).2
    have d : ∀ σ : lLc, pfO R S0 T ((0, q) :: σ) = (ofN R S0 T q + (pfO R S0 (yQ R S0 T 0 q) σ).1, (pfO R S0 (yQ R S0 T 0 q) σ).2) := fun σ => by
      show (if (0 : Nat) = 0 then _ else _) = _
      rw [if_pos rfl]
    show (pfO R S0 T ((0, q) :: (ρ ++ τ))).1 = _ ∧ (pfO R S0 T ((0, q) :: (ρ ++ τ))).2 = _
    rw [d, d]
    show ofN R S0 T q + (pfO R S0 (yQ R S0 T 0 q) (ρ ++ τ)).1 = ofN R S0 T q + (pfO R S0 (yQ R S0 T 0 q) ρ).1 + _ ∧ _
    rw [e1, e2]
    show ofN R S0 T q + ((pfO R S0 (yQ R S0 T 0 q) ρ).1 + (pfO R S0 (pfO R S0 (yQ R S0 T 0 q) ρ).2 τ).1) = ofN R S0 T q + (pfO R S0 (yQ R S0 T 0 q) ρ).1 + (pfO R S0 (pfO R S0 (yQ R S0 T 0 q) ρ).2 τ).1 ∧ _
    exact ⟨by omega, rfl⟩
  | (a + 1, q) :: ρ, τ, T, hm => absurd (qM_cons.mp hm).1 (by show a + 1 ≠ 0; omega)
/-- up to the first star -/
theorem pfO_st {ρ ρ1 : lLc} {q T : Nat} (hm : qM ρ) : pfO R S0 T (ρ ++ (1, q) :: ρ1) = pfO R S0 T ρ := by
  obtain ⟨e1, e2⟩ := pfO_app (R := R) (S0 := S0) (τ := (1, q) :: ρ1) (T := T) hm
  have e3 : pfO R S0 (pfO R S0 T ρ).2 ((1, q) :: ρ1) = (0, (pfO R S0 T ρ).2) := by
    show (if (1 : Nat) = 0 then _ else _) = _
    rw [if_neg (by decide)]
  rw [e3] at e1 e2
  exact Prod.ext e1 e2
theorem inR_sub (hy : nYk (yT R S0) (zN R S0) (szN R S0) (rkN R S0 g)) {ρ τ : lLc} {T0 U v c : Nat} (hm : qM ρ) (ht : qM τ) (hw : qW (yT R S0) T0 (ρ ++ τ) U) (h : inR R S0 T0 v (ρ ++ τ) c) : inR R S0 T0 v ρ c := by
  obtain ⟨T1, w1, w2⟩ := qW_cut hw
  obtain ⟨a1, a2⟩ := pfO_q hy hm w1
  obtain ⟨b1, b2⟩ := pfO_q hy ht w2
  obtain ⟨c1, c2⟩ := pfO_app (R := R) (S0 := S0) (τ := τ) (T := T0) hm
  unfold inR at h ⊢
  rw [c1, c2, a1, b1] at h
  rw [a1]
  omega
theorem inR_ex (hy : nYk (yT R S0) (zN R S0) (szN R S0) (rkN R S0 g)) {ρ : lLc} {T0 v : Nat} : inR R S0 T0 v ρ (16 * v + (pfO R S0 T0 ρ).1) := by
  have := (hy.1 (pfO R S0 T0 ρ).2).1
  unfold inR; omega
theorem inR_16 (hy : nYk (yT R S0) (zN R S0) (szN R S0) (rkN R S0 g)) {ρ : lLc} {T0 U v c : Nat} (hm : qM ρ) (hw : qW (yT R S0) T0 ρ U) (h : inR R S0 T0 v ρ c) : 16 * v ≤ c ∧ c < 16 * v + 16 := by
  obtain ⟨a1, a2⟩ := pfO_q hy hm hw
  have := (hy.1 T0).2.1
  unfold inR at h
  rw [a1] at h
  omega
/-- places of members that share a leaf lie one in the other -/
theorem pf_cmp (hy : nYk (yT R S0) (zN R S0) (szN R S0) (rkN R S0 g)) : ∀ {ρ σ : lLc} {T U W c : Nat}, qM ρ → qM σ → qW (yT R S0) T ρ U → qW (yT R S0) T σ W → (pfO R S0 T ρ).1 ≤ c → c < (pfO R S0 T ρ).1 + zN R S0 U → (pfO R S0 T σ).1 ≤ c → c < (pfO R S0 T σ).1 + zN R S0 W → lCmp ρ σ
  | [], σ, _, _, _, _, _, _, _, _, _, _, _, _ => Or.inl ⟨σ, rfl⟩
  | ρ, [], _, _, _, _, _, _, _, _, _, _, _, _ => Or.inr ⟨ρ, rfl⟩
  | (0, p) :: ρ, (0, q) :: σ, T, U, W, c, hm, hn, h, g9, a1, a2, b1, b2 => by
    have d : ∀ (r : Nat) (σ : lLc), pfO R S0 T ((0, r) :: σ) = (ofN R S0 T r + (pfO R S0 (yQ R S0 T 0 r) σ).1, (pfO R S0 (yQ R S0 T 0 r) σ).2) := fun r σ => by
      show (if (0 : Nat) = 0 then _ else _) = _
      rw [if_pos rfl]
    rw [d] at a1 a2 b1 b2
    obtain ⟨e1, e2⟩ := pfO_q hy (qM_cons.mp hm).2 h.2.2
    obtain ⟨f1, f2⟩ := pfO_q hy (qM_cons.mp hn).2 g9.2.2
    have a1 : ofN R S0 T p + (pfO R S0 (yQ R S0 T 0 p) ρ).1 ≤ c := a1
    have a2 : c < ofN R S0 T p + (pfO R S0 (yQ R S0 T 0 p) ρ).1 + zN R S0 U := a2
    have b1 : ofN R S0 T q + (pfO R S0 (yQ R S0 T 0 q) σ).1 ≤ c := b1
    have b2 : c < ofN R S0 T q + (pfO R S0 (yQ R S0 T 0 q) σ).1 + zN R S0 W := b2
    have e2 : (pfO R S0 (yQ R S0 T 0 p) ρ).1 + zN R S0 U ≤ zN R S0 (yQ R S0 T 0 p) := e2
    have f2 : (pfO R S0 (yQ R S0 T 0 q) σ).1 + zN R S0 W ≤ zN R S0 (yQ R S0 T 0 q) := f2
    have m : ∀ a b : Nat, a < b → ofN R S0 T a + zN R S0 (yQ R S0 T 0 a) ≤ ofN R S0 T b := fun a b hab => psN_mo (w := fun j => zN R S0 (yQ R S0 T 0 j)) (show a + 1 ≤ b from hab)
    have e : p = q := by
      rcases Nat.lt_trichotomy p q with w | w | w
      · have := m p q w; omega
      · exact w
      · have := m q p w; omega
    subst e
    have hh : qW (yT R S0) (yQ R S0 T 0 p) ρ U := h.2.2
    have gg : qW (yT R S0) (yQ R S0 T 0 p) σ W := g9.2.2
    exact (pf_cmp hy (c := c - ofN R S0 T p) (qM_cons.mp hm).2 (qM_cons.mp hn).2 hh gg (by omega) (by omega) (by omega) (by omega)).imp lP_consI lP_consI
  | (a + 1, p) :: ρ, _ :: _, _, _, _, _, hm, _, _, _, _, _, _, _ => absurd (qM_cons.mp hm).1 (by show a + 1 ≠ 0; omega)
  | (0, p) :: ρ, (a + 1, q) :: σ, _, _, _, _, _, hn, _, _, _, _, _, _ => absurd (qM_cons.mp hn).1 (by show a + 1 ≠ 0; omega)
theorem inR_cmp (hy : nYk (yT R S0) (zN R S0) (szN R S0) (rkN R S0 g)) {ρ σ : lLc} {T U W v c : Nat} (hm : qM ρ) (hn : qM σ) (h : qW (yT R S0) T ρ U) (g9 : qW (yT R S0) T σ W) (a : inR R S0 T v ρ c) (b : inR R S0 T v σ c) : lCmp ρ σ := by
  obtain ⟨e1, _⟩ := pfO_q hy hm h
  obtain ⟨f1, _⟩ := pfO_q hy hn g9
  unfold inR at a b
  rw [e1] at a
  rw [f1] at b
  exact pf_cmp hy (c := c - 16 * v) hm hn h g9 (by omega) (by omega) (by omega) (by omega)
/-- what lacks its value lacks it behind, if nothing comes there -/
theorem FnD.lo (hy : nYk (yT R S0) (zN R S0) (szN R S0) (rkN R S0 g)) (hE : D.E.y = yT R S0) (h : FnD R S0 i D) (e : edg D k j) {v : Nat} {π : lLc} (hv : v < 40) (q : LO R S0 D k v π) (hn : ∀ c : Nat, inR R S0 (D.E.vt v) v π c → rb D.mv (10 * k) c = true → ¬ MvK R S0 (D.tv k) (D.I k) c) : LO R S0 D j v π := fun h1 ⟨T, h2⟩ => by
  obtain ⟨c, c1, c2⟩ := q h1 ⟨T, h2⟩
  rw [hE] at h2
  have := inR_16 hy h1 h2 c1
  exact ⟨c, c1, h.2.2.1.2.1 k e.1 e.2.1 e.2.2.1 j e.2.2.2 c (by omega) (Or.inr (Or.inr ⟨c2, hn c c1 c2⟩))⟩
/-- what is looked at is there -/
theorem FnD.fu (hy : nYk (yT R S0) (zN R S0) (szN R S0) (rkN R S0 g)) (hE : D.E.y = yT R S0) (h : FnD R S0 i D) (h1 : D.Ps ≤ k) (h2 : k < D.Pe) (hr : D.rc k ≠ 0) {v T : Nat} {ρ : lLc} (hp : (D.I k).pa = some (v, ρ, T)) (h24 : (D.I k).kd ≠ 24) (ha : (D.I k).ac ≠ 0) (h7 : (D.I k).ac ≠ 7) (h6 : (D.I k).ac ≠ 6 ∨ ∃ s ∈ ρ, s.1 = 1) (ht : qM ρ → qW D.E.y (D.E.vt v) ρ T) (ht2 : ∀ (ρ0 : lLc) (q : Nat) (ρ1 : lLc), ρ = ρ0 ++ (1, q) :: ρ1 → qM ρ0 → ∃ U : Nat, qW D.E.y (D.E.vt v) ρ0 U) : fuL D.E.y (LO R S0 D k) v ρ T := by
  have htv := h.2.2.1.1 k v T ρ h1 h2 h24 hp
  have hw := h.2.2.1.2.2 k h1 h2 hr ha h7 v ρ T hp h6
  rw [htv] at hw
  refine ⟨fun hm τ t z1 z2 z3 => ?_, fun ρ0 q ρ1 e0 z1 z2 => ?_⟩
  · have w1 := qW_app (ht hm) z2
    obtain ⟨c, c1, c2⟩ := z3 (qM_app.mpr ⟨hm, z1⟩) ⟨t, w1⟩
    rw [hE] at w1
    rw [hw c (inR_sub hy hm z1 w1 c1)] at c2
    cases c2
  · obtain ⟨U, hU⟩ := ht2 ρ0 q ρ1 e0 z1
    obtain ⟨c, c1, c2⟩ := z2 z1 ⟨U, hU⟩
    have : inR R S0 (D.E.vt v) v ρ c := by
      unfold inR at c1 ⊢
      rw [e0, pfO_st z1]; exact c1
    rw [hw c this] at c2
    cases c2
end PS52
