section PS45
variable {y : qY} {vt : Nat → Nat → Nat} {tb : Nat → lTb} {zn sz rk : Nat → Nat} {M M2 : nM} {sk sk2 : Nat → Int64} {pl pl2 : Nat → Int32} {f f2 : Nat} {x x2 : Nat → kFm} {rt rt2 : Nat × Nat → Nat} {V V2 : Nat × Nat → qV} {bs bs2 : Nat → Nat} {C L H C2 L2 H2 : Nat × Nat → List Nat} {fl fl2 : List Nat} {t t2 : Nat} {tk tk2 : Nat → Int32}
/-- what is kept of a sum when a family of roots changes -/
theorem sm2_fam {G2 : Nat × Nat → Nat} {r : Nat → Nat × Nat} : ∀ {n : Nat} {G : Nat × Nat → Nat}, (∀ i : Nat, i < n → (r i).1 < 60 ∧ (r i).2 < 300) → (∀ i j : Nat, i < n → j < n → r i = r j → i = j) → (∀ q : Nat × Nat, (∀ i : Nat, i < n → q ≠ r i) → G2 q = G q) → sm2 G2 + psN (fun i => G (r i)) n = sm2 G + psN (fun i => G2 (r i)) n
  | 0, G, _, _, h => by
    have e : G2 = G := funext fun q => h q (fun i hi => by omega)
    rw [e]
  | n + 1, G, h1, h2, h => by
    have e0 := sm2_fam (G2 := G2) (n := n) (G := fun q => if q = r n then G2 q else G q) (fun i hi => h1 i (by omega)) (fun i j hi hj => h2 i j (by omega) (by omega)) (fun q hq => by
      by_cases w : q = r n
      · rw [if_pos w]
      · rw [if_neg w]
        exact h q (fun i hi => by
          by_cases w2 : i = n
          · subst w2; exact w
          · exact hq i (by omega)))
    have e1 := sm2_u1 (G := G) (G2 := fun q => if q = r n then G2 q else G q) (r := r n) (h1 n (by omega)).1 (h1 n (by omega)).2 (fun q hq => if_neg hq)
    rw [if_pos rfl] at e1
    have e2 : psN (fun i => if r i = r n then G2 (r i) else G (r i)) n = psN (fun i => G (r i)) n := psN_cg (fun i hi => if_neg (fun w => by have := h2 i n (by omega) (by omega) w; omega))
    rw [e2] at e0
    show sm2 G2 + (psN (fun i => G (r i)) n + G (r n)) = sm2 G + (psN (fun i => G2 (r i)) n + G2 (r n))
    omega
/-- a family of roots changes -/
theorem kC.fam (hc : kC C L H fl t tk) {r : Nat → Nat × Nat} {n : Nat} (h1 : ∀ i : Nat, i < n → (r i).1 < 60 ∧ (r i).2 < 300) (h2 : ∀ i j : Nat, i < n → j < n → r i = r j → i = j) (ho : ∀ q : Nat × Nat, (∀ i : Nat, i < n → q ≠ r i) → C2 q = C q ∧ L2 q = L q ∧ H2 q = H q) (hn : ∀ a : Nat, psN (fun i => cnN a (C2 (r i)) + cnN a (L2 (r i))) n + cnN a fl2 + ind t a = psN (fun i => cnN a (C (r i)) + cnN a (L (r i))) n + cnN a fl + ind t2 a) (hh : ∀ q : Nat, (psN (fun i => cnN q (H2 (r i))) n ≤ psN (fun i => cnN q (H (r i))) n ∧ (tk2 q = tk q ∨ (psN (fun i => cnN q (H2 (r i))) n = 0 ∧ 1 ≤ psN (fun i => cnN q (H (r i))) n))) ∨ (tk q = 0 ∧ psN (fun i => cnN q (H2 (r i))) n ≤ 1 ∧ q < 4000 ∧ tk2 q ≠ 0)) : kC C2 L2 H2 fl2 t2 tk2 := by
  obtain ⟨c1, c2⟩ := hc
  refine ⟨fun a => ?_, fun q => ?_⟩
  · have e := sm2_fam (G2 := fun r => cnN a (C2 r) + cnN a (L2 r)) (r := r) (n := n) (G := fun r => cnN a (C r) + cnN a (L r)) h1 h2 (fun q hq => by obtain ⟨z1, z2, _⟩ := ho q hq; rw [z1, z2])
    have e1 := c1 a
    have e2 := hn a
    omega
  · have e := sm2_fam (G2 := fun r => cnN q (H2 r)) (r := r) (n := n) (G := fun r => cnN q (H r)) h1 h2 (fun q2 hq => by obtain ⟨_, _, z3⟩ := ho q2 hq; rw [z3])
    obtain ⟨d1, d2⟩ := c2 q
    rcases hh q with ⟨w1, w2⟩ | ⟨w1, w2, w3, w4⟩
    · refine ⟨by omega, fun w => ?_⟩
      obtain ⟨z1, z2⟩ := d2 (by omega)
      refine ⟨z1, ?_⟩
      rcases w2 with w2 | ⟨w2, w3⟩
      · rw [w2]; exact z2
      · omega
    · have z : ¬ 1 ≤ sm2 (fun r => cnN q (H r)) := fun w => (d2 w).2 w1
      exact ⟨by omega, fun _ => ⟨w3, w4⟩⟩
/-- a root's node is no other's, and is not free -/
theorem kC.one (hc : kC C L H fl t tk) {r : Nat × Nat} (h1 : r.1 < 60) (h2 : r.2 < 300) {a : Nat} (ha : a ∈ C r ∨ a ∈ L r) : a ∉ fl ∧ 1 ≤ a ∧ a ≤ t ∧ cnN a (C r) + cnN a (L r) = 1 ∧ ∀ q : Nat × Nat, q.1 < 60 → q.2 < 300 → (a ∈ C q ∨ a ∈ L q) → q = r := by
  have e := hc.1 a
  have g : cnN a (C r) + cnN a (L r) ≤ sm2 (fun r => cnN a (C r) + cnN a (L r)) := sm2_i1 (G := fun r => cnN a (C r) + cnN a (L r)) h1 h2
  have p : ∀ {q : Nat × Nat}, (a ∈ C q ∨ a ∈ L q) → 1 ≤ cnN a (C q) + cnN a (L q) := fun w => by
    rcases w with w | w
    · have := cnN_mem.mp w; omega
    · have := cnN_mem.mp w; omega
  have p1 := p ha
  unfold ind at e
  by_cases w : 1 ≤ a ∧ a ≤ t
  · rw [if_pos w] at e
    refine ⟨fun z => ?_, w.1, w.2, by omega, fun q q1 q2 hq => ?_⟩
    · have := cnN_mem.mp z; omega
    · by_cases w2 : q = r
      · exact w2
      · have g2 : cnN a (C q) + cnN a (L q) + (cnN a (C r) + cnN a (L r)) ≤ sm2 (fun r => cnN a (C r) + cnN a (L r)) := sm2_ij (G := fun r => cnN a (C r) + cnN a (L r)) q1 q2 h1 h2 w2
        have := p hq
        omega
  · rw [if_neg w] at e; omega
/-- nodes of other roots are as they were -/
theorem kC.ag {A : Nat → Prop} {Kp : Nat × Nat → Prop} (hc : kC C L H fl t tk) (hA : ∀ a : Nat, A a → a ∈ fl ∨ t < a ∨ ∃ r : Nat × Nat, ¬ Kp r ∧ r.1 < 60 ∧ r.2 < 300 ∧ (a ∈ C r ∨ a ∈ L r)) {r : Nat × Nat} (hr : Kp r) (h1 : r.1 < 60) (h2 : r.2 < 300) {a : Nat} (ha : a ∈ C r ∨ a ∈ L r) : ¬ A a := fun w => by
  obtain ⟨q1, q2, q3, _, q4⟩ := hc.one h1 h2 ha
  rcases hA a w with z | z | ⟨r2, z1, z2, z3, z4⟩
  · exact q1 z
  · omega
  · rw [q4 r2 z2 z3 z4] at z1; exact z1 hr
/-- where a used reference leads: a variable in scope -/
theorem kJ.ld (hJ : kJ y vt tb f x rt V) {j u : Nat} {d : Nat × Nat} {π : lLc} (hj : j ≤ f) (ha : kA (x j) u) (hr : kR (x j) u = some (d :: π)) : d.1 ≤ f ∧ d.2 < 40 ∧ (8, d.2, 0) ∈ (x d.1).2.1 ∧ ∃ T : Nat, qW y (rt d) π T ∧ qF y (V d) π T ∧ prS (V d) π := by
  obtain ⟨_, r, π2, e, q1, q2, q3⟩ := hJ.2.2.1 j hj u (d :: π) ha hr
  cases e
  obtain ⟨σ, z, hz⟩ := qF_pl q3
  obtain ⟨a1, a2, _⟩ := hJ.2.2.2.2.2.1 d.1 d.2 (π ++ σ) z hz
  refine ⟨a1, q1, ?_, _, q2, q3, prS.of (hJ.1 d) (qF_pl q3)⟩
  rcases a2 with ⟨_, w⟩ | ⟨w, _⟩ | ⟨w, _⟩ | ⟨_, _, i, _, w, _⟩
  · exact w
  · omega
  · omega
  · omega
/-- a way in a place that stays -/
theorem plR.wk {T T1 n : Nat} {W : qV} {a : Int32} {c l h : List Nat} {π : lLc} (hy : nYk y zn sz rk) (q : plR y sz M T W a c l h) (hw : qW y T π T1) (hp : prS W π) (hn : wRn y zn M T (hdN c) π n) (hc : agN M M2 c) (hl : agN M M2 l) : wRn y zn M2 T (hdN c) π n := by
  obtain ⟨⟨k, q1⟩, q2, _⟩ := q
  obtain ⟨n0, hq⟩ := q1.wk hy q2 hw hp
  have e := wRn.det hn (hq M (fun a _ => ⟨rfl, rfl⟩) (fun a _ => ⟨rfl, rfl, rfl⟩))
  rw [e]
  exact hq M2 (fun a w => ⟨(hc a w).1, (hc a w).2.2⟩) hl
/-- roots change, those of Kp stay -/
theorem kN.up (hy : nYk y zn sz rk) (hJ : kJ y vt tb f x rt V) (h : kN y zn sz M sk pl f x rt V bs C L H) (Kp : Nat × Nat → Prop)
  (hk : ∀ j u : Nat, Kp (j, u) → (j ≤ f ∧ bs2 j = bs j) ∧ ((8, u, 0) ∈ (x2 j).2.1 ↔ (8, u, 0) ∈ (x j).2.1) ∧ (40 ≤ u → (u < 40 + wl (x2 j).2.1 ↔ u < 40 + wl (x j).2.1)) ∧ (rt2 (j, u) = rt (j, u) ∧ V2 (j, u) = V (j, u)) ∧ (C2 (j, u) = C (j, u) ∧ L2 (j, u) = L (j, u) ∧ H2 (j, u) = H (j, u)) ∧ agN M M2 (C (j, u)) ∧ agN M M2 (L (j, u)) ∧ (u < 40 → (8, u, 0) ∈ (x j).2.1 → pl2 (40 * j + u) = pl (40 * j + u)) ∧ (40 ≤ u → u < 40 + wl (x j).2.1 → sk2 (bs j + (u - 40)) = sk (bs j + (u - 40))))
  (hn : ∀ j u : Nat, j ≤ f2 → ¬ Kp (j, u) → rPc y sz M2 sk2 pl2 (x2 j).2.1 (bs2 j) j u (rt2 (j, u)) (V2 (j, u)) (C2 (j, u)) (L2 (j, u)) (H2 (j, u)))
  (ho : ∀ j u : Nat, f2 < j → C2 (j, u) = [] ∧ L2 (j, u) = [] ∧ H2 (j, u) = []) (hb : bs2 0 = 0 ∧ ∀ j : Nat, j < f2 → bs2 (j + 1) = bs2 j + wl (x2 j).2.1)
  (hr : ∀ (j u : Nat) (d : Nat × Nat) (π : lLc), j ≤ f2 → kA (x2 j) u → kSc (x2 j).2.1 u → kR (x2 j) u = some (d :: π) → (Kp (j, u) ∧ Kp d ∧ kA (x j) u ∧ kR (x j) u = some (d :: π)) ∨ rfA y zn M2 sk2 (bs2 j) u (rt2 d) (C2 d) (C2 (j, u)) π) : kN y zn sz M2 sk2 pl2 f2 x2 rt2 V2 bs2 C2 L2 H2 := by
  have hsc : ∀ j u : Nat, Kp (j, u) → (kSc (x2 j).2.1 u ↔ kSc (x j).2.1 u) := fun j u w => by
    obtain ⟨_, k2, k3, _⟩ := hk j u w
    constructor
    · rintro (⟨a, b⟩ | ⟨a, b⟩)
      · exact Or.inl ⟨a, k2.mp b⟩
      · exact Or.inr ⟨a, (k3 a).mp b⟩
    · rintro (⟨a, b⟩ | ⟨a, b⟩)
      · exact Or.inl ⟨a, k2.mpr b⟩
      · exact Or.inr ⟨a, (k3 a).mpr b⟩
  refine ⟨fun j u hj => ?_, ho, hb, fun j u d π hj ha hs he => ?_⟩
  · by_cases w : Kp (j, u)
    · obtain ⟨⟨k0, k1⟩, k2, k3, ⟨k4, k5⟩, ⟨k6, k7, k8⟩, k9, k10, k11, k12⟩ := hk j u w
      obtain ⟨q1, q2, q3⟩ := (h.1 j u k0).st k9 k10 k11 k12
      rw [k1, k4, k5, k6, k7, k8]
      exact ⟨fun a b => q1 a (k2.mp b), fun a b => q2 a ((k3 a).mp b), fun a => q3 (fun b => a ((hsc j u w).mpr b))⟩
    · exact hn j u hj w
  · rcases hr j u d π hj ha hs he with ⟨w1, w2, w3, w4⟩ | w
    · obtain ⟨⟨k0, k1⟩, k2, k3, ⟨k4, k5⟩, ⟨k6, k7, k8⟩, k9, k10, k11, k12⟩ := hk j u w1
      obtain ⟨d1, d2⟩ := d
      obtain ⟨⟨m0, m1⟩, m2, m3, ⟨m4, m5⟩, ⟨m6, m7, m8⟩, m9, m10, _⟩ := hk d1 d2 w2
      have hs0 := (hsc j u w1).mp hs
      obtain ⟨n, n1, n2, n3, n4⟩ := h.2.2.2 j u (d1, d2) π k0 w3 hs0 w4
      obtain ⟨l1, l2, l3, T, l4, l5, l6⟩ := hJ.ld k0 w3 w4
      have hp := (h.1 d1 d2 l1).1 l2 l3
      rw [k1, m4, m6, k6]
      refine ⟨n, n1, hp.wk hy l4 l6 n2 m9 m10, fun a => ?_, fun a => ?_⟩
      · obtain ⟨m, e1, e2⟩ := n3 a
        exact ⟨m, e1, (k9 m (by rw [e1]; exact List.mem_singleton_self m)).1.trans e2⟩
      · have hlt : u < 40 + wl (x j).2.1 := by
          rcases hs0 with z | z <;> omega
        rw [k12 a hlt]; exact n4 a
    · exact w
end PS45
