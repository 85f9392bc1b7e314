section PS102
variable {y : qY} {vt : Nat → Nat → Nat} {tb : Nat → lTb} {zn sz rk : Nat → Nat} {M : nM} {sk : Nat → Int64} {pl : Nat → Int32} {f w m t T : Nat} {x : Nat → kFm} {rt : Nat × Nat → Nat} {V : Nat × Nat → qV} {bs : Nat → Nat} {C L H : Nat × Nat → List Nat} {fl : List Nat} {tk : Nat → Int32} {X : kFm} {W : qV}
/-- a return: the nodes -/
theorem kN.ret (hy : nYk y zn sz rk) (hJ : kJ y vt tb (f + 1) x rt V) (hN : kN y zn sz M sk pl (f + 1) x rt V bs C L H) (hC : kC C L H fl t tk) (hf6 : f + 1 < 60) (hw1 : ∀ j : Nat, j ≤ f + 1 → wl (x j).2.1 ≤ 177) (hwf : wl (x f).2.1 = w) (hm : m ≤ 1) (h8 : ∀ u : Nat, (8, u, 0) ∉ (x (f + 1)).2.1) (hwm : wl (x (f + 1)).2.1 = m) (hXw : wl X.2.1 = w + m) (hX8 : ∀ u : Nat, (8, u, 0) ∈ X.2.1 ↔ (8, u, 0) ∈ (x f).2.1) (hT : m = 1 → rt (f + 1, 40) = T ∧ W = V (f + 1, 40))
  (hr : ∀ (u : Nat) (d : Nat × Nat) (π : lLc), kA X u → kSc X.2.1 u → kR X u = some (d :: π) → (u ≠ 40 + w ∧ kA (x f) u ∧ kR (x f) u = some (d :: π)) ∨ (u = 40 + w ∧ m = 1 ∧ kR (x (f + 1)) 40 = some (d :: π) ∧ d.1 ≤ f)) :
  kN y zn sz M sk pl f (kUx x f X) (qRt rt (f, 40 + w) T) (kRv V f (40 + w) W) bs C (u2N L (f, 40 + w) (f + 1, 40) (L (f + 1, 40)) []) (u2N H (f, 40 + w) (f + 1, 40) (H (f + 1, 40)) []) ∧ kC C (u2N L (f, 40 + w) (f + 1, 40) (L (f + 1, 40)) []) (u2N H (f, 40 + w) (f + 1, 40) (H (f + 1, 40)) []) fl t tk := by
  have hf : f ≤ f + 1 := Nat.le_succ f
  have h177 := hw1 f hf
  have hne : ((f, 40 + w) : Nat × Nat) ≠ (f + 1, 40) := fun z => by have := (Prod.mk.inj z).1; omega
  have hbf : bs (f + 1) = bs f + w := by rw [hN.2.2.1.2 f (Nat.lt_succ_self f), hwf]
  obtain ⟨c40, l40, h40⟩ := (hN.1 f (40 + w) hf).2.2 (fun z => by rcases z with z | z <;> omega)
  have n1 : ∀ u : Nat, C (f + 1, u) = [] ∧ (u ≠ 40 ∨ m = 0 → L (f + 1, u) = [] ∧ H (f + 1, u) = []) := fun u => by
    obtain ⟨q1, q2, q3⟩ := hN.1 (f + 1) u (Nat.le_refl _)
    by_cases e : 40 ≤ u ∧ u < 40 + wl (x (f + 1)).2.1
    · exact ⟨(q2 e.1 e.2).1, fun z => by omega⟩
    · obtain ⟨z1, z2, z3⟩ := q3 (fun z => by
        rcases z with z | z
        · exact h8 u z.2
        · exact e z)
      exact ⟨z1, fun _ => ⟨z2, z3⟩⟩
  refine ⟨kN.up (bs := bs) (bs2 := bs) (f2 := f) hy hJ hN (fun r => r.1 ≤ f ∧ r ≠ (f, 40 + w)) (fun j u ⟨k1, k2⟩ => ?_) (fun j u hj hk => ?_) (fun j u hj => ?_) ⟨hN.2.2.1.1, fun j hj => ?_⟩ (fun j u d π hj ha hc he => ?_), ?_⟩
  · have k1 : j ≤ f := k1
    have k3 : ((j, u) : Nat × Nat) ≠ (f + 1, 40) := fun z => by have := (Prod.mk.inj z).1; omega
    refine ⟨⟨by omega, rfl⟩, ?_, fun a => ?_, ⟨qRt_ne k2, kRv_ne (by omega) k2⟩, ⟨rfl, u2N_o k2 k3, u2N_o k2 k3⟩, fun _ _ => ⟨rfl, rfl, rfl⟩, fun _ _ => ⟨rfl, rfl, rfl⟩, fun _ _ => rfl, fun _ _ => rfl⟩
    · by_cases e : j = f
      · subst e; rw [kUx_top]; exact hX8 u
      · rw [kUx_lo e]
    · by_cases e : j = f
      · subst e
        rw [kUx_top, hXw, hwf]
        have : u ≠ 40 + w := fun z => k2 (by rw [z])
        omega
      · rw [kUx_lo e]
  · have c2 : (j, u) = (f, 40 + w) := Classical.byContradiction (fun z => hk ⟨hj, z⟩)
    obtain ⟨rfl, rfl⟩ := Prod.mk.inj c2
    rw [kUx_top, qRt_eq, kRv_eq, u2N_1, u2N_1, c40]
    refine ⟨fun z => by omega, fun _ z => ?_, fun z => ⟨rfl, ?_⟩⟩
    · have hm1 : m = 1 := by rw [hXw] at z; omega
      obtain ⟨t1, t2⟩ := hT hm1
      have q := ((hN.1 (j + 1) 40 (Nat.le_refl _)).2.1 (Nat.le_refl _) (by rw [hwm]; omega)).2
      rw [t1, hbf] at q
      rw [t2, show 40 + w - 40 = w by omega]
      exact ⟨rfl, q⟩
    · have hm0 : m = 0 := Classical.byContradiction (fun y => z (Or.inr ⟨by omega, by rw [hXw]; omega⟩))
      exact (n1 40).2 (Or.inr hm0)
  · by_cases e : j = f + 1
    · subst e
      by_cases e2 : u = 40
      · subst e2
        rw [u2N_2 hne.symm, u2N_2 hne.symm]
        exact ⟨(n1 40).1, rfl, rfl⟩
      · have k3 : ((f + 1, u) : Nat × Nat) ≠ (f + 1, 40) := fun z => e2 (Prod.mk.inj z).2
        have k2 : ((f + 1, u) : Nat × Nat) ≠ (f, 40 + w) := fun z => by have := (Prod.mk.inj z).1; omega
        rw [u2N_o k2 k3, u2N_o k2 k3]
        exact ⟨(n1 u).1, (n1 u).2 (Or.inl e2)⟩
    · have k3 : ((j, u) : Nat × Nat) ≠ (f + 1, 40) := fun z => e (Prod.mk.inj z).1
      have k2 : ((j, u) : Nat × Nat) ≠ (f, 40 + w) := fun z => by have := (Prod.mk.inj z).1; omega
      rw [u2N_o k2 k3, u2N_o k2 k3]
      exact hN.2.1 j u (by omega)
  · rw [kUx_lo (by omega)]; exact hN.2.2.1.2 j (by omega)
  · by_cases e : j = f
    · subst e
      rw [kUx_top] at ha hc he
      rcases hr u d π ha hc he with ⟨z1, z2, z3⟩ | ⟨z1, z2, z3, z4⟩
      · obtain ⟨_, l2, _⟩ := hJ.ld hf z2 z3
        have l1 := kJ_hd1 hJ hf z2 z3
        exact Or.inl ⟨⟨Nat.le_refl _, fun z => z1 (Prod.mk.inj z).2⟩, ⟨l1, fun z => by rw [z] at l2; have l2 : 40 + w < 40 := l2; omega⟩, z2, z3⟩
      · have hks : kA (x (j + 1)) 40 := Or.inr ⟨Nat.le_refl _, by rw [hwm]; omega⟩
        obtain ⟨_, l2, _⟩ := hJ.ld (Nat.le_refl _) hks z3
        obtain ⟨n2, m1, m2, _, m4⟩ := hN.2.2.2 (j + 1) 40 d π (Nat.le_refl _) hks (Or.inr ⟨Nat.le_refl _, by rw [hwm]; omega⟩) z3
        have m4 := m4 (Nat.le_refl _)
        have hd : d ≠ (j, 40 + w) := fun z => by rw [z] at l2; have l2 : 40 + w < 40 := l2; omega
        refine Or.inr ⟨n2, m1, ?_, fun z => by omega, fun _ => ?_⟩
        · rw [qRt_ne hd]; exact m2
        · rw [z1, show 40 + w - 40 = w by omega, ← hbf]; exact m4
    · rw [kUx_lo e] at ha hc he
      obtain ⟨_, l2, _⟩ := hJ.ld (show j ≤ f + 1 by omega) ha he
      have l1 := kJ_hd1 hJ (show j ≤ f + 1 by omega) ha he
      exact Or.inl ⟨⟨hj, fun z => e (Prod.mk.inj z).1⟩, ⟨by omega, fun z => by rw [z] at l2; have l2 : 40 + w < 40 := l2; omega⟩, ha, he⟩
  · have r0 : ∀ i : Nat, i < 2 → i = 0 ∨ i = 1 := fun i hi => by omega
    refine hC.fam (r := fun i => if i = 0 then (f, 40 + w) else (f + 1, 40)) (n := 2) (fun i hi => ?_) (fun i j hi hj he => ?_) (fun q hq => ?_) (fun a => ?_) (fun q => Or.inl ?_)
    · rcases r0 i hi with e | e <;> subst e
      · exact ⟨show f < 60 by omega, show 40 + w < 300 by omega⟩
      · exact ⟨hf6, show 40 < 300 by omega⟩
    · rcases r0 i hi with e | e <;> rcases r0 j hj with e2 | e2 <;> subst e <;> subst e2
      · rfl
      · exact absurd he hne
      · exact absurd he.symm hne
      · rfl
    · have k1 := hq 0 (by omega)
      have k2 := hq 1 (by omega)
      exact ⟨rfl, u2N_o k1 k2, u2N_o k1 k2⟩
    · rw [psN_two, psN_two]
      show (cnN a (C (f, 40 + w)) + cnN a (u2N L (f, 40 + w) (f + 1, 40) (L (f + 1, 40)) [] (f, 40 + w))) + (cnN a (C (f + 1, 40)) + cnN a (u2N L (f, 40 + w) (f + 1, 40) (L (f + 1, 40)) [] (f + 1, 40))) + cnN a fl + ind t a = (cnN a (C (f, 40 + w)) + cnN a (L (f, 40 + w))) + (cnN a (C (f + 1, 40)) + cnN a (L (f + 1, 40))) + cnN a fl + ind t a
      rw [u2N_1, u2N_2 hne.symm, l40]
      have z0 : cnN a ([] : List Nat) = 0 := rfl
      rw [z0]
      omega
    · rw [psN_two, psN_two]
      show cnN q (u2N H (f, 40 + w) (f + 1, 40) (H (f + 1, 40)) [] (f, 40 + w)) + cnN q (u2N H (f, 40 + w) (f + 1, 40) (H (f + 1, 40)) [] (f + 1, 40)) ≤ cnN q (H (f, 40 + w)) + cnN q (H (f + 1, 40)) ∧ _
      rw [u2N_1, u2N_2 hne.symm, h40]
      have z0 : cnN q ([] : List Nat) = 0 := rfl
      rw [z0]
      exact ⟨by omega, Or.inl rfl⟩
end PS102
