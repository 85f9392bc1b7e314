section PS69
variable {y : qY} {vt : Nat → Nat → Nat} {tb : Nat → lTb} {zn sz rk : Nat → Nat} {M M2 : nM} {sk sk2 : Nat → Int64} {pl pl2 : Nat → Int32} {f : Nat} {x x2 : Nat → kFm} {rt rt2 : Nat × Nat → Nat} {V V2 : Nat × Nat → qV} {bs : Nat → Nat} {C L H C2 L2 H2 : Nat × Nat → List Nat} {v T : Nat} {ρ σ : lLc} {fl : List Nat} {t : Nat} {tk : Nat → Int32}
theorem kN.ix (h : kN y zn sz M sk pl f x rt V bs C L H) {j u : Nat} (hj : j ≤ f) (h4 : 40 ≤ u) (hu : u < 40 + wl (x j).2.1) : bs j + (u - 40) < bs f + wl (x f).2.1 := by
  by_cases e : j = f
  · subst e; omega
  · have := (h.bsm (j := j) (q := f) hj (Nat.le_refl _)).2 (by omega); omega
theorem psN_two {w : Nat → Nat} : psN w 2 = w 0 + w 1 := by
  show 0 + w 0 + w 1 = _
  omega
/-- the nodes when a value is moved out of its place -/
theorem kN.mv {k0 t2 : Nat} {al2 : Nat → Prop} {lo2 : Nat → lLc → Prop} {c0 l0 g0 rest hr Ln fl2 : List Nat} {r : Int64} (hy : nYk y zn sz rk) (hJ : kJ y vt tb f x rt V) (hN : kN y zn sz M sk pl f x rt V bs C L H) (hC : kC C L H fl t tk) (hf6 : f < 60) (hw1 : ∀ j : Nat, j ≤ f → wl (x j).2.1 ≤ 177) (hn0 : (x f).2.2.1 = 0) (hv4 : v < 40) (hvS : (8, v, 0) ∈ (x f).2.1) (hnr : y.1 (rt (f, v)) ≠ 5 ∧ y.1 (rt (f, v)) ≠ 6) (hal : ∀ u : Nat, al2 u → kal (x f) u)
  (hJ2 : kJ y vt tb f (kUx x f ((x f).1, (0, T, 0) :: (x f).2.1, 0, lUp (kR (x f)) (40 + wl (x f).2.1) none, kH (x f), al2, lo2, kAn (x f))) (qRt rt (f, 40 + wl (x f).2.1) T) (qUp (qUp V (f, v) (qC (V (f, v)) ρ)) (f, 40 + wl (x f).2.1) (qS (V (f, v)) ρ)))
  (p0 : pL y sz M k0 T (qS (V (f, v)) ρ) c0 l0 g0) (pc : ∀ a : Nat, cnN a (C (f, v)) + cnN a (L (f, v)) = cnN a c0 + cnN a l0 + cnN a rest) (ph : ∀ a : Nat, cnN a (H (f, v)) = cnN a g0 + cnN a hr) (pm : ∀ a ∈ C (f, v), a ∈ c0 ∨ a ∈ rest) (pf : foR y zn sz M (rt (f, v)) T (V (f, v)) ρ (C (f, v)) c0 rest hr)
  (hM : ∀ a : Nat, a ∉ Ln → a ∉ c0 → M2.w a = M.w a ∧ M2.h a = M.h a ∧ M2.x a = M.x a) (hfl2 : ∀ a : Nat, cnN a Ln + cnN a fl2 + ind t a = cnN a fl + ind t2 a) (hc0 : ∀ a ∈ c0, M2.h a = 0 ∧ M2.x a = M.x a) (hLn : ∀ a ∈ Ln, a ∈ fl ∨ t < a) (hva : vaR y sz M2 T (qS (V (f, v)) ρ) r (Ln ++ l0) g0)
  (hsk : ∀ q : Nat, q < bs f + wl (x f).2.1 → sk2 q = sk q) (hsk2 : sk2 (bs f + wl (x f).2.1) = r) : ∃ l2 h2 : List Nat, kN y zn sz M2 sk2 pl f (kUx x f ((x f).1, (0, T, 0) :: (x f).2.1, 0, lUp (kR (x f)) (40 + wl (x f).2.1) none, kH (x f), al2, lo2, kAn (x f))) (qRt rt (f, 40 + wl (x f).2.1) T) (qUp (qUp V (f, v) (qC (V (f, v)) ρ)) (f, 40 + wl (x f).2.1) (qS (V (f, v)) ρ)) bs C (u2N L (f, v) (f, 40 + wl (x f).2.1) l2 (Ln ++ l0)) (u2N H (f, v) (f, 40 + wl (x f).2.1) h2 g0) ∧ kC C (u2N L (f, v) (f, 40 + wl (x f).2.1) l2 (Ln ++ l0)) (u2N H (f, v) (f, 40 + wl (x f).2.1) h2 g0) fl2 t2 tk := by
  have hf := Nat.le_refl f
  have hnm : kNm (0, T, 0) := by show ¬ ((0 : Nat) = 8 ∨ (0 : Nat) = 4 ∨ (0 : Nat) = 5 ∨ (0 : Nat) = 6); decide
  have h177 := hw1 f hf
  have e1 : ((f, 40 + wl (x f).2.1) : Nat × Nat) ≠ (f, v) := fun w => by have := (Prod.mk.inj w).2; omega
  obtain ⟨ct, lt, ht⟩ := (hN.1 f (40 + wl (x f).2.1) hf).2.2 (fun w => by rcases w with w | w <;> omega)
  have inV : ∀ a : Nat, 1 ≤ cnN a c0 + cnN a l0 + cnN a rest → (a ∉ fl ∧ a ≤ t) ∧ cnN a c0 + cnN a l0 + cnN a rest = 1 ∧ ∀ q : Nat × Nat, q.1 < 60 → q.2 < 300 → (a ∈ C q ∨ a ∈ L q) → q = (f, v) := fun a ha => by
    have hm : a ∈ C (f, v) ∨ a ∈ L (f, v) := by
      have := pc a
      by_cases w : a ∈ C (f, v)
      · exact Or.inl w
      · have := cnN_z w
        exact Or.inr (cnN_mem.mpr (by omega))
    obtain ⟨q1, q2, q3, q4, q5⟩ := hC.one (r := (f, v)) hf6 (show v < 300 by omega) hm
    exact ⟨⟨q1, q3⟩, by rw [← pc a]; exact q4, q5⟩
  have dj : ∀ (q : Nat × Nat) (a : Nat), q ≠ (f, v) → q.1 ≤ f → kSc (x q.1).2.1 q.2 → (a ∈ C q ∨ a ∈ L q) → a ∉ Ln ∧ a ∉ c0 := fun q a h1 h2 h3 h4 => by
    have hq := hw1 q.1 h2
    have q300 : q.2 < 300 := by rcases h3 with z | z <;> omega
    obtain ⟨q1, q2, q3, q4, q5⟩ := hC.one (r := q) (by omega) q300 h4
    refine ⟨fun w => ?_, fun w => ?_⟩
    · rcases hLn a w with z | z
      · exact q1 z
      · omega
    · have := cnN_mem.mp w
      exact h1 ((inV a (by omega)).2.2 q (by omega) q300 h4)
  have dr : ∀ a ∈ rest, a ∉ Ln ∧ a ∉ c0 := fun a ha => by
    have m1 := cnN_mem.mp ha
    obtain ⟨⟨z1, z2⟩, z3, _⟩ := inV a (by omega)
    refine ⟨fun w => ?_, fun w => ?_⟩
    · rcases hLn a w with z | z
      · exact z1 z
      · omega
    · have := cnN_mem.mp w; omega
  obtain ⟨f1, f2⟩ := pf M2 (fun a ha => hM a (dr a ha).1 (dr a ha).2) (fun a ha => (hc0 a ha).2)
  obtain ⟨k2, l2, h2, g1, g2, g3⟩ := f1 (fun _ => none) k0 [] [] (p0.none hy (fun a ha => (hc0 a ha).1))
  rw [qG_C] at g1
  obtain ⟨_, hlk, hpl⟩ := (hN.1 f v hf).1 hv4 hvS
  have hlk2 : lkN M2.x (C (f, v)) := hlk.cg (fun a ha => by
    rcases pm a ha with w | w
    · exact (hc0 a w).2
    · exact (hM a (dr a w).1 (dr a w).2).2.2)
  have nQ : ∀ q : Nat × Nat, ¬ (q.1 = f ∧ (q.2 = v ∨ q.2 = 40 + wl (x f).2.1)) → q ≠ (f, v) ∧ q ≠ (f, 40 + wl (x f).2.1) := fun q hq => ⟨fun w => hq (by rw [w]; exact ⟨rfl, Or.inl rfl⟩), fun w => hq (by rw [w]; exact ⟨rfl, Or.inr rfl⟩)⟩
  refine ⟨l2, h2, kN.rq (Q := fun u => u = v ∨ u = 40 + wl (x f).2.1) hy hJ hN (fun j hj => kUx_lo hj) (fun u _ => by rw [kUx_top]; exact nm_8 hnm) (fun u hu h4 => by rw [kUx_top]; exact wl_u hnm (fun w => hu (Or.inr w)) h4) (fun q hq => ?_) (fun q hq h1 h3 => ?_) (fun _ _ _ _ _ => rfl) (fun q hq h1 h4 h5 => hsk _ (hN.ix h1 h4 h5)) (fun u hu => ?_) (fun j u d π hj ha hc hrr => ?_), ?_⟩
  · obtain ⟨n1, n2⟩ := nQ q hq
    exact ⟨qRt_ne n2, (qUp_ne n2).trans (qUp_ne n1), rfl, u2N_o n1 n2, u2N_o n1 n2⟩
  · obtain ⟨n1, n2⟩ := nQ q hq
    exact ⟨fun a w => hM a (dj q a n1 h1 h3 (Or.inl w)).1 (dj q a n1 h1 h3 (Or.inl w)).2, fun a w => hM a (dj q a n1 h1 h3 (Or.inr w)).1 (dj q a n1 h1 h3 (Or.inr w)).2⟩
  · rcases hu with rfl | rfl
    · rw [qRt_ne e1.symm, qUp_ne e1.symm, qUp_eq, u2N_1, u2N_1, kUx_top]
      exact ⟨fun _ _ => ⟨⟨k2, g1⟩, hlk2, hpl⟩, fun w => by omega, fun w => absurd (Or.inl ⟨hv4, (nm_8 hnm).mpr hvS⟩) w⟩
    · rw [qRt_eq, qUp_eq, u2N_2 e1, u2N_2 e1, kUx_top, ct]
      refine ⟨fun w => by omega, fun _ _ => ⟨rfl, ?_⟩, fun w => absurd (Or.inr ⟨by omega, ?_⟩) w⟩
      · rw [show 40 + wl (x f).2.1 - 40 = wl (x f).2.1 by omega, hsk2]; exact hva
      · show 40 + wl (x f).2.1 < 40 + wl ((0, T, 0) :: (x f).2.1)
        rw [wl_n hnm]; omega
  · have ld2 := hJ2.ld hj ha hrr
    have old : kA (x j) u ∧ kR (x j) u = some (d :: π) ∧ (j, u) ≠ (f, 40 + wl (x f).2.1) ∧ kSc (x j).2.1 u := by
      by_cases e : j = f
      · subst e
        rw [kUx_top] at ha hrr hc
        have hrr : lUp (kR (x j)) (40 + wl (x j).2.1) none u = some (d :: π) := hrr
        have hu : u ≠ 40 + wl (x j).2.1 := fun w => by rw [w, lUp_eq] at hrr; cases hrr
        rw [lUp_ne hu] at hrr
        refine ⟨?_, hrr, fun w => hu (Prod.mk.inj w).2, ?_⟩
        · rcases ha with ⟨z1, z2⟩ | ⟨z1, z2⟩
          · exact Or.inl ⟨z1, hal u z2⟩
          · have z2 : u < 40 + wl ((0, T, 0) :: (x j).2.1) + 0 := z2
            rw [wl_n hnm] at z2; exact Or.inr ⟨z1, by omega⟩
        · rcases hc with ⟨z1, z2⟩ | ⟨z1, z2⟩
          · exact Or.inl ⟨z1, (nm_8 hnm).mp z2⟩
          · have z2 : u < 40 + wl ((0, T, 0) :: (x j).2.1) := z2
            rw [wl_n hnm] at z2; exact Or.inr ⟨z1, by omega⟩
      · rw [kUx_lo e] at ha hrr hc
        exact ⟨ha, hrr, fun w => e (Prod.mk.inj w).1, hc⟩
    obtain ⟨oa, or, ot, oc⟩ := old
    have onv : (j, u) ≠ (f, v) := fun w => by
      obtain ⟨w1, w2⟩ := Prod.mk.inj w
      subst w1; subst w2
      rcases (hJ.2.2.1 j hj u _ oa or).1 with z | z
      · exact hnr.1 z
      · exact hnr.2 z
    obtain ⟨l1, l2', l3, T9, l4, l5, l6⟩ := hJ.ld hj oa or
    by_cases ed : d = (f, v)
    · refine Or.inr ?_
      subst ed
      obtain ⟨_, _, _, T8, m4, m5, _⟩ := ld2
      obtain ⟨n, n1, n2, n3, n4⟩ := hN.2.2.2 j u (f, v) π hj oa oc or
      have hnp : lP ρ π → π = ρ := fun w => by
        exfalso
        obtain ⟨s, rfl⟩ := w
        rw [qUp_ne e1.symm, qUp_eq] at m5
        obtain ⟨τ, z, hz⟩ := qF_pl m5
        rw [List.append_assoc, qC_in] at hz
        cases hz
      refine ⟨n, n1, ?_, fun a => ?_, fun a => ?_⟩
      · rw [qRt_ne e1.symm]
        exact f2 π T9 n l4 l6 hnp n2
      · obtain ⟨m, i1, i2⟩ := n3 a
        have hm : m ∈ C (j, u) := by rw [i1]; exact List.mem_singleton_self m
        have := dj (j, u) m onv hj oc (Or.inl hm)
        exact ⟨m, i1, (hM m this.1 this.2).1.trans i2⟩
      · have hlt : u < 40 + wl (x j).2.1 := by
          rcases oc with z | z <;> omega
        rw [hsk _ (hN.ix hj a hlt)]; exact n4 a
    · refine Or.inl ⟨fun w => ?_, fun w => ?_, oa, or⟩
      · rcases w with ⟨w1, w2 | w2⟩
        · exact onv (by rw [w1, w2])
        · exact ot (by rw [w1, w2])
      · rcases w with ⟨w1, w2 | w2⟩
        · exact ed (Prod.ext w1 w2)
        · omega
  · have r0 : ∀ i : Nat, i < 2 → i = 0 ∨ i = 1 := fun i hi => by omega
    refine hC.fam (r := fun i => if i = 0 then (f, v) else (f, 40 + wl (x f).2.1)) (n := 2) (fun i hi => ?_) (fun i j hi hj he => ?_) (fun q hq => ?_) (fun a => ?_) (fun q => Or.inl ?_)
    · rcases r0 i hi with e | e <;> subst e
      · exact ⟨hf6, show v < 300 by omega⟩
      · exact ⟨hf6, show 40 + wl (x f).2.1 < 300 by omega⟩
    · rcases r0 i hi with e | e <;> rcases r0 j hj with e2 | e2 <;> subst e <;> subst e2
      · rfl
      · exact absurd he.symm e1
      · exact absurd he e1
      · rfl
    · have n1 := hq 0 (by omega)
      have n2 := hq 1 (by omega)
      exact ⟨rfl, u2N_o n1 n2, u2N_o n1 n2⟩
    · rw [psN_two, psN_two]
      show (cnN a (C (f, v)) + cnN a (u2N L (f, v) (f, 40 + wl (x f).2.1) l2 (Ln ++ l0) (f, v))) + (cnN a (C (f, 40 + wl (x f).2.1)) + cnN a (u2N L (f, v) (f, 40 + wl (x f).2.1) l2 (Ln ++ l0) (f, 40 + wl (x f).2.1))) + cnN a fl2 + ind t a = (cnN a (C (f, v)) + cnN a (L (f, v))) + (cnN a (C (f, 40 + wl (x f).2.1)) + cnN a (L (f, 40 + wl (x f).2.1))) + cnN a fl + ind t2 a
      rw [u2N_1, u2N_2 e1, ct, lt, cnN_app]
      have w1 := g2 a
      have w2 := pc a
      have w3 := hfl2 a
      have w4 : cnN a ([] : List Nat) = 0 := rfl
      rw [w4] at w1 ⊢
      omega
    · rw [psN_two, psN_two]
      refine ⟨?_, Or.inl rfl⟩
      show cnN q (u2N H (f, v) (f, 40 + wl (x f).2.1) h2 g0 (f, v)) + cnN q (u2N H (f, v) (f, 40 + wl (x f).2.1) h2 g0 (f, 40 + wl (x f).2.1)) ≤ cnN q (H (f, v)) + cnN q (H (f, 40 + wl (x f).2.1))
      rw [u2N_1, u2N_2 e1, ht]
      have w1 := g3 q
      have w2 := ph q
      have w4 : cnN q ([] : List Nat) = 0 := rfl
      rw [w4] at w1 ⊢
      omega
end PS69
