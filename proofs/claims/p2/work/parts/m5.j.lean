section PS87
variable {y : qY} {vt : Nat → Nat → Nat} {tb : Nat → lTb} {zn sz rk : Nat → Nat} {M M2 : nM} {sk sk2 : Nat → Int64} {pl pl2 : Nat → Int32} {f : Nat} {x : Nat → kFm} {rt rt2 : Nat × Nat → Nat} {V V2 : Nat × Nat → qV} {bs : Nat → Nat} {C L H : Nat × Nat → List Nat} {fl fl2 : List Nat} {t t2 n : Nat} {tk tk2 : Nat → Int32} {A : Nat → Prop} {X : kFm} {w : Nat → Nat} {c l h : Nat → List Nat}
/-- variables come into scope, no value stays on the stack -/
theorem kN.nv (hy : nYk y zn sz rk) (hJ : kJ y vt tb f x rt V) (hN : kN y zn sz M sk pl f x rt V bs C L H) (hC : kC C L H fl t tk) (hf6 : f < 60) (hw1 : ∀ j : Nat, j ≤ f → wl (x j).2.1 ≤ 177) (hwo : wl (x f).2.1 ≤ 1) (hX0 : wl X.2.1 = 0) (hX8 : ∀ u : Nat, (8, u, 0) ∈ X.2.1 ↔ (∃ i : Nat, i < n ∧ u = w i) ∨ (8, u, 0) ∈ (x f).2.1) (hX2 : X.2.2.1 = 0)
  (hw4 : ∀ i : Nat, i < n → w i < 40 ∧ (8, w i, 0) ∉ (x f).2.1) (hwi : ∀ a b : Nat, a < n → b < n → w a = w b → a = b)
  (hrt : ∀ r : Nat × Nat, ¬ (r.1 = f ∧ ((∃ i : Nat, i < n ∧ r.2 = w i) ∨ 40 ≤ r.2)) → rt2 r = rt r ∧ V2 r = V r)
  (hp : ∀ i : Nat, i < n → plR y sz M2 (rt2 (f, w i)) (V2 (f, w i)) (pl2 (40 * f + w i)) (c i) (l i) (h i))
  (hpl : ∀ j u : Nat, j ≤ f → u < 40 → (8, u, 0) ∈ (x j).2.1 → pl2 (40 * j + u) = pl (40 * j + u))
  (hr : ∀ (u : Nat) (d : Nat × Nat) (π : lLc), u < 40 → kA X u → kR X u = some (d :: π) → (kA (x f) u ∧ kR (x f) u = some (d :: π) ∧ ¬ ∃ i : Nat, i < n ∧ u = w i) ∨ ∃ i m n2 : Nat, i < n ∧ u = w i ∧ (d.1 ≤ f ∧ d.2 < 40 ∧ (8, d.2, 0) ∈ (x d.1).2.1) ∧ c i = [m] ∧ M2.w m = nL n2 ∧ n2 < 430000 ∧ wRn y zn M2 (rt d) (hdN (C d)) π n2)
  (hM : ∀ a : Nat, ¬ A a → M2.w a = M.w a ∧ M2.h a = M.h a ∧ M2.x a = M.x a) (hA : ∀ a : Nat, A a → a ∈ fl ∨ t < a ∨ a ∈ L (f, 40))
  (hfl2 : ∀ a : Nat, psN (fun i => cnN a (c i) + cnN a (l i)) n + cnN a fl2 + ind t a = cnN a (L (f, 40)) + cnN a fl + ind t2 a)
  (hhv : ∀ q : Nat, psN (fun i => cnN q (h i)) n ≤ cnN q (H (f, 40)) ∧ tk2 q = tk q)
  (hsk : ∀ q : Nat, q < bs f → sk2 q = sk q) : kN y zn sz M2 sk2 pl2 f (kUx x f X) rt2 V2 bs (nvN C f n w c) (nvN L f n w l) (nvN H f n w h) ∧ kC (nvN C f n w c) (nvN L f n w l) (nvN H f n w h) fl2 t2 tk2 := by
  have hf := Nat.le_refl f
  -- old roots
  have top : ∀ u : Nat, 40 ≤ u → C (f, u) = [] ∧ (u ≠ 40 → L (f, u) = [] ∧ H (f, u) = []) := fun u hu => by
    obtain ⟨q1, q2, q3⟩ := hN.1 f u hf
    by_cases e : u < 40 + wl (x f).2.1
    · exact ⟨(q2 hu e).1, fun z => by omega⟩
    · obtain ⟨z1, z2, z3⟩ := q3 (fun z => by rcases z with z | z <;> omega)
      exact ⟨z1, fun _ => ⟨z2, z3⟩⟩
  have oldv : ∀ i : Nat, i < n → C (f, w i) = [] ∧ L (f, w i) = [] ∧ H (f, w i) = [] := fun i hi => (hN.1 f (w i) hf).2.2 (fun z => by
    obtain ⟨w4, w8⟩ := hw4 i hi
    rcases z with z | z
    · exact w8 z.2
    · omega)
  have dj : ∀ (q : Nat × Nat) (a : Nat), ¬ (q.1 = f ∧ ((∃ i : Nat, i < n ∧ q.2 = w i) ∨ 40 ≤ q.2)) → q.1 ≤ f → kSc (x q.1).2.1 q.2 → (a ∈ C q ∨ a ∈ L q) → ¬ A a := fun q a h1 h2 h3 h4 z => by
    have hq := hw1 q.1 h2
    have q300 : q.2 < 300 := by rcases h3 with z | z <;> omega
    obtain ⟨q1, q2, q3, q4, q5⟩ := hC.one (r := q) (by omega) q300 h4
    rcases hA a z with z | z | z
    · exact q1 z
    · omega
    · have := q5 (f, 40) hf6 (show 40 < 300 by omega) (Or.inr z)
      exact h1 (by rw [← this]; exact ⟨rfl, Or.inr (Nat.le_refl 40)⟩)
  refine ⟨kN.rq (Q := fun u => (∃ i : Nat, i < n ∧ u = w i) ∨ 40 ≤ u) hy hJ hN (fun j hj => kUx_lo hj) (fun u hu => ?_) (fun u hu h4 => absurd (Or.inr h4) hu) (fun q hq => ?_) (fun q hq h1 h3 => ⟨fun a z => hM a (dj q a hq h1 h3 (Or.inl z)), fun a z => hM a (dj q a hq h1 h3 (Or.inr z))⟩) (fun q hq h1 h4 h8 => hpl q.1 q.2 h1 h4 h8) (fun q hq h1 h4 h5 => hsk _ ?_) (fun u hu => ?_) (fun j u d π hj ha hc hrr => ?_), ?_⟩
  · rw [kUx_top, hX8]
    exact ⟨fun z => z.resolve_left (fun z => hu (Or.inl z)), Or.inr⟩
  · obtain ⟨z1, z2⟩ := hrt q hq
    exact ⟨z1, z2, nvN_o hq, nvN_o hq, nvN_o hq⟩
  · by_cases e : q.1 = f
    · exact absurd ⟨e, Or.inr h4⟩ hq
    · have := (hN.bsm (j := q.1) (q := f) h1 hf).2 (by omega)
      omega
  · rw [kUx_top]
    rcases hu with ⟨i, hi, rfl⟩ | hu
    · obtain ⟨w4, w8⟩ := hw4 i hi
      rw [nvN_i hi w4 hwi, nvN_i hi w4 hwi, nvN_i hi w4 hwi]
      exact ⟨fun _ _ => hp i hi, fun z => by omega, fun z => absurd (Or.inl ⟨w4, (hX8 (w i)).mpr (Or.inl ⟨i, hi, rfl⟩)⟩) z⟩
    · rw [nvN_4 hu, nvN_4 hu, nvN_4 hu]
      exact ⟨fun z => by omega, fun _ z => by rw [hX0] at z; omega, fun _ => ⟨rfl, rfl, rfl⟩⟩
  · have nd : ∀ d : Nat × Nat, d.2 < 40 → (8, d.2, 0) ∈ (x d.1).2.1 → ¬ (d.1 = f ∧ ((∃ i : Nat, i < n ∧ d.2 = w i) ∨ 40 ≤ d.2)) := fun d d1 d2 z => by
      obtain ⟨z1, z2⟩ := z
      rcases z2 with ⟨i, i1, i2⟩ | z2
      · rw [z1, i2] at d2
        exact (hw4 i i1).2 d2
      · omega
    by_cases e : j = f
    · subst e
      rw [kUx_top] at ha hrr hc
      have hu : u < 40 := by
        rcases hc with ⟨z1, _⟩ | ⟨z1, z2⟩
        · exact z1
        · rw [hX0] at z2; omega
      rcases hr u d π hu ha hrr with ⟨z1, z2, z3⟩ | ⟨i, m, n2, z1, z2, ⟨z3, z4, z5⟩, z6, z7, z8, z9⟩
      · obtain ⟨l1, l2, l3, _⟩ := hJ.ld hf z1 z2
        exact Or.inl ⟨fun z => by
          rcases z.2 with z | z
          · exact z3 z
          · omega, nd d l2 l3, z1, z2⟩
      · refine Or.inr ⟨n2, z8, ?_, fun _ => ⟨m, ?_, z7⟩, fun z => by omega⟩
        · rw [(hrt d (nd d z4 z5)).1, nvN_o (nd d z4 z5)]; exact z9
        · rw [z2, nvN_i z1 (hw4 i z1).1 hwi]; exact z6
    · rw [kUx_lo e] at ha hrr hc
      obtain ⟨l1, l2, l3, _⟩ := hJ.ld hj ha hrr
      exact Or.inl ⟨fun z => e z.1, nd d l2 l3, ha, hrr⟩
  · have ri : ∀ i : Nat, i < n → (if i < n then (f, w i) else (f, 40) : Nat × Nat) = (f, w i) := fun i hi => if_pos hi
    have rn : (if n < n then (f, w n) else (f, 40) : Nat × Nat) = (f, 40) := if_neg (Nat.lt_irrefl n)
    refine hC.fam (r := fun i => if i < n then (f, w i) else (f, 40)) (n := n + 1) (fun i hi => ?_) (fun i j hi hj he => ?_) (fun q hq => ?_) (fun a => ?_) (fun q => Or.inl ?_)
    · show (if i < n then (f, w i) else (f, 40) : Nat × Nat).1 < 60 ∧ (if i < n then (f, w i) else (f, 40) : Nat × Nat).2 < 300
      by_cases e : i < n
      · rw [if_pos e]
        have := (hw4 i e).1
        exact ⟨hf6, show w i < 300 by omega⟩
      · rw [if_neg e]; exact ⟨hf6, show 40 < 300 by omega⟩
    · have he : (if i < n then (f, w i) else (f, 40) : Nat × Nat) = (if j < n then (f, w j) else (f, 40)) := he
      by_cases e1 : i < n
      · rw [if_pos e1] at he
        by_cases e2 : j < n
        · rw [if_pos e2] at he
          exact hwi i j e1 e2 (Prod.mk.inj he).2
        · rw [if_neg e2] at he
          have := (Prod.mk.inj he).2
          have := (hw4 i e1).1
          omega
      · rw [if_neg e1] at he
        by_cases e2 : j < n
        · rw [if_pos e2] at he
          have := (Prod.mk.inj he).2
          have := (hw4 j e2).1
          omega
        · omega
    · by_cases e : q.1 = f ∧ ((∃ i : Nat, i < n ∧ q.2 = w i) ∨ 40 ≤ q.2)
      · obtain ⟨q1, q2⟩ := q
        obtain ⟨e1, e2⟩ := e
        have e1 : q1 = f := e1
        subst e1
        rcases e2 with ⟨i, i1, i2⟩ | e2
        · have i2 : q2 = w i := i2
          refine absurd ?_ (hq i (by omega))
          show (q1, q2) = if i < n then (q1, w i) else (q1, 40)
          rw [if_pos i1, i2]
        · have e2 : 40 ≤ q2 := e2
          have ne : q2 ≠ 40 := fun z => by
            refine absurd ?_ (hq n (by omega))
            show (q1, q2) = if n < n then (q1, w n) else (q1, 40)
            rw [rn, z]
          obtain ⟨d1, d2⟩ := top q2 e2
          obtain ⟨d2, d3⟩ := d2 ne
          rw [nvN_4 e2, nvN_4 e2, nvN_4 e2, d1, d2, d3]
          exact ⟨rfl, rfl, rfl⟩
      · exact ⟨nvN_o e, nvN_o e, nvN_o e⟩
    · have e1 : psN (fun i => cnN a (nvN C f n w c (if i < n then (f, w i) else (f, 40))) + cnN a (nvN L f n w l (if i < n then (f, w i) else (f, 40)))) (n + 1) = psN (fun i => cnN a (c i) + cnN a (l i)) n := by
        show psN _ n + (cnN a (nvN C f n w c (if n < n then (f, w n) else (f, 40))) + cnN a (nvN L f n w l (if n < n then (f, w n) else (f, 40)))) = _
        rw [rn, nvN_4 (Nat.le_refl 40), nvN_4 (Nat.le_refl 40)]
        show psN _ n + (0 + 0) = _
        rw [Nat.add_zero]
        exact psN_cg (fun i hi => by rw [ri i hi, nvN_i hi (hw4 i hi).1 hwi, nvN_i hi (hw4 i hi).1 hwi])
      have e2 : psN (fun i => cnN a (C (if i < n then (f, w i) else (f, 40))) + cnN a (L (if i < n then (f, w i) else (f, 40)))) (n + 1) = cnN a (L (f, 40)) := by
        show psN _ n + (cnN a (C (if n < n then (f, w n) else (f, 40))) + cnN a (L (if n < n then (f, w n) else (f, 40)))) = _
        rw [rn, (top 40 (Nat.le_refl 40)).1, psN_cg (w2 := fun _ => 0) (fun i hi => by
          obtain ⟨o1, o2, _⟩ := oldv i hi
          rw [ri i hi, o1, o2]; rfl), psN_z]
        show 0 + (0 + _) = _
        omega
      rw [e1, e2]
      exact hfl2 a
    · have e1 : psN (fun i => cnN q (nvN H f n w h (if i < n then (f, w i) else (f, 40)))) (n + 1) = psN (fun i => cnN q (h i)) n := by
        show psN _ n + cnN q (nvN H f n w h (if n < n then (f, w n) else (f, 40))) = _
        rw [rn, nvN_4 (Nat.le_refl 40)]
        show psN _ n + 0 = _
        rw [Nat.add_zero]
        exact psN_cg (fun i hi => by rw [ri i hi, nvN_i hi (hw4 i hi).1 hwi])
      have e2 : psN (fun i => cnN q (H (if i < n then (f, w i) else (f, 40)))) (n + 1) = cnN q (H (f, 40)) := by
        show psN _ n + cnN q (H (if n < n then (f, w n) else (f, 40))) = _
        rw [rn, psN_cg (w2 := fun _ => 0) (fun i hi => by
          obtain ⟨_, _, o3⟩ := oldv i hi
          rw [ri i hi, o3]; rfl), psN_z]
        omega
      rw [e1, e2]
      exact ⟨(hhv q).1, Or.inl (hhv q).2⟩
end PS87
