/-- roots of a call: its arguments come to the new frame's variables -/
def caN (F : Nat × Nat → List Nat) (f w n : Nat) (c : Nat → List Nat) : Nat × Nat → List Nat := fun r => if r.1 = f + 1 then (if r.2 < n then c r.2 else []) else if r.1 = f ∧ 40 + w ≤ r.2 then [] else F r
section PS101
variable {y : qY} {vt : Nat → Nat → Nat} {tb : Nat → lTb} {zn sz rk : Nat → Nat} {M M2 : nM} {sk sk2 : Nat → Int64} {pl pl2 : Nat → Int32} {f w n t t2 : Nat} {x : Nat → kFm} {rt : Nat × Nat → Nat} {V : Nat × Nat → qV} {bs bs2 : Nat → Nat} {C L H F : Nat × Nat → List Nat} {fl fl2 : List Nat} {tk tk2 : Nat → Int32} {A : Nat → Prop} {X Xf : kFm} {c l : Nat → List Nat} {vt2 : Nat → Nat}
theorem psN_sp {u : Nat → Nat} {n : Nat} : ∀ {m : Nat}, psN u (n + m) = psN u n + psN (fun i => u (n + i)) m
  | 0 => rfl
  | m + 1 => by
    show psN u (n + m) + u (n + m) = psN u n + (psN (fun i => u (n + i)) m + u (n + m))
    rw [psN_sp (m := m)]; omega
theorem psN_s2 {u a b : Nat → Nat} {n m : Nat} (h1 : ∀ i : Nat, i < n → u i = a i) (h2 : ∀ i : Nat, i < m → u (n + i) = b i) : psN u (n + m) = psN a n + psN b m := by
  have e1 := psN_cg h1
  have e2 := psN_cg (w := fun i => u (n + i)) h2
  rw [psN_sp, e1, e2]
theorem caN_n {i : Nat} (h : i < n) : caN F f w n c (f + 1, i) = c i := by
  unfold caN; rw [if_pos rfl]; exact if_pos h
theorem caN_z {i : Nat} (h : ¬ i < n) : caN F f w n c (f + 1, i) = [] := by
  unfold caN; rw [if_pos rfl]; exact if_neg h
theorem caN_t {u : Nat} (h : 40 + w ≤ u) : caN F f w n c (f, u) = [] := by
  unfold caN
  rw [if_neg (show ¬ f = f + 1 by omega), if_pos ⟨rfl, h⟩]
theorem caN_o {r : Nat × Nat} (h1 : r.1 ≠ f + 1) (h2 : ¬ (r.1 = f ∧ 40 + w ≤ r.2)) : caN F f w n c r = F r := by
  unfold caN
  rw [if_neg h1, if_neg h2]
/-- a call: the nodes -/
theorem kN.call (hy : nYk y zn sz rk) (hJ : kJ y vt tb f x rt V) (hN : kN y zn sz M sk pl f x rt V bs C L H) (hC : kC C L H fl t tk) (hf6 : f + 1 < 60) (hw1 : ∀ j : Nat, j ≤ f → wl (x j).2.1 ≤ 177) (hwx : wl (x f).2.1 = w + n) (hXf : wl Xf.2.1 = w) (hXf8 : ∀ u : Nat, (8, u, 0) ∈ Xf.2.1 ↔ (8, u, 0) ∈ (x f).2.1) (hn40 : n ≤ 12) (hX0 : wl X.2.1 = 0) (hX8 : ∀ u : Nat, (8, u, 0) ∈ X.2.1 ↔ u < n)
  (hrf : ∀ (u : Nat) (a : lLc), kA Xf u → kSc Xf.2.1 u → kR Xf u = some a → kA (x f) u ∧ kR (x f) u = some a) (hrX : ∀ (u : Nat) (d : Nat × Nat) (π : lLc), u < n → kR X u = some (d :: π) → kR (x f) (40 + w + u) = some (d :: π) ∧ ∃ m : Nat, c u = [m] ∧ M2.w m = sk (bs f + (w + u)))
  (hp : ∀ i : Nat, i < n → plR y sz M2 (vt2 i) (V (f, 40 + w + i)) (pl2 (40 * (f + 1) + i)) (c i) (l i) (H (f, 40 + w + i))) (hpl : ∀ j u : Nat, j ≤ f → u < 40 → pl2 (40 * j + u) = pl (40 * j + u))
  (hM : ∀ a : Nat, ¬ A a → M2.w a = M.w a ∧ M2.h a = M.h a ∧ M2.x a = M.x a) (hA : ∀ a : Nat, A a → a ∈ fl ∨ t < a)
  (hfl2 : ∀ a : Nat, psN (fun i => cnN a (c i) + cnN a (l i)) n + cnN a fl2 + ind t a = psN (fun i => cnN a (L (f, 40 + w + i))) n + cnN a fl + ind t2 a) (htk : ∀ q : Nat, tk2 q = tk q)
  (hsk : ∀ q : Nat, q < bs f + w → sk2 q = sk q) (hbs : ∀ j : Nat, j ≤ f → bs2 j = bs j) (hbs1 : bs2 (f + 1) = bs f + w) :
  kN y zn sz M2 sk2 pl2 (f + 1) (kUx (kUx x f Xf) (f + 1) X) (kCt rt vt2 f) (kCa V f w n) bs2 (caN C f w n c) (caN L f w n l) (caN H f w n (fun i => H (f, 40 + w + i))) ∧ kC (caN C f w n c) (caN L f w n l) (caN H f w n (fun i => H (f, 40 + w + i))) fl2 t2 tk2 := by
  have hf := Nat.le_refl f
  have h177 := hw1 f hf
  have x1 : kUx (kUx x f Xf) (f + 1) X (f + 1) = X := kUx_eq
  have xf : kUx (kUx x f Xf) (f + 1) X f = Xf := by rw [kUx_ne (by omega)]; exact kUx_eq
  have xj : ∀ j : Nat, j < f → kUx (kUx x f Xf) (f + 1) X j = x j := fun j hj => by rw [kUx_ne (by omega), kUx_ne (by omega)]
  have top : ∀ u : Nat, 40 + w ≤ u → C (f, u) = [] ∧ (¬ u < 40 + (w + n) → L (f, u) = [] ∧ H (f, u) = []) := fun u hu => by
    obtain ⟨q1, q2, q3⟩ := hN.1 f u hf
    by_cases e : u < 40 + wl (x f).2.1
    · exact ⟨(q2 (by omega) e).1, fun z => by omega⟩
    · obtain ⟨z1, z2, z3⟩ := q3 (fun z => by rcases z with z | z <;> omega)
      exact ⟨z1, fun _ => ⟨z2, z3⟩⟩
  have hag : ∀ q : Nat × Nat, q.1 ≤ f → agN M M2 (C q) ∧ agN M M2 (L q) := fun q h2 => by
    have hq := hw1 q.1 h2
    by_cases cc : kSc (x q.1).2.1 q.2
    · have q300 : q.2 < 300 := by rcases cc with z | z <;> omega
      have key : ∀ a : Nat, (a ∈ C q ∨ a ∈ L q) → ¬ A a := fun a ha z => by
        obtain ⟨q1, _, q3, _⟩ := hC.one (r := q) (by omega) q300 ha
        rcases hA a z with z | z
        · exact q1 z
        · omega
      exact ⟨fun a ha => hM a (key a (Or.inl ha)), fun a ha => hM a (key a (Or.inr ha))⟩
    · obtain ⟨z1, z2, _⟩ := (hN.1 q.1 q.2 h2).2.2 cc
      have z1 : C q = [] := z1
      have z2 : L q = [] := z2
      rw [z1, z2]
      exact ⟨fun _ w => (by cases w), fun _ w => (by cases w)⟩
  have caO : ∀ (F : Nat × Nat → List Nat) (c : Nat → List Nat) (j u : Nat), j ≤ f → ¬ (j = f ∧ 40 + w ≤ u) → caN F f w n c (j, u) = F (j, u) := fun F c j u h1 h2 => caN_o (show j ≠ f + 1 by omega) h2
  refine ⟨kN.up (bs := bs) (bs2 := bs2) (f2 := f + 1) hy hJ hN (fun r => r.1 ≤ f ∧ ¬ (r.1 = f ∧ 40 + w ≤ r.2)) (fun j u ⟨k1, k3⟩ => ?_) (fun j u hj hk => ?_) (fun j u hj => ?_) ⟨by rw [hbs 0 (Nat.zero_le _)]; exact hN.2.2.1.1, fun j hj => ?_⟩ (fun j u d π hj ha hc he => ?_), ?_⟩
  · have k1 : j ≤ f := k1
    have k3 : ¬ (j = f ∧ 40 + w ≤ u) := k3
    obtain ⟨a1, a2⟩ := hag (j, u) k1
    refine ⟨⟨k1, hbs j k1⟩, ?_, fun a => ?_, ⟨kCt_f (by omega), (kCa_f (by omega)).trans (kCl_ge (fun z => k3 ⟨z.1, z.2.1⟩))⟩, ⟨caO _ _ j u k1 k3, caO _ _ j u k1 k3, caO _ _ j u k1 k3⟩, a1, a2, fun a _ => hpl j u k1 a, fun a b => hsk _ ?_⟩
    · by_cases e : j = f
      · subst e; rw [xf]; exact hXf8 u
      · rw [xj j (by omega)]
    · by_cases e : j = f
      · subst e; rw [xf, hXf, hwx]
        have : ¬ 40 + w ≤ u := fun z => k3 ⟨rfl, z⟩
        omega
      · rw [xj j (by omega)]
    · by_cases e : j = f
      · subst e
        have : ¬ 40 + w ≤ u := fun z => k3 ⟨rfl, z⟩
        omega
      · have := (hN.bsm k1 hf).2 (by omega)
        omega
  · by_cases e : j = f + 1
    · subst e
      rw [x1]
      by_cases cu : u < n
      · rw [kCt_n, kCa_n cu, caN_n cu, caN_n cu, caN_n cu]
        exact ⟨fun _ _ => hp u cu, fun z => by omega, fun z => absurd (Or.inl ⟨by omega, (hX8 u).mpr cu⟩) z⟩
      · rw [caN_z cu, caN_z cu, caN_z cu]
        exact ⟨fun _ z => absurd ((hX8 u).mp z) cu, fun _ z => by rw [hX0] at z; omega, fun _ => ⟨rfl, rfl, rfl⟩⟩
    · have c2 : j = f ∧ 40 + w ≤ u := Classical.byContradiction (fun z => hk ⟨by show j ≤ f; omega, z⟩)
      obtain ⟨rfl, c3⟩ := c2
      rw [xf, caN_t c3, caN_t c3, caN_t c3]
      exact ⟨fun z => by omega, fun _ z => by rw [hXf] at z; omega, fun _ => ⟨rfl, rfl, rfl⟩⟩
  · have n1 : ((j, u) : Nat × Nat).1 ≠ f + 1 := by show j ≠ f + 1; omega
    have n2 : ¬ (((j, u) : Nat × Nat).1 = f ∧ 40 + w ≤ ((j, u) : Nat × Nat).2) := fun z => by have : j = f := z.1; omega
    rw [caN_o n1 n2, caN_o n1 n2, caN_o n1 n2]
    exact hN.2.1 j u (by omega)
  · by_cases e : j = f
    · subst e
      rw [xf, hbs1, hbs j (Nat.le_refl _), hXf]
    · rw [xj j (by omega), hbs j (by omega), hbs (j + 1) (by omega)]
      exact hN.2.2.1.2 j (by omega)
  · by_cases e : j = f + 1
    · subst e
      rw [x1] at ha hc he
      have hun : u < n := by
        rcases hc with ⟨z1, z2⟩ | ⟨z1, z2⟩
        · exact (hX8 u).mp z2
        · rw [hX0] at z2; omega
      obtain ⟨r1, m, r2, r3⟩ := hrX u d π hun he
      have hks : kA (x f) (40 + w + u) := Or.inr ⟨by omega, by omega⟩
      obtain ⟨l1, l2, l3, T9, l4, _, l6⟩ := hJ.ld hf hks r1
      obtain ⟨n2, m1, m2, _, m4⟩ := hN.2.2.2 f (40 + w + u) d π hf hks (Or.inr ⟨by omega, by omega⟩) r1
      have m4 := m4 (by omega)
      rw [show 40 + w + u - 40 = w + u by omega] at m4
      obtain ⟨b1, b2⟩ := hag d l1
      obtain ⟨da, db⟩ := d
      have l1' : da ≤ f := l1
      have l2' : db < 40 := l2
      refine Or.inr ⟨n2, m1, ?_, fun _ => ⟨m, by rw [caN_n hun]; exact r2, r3.trans m4⟩, fun z => by omega⟩
      rw [kCt_f (by omega), caO _ _ da db l1' (by omega)]
      exact ((hN.hd hy l1 l2 l3).1).wk hy l4 l6 m2 b1 b2
    · by_cases e2 : j = f
      · subst e2
        rw [xf] at ha hc he
        obtain ⟨z1, z2⟩ := hrf u _ ha hc he
        obtain ⟨l1, l2, l3, _⟩ := hJ.ld hf z1 z2
        refine Or.inl ⟨⟨hf, fun z => ?_⟩, ⟨l1, fun z => by have := z.2; omega⟩, z1, z2⟩
        have z3 : 40 + w ≤ u := z.2
        rcases hc with y | y
        · omega
        · rw [hXf] at y; omega
      · rw [xj j (by omega)] at ha hc he
        obtain ⟨l1, l2, l3, _⟩ := hJ.ld (show j ≤ f by omega) ha he
        exact Or.inl ⟨⟨by show j ≤ f; omega, fun z => e2 z.1⟩, ⟨l1, fun z => by have := z.2; omega⟩, ha, he⟩
  · -- counts
    have rl : ∀ i : Nat, i < n → (if i < n then (f + 1, i) else (f, 40 + w + (i - n)) : Nat × Nat) = (f + 1, i) := fun i hi => if_pos hi
    have rh : ∀ i : Nat, (if n + i < n then (f + 1, n + i) else (f, 40 + w + (n + i - n)) : Nat × Nat) = (f, 40 + w + i) := fun i => by rw [if_neg (by omega), show n + i - n = i by omega]
    have old : ∀ i : Nat, C (f + 1, i) = [] ∧ L (f + 1, i) = [] ∧ H (f + 1, i) = [] := fun i => hN.2.1 (f + 1) i (by omega)
    refine hC.fam (r := fun i => if i < n then (f + 1, i) else (f, 40 + w + (i - n))) (n := n + n) (fun i hi => ?_) (fun i j hi hj he => ?_) (fun q hq => ?_) (fun a => ?_) (fun q => Or.inl ?_)
    · show (if i < n then (f + 1, i) else (f, 40 + w + (i - n)) : Nat × Nat).1 < 60 ∧ (if i < n then (f + 1, i) else (f, 40 + w + (i - n)) : Nat × Nat).2 < 300
      by_cases e : i < n
      · rw [if_pos e]; exact ⟨hf6, show i < 300 by omega⟩
      · rw [if_neg e]; exact ⟨show f < 60 by omega, show 40 + w + (i - n) < 300 by omega⟩
    · have he : (if i < n then (f + 1, i) else (f, 40 + w + (i - n)) : Nat × Nat) = (if j < n then (f + 1, j) else (f, 40 + w + (j - n))) := he
      by_cases e1 : i < n
      · rw [if_pos e1] at he
        by_cases e2 : j < n
        · rw [if_pos e2] at he; exact (Prod.mk.inj he).2
        · rw [if_neg e2] at he
          have := (Prod.mk.inj he).1
          omega
      · rw [if_neg e1] at he
        by_cases e2 : j < n
        · rw [if_pos e2] at he
          have := (Prod.mk.inj he).1
          omega
        · rw [if_neg e2] at he
          have := (Prod.mk.inj he).2
          omega
    · obtain ⟨qa, qb⟩ := q
      by_cases e : qa = f + 1
      · subst e
        have nb : ¬ qb < n := fun z => hq qb (by omega) (by rw [if_pos z])
        obtain ⟨o1, o2, o3⟩ := old qb
        rw [caN_z nb, caN_z nb, caN_z nb, o1, o2, o3]
        exact ⟨rfl, rfl, rfl⟩
      · by_cases e2 : qa = f ∧ 40 + w ≤ qb
        · obtain ⟨rfl, e2⟩ := e2
          have nb : ¬ qb < 40 + (w + n) := fun z => hq (n + (qb - (40 + w))) (by omega) (by
            rw [rh, show 40 + w + (qb - (40 + w)) = qb by omega])
          obtain ⟨t1, t2⟩ := top qb e2
          obtain ⟨t2, t3⟩ := t2 nb
          rw [caN_t e2, caN_t e2, caN_t e2, t1, t2, t3]
          exact ⟨rfl, rfl, rfl⟩
        · exact ⟨caN_o e e2, caN_o e e2, caN_o e e2⟩
    · have z0 : cnN a ([] : List Nat) = 0 := rfl
      have e1 : psN (fun i => cnN a (caN C f w n c (if i < n then (f + 1, i) else (f, 40 + w + (i - n)))) + cnN a (caN L f w n l (if i < n then (f + 1, i) else (f, 40 + w + (i - n))))) (n + n) = psN (fun i => cnN a (c i) + cnN a (l i)) n := by
        rw [psN_s2 (a := fun i => cnN a (c i) + cnN a (l i)) (b := fun _ => 0) (fun i hi => by rw [rl i hi, caN_n hi, caN_n hi]) (fun i hi => by rw [rh i, caN_t (by omega), caN_t (by omega)]; rfl), psN_z]
        exact Nat.add_zero _
      have e2 : psN (fun i => cnN a (C (if i < n then (f + 1, i) else (f, 40 + w + (i - n)))) + cnN a (L (if i < n then (f + 1, i) else (f, 40 + w + (i - n))))) (n + n) = psN (fun i => cnN a (L (f, 40 + w + i))) n := by
        rw [psN_s2 (a := fun _ => 0) (b := fun i => cnN a (L (f, 40 + w + i))) (fun i hi => by
          obtain ⟨o1, o2, _⟩ := old i
          rw [rl i hi, o1, o2]; rfl) (fun i hi => by
          rw [rh i, (top (40 + w + i) (by omega)).1, z0, Nat.zero_add]), psN_z]
        exact Nat.zero_add _
      rw [e1, e2]
      exact hfl2 a
    · have z0 : cnN q ([] : List Nat) = 0 := rfl
      have e1 : psN (fun i => cnN q (caN H f w n (fun i => H (f, 40 + w + i)) (if i < n then (f + 1, i) else (f, 40 + w + (i - n))))) (n + n) = psN (fun i => cnN q (H (f, 40 + w + i))) n := by
        rw [psN_s2 (a := fun i => cnN q (H (f, 40 + w + i))) (b := fun _ => 0) (fun i hi => by rw [rl i hi, caN_n hi]) (fun i hi => by rw [rh i, caN_t (by omega)]; rfl), psN_z]
        exact Nat.add_zero _
      have e2 : psN (fun i => cnN q (H (if i < n then (f + 1, i) else (f, 40 + w + (i - n))))) (n + n) = psN (fun i => cnN q (H (f, 40 + w + i))) n := by
        rw [psN_s2 (a := fun _ => 0) (b := fun i => cnN q (H (f, 40 + w + i))) (fun i hi => by
          obtain ⟨_, _, o3⟩ := old i
          rw [rl i hi, o3]; rfl) (fun i hi => by rw [rh i]), psN_z]
        exact Nat.zero_add _
      rw [e1, e2]
      exact ⟨Nat.le_refl _, Or.inl (htk q)⟩
end PS101
