/-- a borrow that is reached: of a place on a variable that is no reference, or behind one; a unique loan only behind a unique one -/
theorem bo_way {F X : tF} {G : Nat → Nat → Nat} {rs a b i yp yt T0 v : Nat} {k : Nat → Option (List tE)} {s : List tE} (hc : ceI F X G rs a b k) (ht : tbO F X yp yt) (h1 : a ≤ i) (h2 : i < b) (h4 : F 0 i = 4) (hs : k i = some s) (hv : ∀ p : Nat, F 1 i = nI p → p < 3001 → F 6 p = nI v) (hv4 : v < 40) (hT : F 15 v = nI T0) (hT0 : tyV yp yt (F 20) T0) : ∃ (p T : Nat) (ds os : List Nat) (o : Nat), F 1 i = nI p ∧ p < 3001 ∧ F 10 p = nI T ∧ T < 3040 ∧ wyF F p = ds.map stO ∧ F 20 T ≠ 5 ∧ F 20 T ≠ 6 ∧
    ((tyN yp (F 20) T0 ∧ pD F X yp yt T0 (ds.map stO) T os o) ∨
     ((F 20 T0 = 5 ∨ F 20 T0 = 6) ∧ (F 3 i = 1 → F 20 T0 = 6) ∧ ∃ (U : Nat) (ds' os' : List Nat), F 21 T0 = nI U ∧ U < yt ∧ ds = 13 :: ds' ∧ os = 0 :: os' ∧ pD F X yp yt U (ds'.map stO) T os' o)) := by
  obtain ⟨p, T, l, m, mu, q1, ⟨w, n, pa, ro, q2⟩, q3, q4, q5, q6, q7, q8⟩ := ce_op (o := 4) hc h1 h2 hs h4 (by decide)
  have hw : w = v := (nI_eq (a := w) (b := v) (by have := q2.2.1; omega) (by omega)).mp (q2.2.2.2.2.1.symm.trans (hv p q1 q2.1.1))
  subst hw
  obtain ⟨ds, os, o, g1, g2, g3⟩ := pG_of ht hT hT0 q2
  refine ⟨p, T, ds, os, o, q1, q2.1.1, q2.2.2.2.2.2.2.2.2.1, q2.2.2.2.1, pG_wy g1, q3, q4, ?_⟩
  rcases g3 with ⟨-, -, -, e, -, -, z⟩ | z | ⟨z1, z2, z3, z4, z5⟩
  · rw [e] at q3 q4
    rcases z with z | z
    · exact absurd z q3
    · exact absurd z q4
  · exact Or.inl z
  · refine Or.inr ⟨z3, fun y => z4 ?_, z5⟩
    rcases q8 with ⟨y0, -⟩ | ⟨-, y1, -⟩
    · rw [y0] at y; exact absurd y (by decide)
    · exact y1
/-- loans on a variable that is a shared reference are shared -/
theorem sh_of {F X : tF} {G : Nat → Nat → Nat} {rs a b yp yt T0 v l : Nat} {k : Nat → Option (List tE)} {pof : Nat → Int32} {lon : Nat → Int64} (hc : ceI F X G rs a b k) (hab : a ≤ b) (ht : tbO F X yp yt)
    (hB : ∀ i : Nat, a ≤ i → i < b → F 0 i = 4 → ∃ p v l : Nat, F 1 i = nI p ∧ p < 3001 ∧ F 6 p = nI v ∧ v < 40 ∧ F 2 i = nI l ∧ l < 54)
    (hu : ∀ i j : Nat, a ≤ i → i < b → a ≤ j → j < b → F 0 i = 4 → F 0 j = 4 → F 2 i = F 2 j → i = j)
    (hT : F 15 v = nI T0) (hT0 : tyV yp yt (F 20) T0) (h5 : F 20 T0 = 5) (hl : isB F k a b l) (hl2 : l < 54) (hlv : cN (F 6 (cN ((gaS F pof lon a (b - a)).1 l))) = v) : lbit (gaS F pof lon a (b - a)).2.2 l = true := by
  obtain ⟨j, s, j1, j2, j3, j4, j5⟩ := hl
  obtain ⟨p, w, l2, c1, c2, c3, c4, c5, c6⟩ := hB j j1 j2 j3
  obtain rfl : l = l2 := (nI_eq (a := l) (b := l2) (by omega) (by omega)).mp (j4.symm.trans c5)
  obtain ⟨t1, t2, t3⟩ := ga_tb (pof := pof) (lon := lon) hB (b - a) (by omega) (fun i j a1 a2 a3 a4 => hu i j a1 (by omega) a3 (by omega)) j p w l j1 (by omega) j3 c1 c2 c3 c4 c5 c6
  rw [t1, cN_nI (by omega), c3, cN_nI (by omega)] at hlv
  subst hlv
  refine t3.mpr ?_
  obtain ⟨q, T, ds, os, o, -, -, -, -, -, -, -, z⟩ := bo_way hc ht j1 j2 j3 j5 (fun q q1 q2 => by
    rw [(nI_eq (a := q) (b := p) (by omega) (by omega)).mp (q1.symm.trans c1)]; exact c3) c4 hT hT0
  have hnu : ¬ F 3 j = 1 := fun y => by
    rcases z with ⟨z, -⟩ | ⟨-, z, -⟩
    · exact (tyN_nr ht z).1 h5
    · have := z y
      rw [h5] at this
      exact absurd this (by decide)
  obtain ⟨p8, T8, l8, m8, mu8, e1, e2, e3, e4, e5, e6, e7, q8⟩ := ce_op (o := 4) hc j1 j2 j5 j3 (by decide)
  rcases q8 with ⟨y0, -⟩ | ⟨y0, -⟩
  · exact y0
  · exact absurd y0 hnu
