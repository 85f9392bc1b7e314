/-- only the latest frame, its roots and cells change -/
theorem kL_top {y : qY} {z : qZ} {vt vo : Nat → Nat → Nat} {vc : Nat → Nat} {tb : Nat → lTb} {hp : Nat} {tk tk2 : Nat → Prop} {c c2 : Nat → Int} {f : Nat} {x : Nat → kFm} {rt ra rt2 ra2 : Nat × Nat → Nat} {V V2 : Nat × Nat → qV} {fb : Nat → Nat} {top top2 : Nat} {fil fil2 : Nat → Nat → Nat → Prop} (hJ : kJ y vt tb f x rt V) (h : kL y z vt vo vc hp tk c f x rt ra V fb top fil) (X : kFm) (hX1 : X.1 = (x f).1) (q : qMm y z hp tk2 c2 rt2 ra2 V2) (e1 : ∀ j u : Nat, j ≠ f → rt2 (j, u) = rt (j, u) ∧ ra2 (j, u) = ra (j, u) ∧ V2 (j, u) = V (j, u)) (o1 : ∀ (j u : Nat) (w : Nat × Nat), j ≠ f → V (j, u) [] = some w → c2 (ra (j, u)) = c (ra (j, u))) (o2 : ∀ (j u : Nat) (a : lLc), j < f → (kA (x j) u ∨ u = 300) → kR (x j) u = some a → (∃ w : Nat × Nat, V (j, u) [] = some w) → qAd y z c2 rt2 ra2 a = qAd y z c rt ra a) (r1 : ∀ (u : Nat) (a : lLc), (kA X u ∨ u = 300) → kR X u = some a → (∃ w : Nat × Nat, V2 (f, u) [] = some w) → c2 (ra2 (f, u)) = qAd y z c2 rt2 ra2 a) (s1 : kAk y z c2 ra2 f (fb f + vc X.1) X.2.1) (v1 : ∀ v : Nat, v < 40 → (8, v, 0) ∈ X.2.1 → ra2 (f, v) = fb f + vo X.1 v) (t1 : top2 = fb f + vc X.1 + khs z X.2.1) (f1 : ∀ j : Nat, j ≠ f → fil2 j = fil j) (f2 : ∀ v : Nat, v < 40 → (8, v, 0) ∈ X.2.1 → ∀ (π : lLc) (t : Nat), qM π → qW y (vt X.1 v) π t → y.1 t ≠ 2 → fil2 f v (qA y z c2 (vt X.1 v) 0 π) → ∃ w : Nat × Nat, V2 (f, v) π = some w) (n1 : ∀ (u : Nat) (π : lLc) (w : Nat × Nat), u < 40 → V2 (f, u) π = some w → vt X.1 u ≠ 0) (m1 : ∀ r m : Nat, (4, r, m) ∈ X.2.1 → y.1 (4 + r / 12) = 3 ∧ r % 12 < y.2.2.1 (4 + r / 12)) : kL y z vt vo vc hp tk2 c2 f (kUx x f X) rt2 ra2 V2 fb top2 fil2 := by
  obtain ⟨l0, l1, l2, l3, l4, l5, l6, l7, l8, l9⟩ := h
  refine ⟨q, fun j hj u a hu ha hw => ?_, fun j hj => ?_, fun j hj v v4 hv => ?_, l4, fun j hj => ?_, ?_, fun j hj v v4 hv π t g1 g2 g3 g4 => ?_, fun j u π w u4 hw => ?_, fun j hj r m hm => ?_⟩
  · by_cases ej : j = f
    · subst ej
      rw [kUx_eq] at hu ha
      exact r1 u a hu ha hw
    · rw [kUx_ne ej] at hu ha
      obtain ⟨a1, a2, a3⟩ := e1 j u ej
      rw [a3] at hw
      rw [a2, o2 j u a (by omega) hu ha hw, ← l1 j hj u a hu ha hw]
      obtain ⟨w, hw⟩ := hw
      exact o1 j u w ej hw
  · by_cases ej : j = f
    · subst ej
      rw [kUx_eq]; exact s1
    · rw [kUx_ne ej]
      exact kAk_cg (hJ.2.2.2.2.1 j hj) (l2 j hj) (fun u _ => (e1 j u ej).2.1) (fun u w _ _ hw => o1 j u w ej hw)
  · by_cases ej : j = f
    · subst ej
      rw [kUx_eq] at hv ⊢
      exact v1 v v4 hv
    · rw [kUx_ne ej] at hv ⊢
      rw [(e1 j v ej).2.1]
      exact l3 j hj v v4 hv
  · rw [kUx_ne (by omega)]
    exact l5 j hj
  · rw [kUx_eq]; exact t1
  · by_cases ej : j = f
    · subst ej
      rw [kUx_eq] at hv g2 g4
      exact f2 v v4 hv π t g1 g2 g3 g4
    · rw [kUx_ne ej] at hv g2 g4
      rw [f1 j ej] at g4
      rw [(e1 j v ej).2.2]
      have e := qA_sh (z := z) (c := c2) (c2 := c) (a := 0) (b := 0) g2 (qN_M g1)
      exact l7 j hj v v4 hv π t g1 g2 g3 (by rw [← Nat.add_right_cancel e]; exact g4)
  · by_cases ej : j = f
    · subst ej
      rw [kUx_eq]; exact n1 u π w u4 hw
    · rw [kUx_ne ej]
      rw [(e1 j u ej).2.2] at hw
      exact l8 j u π w u4 hw
  · by_cases ej : j = f
    · subst ej
      rw [kUx_eq] at hm
      exact m1 r m hm
    · rw [kUx_ne ej] at hm
      exact l9 j hj r m hm
/-- the address of a place that no written cell lies on the way to -/
theorem qAd_pl {y : qY} {z : qZ} {c c2 : Nat → Int} {rt ra rt2 ra2 : Nat × Nat → Nat} {V : Nat × Nat → qV} {a : lLc} {T : Nat} (h0 : ∀ r : Nat × Nat, qOk y (rt r) (V r)) (ht : qTg y rt V a T) (he : ∀ (r : Nat × Nat) (π : lLc), a = r :: π → rt2 r = rt r ∧ ra2 r = ra r) (hc : ∀ (r : Nat × Nat) (π π1 : lLc) (w : Nat × Nat), a = r :: π → V r π1 = some w → lP π1 π → π1 ≠ π → c2 (qA y z c (rt r) (ra r) π1) = c (qA y z c (rt r) (ra r) π1)) : qAd y z c2 rt2 ra2 a = qAd y z c rt ra a := by
  obtain ⟨r, π, rfl, h4, h5, h6⟩ := ht
  obtain ⟨e1, e2⟩ := he r π rfl
  show qA y z c2 (rt2 r) (ra2 r) π = qA y z c (rt r) (ra r) π
  rw [e1, e2]
  exact qA_pl (h0 r) (qF_pl h6) h5 (fun π1 w hw g1 g2 => hc r π π1 w rfl hw g1 g2)
/-- cells from A on, n of them, that nothing lies in -/
theorem kFree {y : qY} {z : qZ} {vt vo : Nat → Nat → Nat} {vc : Nat → Nat} {tb : Nat → lTb} {hp : Nat} {tk : Nat → Prop} {c : Nat → Int} {f : Nat} {x : Nat → kFm} {rt ra : Nat × Nat → Nat} {V : Nat × Nat → qV} {fb : Nat → Nat} {top : Nat} {fil : Nat → Nat → Nat → Prop} (hz : qLy y z) (hz1 : qZ1 z) (hft : kFt z vt vo vc) (hJ : kJ y vt tb f x rt V) (h : kL y z vt vo vc hp tk c f x rt ra V fb top fil) {n : Nat} {r : Nat × Nat} {π : lLc} {w : Nat × Nat} (hv : V r π = some w) : ¬ (top ≤ qA y z c (rt r) (ra r) π ∧ qA y z c (rt r) (ra r) π < top + n) := by
  obtain ⟨a1, a2, -, -⟩ := kTop hz hz1 hft hJ h hv
  obtain ⟨t1, -⟩ := kTop hz hz1 hft hJ h hv
  have hp1 : hp ≤ top := by
    have := hz.1 (rt r)
    omega
  exact qFresh hz h.1 hp1 hv (Or.inl a2)
