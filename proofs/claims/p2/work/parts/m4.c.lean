section PS54
variable {S S2 : Sg} {f n : Nat} {y : qY} {vt : Nat → Nat → Nat} {tb : Nat → lTb} {zn sz rk : Nat → Nat} {x x2 : Nat → kFm} {rt rt2 : Nat × Nat → Nat} {V V2 : Nat × Nat → qV} {bs : Nat → Nat} {C L H : Nat × Nat → List Nat} {M : nM} {sk sk2 : Nat → Int64} {pl : Nat → Int32}
theorem kN.bsm (h : kN y zn sz M sk pl f x rt V bs C L H) : ∀ {j q : Nat}, j ≤ q → q ≤ f → bs j ≤ bs q ∧ (j < q → bs j + wl (x j).2.1 ≤ bs q)
  | j, 0, h1, _ => by
    obtain rfl : j = 0 := by omega
    exact ⟨Nat.le_refl _, fun w => by omega⟩
  | j, q + 1, h1, h2 => by
    by_cases e : j = q + 1
    · subst e; exact ⟨Nat.le_refl _, fun w => by omega⟩
    · obtain ⟨a1, a2⟩ := kN.bsm h (j := j) (q := q) (by omega) (by omega)
      have e1 := h.2.2.1.2 q (by omega)
      refine ⟨by omega, fun _ => ?_⟩
      by_cases e2 : j = q
      · subst e2; omega
      · have := a2 (by omega); omega
theorem kN.bb (h : kN y zn sz M sk pl f x rt V bs C L H) (hw : ∀ j : Nat, j ≤ f → wl (x j).2.1 ≤ 177) : ∀ {q : Nat}, q ≤ f → bs q ≤ 177 * q
  | 0, _ => by rw [h.2.2.1.1]; omega
  | q + 1, hq => by
    have := kN.bb h hw (q := q) (by omega)
    have e1 := h.2.2.1.2 q (by omega)
    have := hw q (by omega)
    omega
/-- only the stack above what lies there changes -/
theorem kN.skc (h : kN y zn sz M sk pl f x rt V bs C L H) (hs : ∀ q : Nat, q < bs f + wl (x f).2.1 → sk2 q = sk q) : kN y zn sz M sk2 pl f x rt V bs C L H := by
  have key : ∀ j u : Nat, j ≤ f → 40 ≤ u → u < 40 + wl (x j).2.1 → sk2 (bs j + (u - 40)) = sk (bs j + (u - 40)) := fun j u hj h1 h2 => hs _ (by
    by_cases e : j = f
    · subst e; omega
    · have := (h.bsm (j := j) (q := f) hj (Nat.le_refl _)).2 (by omega); omega)
  refine ⟨fun j u hj => (h.1 j u hj).st (fun _ _ => ⟨rfl, rfl, rfl⟩) (fun _ _ => ⟨rfl, rfl, rfl⟩) (fun _ _ => rfl) (fun a b => key j u hj a b), h.2.1, h.2.2.1, fun j u d π hj ha hc hr => ?_⟩
  obtain ⟨m, m1, m2, m3, m4⟩ := h.2.2.2 j u d π hj ha hc hr
  refine ⟨m, m1, m2, m3, fun a => ?_⟩
  rw [key j u hj a (by rcases hc with z | z <;> omega)]; exact m4 a
theorem FLs.eq {fl : List Nat} {t : Nat} (h : FLs S fl t) (e4 : Zi S2 64 = Zi S 64) (e5 : Zi S2 65 = Zi S 65) (e3 : Zr S2 63 = Zr S 63) : FLs S2 fl t := by
  obtain ⟨h1, h2, ⟨x, h3, h4⟩, h5, h6⟩ := h
  exact ⟨e4.trans h1, h2, ⟨x, e5.trans h3, by rw [e3]; exact h4⟩, h5, h6⟩
/-- what the picture looks at is as it was -/
def sam (S S2 : Sg) : Prop := nMS S2 = nMS S ∧ Zr S2 74 = Zr S 74 ∧ Zr S2 67 = Zr S 67 ∧ Zi S2 64 = Zi S 64 ∧ Zi S2 65 = Zi S 65
theorem sam.rf : sam S S := ⟨rfl, rfl, rfl, rfl, rfl⟩
theorem sam.nx (h : sam S S2) : Zr S2 63 = Zr S 63 := congrArg (fun m : nM => m.2.2) h.1
theorem sam.fl (h : sam S S2) {fl : List Nat} {t : Nat} (q : FLs S fl t) : FLs S2 fl t := q.eq h.2.2.2.1 h.2.2.2.2 h.nx
theorem kT.skc (h : kT y zn sz vt tb f x bs S) (e : sam S S2) (hs : ∀ q : Nat, q < bs f + wl (x f).2.1 → Zl S2 72 q = Zl S 72 q) : kT y zn sz vt tb f x bs S2 := by
  obtain ⟨rt, V, C, L, H, fl, t, hJ, hN, hC, hF⟩ := h
  exact ⟨rt, V, C, L, H, fl, t, hJ, by rw [e.1, e.2.1]; exact hN.skc hs, by rw [e.2.2.1]; exact hC, e.fl hF⟩
theorem wl_u {e : tE} {s : List tE} (he : kNm e) {u : Nat} (hu : u ≠ 40 + wl s) (h4 : 40 ≤ u) : u < 40 + wl (e :: s) ↔ u < 40 + wl s := by
  rw [wl_n he]
  constructor
  · intro w; omega
  · intro w; omega
theorem nm_8 {e : tE} {s : List tE} (he : kNm e) {v : Nat} : (8, v, 0) ∈ e :: s ↔ (8, v, 0) ∈ s := by
  rw [List.mem_cons]
  constructor
  · rintro (w | w)
    · rw [← w] at he; exact absurd (Or.inl rfl) he
    · exact w
  · exact Or.inr
/-- a number comes on top -/
theorem kT.push0 (hy : nYk y zn sz rk) (hB : yB y) (h : kT y zn sz vt tb f x bs S) (h0 : (x f).2.2.1 = 0) (hl : wl (x f).2.1 < 211) {t2 : Nat} (ht : t2 = 1 ∨ t2 = 2 ∨ t2 = 3) : kT y zn sz vt tb f (kUx x f ((x f).1, (0, t2, 0) :: (x f).2.1, 0, lUp (kR (x f)) (40 + wl (x f).2.1) none, kH (x f), kal (x f), klo (x f), kAn (x f))) bs S := by
  obtain ⟨rt, V, C, L, H, fl, t, hJ, hN, hC, hF⟩ := h
  have z0 : y.1 t2 = 0 := hB.1 t2 (by omega)
  have hnm : kNm (0, t2, 0) := by show ¬ ((0 : Nat) = 8 ∨ (0 : Nat) = 4 ∨ (0 : Nat) = 5 ∨ (0 : Nat) = 6); decide
  have hJ2 := kJ_push (e := (0, t2, 0)) (t := t2) (W := qL t2) (hd := kH (x f) (40 + wl (x f).2.1)) hJ hnm h0 hl (qFu_L (by rw [z0]; decide) (by rw [z0]; decide) (by rw [z0]; decide)).1 (fun z hz => by
    have hz : some (t2, 0) = some z := hz
    cases hz
    show y.1 t2 ≠ 5 ∧ y.1 t2 ≠ 6
    rw [z0]; decide) ⟨lUp_eq, by rw [z0]; decide, by rw [z0]; decide, fun _ => ⟨qRt_eq, by rw [qUp_eq]; exact (qFu_L (by rw [z0]; decide) (by rw [z0]; decide) (by rw [z0]; decide)).2⟩, fun w => by omega⟩
  rw [lUp_self] at hJ2
  obtain ⟨c0, l0, hh0⟩ := (hN.1 f (40 + wl (x f).2.1) (Nat.le_refl _)).2.2 (fun w => by rcases w with w | w <;> omega)
  refine ⟨_, _, C, L, H, fl, t, hJ2, kN.r1 (u0 := 40 + wl (x f).2.1) hy hJ hN (fun j hj => kUx_lo hj) (fun u hu => by rw [kUx_top]; exact nm_8 hnm) (fun u hu h4 => by rw [kUx_top]; exact wl_u hnm hu h4) (fun r hr => ⟨qRt_ne hr, qUp_ne hr, rfl, rfl, rfl⟩) (fun r _ _ _ => ⟨agN.rf, agN.rf⟩) (fun _ _ _ _ _ => rfl) (fun _ _ _ _ _ => rfl) ?_ (fun j u d π hj ha hc hr => Or.inl ?_), hC, hF⟩
  · rw [qRt_eq, qUp_eq, kUx_top, c0, l0, hh0]
    refine ⟨fun a => by omega, fun _ _ => ⟨rfl, vaR.mk (by rw [z0]; decide) (by rw [z0]; decide) (by rw [z0]; decide) ⟨(t2, 0), rfl⟩⟩, fun w => absurd (Or.inr ⟨by omega, ?_⟩) w⟩
    show 40 + wl (x f).2.1 < 40 + wl ((0, t2, 0) :: (x f).2.1)
    rw [wl_n hnm]; omega
  · by_cases e : j = f
    · subst e
      rw [kUx_top] at ha hr
      have hr : lUp (kR (x j)) (40 + wl (x j).2.1) none u = some (d :: π) := hr
      have hu : u ≠ 40 + wl (x j).2.1 := fun w => by rw [w, lUp_eq] at hr; cases hr
      rw [lUp_ne hu] at hr
      have ha2 : kA (x j) u := by
        rcases ha with z | ⟨z1, z2⟩
        · exact Or.inl z
        · have z2 : u < 40 + wl ((0, t2, 0) :: (x j).2.1) + 0 := z2
          rw [wl_n hnm] at z2; exact Or.inr ⟨z1, by omega⟩
      exact ⟨fun w => hu (Prod.mk.inj w).2, ne40 (j := j) (u := 0) (hJ.ld (Nat.le_refl _) ha2 hr).2.1, ha2, hr⟩
    · rw [kUx_lo e] at ha hr
      exact ⟨fun w => e (Prod.mk.inj w).1, ne40 (j := f) (u := 0) (hJ.ld hj ha hr).2.1, ha, hr⟩
/-- a number, or a reference, goes -/
theorem kT.pop1 (hy : nYk y zn sz rk) (hB : yB y) (h : kT y zn sz vt tb f x bs S) (h0 : (x f).2.2.1 = 0) {e1 : tE} {s : List tE} (hS : (x f).2.1 = e1 :: s) (he : (∃ t : Nat, (t = 1 ∨ t = 2 ∨ t = 3) ∧ e1 = (0, t, 0)) ∨ ∃ T m : Nat, e1 = (1, T, m) ∨ e1 = (2, T, m)) : kT y zn sz vt tb f (kUx x f ((x f).1, s, 0, kR (x f), kH (x f), kal (x f), klo (x f), kAn (x f))) bs S := by
  obtain ⟨rt, V, C, L, H, fl, t, hJ, hN, hC, hF⟩ := h
  have hnm : kNm e1 := by
    rcases he with ⟨t, _, w⟩ | ⟨T, m, w | w⟩
    · rw [w]; show ¬ ((0 : Nat) = 8 ∨ (0 : Nat) = 4 ∨ (0 : Nat) = 5 ∨ (0 : Nat) = 6); decide
    · rw [w]; show ¬ ((1 : Nat) = 8 ∨ (1 : Nat) = 4 ∨ (1 : Nat) = 5 ∨ (1 : Nat) = 6); decide
    · rw [w]; show ¬ ((2 : Nat) = 8 ∨ (2 : Nat) = 4 ∨ (2 : Nat) = 5 ∨ (2 : Nat) = 6); decide
  have hJ2 := kJ_pop (E := [e1]) hJ hS (fun a ha => by rw [List.mem_singleton.mp ha]; exact hnm) h0
  have hK := hJ.2.2.2.2.1 f (Nat.le_refl _)
  have h211 := hJ.2.2.2.2.2.2.2.2 f (Nat.le_refl _)
  rw [hS] at hK h211
  rw [wl_n hnm] at h211
  have hE : kE y rt V f (x f) (wl s) e1 := hK.1
  have hty : y.1 (rt (f, 40 + wl s)) ≠ 2 ∧ y.1 (rt (f, 40 + wl s)) ≠ 3 ∧ y.1 (rt (f, 40 + wl s)) ≠ 4 := by
    rcases he with ⟨t, w1, w⟩ | ⟨T, m, w | w⟩
    · rw [w] at hE
      have z : y.1 t = 0 := hB.1 t (by omega)
      rw [(hE.2.2.2.1 (by omega)).1, z]; decide
    · rw [w] at hE
      rw [hE.1]; exact hB.2.1 _ (by omega)
    · rw [w] at hE
      rw [hE.1]; exact hB.2.1 _ (by omega)
  obtain ⟨c0, v0⟩ := (hN.1 f (40 + wl s) (Nat.le_refl _)).2.1 (by omega) (by rw [hS, wl_n hnm]; omega)
  obtain ⟨l0, hh0⟩ := v0.lf hty.1 hty.2.1 hty.2.2
  refine ⟨_, _, C, L, H, fl, t, hJ2, kN.r1 (u0 := 40 + wl s) hy hJ hN (fun j hj => kUx_lo hj) (fun u hu => by rw [kUx_top, hS]; exact (nm_8 hnm).symm) (fun u hu h4 => by rw [kUx_top, hS]; exact (wl_u hnm hu h4).symm) (fun r hr => ⟨rfl, ?_, rfl, rfl, rfl⟩) (fun r _ _ _ => ⟨agN.rf, agN.rf⟩) (fun _ _ _ _ _ => rfl) (fun _ _ _ _ _ => rfl) ?_ (fun j u d π hj ha hc hr => Or.inl ?_), hC, hF⟩
  · obtain ⟨j, u⟩ := r
    by_cases e : j = f
    · subst e
      by_cases e2 : u < 40 + wl s ∨ 300 ≤ u
      · exact kCl_out e2
      · funext π
        rw [kCl_in (by omega) (by omega)]
        have hu : u ≠ 40 + wl s := fun w => hr (by rw [w])
        refine Eq.symm (Classical.byContradiction (fun w => ?_))
        cases hv : V (j, u) π with
        | none => exact w hv
        | some z =>
          obtain ⟨_, k1, _⟩ := hJ.2.2.2.2.2.1 j u π z hv
          rw [hS] at k1
          rcases k1 with ⟨a, _⟩ | ⟨a, b⟩ | ⟨a, _⟩ | ⟨_, _, i9, _, a, _⟩
          · omega
          · rw [wl_n hnm] at b; omega
          · omega
          · omega
    · exact kCl_f e
  · rw [kUx_top, c0, l0, hh0]
    refine ⟨fun a => by omega, fun _ w => ?_, fun _ => ⟨rfl, rfl, rfl⟩⟩
    have w : 40 + wl s < 40 + wl s := w
    omega
  · by_cases e : j = f
    · subst e
      rw [kUx_top] at ha hr hc
      have hr : kR (x j) u = some (d :: π) := hr
      have hc : kSc s u := hc
      have ha2 : kA (x j) u := by
        rcases ha with z | ⟨z1, z2⟩
        · exact Or.inl z
        · have z2 : u < 40 + wl s + 0 := z2
          refine Or.inr ⟨z1, ?_⟩
          rw [hS, wl_n hnm]; omega
      have hu : u ≠ 40 + wl s := fun w => by rcases hc with z | z <;> omega
      exact ⟨fun w => hu (Prod.mk.inj w).2, ne40 (j := j) (u := 0) (hJ.ld (Nat.le_refl _) ha2 hr).2.1, ha2, hr⟩
    · rw [kUx_lo e] at ha hr
      exact ⟨fun w => e (Prod.mk.inj w).1, ne40 (j := f) (u := 0) (hJ.ld hj ha hr).2.1, ha, hr⟩
end PS54
