section PS64
variable {R : yR} {S0 Sl S S1 S2 S3 : Sg} {D : fD} {i k j f nw : Nat} {vt : Nat → Nat → Nat} {tb : Nat → lTb} {x : Nat → kFm} {bs : Nat → Nat} {g : Nat → Int32} {v T : Nat} {ρ : lLc} {y : qY} {rt : Nat × Nat → Nat} {V : Nat × Nat → qV} {C L H : Nat × Nat → List Nat}
theorem pTy_fu {T0 : Nat} (h : pTy y T0 ρ T) : (qM ρ → qW y T0 ρ T) ∧ ∀ (ρ0 : lLc) (q : Nat) (ρ1 : lLc), ρ = ρ0 ++ (1, q) :: ρ1 → qM ρ0 → ∃ U : Nat, qW y T0 ρ0 U := by
  rcases h with ⟨_, h⟩ | ⟨_, ⟨h1, h2⟩ | ⟨ρ2, h1, _⟩⟩
  · refine ⟨fun _ => h, fun ρ0 q ρ1 e _ => ?_⟩
    rw [e] at h
    obtain ⟨U, u1, _⟩ := qW_cut h
    exact ⟨U, u1⟩
  · refine ⟨fun _ => by rw [h1, h2]; rfl, fun ρ0 q ρ1 e _ => ?_⟩
    rw [h1] at e
    cases ρ0 <;> cases e
  · refine ⟨fun w => ?_, fun ρ0 q ρ1 e m => ?_⟩
    · rw [h1] at w
      have := (qM_cons.mp w).1
      have this : (1 : Nat) = 0 := this
      omega
    · rw [h1] at e
      cases ρ0 with
      | nil => exact ⟨T0, rfl⟩
      | cons a ρ0 =>
        have e1 := (List.cons.inj e).1
        have := (qM_cons.mp m).1
        rw [← e1] at this
        have this : (1 : Nat) = 0 := this
        omega
theorem yRf6 {t : Nat} (h : isRf t) (h2 : t % 2 = 1) : (yT R S0).1 t = 6 := by
  obtain ⟨h1, h3⟩ := h
  show yK R S0 t = 6
  unfold yK
  rw [if_pos h1, if_pos h3, if_neg (by omega)]
/-- a place is lent -/
theorem kJ_bor {q t l0 : Nat} {d : Nat × Nat} {π : lLc} {hd al2 : Nat → Prop} (hJ : kJ (yT R S0) vt tb f x rt V) (hn : (x f).2.2.1 = 0) (hl : wl (x f).2.1 < 211) (hno : ∀ r m2 : Nat, (5, r, m2) ∉ (x f).2.1 ∧ (6, r, m2) ∉ (x f).2.1) (hT9 : T < 10000) (hkt : (q = 1 ∧ t = 10000 + 2 * T) ∨ (q = 2 ∧ t = 10001 + 2 * T)) (hv4 : v < 40) (hvS : (8, v, 0) ∈ (x f).2.1) (hkv : isRf (vt (x f).1 v) → kal (x f) v) (hal : ∀ u : Nat, al2 u → kal (x f) u) (hk : lCk (tb (x f).1) (kH (x f)) (fun u => (u < 40 ∧ al2 u) ∨ (40 ≤ u ∧ u < 40 + wl (x f).2.1)) v ρ (q = 1)) (hd0 : hd l0) (h0 : ¬ (tb (x f).1).2.2.2.1 l0) (h1 : (tb (x f).1).1 l0 = v) (h2 : (tb (x f).1).2.1 l0 = ρ) (h3 : q = 2 → ¬ (tb (x f).1).2.2.1 l0) (hrf : (tb (x f).1).2.2.2.2 v ↔ isRf (vt (x f).1 v)) (hl2 : isRf (vt (x f).1 v) → ∀ l : Nat, kH (x f) v l → hd l) (h6 : q = 2 → isRf (vt (x f).1 v) → (yT R S0).1 (vt (x f).1 v) = 6)
  (d1 : d.2 < 40) (d2 : qW (yT R S0) (rt d) π T) (d3 : qF (yT R S0) (V d) π T) (d7 : (d = (f, v) ∧ π = ρ ∧ ¬ isRf (vt (x f).1 v)) ∨ ∃ π0 ρ2 : lLc, kR (x f) v = some (d :: π0) ∧ π = π0 ++ ρ2 ∧ ρ = (1, 0) :: ρ2 ∧ isRf (vt (x f).1 v) ∧ qW (yT R S0) (rt d) π0 ((yT R S0).2.1 (vt (x f).1 v))) : kJ (yT R S0) vt tb f (kUx x f ((x f).1, (q, T, 0) :: (x f).2.1, 0, lUp (kR (x f)) (40 + wl (x f).2.1) (some (d :: π)), lUp (kH (x f)) (40 + wl (x f).2.1) hd, al2, klo (x f), kAn (x f))) (qRt rt (f, 40 + wl (x f).2.1) t) (qUp V (f, 40 + wl (x f).2.1) (qL t)) := by
  have hcr := (yB_yT (R := R) (S0 := S0)).2.2.1
  have hc := hcr T hT9
  have hf := Nat.le_refl f
  have hun : (yT R S0).1 t = 6 ↔ q = 2 := by
    rcases hkt with ⟨e1, e2⟩ | ⟨e1, e2⟩
    · rw [e1, e2, hc.1]; decide
    · rw [e1, e2, hc.2.2.1]; decide
  have hk1 : q = 1 ↔ ¬ ((yT R S0).1 t = 6) := by
    rw [hun]
    rcases hkt with ⟨e, _⟩ | ⟨e, _⟩ <;> rw [e] <;> decide
  have hk2 : lCk (tb (x f).1) (kH (x f)) (fun u => (u < 40 ∧ al2 u) ∨ (40 ≤ u ∧ u < 40 + wl (x f).2.1)) v ρ (¬ ((yT R S0).1 t = 6)) := fun u l g1 g2 g3 g4 g5 => (hk u l g1 g2 g3 g4 g5).imp (hk1.mp) id
  have iv := hJ.2.1.1 f hf
  rcases d7 with ⟨e1, e2, n5⟩ | ⟨π0, ρ2, e1, e2, e3, h56, e4⟩
  · subst e1; subst e2
    obtain ⟨b1, b2⟩ := lBw_var (t := 40 + wl (x f).2.1) (un := (yT R S0).1 t = 6) (hd := hd) iv (kA_to hn hal) hk2 hd0 h0 h1 h2 (fun q => h3 (hun.mp q)) (fun q => n5 (hrf.mp q))
    exact kJ_pushR hJ hcr hT9 hkt hn hl hno hal ⟨(f, v), π, rfl, d1, d2, d3⟩ b1 b2
  · subst e2; subst e3
    have hkr : rt (f, v) = vt (x f).1 v := (hJ.2.2.2.2.2.2.1 f hf v hv4 hvS).1
    obtain ⟨b1, b2⟩ := lBw_ref (t := 40 + wl (x f).2.1) (un := (yT R S0).1 t = 6) (hd := hd) (r := ρ2) iv (kA_to hn hal) (Or.inl ⟨hv4, hkv h56⟩) e1 hk2 (fun q => by show (yT R S0).1 (rt (f, v)) = 6; rw [hkr]; exact h6 (hun.mp q) h56) hd0 (hl2 h56) h0 h1 h2 (fun q => h3 (hun.mp q)) hv4
    exact kJ_pushR hJ hcr hT9 hkt hn hl hno hal ⟨d, π0 ++ ρ2, rfl, d1, d2, d3⟩ b1 b2
/-- a place that is looked at: where it lies -/
theorem RQ.pn (hL : LFS R S0 g) (h : RQ R S0 vt tb i D k f x bs Sl nw S) (hJ : kJ (yT R S0) vt tb f x rt V) (hN : kN (yT R S0) (zN R S0) (szN R S0) (nMS S) (Zl S 72) (Zr S 74) f x rt V bs C L H) (hi : iPa D.E (D.I k) (D.st k) v ρ T) (hu : iUv D.E (D.I k) v) (hne : isRf (D.E.vt v) → ρ ≠ []) (h24 : (D.I k).kd ≠ 24) (ha : (D.I k).ac ≠ 0 ∧ (D.I k).ac ≠ 7 ∧ (D.I k).ac ≠ 6) :
  ∃ (d : Nat × Nat) (π : lLc) (n : Nat), (d.1 ≤ f ∧ d.2 < 40 ∧ (8, d.2, 0) ∈ (x d.1).2.1) ∧ qW (yT R S0) (rt d) π T ∧ qF (yT R S0) (V d) π T ∧ wRn (yT R S0) (zN R S0) (nMS S) (rt d) (hdN (C d)) π n ∧ n < 430000 ∧ gWk (yT R S0) (zN R S0) (nMS S) (vt (x f).1 v) (hdN (C (f, v))) ρ n ∧ ((d = (f, v) ∧ π = ρ ∧ ¬ isRf (vt (x f).1 v)) ∨ ∃ π0 ρ2 : lLc, kR (x f) v = some (d :: π0) ∧ π = π0 ++ ρ2 ∧ ρ = (1, 0) :: ρ2 ∧ isRf (vt (x f).1 v) ∧ qW (yT R S0) (rt d) π0 ((yT R S0).2.1 (vt (x f).1 v))) := by
  obtain ⟨i1, ⟨i2, i3⟩, i4, i5, i6, i7, i8, i9⟩ := hi
  obtain ⟨a1, a2, a3, a4, a5, a6⟩ := h.2.2.2.2.2.1
  have hvt : vt (x f).1 = D.E.vt := by rw [a1]; exact h.2.2.2.2.2.2.2.2.1
  have hy := nYk_of hL
  have hEy := h.1.2.2.2.2
  rw [hEy] at i5
  have hfu := h.1.1.fu hy hEy h.1.2.1.1 h.1.2.1.2.1 h.1.2.1.2.2 i1 h24 ha.1 ha.2.1 (Or.inl ha.2.2) (by rw [hEy]; exact (pTy_fu i5).1) (by rw [hEy]; exact (pTy_fu i5).2)
  rw [hEy, ← a6] at hfu
  exact plN hy hJ hN i2 (by rw [a2]; exact trL_8.mpr i4) (by rw [hvt]; exact i5) i6 hfu (fun w => by
    rw [hvt] at w
    refine ⟨?_, hne w⟩
    rw [a5]
    exact ⟨i2, Or.inl (by rw [(hu.1 w).1]; exact List.mem_singleton_self _)⟩)
end PS64
