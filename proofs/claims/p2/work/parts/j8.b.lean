theorem tgd_T {L : List Nat} {F G : Nat → va_E} {fk fa fe : Nat → Int32} {T zs : Nat} {kE kI kS kB kA kV kW kT kP : ClassId} {fi : Nat → Option Nat} {im : Nat} {xI ps ms : Nat → Nat} {ik : Nat → Int32} {qz : Nat} {fy : Nat → Option Nat} {tm : Nat} {Y : Nat → Int32 × Int32 × Option Nat} {ad : Nat → Nat} (h : tgd L F G fk fa fe T zs kE kI kS kB kA kV kW kT kP fi im xI ps ms ik qz fy tm Y ad) : T ≤ 3001 := by have := h.1.1.2.1; have := h.1.2.1; omega
theorem tgd_q {L : List Nat} {F G : Nat → va_E} {fk fa fe : Nat → Int32} {T zs : Nat} {kE kI kS kB kA kV kW kT kP : ClassId} {fi : Nat → Option Nat} {im : Nat} {xI ps ms : Nat → Nat} {ik : Nat → Int32} {qz : Nat} {fy : Nat → Option Nat} {tm : Nat} {Y : Nat → Int32 × Int32 × Option Nat} {ad : Nat → Nat} (h : tgd L F G fk fa fe T zs kE kI kS kB kA kV kW kT kP fi im xI ps ms ik qz fy tm Y ad) {i : Nat} (hi : i < im) : ps i + 1 < ms i ∧ ms i ≤ ps (i + 1) ∧ ps (i + 1) < T := by
  obtain ⟨_, h2, _⟩ := h.2.2.1.2.2.2.1 i hi
  have hq : ps (i + 1) ≤ qz := itD_ps h.2.2.1 (im - (i + 1)) (i + 1) (by omega)
  have hT := h.1.2.2
  exact ⟨h2.2.1, h2.2.2.1, by omega⟩
/-- the lifetimes of a function's item -/
theorem it_lv {L : List Nat} {F G : Nat → va_E} {fk fa fe : Nat → Int32} {T zs : Nat} {kE kI kS kB kA kV kW kT kP : ClassId} {fi : Nat → Option Nat} {im : Nat} {xI ps ms : Nat → Nat} {ik : Nat → Int32} {qz : Nat} {fy : Nat → Option Nat} {tm : Nat} {Y : Nat → Int32 × Int32 × Option Nat} {ad : Nat → Nat} (h : tgd L F G fk fa fe T zs kE kI kS kB kA kV kW kT kP fi im xI ps ms ik qz fy tm Y ad) {i : Nat} (hi : i < im) (hk : ik i = 12) : ∃ (lv lf : Nat) (gl : Nat → Int32) (gs : List Value), F (xI i) = .inr (16, gs) ∧ gs[6]? = some (.int (nI lv)) ∧ gs[12]? = some (.ref lf) ∧ lf ∈ L ∧ lv ≤ 8 ∧ (0 < lv → F lf = .inl (kI, 8, .inl gl)) ∧ ∀ j : Nat, j < lv → ∃ s : Nat, gl j = nI s ∧ s < T := by
  obtain ⟨h1, h2, fs, h3, h4⟩ := h.2.2.1.2.2.2.1 i hi
  obtain ⟨hq1, hq2, hq3⟩ := tgd_q h hi
  have hT := tgd_T h
  obtain ⟨gs, g1, g2, g3⟩ := rl_ob h.2.1 h2.1 h3
  obtain ⟨_, _, _, mn, na, g, _, _, _, _, h8⟩ := h2
  rcases h8 with ⟨wa, ta, q', f, k1, _⟩ | ⟨vr, q', f, k1, _⟩ | ⟨lv, wa, ta, pa, lf, lo, q', va, b, bl, rs, f, gl, k1, k2, k3, k4, k5, k6, k7, k8, k9, l1, l2, l3, l4, l5⟩
  · rw [k1] at h3; cases h3; rw [hk] at h4; exact absurd (Value.int.inj (Option.some.inj h4)) (by decide)
  · rw [k1] at h3; cases h3; rw [hk] at h4; exact absurd (Value.int.inj (Option.some.inj h4)) (by decide)
  · rw [k1] at h3; cases h3
    refine ⟨lv, lf, gl, gs, g1, (g3 6 rfl).trans rfl, (g3 12 rfl).trans rfl, k5, l3, fun h0 => ?_, fun j hj => ?_⟩
    · obtain ⟨s, e1, e2, e3⟩ := l4 0 h0
      exact rl_ri h.2.1 k5 l1 (i := 0) (by rw [e1]; exact nI_ne0 (by omega) (by omega))
    · obtain ⟨s, e1, e2, e3⟩ := l4 j hj
      exact ⟨s, e1, by omega⟩
