theorem it_nm {L : List Nat} {F G : Nat → va_E} {fk fa fe : Nat → Int32} {T zs : Nat} {kE kI kS kB kA kV kW kT kP : ClassId} {fi : Nat → Option Nat} {im : Nat} {xI ps ms : Nat → Nat} {ik : Nat → Int32} {qz : Nat} {fy : Nat → Option Nat} {tm : Nat} {Y : Nat → Int32 × Int32 × Option Nat} {ad : Nat → Nat} (h : tgd L F G fk fa fe T zs kE kI kS kB kA kV kW kT kP fi im xI ps ms ik qz fy tm Y ad) {i : Nat} (hi : i < im) : xI i ∈ L ∧ ps i + 1 < T ∧ fi i = some (xI i) ∧ (ik i = 10 ∨ ik i = 11 ∨ ik i = 12) ∧ ∃ gs : List Value, F (xI i) = .inr (16, gs) ∧ gs[1]? = some (.int (nI (ps i + 1))) ∧ gs[2]? = some (.int (ik i)) := by
  obtain ⟨h1, h2, fs, h3, h4⟩ := h.2.2.1.2.2.2.1 i hi
  have hq : ps (i + 1) ≤ qz := itD_ps h.2.2.1 (im - (i + 1)) (i + 1) (by omega)
  have hT := h.1.2.2
  have h5 := h2.2.1; have h6 := h2.2.2.1
  obtain ⟨gs, g1, g2, g3⟩ := rl_ob h.2.1 h2.1 h3
  refine ⟨h2.1, by omega, h1, ?_, gs, g1, ?_, (g3 2 rfl).trans h4⟩
  · obtain ⟨_, _, _, mn, na, g, _, _, _, _, h8⟩ := h2
    rcases h8 with ⟨wa, ta, q', f, k1, _⟩ | ⟨vr, q', f, k1, _⟩ | ⟨lv, wa, ta, pa, lf, lo, q', va, b, bl, rs, f, gl, k1, _⟩ <;> (rw [k1] at h3; cases h3)
    · exact Or.inl (Value.int.inj (Option.some.inj h4)).symm
    · exact Or.inr (Or.inl (Value.int.inj (Option.some.inj h4)).symm)
    · exact Or.inr (Or.inr (Value.int.inj (Option.some.inj h4)).symm)
  · rw [g3 1 rfl]
    obtain ⟨_, _, _, mn, na, g, _, _, _, _, h8⟩ := h2
    rcases h8 with ⟨wa, ta, q', f, k1, _⟩ | ⟨vr, q', f, k1, _⟩ | ⟨lv, wa, ta, pa, lf, lo, q', va, b, bl, rs, f, gl, k1, _⟩ <;> (rw [k1] at h3; cases h3; rfl)
