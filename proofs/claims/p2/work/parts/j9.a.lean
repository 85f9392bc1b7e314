/-- a struct's item, as it was read -/
theorem it_st {L : List Nat} {F G : Nat → va_E} {fk fa fe : Nat → Int32} {T zs : Nat} {kE kI kS kB kA kV kW kT kP : ClassId} {fi : Nat → Option Nat} {im : Nat} {xI ps ms : Nat → Nat} {ik : Nat → Int32} {qz : Nat} {fy : Nat → Option Nat} {tm : Nat} {Y : Nat → Int32 × Int32 × Option Nat} {ad : Nat → Nat} (h : tgd L F G fk fa fe T zs kE kI kS kB kA kV kW kT kP fi im xI ps ms ik qz fy tm Y ad) {i : Nat} (hi : i < im) (hk : ik i = 10) : ∃ (mn na wa ta q' : Nat) (g : Nat → Int32) (f : Nat → Option Nat) (fs : List Value), G (xI i) = .inr (16, fs) ∧ fs[2]? = some (.int (ik i)) ∧ fs[3]? = some (.int (nI mn)) ∧ fs[8]? = some (.ref na) ∧ fs[9]? = some (.ref wa) ∧ fs[10]? = some (.ref ta) ∧ mn ≤ 12 ∧ na ∈ L ∧ wa ∈ L ∧ ta ∈ L ∧ G na = .inl (kI, 13, .inl g) ∧ (∀ j : Nat, j < mn → ∃ s : Nat, g j = nI s ∧ s < T ∧ g j ≠ 0) ∧ G wa = .inl (kW, 13, .inr (.inr (.inr (.inr f)))) ∧ chT L G fk f mn (ps i + 1) q' ∧ q' ≤ ms i ∧ G ta = .inl (kT, 13, .inr (.inr (.inr (.inr (fun _ => none))))) ∧ trow G xI im ta := by
  obtain ⟨h1, h2, fs, h3, h4⟩ := h.2.2.1.2.2.2.1 i hi
  obtain ⟨hq1, hq2, hq3⟩ := tgd_q h hi
  have hT := tgd_T h
  obtain ⟨_, _, _, mn, na, g, n1, n2, n3, n4, h8⟩ := h2
  rcases h8 with ⟨wa, ta, q', f, k1, k2, k3, k4, k5, k6, k7, k8⟩ | ⟨vr, q', f, k1, _⟩ | ⟨lv, wa, ta, pa, lf, lo, q', va, b, bl, rs, f, gl, k1, _⟩
  · have hG := k1
    rw [k1] at h3; cases h3
    refine ⟨mn, na, wa, ta, q', g, f, _, hG, h4, rfl, rfl, rfl, rfl, n3, n1, k3, k4, n2, fun j hj => ?_, k5, k8, k7, k6, i, _, hi, hG, Or.inl rfl⟩
    obtain ⟨s, e1, e2, e3⟩ := n4 j hj
    exact ⟨s, e1, by omega, by rw [e1]; exact nI_ne0 (by omega) (by omega)⟩
  · rw [k1] at h3; cases h3; rw [hk] at h4; exact absurd (Value.int.inj (Option.some.inj h4)) (by decide)
  · rw [k1] at h3; cases h3; rw [hk] at h4; exact absurd (Value.int.inj (Option.some.inj h4)) (by decide)
/-- rows of types only fill -/
def mnF (L : List Nat) (F F2 : Nat → va_E) (kT : ClassId) : Prop := ∀ a ∈ L, ∀ n : Nat, rwF F kT a n → rwF F2 kT a n
theorem mnF.tr {L L1 : List Nat} {F F1 F2 : Nat → va_E} {kT : ClassId} (h : mnF L F F1 kT) (hL : ∀ a ∈ L, a ∈ L1) (g : mnF L1 F1 F2 kT) : mnF L F F2 kT := fun a ha n q => g a (hL a ha) n (h a ha n q)
theorem mnF_ex {L L2 : List Nat} {F F2 : Nat → va_E} {kT : ClassId} (hx : exS L F L2 F2) : mnF L F F2 kT := fun _ ha _ q => rwF_ex hx ha q
theorem rwT_gr {L L2 : List Nat} {F F2 G G2 : Nat → va_E} {kT : ClassId} {xI : Nat → Nat} {im tm tm2 : Nat} {Y Y2 : Nat → Int32 × Int32 × Option Nat} {ad ad2 : Nat → Nat} (h : rwT F G kT xI im tm ad) (hL : ∀ a : Nat, trow G2 xI im a → trow G xI im a ∧ a ∈ L) (hx : exS L F L2 F2) (ht : tX L G tm Y ad L2 G2 tm2 Y2 ad2) : rwT F2 G2 kT xI im tm2 ad2 := fun a ha c2 f2 hF k x hk => by
  obtain ⟨h1, h2⟩ := hL a ha
  rw [(hx a h2).2] at hF
  obtain ⟨t, h3, h4⟩ := h a h1 c2 f2 hF k x hk
  exact ⟨t, Nat.lt_of_lt_of_le h3 ht.2.1, h4.trans (ht.2.2 t h3).2.symm⟩
theorem trow_ex {L L2 : List Nat} {G G2 : Nat → va_E} {fk : Nat → Int32} {kE kI kS kB kA kV kW kT kP : ClassId} {fi : Nat → Option Nat} {im : Nat} {xI ps ms : Nat → Nat} {ik : Nat → Int32} {qz : Nat} (hi : itD L G fk kE kI kS kB kA kV kW kT kP fi im xI ps ms ik qz) (hx : exS L G L2 G2) {a : Nat} (h : trow G xI im a) : trow G2 xI im a := by
  obtain ⟨i, fs, h1, h2, h3⟩ := h
  obtain ⟨_, h5, _⟩ := hi.2.2.2.1 i h1
  refine ⟨i, fs, h1, (hx _ h5.1).2.trans h2, ?_⟩
  have h6 := h5
  obtain ⟨_, _, _, mn, na, g, n1, n2, n3, n4, h8⟩ := h6
  rcases h3 with h3 | ⟨vr2, cap, k, pa, mn2, kQ, f2, gs, m1, m2, m3, h3, h9, h10, h11, h12⟩
  · exact Or.inl h3
  · rcases h8 with ⟨wa, ta, q', f, k1, _⟩ | ⟨vr, q', f, k1, k2, k3, k4, k5, k6⟩ | ⟨lv, wa, ta, pa, lf, lo, q', va, b, bl, rs, f, gl, k1, _⟩
    · rw [k1] at h2; cases h2; cases h3
    · rw [k1] at h2; cases h2
      have e1 : mn = mn2 := (nI_eq (by omega) (by omega)).mp (Value.int.inj (Option.some.inj m1))
      have e2 : vr = vr2 := Value.ref.inj (Option.some.inj h3)
      subst e1; subst e2
      have h9' := h9
      rw [k4] at h9; cases h9
      obtain ⟨ps9, _, _, e3⟩ := k6
      obtain ⟨t, p', q2, e4, _, _, e5⟩ := e3.1 k m3
      rw [h10] at e4; cases e4
      exact Or.inr ⟨vr, _, k, pa, mn, _, _, gs, rfl, n3, m3, rfl, (hx _ k3).2.trans k4, h10, (hx _ e5.1).2.trans h11, h12⟩
    · rw [k1] at h2; cases h2; cases h3
/-- the rows of types stay what they are as the store grows -/
theorem trow_gr {L L2 : List Nat} {G G2 : Nat → va_E} {fk : Nat → Int32} {kE kI kS kB kA kV kW kT kP : ClassId} {fi : Nat → Option Nat} {im : Nat} {xI ps ms : Nat → Nat} {ik : Nat → Int32} {qz : Nat} (hi : itD L G fk kE kI kS kB kA kV kW kT kP fi im xI ps ms ik qz) (hx : exS L G L2 G2) (a : Nat) (h : trow G2 xI im a) : trow G xI im a ∧ a ∈ L := by
  obtain ⟨i, fs, h1, h2, h3⟩ := h
  obtain ⟨_, h5, _⟩ := hi.2.2.2.1 i h1
  rw [(hx _ h5.1).2] at h2
  have h6 := h5
  obtain ⟨_, _, _, mn, na, g, n1, n2, n3, n4, h8⟩ := h6
  rcases h8 with ⟨wa, ta, q', f, k1, k2, k3, k4, _⟩ | ⟨vr, q', f, k1, k2, k3, k4, k5, k6⟩ | ⟨lv, wa, ta, pa, lf, lo, q', va, b, bl, rs, f, gl, k1, k2, k3, _⟩
  · rw [k1] at h2; cases h2
    rcases h3 with h3 | ⟨vr, cap, k, pa, mn2, kQ, f2, gs, _, _, _, h3, _⟩
    · cases h3; exact ⟨⟨i, _, h1, k1, Or.inl rfl⟩, k4⟩
    · cases h3
  · rw [k1] at h2; cases h2
    rcases h3 with h3 | ⟨vr2, cap, k, pa, mn2, kQ, f2, gs, m1, m2, m3, h3, h9, h10, h11, h12⟩
    · cases h3
    · have e1 : mn = mn2 := (nI_eq (by omega) (by omega)).mp (Value.int.inj (Option.some.inj m1))
      have e2 : vr = vr2 := Value.ref.inj (Option.some.inj h3)
      subst e1; subst e2
      rw [(hx _ k3).2, k4] at h9; cases h9
      obtain ⟨ps9, _, _, e3⟩ := k6
      obtain ⟨t, p', q2, e4, _, _, e5⟩ := e3.1 k m3
      rw [h10] at e4; cases e4
      have h13 := h11
      rw [(hx _ e5.1).2] at h11
      rcases e5.2.2 with e6 | ⟨wa, ta, mk, q4, f4, e6, e7, e8, e9, _⟩
      · rw [h11] at e6; cases e6; cases h12
      · have h14 := h11
        rw [h11] at e6; cases e6; cases h12
        exact ⟨⟨i, _, h1, k1, Or.inr ⟨vr, _, k, pa, mn, _, _, _, rfl, n3, m3, rfl, k4, h10, h14, rfl⟩⟩, e9⟩
  · rw [k1] at h2; cases h2
    rcases h3 with h3 | ⟨vr, cap, k, pa, mn2, kQ, f2, gs, _, _, _, h3, _⟩
    · cases h3; exact ⟨⟨i, _, h1, k1, Or.inl rfl⟩, k3⟩
    · cases h3
