/-- a type of the table is one: plain, an item's, or of another -/
def yOK (im : Nat) (ik : Nat → Int32) (y : Int32 × Int32 × Option Nat) : Prop :=
  ((y.1 = 0 ∨ y.1 = 1 ∨ y.1 = 2 ∨ y.1 = 8) ∧ y.2.1 = 0 ∧ y.2.2 = none) ∨ (y.1 = 3 ∧ (∃ i : Nat, i < im ∧ y.2.1 = nI i ∧ ik i = 10) ∧ y.2.2 = none) ∨ (y.1 = 4 ∧ (∃ i : Nat, i < im ∧ y.2.1 = nI i ∧ ik i = 11) ∧ y.2.2 = none) ∨ ((y.1 = 5 ∨ y.1 = 6 ∨ y.1 = 7) ∧ y.2.1 = 0 ∧ ∃ a : Nat, y.2.2 = some a)
/-- the items as they were read: their addresses, tokens, kinds -/
def itD (L : List Nat) (G : Nat → va_E) (fk : Nat → Int32) (kE kI kS kB kA kV kW kT kP : ClassId) (fi : Nat → Option Nat) (im : Nat) (xI ps ms : Nat → Nat) (ik : Nat → Int32) (qz : Nat) : Prop :=
  im ≤ 70 ∧ ps 0 = 0 ∧ ps im = qz ∧ (∀ i : Nat, i < im → fi i = some (xI i) ∧ isI L G fk kE kI kS kB kA kV kW kT kP (xI i) (ps i) (ms i) (ps (i + 1)) ∧ (∃ fs : List Value, G (xI i) = .inr (16, fs) ∧ fs[2]? = some (.int (ik i)))) ∧ ∀ i j pa : Nat, i < j → j < im → ∀ fs gs : List Value, G (xI i) = .inr (16, fs) → G (xI j) = .inr (16, gs) → fs[17]? = some (.ref pa) → gs[17]? = some (.ref pa) → False
theorem itD_ex {L L2 : List Nat} {G G2 : Nat → va_E} {fk : Nat → Int32} {kE kI kS kB kA kV kW kT kP : ClassId} {fi : Nat → Option Nat} {im : Nat} {xI ps ms : Nat → Nat} {ik : Nat → Int32} {qz : Nat} (hx : exS L G L2 G2) (h : itD L G fk kE kI kS kB kA kV kW kT kP fi im xI ps ms ik qz) : itD L2 G2 fk kE kI kS kB kA kV kW kT kP fi im xI ps ms ik qz := by
  refine ⟨h.1, h.2.1, h.2.2.1, fun i hi => ?_, fun i j pa hij hj fs gs e1 e2 => ?_⟩
  · obtain ⟨h1, h2, fs, h3, h4⟩ := h.2.2.2.1 i hi
    exact ⟨h1, isI_ex hx h2, fs, (hx _ h2.1).2.trans h3, h4⟩
  · rw [(hx _ (h.2.2.2.1 i (by omega)).2.1.1).2] at e1
    rw [(hx _ (h.2.2.2.1 j hj).2.1.1).2] at e2
    exact h.2.2.2.2 i j pa hij hj fs gs e1 e2
theorem itD_ps {L : List Nat} {G : Nat → va_E} {fk : Nat → Int32} {kE kI kS kB kA kV kW kT kP : ClassId} {fi : Nat → Option Nat} {im : Nat} {xI ps ms : Nat → Nat} {ik : Nat → Int32} {qz : Nat} (h : itD L G fk kE kI kS kB kA kV kW kT kP fi im xI ps ms ik qz) : ∀ d i : Nat, i + d = im → ps i ≤ qz
  | 0, i, e => by rw [show i = im by omega, h.2.2.1]; exact Nat.le_refl _
  | d + 1, i, e => by
    have h1 := itD_ps h d (i + 1) (by omega)
    obtain ⟨_, h2, _⟩ := h.2.2.2.1 i (by omega)
    have := h2.2.1; have := h2.2.2.1
    omega
theorem itD_of {L : List Nat} {G : Nat → va_E} {fk : Nat → Int32} {kE kI kS kB kA kV kW kT kP : ClassId} {fi : Nat → Option Nat} {im qz : Nat} (hm : im ≤ 70) (h : chI L G fk kE kI kS kB kA kV kW kT kP fi im qz) : ∃ (xI ps ms : Nat → Nat) (ik : Nat → Int32), itD L G fk kE kI kS kB kA kV kW kT kP fi im xI ps ms ik qz := by
  obtain ⟨ps, ms, xs, h1, h2, h3, h0⟩ := h
  have hk : ∀ i : Nat, ∃ z : Int32, i < im → fi i = some (xs i) ∧ isI L G fk kE kI kS kB kA kV kW kT kP (xs i) (ps i) (ms i) (ps (i + 1)) ∧ ∃ fs : List Value, G (xs i) = .inr (16, fs) ∧ fs[2]? = some (.int z) := fun i => by
    by_cases hi : i < im
    · obtain ⟨g1, g2⟩ := h3 i hi
      have g3 := g2
      obtain ⟨_, _, _, mn, na, g, _, _, _, _, h8⟩ := g3
      rcases h8 with ⟨wa, ta, q', f, k1, _⟩ | ⟨vr, q', f, k1, _⟩ | ⟨lv, wa, ta, pa, lf, lo, q', va, b, bl, rs, f, gl, k1, _⟩
      · exact ⟨10, fun _ => ⟨g1, g2, _, k1, rfl⟩⟩
      · exact ⟨11, fun _ => ⟨g1, g2, _, k1, rfl⟩⟩
      · exact ⟨12, fun _ => ⟨g1, g2, _, k1, rfl⟩⟩
    · exact ⟨0, fun q => absurd q hi⟩
  exact ⟨xs, ps, ms, fun i => Classical.choose (hk i), hm, h1, h2, fun i hi => Classical.choose_spec (hk i) hi, h0⟩
/-- the typing's state -/
def tgd (L : List Nat) (F G : Nat → va_E) (fk fa fe : Nat → Int32) (T zs : Nat) (kE kI kS kB kA kV kW kT kP : ClassId) (fi : Nat → Option Nat) (im : Nat) (xI ps ms : Nat → Nat) (ik : Nat → Int32) (qz : Nat) (fy : Nat → Option Nat) (tm : Nat) (Y : Nat → Int32 × Int32 × Option Nat) (ad : Nat → Nat) : Prop :=
  (tkF fk fa fe T zs ∧ zs ≤ 3000 ∧ qz < T) ∧ rl L F G ∧ itD L G fk kE kI kS kB kA kV kW kT kP fi im xI ps ms ik qz ∧ tyW L G fy tm Y ad ∧ ∀ t : Nat, t < tm → yOK im ik (Y t)
/-- what was read, and the table of types, have only grown -/
def tX (L : List Nat) (G : Nat → va_E) (tm : Nat) (Y : Nat → Int32 × Int32 × Option Nat) (ad : Nat → Nat) (L2 : List Nat) (G2 : Nat → va_E) (tm2 : Nat) (Y2 : Nat → Int32 × Int32 × Option Nat) (ad2 : Nat → Nat) : Prop := exS L G L2 G2 ∧ tm ≤ tm2 ∧ ∀ t : Nat, t < tm → Y2 t = Y t ∧ ad2 t = ad t
theorem tX.rf {L : List Nat} {G : Nat → va_E} {tm : Nat} {Y : Nat → Int32 × Int32 × Option Nat} {ad : Nat → Nat} : tX L G tm Y ad L G tm Y ad := ⟨exS.rf, Nat.le_refl _, fun _ _ => ⟨rfl, rfl⟩⟩
theorem tX.tr {L L1 L2 : List Nat} {G G1 G2 : Nat → va_E} {tm tm1 tm2 : Nat} {Y Y1 Y2 : Nat → Int32 × Int32 × Option Nat} {ad ad1 ad2 : Nat → Nat} (h : tX L G tm Y ad L1 G1 tm1 Y1 ad1) (g : tX L1 G1 tm1 Y1 ad1 L2 G2 tm2 Y2 ad2) : tX L G tm Y ad L2 G2 tm2 Y2 ad2 :=
  ⟨h.1.tr g.1, Nat.le_trans h.2.1 g.2.1, fun t ht => ⟨(g.2.2 t (Nat.lt_of_lt_of_le ht h.2.1)).1.trans (h.2.2 t ht).1, (g.2.2 t (Nat.lt_of_lt_of_le ht h.2.1)).2.trans (h.2.2 t ht).2⟩⟩
theorem ptN_ge {Y : Nat → Int32 × Int32 × Option Nat} {tm : Nat} : tm ≤ ptN Y tm := by unfold ptN; omega
/-- a class without fields that may be written -/
theorem rl_st {L : List Nat} {F G : Nat → va_E} {a c : Nat} {fs : List Value} (h : rl L F G) (ha : a ∈ L) (hG : G a = .inr (c, fs)) (hc : ∀ k : Nat, mtF c k = false) : F a = .inr (c, fs) := by
  obtain ⟨gs, h1, h2, h3⟩ := rl_ob h ha hG
  rw [h1, show gs = fs from List.ext_getElem? (fun k => h3 k (hc k))]
theorem mtF_20 (k : Nat) : mtF 20 k = false := rfl
theorem mtF_22 (k : Nat) : mtF 22 k = false := rfl
theorem tyW_rl {L : List Nat} {F G : Nat → va_E} {fy : Nat → Option Nat} {tm : Nat} {Y : Nat → Int32 × Int32 × Option Nat} {ad : Nat → Nat} (hr : rl L F G) (h : tyW L G fy tm Y ad) : tyW L F fy tm Y ad :=
  ⟨fun t ht => by obtain ⟨h1, h2, h3, h4⟩ := h.1 t ht; exact ⟨h1, h2, rl_st hr h2 h3 mtF_20, h4⟩, h.2⟩
theorem tyW_lr {L L2 : List Nat} {F F2 G : Nat → va_E} {fy : Nat → Option Nat} {tm : Nat} {Y : Nat → Int32 × Int32 × Option Nat} {ad : Nat → Nat} (hx : exS L F L2 F2) (hr : rl L F G) (h : tyW L2 F2 fy tm Y ad) : tyW L2 (grG L G F2) fy tm Y ad := by
  refine ⟨fun t ht => ?_, h.2⟩
  obtain ⟨h1, h2, h3, h4⟩ := h.1 t ht
  refine ⟨h1, h2, ?_, h4⟩
  unfold grG
  by_cases e : ad t ∈ L
  · rw [if_pos e]
    have g1 := hr _ e
    rw [← (hx _ e).2, h3] at g1
    cases eG : G (ad t) with
    | inl x => rw [eG] at g1; exact g1.elim
    | inr x =>
      obtain ⟨c, fs⟩ := x
      rw [eG] at g1
      obtain ⟨rfl, g2, g3⟩ := g1
      rw [show fs = _ from (List.ext_getElem? (fun k => g3 k (mtF_20 k))).symm]
  · rw [if_neg e]; exact h3
theorem tgd_ty {L L2 : List Nat} {F F2 G : Nat → va_E} {fk fa fe : Nat → Int32} {T zs : Nat} {kE kI kS kB kA kV kW kT kP : ClassId} {fi : Nat → Option Nat} {im : Nat} {xI ps ms : Nat → Nat} {ik : Nat → Int32} {qz : Nat} {fy fy2 : Nat → Option Nat} {tm tm2 : Nat} {Y Y2 : Nat → Int32 × Int32 × Option Nat} {ad ad2 : Nat → Nat} (h : tgd L F G fk fa fe T zs kE kI kS kB kA kV kW kT kP fi im xI ps ms ik qz fy tm Y ad) (hx : exS L F L2 F2) {t2 : Nat} (h1 : tm2 = tm ∨ (tm2 = tm + 1 ∧ t2 = tm)) (h2 : ∀ t : Nat, t < tm → Y2 t = Y t ∧ ad2 t = ad t) (h3 : tyW L2 F2 fy2 tm2 Y2 ad2) {y : Int32 × Int32 × Option Nat} (h4 : t2 < tm2 ∧ Y2 t2 = y) (hy : yOK im ik y) : tgd L2 F2 (grG L G F2) fk fa fe T zs kE kI kS kB kA kV kW kT kP fi im xI ps ms ik qz fy2 tm2 Y2 ad2 ∧ tX L G tm Y ad L2 (grG L G F2) tm2 Y2 ad2 := by
  have hg : exS L G L2 (grG L G F2) := grG_ex hx
  refine ⟨⟨h.1, grG_rl hx h.2.1, itD_ex hg h.2.2.1, tyW_lr hx h.2.1 h3, fun t ht => ?_⟩, hg, by omega, h2⟩
  by_cases e : t < tm
  · rw [(h2 t e).1]; exact h.2.2.2.2 t e
  · rw [show t = t2 by omega, h4.2]; exact hy
