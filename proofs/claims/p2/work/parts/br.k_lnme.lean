-- br.k_lnme.lean.txt
section
def gwL (fr gr : Nat → Int64) : Prop := ∀ j : Nat, lS (fr j) (gr j)
/-- the heads from lf on that are reached, and the bits of their rows -/
def lnM (hd : Nat → Bool) (fr : Nat → Int64) (rc : Nat → Int32) (lf : Nat) : Nat → Nat
  | 0 => 0
  | n + 1 => lnM hd fr rc lf n + if hd (lf + n) = true then (if rc (lf + n) = 0 then 0 else 1) + fuM fr ((lf + n) * 40) 40 else 0
theorem lnM_le (hd : Nat → Bool) (fr : Nat → Int64) (rc : Nat → Int32) (lf : Nat) (hh : ∀ L : Nat, hd L = true → hd (L + 1) = false) : ∀ n : Nat, lnM hd fr rc lf n ≤ 2561 * ((n + 1) / 2) ∧ (hd (lf + n) = true → lnM hd fr rc lf n ≤ 2561 * (n / 2))
  | 0 => ⟨Nat.zero_le _, fun _ => Nat.zero_le _⟩
  | n + 1 => by
    obtain ⟨h1, h2⟩ := lnM_le hd fr rc lf hh n
    have h3 := fuM_le fr ((lf + n) * 40) 40
    have h4 : (if rc (lf + n) = 0 then 0 else 1) ≤ 1 := by split <;> omega
    show lnM hd fr rc lf n + (if hd (lf + n) = true then (if rc (lf + n) = 0 then 0 else 1) + fuM fr ((lf + n) * 40) 40 else 0) ≤ 2561 * ((n + 1 + 1) / 2) ∧ (hd (lf + n + 1) = true → lnM hd fr rc lf n + (if hd (lf + n) = true then (if rc (lf + n) = 0 then 0 else 1) + fuM fr ((lf + n) * 40) 40 else 0) ≤ 2561 * ((n + 1) / 2))
    rcases Bool.eq_false_or_eq_true (hd (lf + n)) with e | e
    · have h5 := h2 e
      rw [if_pos e]
      refine ⟨by omega, fun z => ?_⟩
      rw [hh _ e] at z; exact absurd z (by decide)
    · rw [if_neg (by rw [e]; decide)]
      exact ⟨by omega, fun _ => by omega⟩
theorem lnM_up {hd : Nat → Bool} {fr gr : Nat → Int64} {rc sc : Nat → Int32} (h : gwL fr gr) (hr : rcU rc sc) (lf : Nat) : ∀ n : Nat, lnM hd fr rc lf n ≤ lnM hd gr sc lf n ∧ ((∃ L : Nat, lf ≤ L ∧ L < lf + n ∧ hd L = true ∧ ((rc L = 0 ∧ sc L ≠ 0) ∨ ∃ v : Nat, v < 40 ∧ gr (L * 40 + v) ≠ fr (L * 40 + v))) → lnM hd fr rc lf n < lnM hd gr sc lf n)
  | 0 => ⟨Nat.le_refl 0, fun ⟨L, h1, h2, _⟩ => absurd h2 (by omega)⟩
  | n + 1 => by
    obtain ⟨h1, h2⟩ := lnM_up (hd := hd) h hr lf n
    obtain ⟨r1, r2⟩ := fuM_up h ((lf + n) * 40) 40
    have hb : (if rc (lf + n) = 0 then 0 else 1) ≤ (if sc (lf + n) = 0 then 0 else 1) := by
      by_cases e : rc (lf + n) = 0
      · rw [if_pos e]; exact Nat.zero_le _
      · rw [if_neg e, if_neg (hr _ e)]; exact Nat.le_refl _
    show lnM hd fr rc lf n + (if hd (lf + n) = true then (if rc (lf + n) = 0 then 0 else 1) + fuM fr ((lf + n) * 40) 40 else 0) ≤ lnM hd gr sc lf n + (if hd (lf + n) = true then (if sc (lf + n) = 0 then 0 else 1) + fuM gr ((lf + n) * 40) 40 else 0) ∧ (_ → lnM hd fr rc lf n + (if hd (lf + n) = true then (if rc (lf + n) = 0 then 0 else 1) + fuM fr ((lf + n) * 40) 40 else 0) < lnM hd gr sc lf n + (if hd (lf + n) = true then (if sc (lf + n) = 0 then 0 else 1) + fuM gr ((lf + n) * 40) 40 else 0))
    rcases Bool.eq_false_or_eq_true (hd (lf + n)) with e9 | e9
    · rw [if_pos e9, if_pos e9]
      refine ⟨by omega, fun ⟨L, g1, g2, g0, g3⟩ => ?_⟩
      by_cases e : L = lf + n
      · rcases g3 with ⟨z1, z2⟩ | ⟨v, z1, z2⟩
        · rw [e] at z1 z2
          rw [if_pos z1, if_neg z2]
          omega
        · rw [e] at z2
          have := r2 ⟨(lf + n) * 40 + v, by omega, by omega, fun q => z2 q.symm⟩
          omega
      · have := h2 ⟨L, g1, by omega, g0, g3⟩
        omega
    · have e8 : ¬ hd (lf + n) = true := by rw [e9]; decide
      rw [if_neg e8, if_neg e8]
      refine ⟨by omega, fun ⟨L, g1, g2, g0, g3⟩ => ?_⟩
      by_cases e : L = lf + n
      · rw [e] at g0; exact absurd g0 e8
      · have := h2 ⟨L, g1, by omega, g0, g3⟩
        omega
theorem gwL_rf {fr : Nat → Int64} : gwL fr fr := fun j => lS_rf _
theorem gwL_tr {fr gr hr : Nat → Int64} (h1 : gwL fr gr) (h2 : gwL gr hr) : gwL fr hr := fun j => lS_tr (h1 j) (h2 j)
theorem lS_orl (x y : Int64) : lS x (x ||| y) := fun k _ h => by rw [lbit_or, h]; rfl
theorem gwL_sd {lb n : Nat} {st fr gr : Nat → Int64} (h : sdL lb n st fr gr) : gwL fr gr := fun j => by
  rw [h j]
  split
  · exact lS_orl _ _
  · exact lS_rf _
def lnGe (s t : lnT) : Prop := gwL s.2.1 t.2.1 ∧ rcU s.2.2.1 t.2.2.1
theorem lnGe_rf {s : lnT} : lnGe s s := ⟨gwL_rf, fun _ h => h⟩
theorem lnGe_tr {s u t : lnT} (h1 : lnGe s u) (h2 : lnGe u t) : lnGe s t := ⟨gwL_tr h1.1 h2.1, fun L h => h2.2 L (h1.2 L h)⟩
theorem lnGe_eq {s t : lnT} (h1 : t.2.1 = s.2.1) (h2 : t.2.2.1 = s.2.2.1) : lnGe s t := ⟨by rw [h1]; exact gwL_rf, by rw [h2]; exact fun _ h => h⟩
theorem lnSd_ge {n L : Nat} {s t : lnT} {rv : Int32} (h : lnSd n L s t rv) : lnGe s t := ⟨gwL_sd h.2.1, by rw [h.2.2.1]; exact rcU_up⟩
theorem lnPo_eq {k : Nat} {s t : lnT} (h : lnPo k s t) : t.1 = s.1 ∧ t.2.1 = s.2.1 ∧ t.2.2.1 = s.2.2.1 ∧ t.2.2.2.1 = s.2.2.2.1 ∧ t.2.2.2.2.1 = s.2.2.2.2.1 := by
  obtain ⟨x, -, h⟩ := h
  rw [h]
  exact ⟨rfl, rfl, rfl, rfl, rfl⟩
theorem lnSw_ge {F : tF} {n tb : Nat} : ∀ {c : Nat} {s t : lnT}, lnSw F n tb c s t → lnGe s t
  | 0, s, t, h => by
    have h : t = s := h
    rw [h]; exact lnGe_rf
  | c + 1, s, t, h => by
    obtain ⟨u, L, rv, h1, h2, h3, h4⟩ := h
    exact lnGe_tr (lnSw_ge h1) (lnSd_ge h4)
theorem lnSw_ag {F : tF} {n tb : Nat} : ∀ {c : Nat} {s t : lnT}, lnSw F n tb c s t → t.2.2.2 = s.2.2.2 ∧ t.1 = s.1 ∧ ∀ M : Nat, t.2.2.1 M ≠ s.2.2.1 M → ∃ g : Nat, g < c ∧ F 13 (tb + g) = nI M ∧ M < 1100
  | 0, s, t, h => by
    have h : t = s := h
    rw [h]; exact ⟨rfl, rfl, fun M q => absurd rfl q⟩
  | c + 1, s, t, h => by
    obtain ⟨u, L, rv, h1, h2, h3, h4⟩ := h
    obtain ⟨a1, a2, a3⟩ := lnSw_ag h1
    refine ⟨h4.2.2.2.1.trans a1, h4.1.trans a2, fun M q => ?_⟩
    by_cases e : M = L
    · exact ⟨c, by omega, by rw [e]; exact h2, by rw [e]; exact h3⟩
    · rw [h4.2.2.1, pk_un e] at q
      obtain ⟨g, g1, g2⟩ := a3 M q
      exact ⟨g, by omega, g2⟩
theorem lnFl_o {F : tF} {n i : Nat} {s t : lnT} : ∀ o : Nat, o ≠ 15 → o ≠ 16 → o ≠ 17 → o ≠ 18 → o ≠ 19 → o ≠ 20 → lnFl F n i s t o → t = s
  | 0, _, _, _, _, _, _, h => h
  | 1, _, _, _, _, _, _, h => h
  | 2, _, _, _, _, _, _, h => h
  | 3, _, _, _, _, _, _, h => h
  | 4, _, _, _, _, _, _, h => h
  | 5, _, _, _, _, _, _, h => h
  | 6, _, _, _, _, _, _, h => h
  | 7, _, _, _, _, _, _, h => h
  | 8, _, _, _, _, _, _, h => h
  | 9, _, _, _, _, _, _, h => h
  | 10, _, _, _, _, _, _, h => h
  | 11, _, _, _, _, _, _, h => h
  | 12, _, _, _, _, _, _, h => h
  | 13, _, _, _, _, _, _, h => h
  | 14, _, _, _, _, _, _, h => h
  | 15, q, _, _, _, _, _, h => absurd rfl q
  | 16, _, q, _, _, _, _, h => absurd rfl q
  | 17, _, _, q, _, _, _, h => absurd rfl q
  | 18, _, _, _, q, _, _, h => absurd rfl q
  | 19, _, _, _, _, q, _, h => absurd rfl q
  | 20, _, _, _, _, _, q, h => absurd rfl q
  | _ + 21, _, _, _, _, _, _, h => h
/-- what stays -/
def lnKp (s t : lnT) : Prop := t.2.1 = s.2.1 ∧ t.2.2.1 = s.2.2.1 ∧ t.2.2.2.1 = s.2.2.2.1 ∧ t.2.2.2.2.1 = s.2.2.2.2.1
theorem lnKp_st {s : lnT} {hd : Nat → Int64} {fi : Int32} {ft : Nat → Int64} {tn : Nat} {hb : Nat → Int64} : lnKp s (lnSt s hd fi ft tn hb) := ⟨rfl, rfl, rfl, rfl⟩
theorem lnKp_pu {x : Int64} {s t : lnT} (h : lnPu x s t) : lnKp s t := by
  obtain ⟨gt, tn2, -, h⟩ := h
  rw [h]; exact lnKp_st
theorem lnKp_po {k : Nat} {s t : lnT} (h : lnPo k s t) : lnKp s t := (lnPo_eq h).2
theorem lnKp_tr {s u t : lnT} (h1 : lnKp s u) (h2 : lnKp u t) : lnKp s t := ⟨h2.1.trans h1.1, h2.2.1.trans h1.2.1, h2.2.2.1.trans h1.2.2.1, h2.2.2.2.trans h1.2.2.2⟩
theorem lnLk_o {F : tF} {C : lnC} {Q : lnQ} {i : Nat} {s t : lnT} : ∀ o : Nat, lnLk F C Q i s t o → (o ≠ 22 ∧ lnFl F C.2.2.2.2.2 i s t o) ∨ (o = 22 ∧ t.2.1 = s.2.1 ∧ t.2.2.1 = s.2.2.1 ∧ t.2.2.2.1 = 0 ∧ t.2.2.2.2.1 = s.2.2.2.2.1) ∨ ((o < 13 ∨ 20 < o) ∧ o ≠ 22 ∧ lnKp s t)
  | 0, h => Or.inr (Or.inr ⟨by decide, by decide, lnKp_pu h⟩)
  | 1, h => Or.inr (Or.inr ⟨by decide, by decide, lnKp_pu h⟩)
  | 2, h => by
    obtain ⟨p, v, u, -, -, -, -, e, z⟩ := h
    have hu : lnKp s u := by rw [e]; exact lnKp_st
    exact Or.inr (Or.inr ⟨by decide, by decide, lnKp_tr hu (z.elim (fun y => lnKp_pu y.2) (fun y => lnKp_pu y.2))⟩)
  | 3, h => by
    obtain ⟨p, v, u, -, -, -, -, e, z⟩ := h
    have hu : lnKp s u := by rw [e]; exact lnKp_st
    exact Or.inr (Or.inr ⟨by decide, by decide, lnKp_tr hu (z.elim (fun y => lnKp_pu y.2) (fun y => lnKp_pu y.2))⟩)
  | 4, h => by
    obtain ⟨p, v, b, x, gt, tn2, -, -, -, -, -, -, -, -, e⟩ := h
    exact Or.inr (Or.inr ⟨by decide, by decide, by rw [e]; exact lnKp_st⟩)
  | 5, h => Or.inl ⟨by decide, h⟩
  | 6, h => Or.inl ⟨by decide, h⟩
  | 7, h => Or.inr (Or.inr ⟨by decide, by decide, lnKp_po h⟩)
  | 8, h => Or.inl ⟨by decide, h⟩
  | 9, h => Or.inr (Or.inr ⟨by decide, by decide, lnKp_pu h⟩)
  | 10, h => Or.inr (Or.inr ⟨by decide, by decide, lnKp_po h⟩)
  | 11, h => Or.inr (Or.inr ⟨by decide, by decide, lnKp_pu h⟩)
  | 12, h => by
    obtain ⟨n, -, -, z⟩ := h
    exact Or.inr (Or.inr ⟨by decide, by decide, lnKp_po z⟩)
  | 13, h => Or.inl ⟨by decide, h⟩
  | 14, h => Or.inl ⟨by decide, h⟩
  | 15, h => Or.inl ⟨by decide, h⟩
  | 16, h => Or.inl ⟨by decide, h⟩
  | 17, h => Or.inl ⟨by decide, h⟩
  | 18, h => Or.inl ⟨by decide, h⟩
  | 19, h => Or.inl ⟨by decide, h⟩
  | 20, h => Or.inl ⟨by decide, h⟩
  | 21, h => by
    obtain ⟨g, -, -, n, x, t1, gt, tn2, -, -, -, -, e⟩ := h
    exact Or.inr (Or.inr ⟨by decide, by decide, by rw [e]; exact lnKp_st⟩)
  | 22, h => by
    obtain ⟨x, f1, g6, g8, -, -, -, e⟩ := h
    exact Or.inr (Or.inl ⟨rfl, by rw [e], by rw [e], by rw [e], by rw [e]⟩)
  | 23, h => Or.inl ⟨by decide, h⟩
  | 24, h => by
    obtain ⟨v, x, tn2, -, -, -, e⟩ := h
    exact Or.inr (Or.inr ⟨by decide, by decide, by rw [e]; exact lnKp_st⟩)
  | 25, h => by
    obtain ⟨v, -, -, e⟩ := h
    exact Or.inr (Or.inr ⟨by decide, by decide, by rw [e]; exact lnKp_st⟩)
  | 26, h => by
    obtain ⟨p, v, x, tn2, -, -, -, -, -, z⟩ := h
    exact Or.inr (Or.inr ⟨by decide, by decide, by rcases z with ⟨-, e⟩ | ⟨-, e⟩ <;> (rw [e]; exact lnKp_st)⟩)
  | 27, h => Or.inr (Or.inr ⟨by decide, by decide, lnKp_po h⟩)
  | 28, h => Or.inr (Or.inr ⟨by decide, by decide, lnKp_po h⟩)
  | 29, h => by
    obtain ⟨v, -, -, e⟩ := h
    exact Or.inr (Or.inr ⟨by decide, by decide, by rw [e]; exact lnKp_st⟩)
  | 30, h => by
    obtain ⟨v, b, -, -, -, -, e⟩ := h
    exact Or.inr (Or.inr ⟨by decide, by decide, by rw [e]; exact lnKp_st⟩)
  | 31, h => Or.inl ⟨by decide, h⟩
  | 32, h => by
    obtain ⟨v0, v1, g1, g6, -, -, -, -, -, e⟩ := h
    exact Or.inr (Or.inr ⟨by decide, by decide, by rw [e]; exact lnKp_st⟩)
  | k + 33, h => Or.inl ⟨by omega, h⟩
theorem lnSd_fl {n L : Nat} {s t : lnT} {rv : Int32} (h : lnSd n L s t rv) : ∀ M : Nat, M ≠ L → t.2.2.1 M = s.2.2.1 M := fun M hM => by rw [h.2.2.1, pk_un hM]
/-- what one instruction does to rows, labels, again -/
theorem lnFl_al {F : tF} {n i : Nat} {s t : lnT} (hn : n ≤ 40) (o : Nat) (h22 : o ≠ 22) (h : lnFl F n i s t o) : lnGe s t ∧ flO F i s.2.2.1 t.2.2.2.1 t.2.2.1 o ∧ (s.2.2.2.2.1 = 0 → t.2.2.2.2.1 ≠ 0 → o = 15 ∧ ∃ L : Nat, F 1 i = nI L ∧ L < 1100 ∧ ((s.2.2.1 L = 0 ∧ t.2.2.1 L ≠ 0) ∨ ∃ v : Nat, v < 40 ∧ t.2.1 (L * 40 + v) ≠ s.2.1 (L * 40 + v))) := by
  have two : ∀ {L : Nat} {rv : Int32} {u : lnT}, lnPo 1 s u → lnSd n L u t rv → lnGe s t ∧ (∀ M : Nat, M ≠ L → t.2.2.1 M = s.2.2.1 M) ∧ (s.2.2.2.2.1 = 0 → t.2.2.2.2.1 ≠ 0 → False) := fun {L rv u} hp hs => by
    obtain ⟨p0, p1, p2, p3, p4⟩ := lnPo_eq hp
    refine ⟨lnGe_tr (lnGe_eq p1 p2) (lnSd_ge hs), fun M hM => by rw [lnSd_fl hs M hM, p2], fun z1 z2 => z2 ?_⟩
    rw [hs.2.2.2.1, p4]; exact z1
  by_cases e15 : o = 15
  · subst e15
    obtain ⟨L, u, rv, q1, q2, q3, q4⟩ := h
    subst q4
    have g9 := lnSd_ge q3
    have f9 := lnSd_fl q3
    refine ⟨⟨g9.1, g9.2⟩, ⟨rfl, L, q1, q2, fun M hM => f9 M hM⟩, fun z1 z2 => ⟨rfl, L, q1, q2, ?_⟩⟩
    have z2 : (if rv = 0 then (if s.2.2.2.2.1 = 0 then (0 : Int32) else 1) else 1) ≠ 0 := z2
    by_cases e : rv = 0
    · rw [if_pos e, if_pos z1] at z2; exact absurd rfl z2
    · rcases q3.2.2.2.2.2 e with y | ⟨v, v1, v2⟩
      · refine Or.inl ⟨y, ?_⟩
        show u.2.2.1 L ≠ 0
        rw [q3.2.2.1, pk_us]; exact nar1
      · refine Or.inr ⟨v, by omega, ?_⟩
        show u.2.1 (L * 40 + v) ≠ s.2.1 (L * 40 + v)
        rw [q3.2.1 (L * 40 + v), if_pos (by omega), show L * 40 + v - L * 40 = v by omega]
        exact v2
  by_cases e16 : o = 16
  · subst e16
    obtain ⟨L, u, rv, q1, q2, q3, q4⟩ := h
    subst q4
    have g9 := lnSd_ge q3
    have f9 := lnSd_fl q3
    exact ⟨⟨g9.1, g9.2⟩, ⟨rfl, L, q1, q2, fun M hM => f9 M hM⟩, fun z1 z2 => absurd z1 z2⟩
  by_cases e17 : o = 17
  · subst e17
    obtain ⟨L, u, rv, q1, q2, q3, q4⟩ := h
    obtain ⟨w1, w2, w3⟩ := two q3 q4
    exact ⟨w1, ⟨L, q1, q2, w2⟩, fun z1 z2 => (w3 z1 z2).elim⟩
  by_cases e18 : o = 18
  · subst e18
    obtain ⟨L, u, rv, q1, q2, q3, q4⟩ := h
    obtain ⟨w1, w2, w3⟩ := two q3 q4
    exact ⟨w1, ⟨L, q1, q2, w2⟩, fun z1 z2 => (w3 z1 z2).elim⟩
  by_cases e19 : o = 19
  · subst e19
    obtain ⟨L, u, rv, q1, q2, q3, q4⟩ := h
    obtain ⟨w1, w2, w3⟩ := two q3 q4
    exact ⟨w1, ⟨L, q1, q2, w2⟩, fun z1 z2 => (w3 z1 z2).elim⟩
  by_cases e20 : o = 20
  · subst e20
    obtain ⟨tb, c, u, w, q1, q2, q0, q3, q6, q4, q5⟩ := h
    obtain ⟨p0, p1, p2, p3, p4⟩ := lnPo_eq q6
    obtain ⟨a1, a2, a3⟩ := lnSw_ag q4
    subst q5
    have g9 := lnGe_tr (lnGe_eq p1 p2) (lnSw_ge q4)
    exact ⟨⟨g9.1, g9.2⟩, ⟨rfl, tb, c, q1, q2, q0, q3, fun M hM => a3 M (by rw [p2]; exact hM)⟩, fun z1 z2 => absurd z1 z2⟩
  · have e := lnFl_o o e15 e16 e17 e18 e19 e20 h
    subst e
    refine ⟨lnGe_rf, ?_, fun z1 z2 => absurd z1 z2⟩
    exact flO_i o e15 e16 e17 e18 e19 e20 h22
theorem flO_eq {F : tF} {i : Nat} {rc rc2 : Nat → Int32} {ir2 : Int32} {o : Nat} (h : o < 13 ∨ 20 < o) (h22 : o ≠ 22) (e : rc2 = rc) : flO F i rc ir2 rc2 o := by
  subst e
  exact flO_i o (by omega) (by omega) (by omega) (by omega) (by omega) (by omega) h22
theorem lnR_al {F : tF} {C : lnC} {Q : lnQ} {i : Nat} {s t : lnT} (hn : C.2.2.2.2.2 ≤ 40) (h : lnR F C Q i s t) : lnGe s t ∧ flR F i s.2.2.2.1 s.2.2.1 t.2.2.2.1 t.2.2.1 ∧ (s.2.2.2.2.1 = 0 → t.2.2.2.2.1 ≠ 0 → s.2.2.2.1 ≠ 0 ∧ F 0 i = nI 15 ∧ ∃ L : Nat, F 1 i = nI L ∧ L < 1100 ∧ ((s.2.2.1 L = 0 ∧ t.2.2.1 L ≠ 0) ∨ ∃ v : Nat, v < 40 ∧ t.2.1 (L * 40 + v) ≠ s.2.1 (L * 40 + v))) := by
  obtain ⟨o, ho, h33, h⟩ := h
  rcases h with ⟨hl, L, L1, L2, L3, L4, L5, L6⟩ | ⟨n13, n14, h⟩
  · refine ⟨lnGe_eq L3 L4, ⟨o, ho, h33, Or.inl ⟨hl, L, L1, L2, L4, fun z => ?_⟩⟩, fun z1 z2 => absurd (show t.2.2.2.2.1 = 0 by rw [L5]; exact z1) z2⟩
    rcases L6 with ⟨y1, y2⟩ | ⟨y1, -⟩
    · rw [y2] at z; exact Or.inl z
    · exact Or.inr y1
  · rcases h with ⟨h1, h2⟩ | ⟨h1, h2⟩
    · subst h2
      exact ⟨lnGe_rf, ⟨o, ho, h33, Or.inr ⟨n13, n14, Or.inl ⟨h1, h1, rfl⟩⟩⟩, fun z1 z2 => absurd z1 z2⟩
    · rcases lnLk_o o h2 with ⟨z0, z⟩ | ⟨z0, z1, z2, z3, z4⟩ | ⟨z0, z22, z1, z2, z3, z4⟩
      · obtain ⟨a1, a2, a3⟩ := lnFl_al hn o z0 z
        exact ⟨a1, ⟨o, ho, h33, Or.inr ⟨n13, n14, Or.inr ⟨h1, a2⟩⟩⟩, fun z1 z2 => by obtain ⟨b1, b2⟩ := a3 z1 z2; exact ⟨h1, by rw [ho, b1], b2⟩⟩
      · exact ⟨lnGe_eq z1 z2, ⟨o, ho, h33, Or.inr ⟨n13, n14, Or.inr ⟨h1, by rw [z0]; exact ⟨z3, z2⟩⟩⟩⟩, fun y1 y2 => absurd (z4.trans y1) y2⟩
      · exact ⟨lnGe_eq z1 z2, ⟨o, ho, h33, Or.inr ⟨n13, n14, Or.inr ⟨h1, flO_eq z0 z22 z2⟩⟩⟩, fun y1 y2 => absurd (z4.trans y1) y2⟩
/-- a whole pass: rows grow; again: a head's row grew -/
theorem lnP_up {F X : tF} {G : Nat → Nat → Nat} {rs a b lf n9 : Nat} {k : Nat → Option (List tE)} {C : lnC} {Q : lnQ} {hd : Nat → Bool} {s t : lnT} (hc : ceI F X G rs a b k) (hn : C.2.2.2.2.2 ≤ 40) (hlb : ∀ i : Nat, a ≤ i → i < b → isL (F 0 i) → ∃ L : Nat, lf ≤ L ∧ L < lf + n9 ∧ F 1 i = nI L) (hhd : ∀ i L : Nat, a ≤ i → i < b → F 0 i = 14 → F 1 i = nI L → L < 1100 → hd L = true) (hka : ∃ r : List tE, k a = some r) (hab : a ≤ b) (hlt : lf + n9 ≤ 1100) (h : lnP F C Q a b s t) (h0 : s.2.2.2.2.1 = 0) (hr : rcK F k a b s.2.2.1) : rcK F k a b t.2.2.1 ∧ lnGe s t ∧ (t.2.2.2.2.1 ≠ 0 → lnM hd s.2.1 s.2.2.1 lf n9 < lnM hd t.2.1 t.2.2.1 lf n9) := by
  obtain ⟨f, f1, f2, f3⟩ := h
  have key : ∀ d : Nat, a + d ≤ b → ((f (a + d)).2.2.2.1 ≠ 0 → ∃ r : List tE, k (a + d) = some r) ∧ rcK F k a b (f (a + d)).2.2.1 ∧ lnGe s (f (a + d)) ∧ ((f (a + d)).2.2.2.2.1 ≠ 0 → lnM hd s.2.1 s.2.2.1 lf n9 < lnM hd (f (a + d)).2.1 (f (a + d)).2.2.1 lf n9) := by
    intro d
    induction d with
    | zero =>
      intro _
      rw [Nat.add_zero, f1]
      exact ⟨fun _ => hka, hr, lnGe_rf, fun z => absurd h0 z⟩
    | succ d ih =>
      intro hd9
      obtain ⟨i1, i2, i3, i4⟩ := ih (by omega)
      obtain ⟨m1, m2, m3⟩ := lnR_al hn (f3 (a + d) (by omega) (by omega))
      obtain ⟨k1, k2⟩ := fl_K hc (by omega) (by omega) m2 i1 i2
      refine ⟨k1, k2, lnGe_tr i3 m1, fun z => ?_⟩
      have u1 := (lnM_up (hd := hd) m1.1 m1.2 lf n9).1
      by_cases e : (f (a + d)).2.2.2.2.1 = 0
      · obtain ⟨g1, g2, L, g3, g4, g5⟩ := m3 e z
        obtain ⟨r, hr9⟩ := i1 g1
        obtain ⟨j, j1, j2, j3, j4, j5⟩ := (show vl r = 0 ∧ tJb F k a (a + d) (F 1 (a + d)) r from ce_op hc (by omega) (by omega) hr9 g2 (by decide)).2
        obtain ⟨M, w1, w2, w3⟩ := hlb j j1 (by omega) (Or.inr j3)
        have eL : M = L := (nI_eq (a := M) (b := L) (by omega) (by omega)).mp (w3.symm.trans (j4.trans g3))
        have u2 := (lnM_up (hd := hd) m1.1 m1.2 lf n9).2 ⟨L, by omega, by omega, hhd j L j1 (by omega) j3 (j4.trans g3) g4, g5⟩
        have u3 := (lnM_up (hd := hd) i3.1 i3.2 lf n9).1
        show lnM hd s.2.1 s.2.2.1 lf n9 < lnM hd (f (a + d + 1)).2.1 (f (a + d + 1)).2.2.1 lf n9
        omega
      · have := i4 e
        show lnM hd s.2.1 s.2.2.1 lf n9 < lnM hd (f (a + d + 1)).2.1 (f (a + d + 1)).2.2.1 lf n9
        omega
  obtain ⟨-, q2, q3, q4⟩ := key (b - a) (by omega)
  rw [show a + (b - a) = b by omega, f2] at q2 q3 q4
  exact ⟨q2, q3, q4⟩
/-- one step of the pass's walk: reached places are told a stack -/
theorem lnR_K {F X : tF} {G : Nat → Nat → Nat} {rs a b i : Nat} {k : Nat → Option (List tE)} {C : lnC} {Q : lnQ} {s t : lnT} (hc : ceI F X G rs a b k) (hn : C.2.2.2.2.2 ≤ 40) (ha : a ≤ i) (hb : i < b) (h : lnR F C Q i s t) (h1 : s.2.2.2.1 ≠ 0 → ∃ r : List tE, k i = some r) (h2 : rcK F k a b s.2.2.1) : (t.2.2.2.1 ≠ 0 → ∃ r : List tE, k (i + 1) = some r) ∧ rcK F k a b t.2.2.1 := fl_K hc ha hb (lnR_al hn h).2.1 h1 h2
/-- heads are told apart from their neighbours -/
theorem hd_ex {F X : tF} {G : Nat → Nat → Nat} {rs a b : Nat} {k : Nat → Option (List tE)} (hc : ceI F X G rs a b k) (hh : ∀ i : Nat, a ≤ i → i < b → F 0 i = 14 → ∃ L m : Nat, L < 1100 ∧ a ≤ m ∧ m < b ∧ F 1 i = nI L ∧ F 0 m = 13 ∧ F 1 m = nI (L + 1)) : ∃ hd : Nat → Bool, (∀ L : Nat, hd L = true → hd (L + 1) = false) ∧ ∀ i L : Nat, a ≤ i → i < b → F 0 i = 14 → F 1 i = nI L → L < 1100 → hd L = true := by
  refine ⟨fun L => @decide (L < 1101 ∧ ∃ i : Nat, a ≤ i ∧ i < b ∧ F 0 i = 14 ∧ F 1 i = nI L) (Classical.propDecidable _), fun L h => ?_, fun i L h1 h2 h3 h4 h5 => @decide_eq_true _ (Classical.propDecidable _) ⟨by omega, i, h1, h2, h3, h4⟩⟩
  obtain ⟨q0, i, q1, q2, q3, q4⟩ := @of_decide_eq_true _ (Classical.propDecidable _) h
  refine @decide_eq_false _ (Classical.propDecidable _) (fun ⟨p0, j, p1, p2, p3, p4⟩ => ?_)
  obtain ⟨M, m, m0, m1, m2, m3, m4, m5⟩ := hh i q1 q2 q3
  have e : M = L := (nI_eq (a := M) (b := L) (by omega) (by omega)).mp (m3.symm.trans q4)
  rw [e] at m5
  have e2 := ce_one hc p1 p2 (Or.inr p3) m1 m2 (Or.inl m4) p4 m5
  rw [e2, m4] at p3
  exact absurd p3 (by decide)
end
-- br.kz_cept.lean.txt
section
/-- the place of an instruction that ways come to has a type -/
theorem ce_pt {F X : tF} {G : Nat → Nat → Nat} {rs a b i : Nat} {k : Nat → Option (List tE)} (h : ceI F X G rs a b k) (ha : a ≤ i) (hb : i < b) (hk : ∃ r : List tE, k i = some r) : ∀ p : Nat, (F 0 i = nI 2 ∨ F 0 i = nI 3 ∨ F 0 i = nI 26) → F 1 i = nI p → p < 3001 → ∃ T : Nat, T ≤ 3039 ∧ F 10 p = nI T := fun p ho h1 hp => by
  obtain ⟨s, hs⟩ := hk
  have key : ∀ (p9 v9 n T : Nat) (pa ro mu : Int32), F 1 i = nI p9 → plI F X p9 v9 n T pa ro mu → ∃ T : Nat, T ≤ 3039 ∧ F 10 p = nI T := fun p9 v9 n T pa ro mu q1 q2 => by
    obtain ⟨⟨z1, -⟩, -, -, z2, -, -, -, -, z3, -⟩ := q2
    have e1 : p9 = p := (nI_eq (by omega) (by omega)).mp (q1.symm.trans h1)
    subst e1
    exact ⟨T, by omega, z3⟩
  rcases ho with ho | ho | ho
  · obtain ⟨p9, T, mu, q1, ⟨v9, n, pa, ro, q2⟩, -⟩ := ce_op h ha hb hs ho (by decide)
    exact key p9 v9 n T pa ro mu q1 q2
  · obtain ⟨p9, T, q1, ⟨v9, n, pa, ro, mu, q2, -⟩, -⟩ := ce_op h ha hb hs ho (by decide)
    exact key p9 v9 n T pa ro mu q1 q2
  · obtain ⟨p9, v9, n, T, pa, ro, mu, r, q1, q2, -⟩ := ce_op h ha hb hs ho (by decide)
    exact key p9 v9 n T pa ro mu q1 q2
end
