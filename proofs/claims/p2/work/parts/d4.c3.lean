/-- each bit of x is one of y -/
def iS (x y : Int32) : Prop := ∃ z : Int32, y = x ||| z
theorem iS_rf (x : Int32) : iS x x := ⟨x, (Int32.or_self).symm⟩
theorem iS_tr (x y z : Int32) (h1 : iS x y) (h2 : iS y z) : iS x z := by
  obtain ⟨a, rfl⟩ := h1
  obtain ⟨b, rfl⟩ := h2
  exact ⟨a ||| b, Int32.or_assoc _ _ _⟩
theorem iS_l (x y : Int32) : iS x (x ||| y) := ⟨y, rfl⟩
theorem iS_r (x y : Int32) : iS y (x ||| y) := ⟨x, Int32.or_comm _ _⟩
def mvp (s : mvT) : pT Int32 := (s.1, s.2.1, s.2.2.1, s.2.2.2.1, s.2.2.2.2.1)
theorem mvSd_p {n L : Nat} {s t : mvT} {rv : Int32} (h : mvSd n L s t rv) : pSd (fun x y => x ||| y) n L (mvp s) (mvp t) rv :=
  ⟨h.1, h.2.1, by show t.2.2.1 L ≠ 0; rw [h.2.2.1, pk_us]; exact nar1, fun M e => by show t.2.2.1 M = s.2.2.1 M; rw [h.2.2.1, pk_un e], by show (t.2.2.2.1, t.2.2.2.2.1) = (s.2.2.2.1, s.2.2.2.2.1); rw [h.2.2.2.1], h.2.2.2.2.1⟩
theorem mvSw_p {F : tF} {n tb : Nat} : ∀ {c : Nat} {s t : mvT}, mvSw F n tb c s t → pSw (fun x y => x ||| y) F n tb c (mvp s) (mvp t)
  | 0, s, t, h => congrArg mvp h
  | c + 1, s, t, h => by
    obtain ⟨u, L, rv, g1, g2, g3, g4⟩ := h
    exact ⟨mvp u, L, rv, mvSw_p g1, g2, g3, mvSd_p g4⟩
theorem mvR_p {F : tF} {n i : Nat} {et em az : Nat → Int32} {s t : mvT} (h : mvR F n et em az i s t) : pR (fun x y => x ||| y) F n i (mvp s) (mvp t) := by
  obtain ⟨o, ho, h33, h⟩ := h
  refine ⟨o, ho, h33, ?_⟩
  rcases h with ⟨hl, L, l1, l2, l3, l4, l5, h⟩ | ⟨n1, n2, h⟩
  · refine Or.inl ⟨hl, L, l1, l2, l3, l4, by show t.2.2.2.2.1 = s.2.2.2.2.1; rw [l5], ?_⟩
    rcases h with ⟨h1, h2⟩ | ⟨h1, h2, h3⟩
    · exact Or.inl ⟨h1, congrArg mvp h2⟩
    · exact Or.inr ⟨h1, fun v hv => by have := h2 v; rw [if_pos hv] at this; exact this, h3⟩
  · refine Or.inr ⟨n1, n2, ?_⟩
    rcases h with ⟨h1, h2⟩ | ⟨h1, h2⟩
    · exact Or.inl ⟨h1, congrArg mvp h2⟩
    · refine Or.inr ⟨h1, ?_⟩
      rcases mvLk_o o h2 with h2 | ⟨ho2, st, fi, h2⟩
      · refine ⟨fun e => ?_, fun e => ?_, fun e => ?_, fun e => ?_, fun e => ?_, fun a1 a2 a3 a4 a5 a6 a7 => ?_⟩
        · subst e
          obtain ⟨L, u, rv, q1, q2, q3, q4, q5, q6, -⟩ := h2
          refine ⟨L, mvp u, rv, q1, q2, mvSd_p q3, ?_⟩
          have e1 : t.1 = u.1 := congrArg (fun x : (Nat → Int32) × (Nat → Int32) × (Nat → Int32) => x.1) q4
          have e2 : t.2.1 = u.2.1 := congrArg (fun x : (Nat → Int32) × (Nat → Int32) × (Nat → Int32) => x.2.1) q4
          have e3 : t.2.2.1 = u.2.2.1 := congrArg (fun x : (Nat → Int32) × (Nat → Int32) × (Nat → Int32) => x.2.2) q4
          show (t.1, t.2.1, t.2.2.1, t.2.2.2.1, t.2.2.2.2.1) = _
          rw [e1, e2, e3, q5, q6]; rfl
        · subst e
          obtain ⟨L, u, rv, q1, q2, q3, q4⟩ := h2
          exact ⟨L, mvp u, rv, q1, q2, mvSd_p q3, congrArg mvp q4⟩
        · rcases e with rfl | rfl | rfl
          · obtain ⟨L, rv, q1, q2, q3⟩ := h2
            exact ⟨L, rv, q1, q2, mvSd_p q3⟩
          · obtain ⟨L, rv, q1, q2, q3⟩ := h2
            exact ⟨L, rv, q1, q2, mvSd_p q3⟩
          · obtain ⟨L, rv, q1, q2, q3⟩ := h2
            exact ⟨L, rv, q1, q2, mvSd_p q3⟩
        · subst e
          obtain ⟨tb, c, u, q1, q2, q3, q4, q5, q6⟩ := h2
          refine ⟨tb, c, mvp u, q1, q2, q3, q4, mvSw_p q5, ?_⟩
          rw [q6]
          show (u.1, u.2.1, u.2.2.1, (0 : Int32), u.2.2.2.2.1) = (u.1, u.2.1, u.2.2.1, 0, s.2.2.2.2.1)
          rw [(mvSw_ag q5).1]
        · subst e
          have h2 : t = (s.1, s.2.1, s.2.2.1, 0, s.2.2.2.2) := h2
          rw [h2]; rfl
        · rw [mvFl_o o a1 a2 a3 a4 a5 a6 a7 h2]
      · refine ⟨fun e => by omega, fun e => by omega, fun e => by omega, fun e => by omega, fun e => by omega, fun _ _ _ _ _ _ _ => ?_⟩
        rw [h2]; rfl
def lnp (s : lnT) : pT Int64 := (s.1, s.2.1, s.2.2.1, s.2.2.2.1, s.2.2.2.2.1)
theorem lnSd_p {n L : Nat} {s t : lnT} {rv : Int32} (h : lnSd n L s t rv) : pSd (fun x y => x ||| y) n L (lnp s) (lnp t) rv :=
  ⟨h.1, h.2.1, by show t.2.2.1 L ≠ 0; rw [h.2.2.1, pk_us]; exact nar1, fun M e => by show t.2.2.1 M = s.2.2.1 M; rw [h.2.2.1, pk_un e], by show (t.2.2.2.1, t.2.2.2.2.1) = (s.2.2.2.1, s.2.2.2.2.1); rw [h.2.2.2.1], h.2.2.2.2.1⟩
theorem lnSw_p {F : tF} {n tb : Nat} : ∀ {c : Nat} {s t : lnT}, lnSw F n tb c s t → pSw (fun x y => x ||| y) F n tb c (lnp s) (lnp t)
  | 0, s, t, h => congrArg lnp h
  | c + 1, s, t, h => by
    obtain ⟨u, L, rv, g1, g2, g3, g4⟩ := h
    exact ⟨lnp u, L, rv, lnSw_p g1, g2, g3, lnSd_p g4⟩
theorem lnPo_p {k : Nat} {s t : lnT} (h : lnPo k s t) : lnp t = lnp s := by
  obtain ⟨h1, h2, h3, h4, h5⟩ := lnPo_eq h
  show (t.1, t.2.1, t.2.2.1, t.2.2.2.1, t.2.2.2.2.1) = _
  rw [h1, h2, h3, h4, h5]; rfl
theorem lnR_p {F : tF} {C : lnC} {Q : lnQ} {i : Nat} {s t : lnT} (h : lnR F C Q i s t) : pR (fun x y => x ||| y) F C.2.2.2.2.2 i (lnp s) (lnp t) := by
  obtain ⟨o, ho, h33, h⟩ := h
  refine ⟨o, ho, h33, ?_⟩
  rcases h with ⟨hl, L, l1, l2, l3, l4, l5, h⟩ | ⟨n1, n2, h⟩
  · refine Or.inl ⟨hl, L, l1, l2, l3, l4, by show t.2.2.2.2.1 = s.2.2.2.2.1; rw [l5], ?_⟩
    rcases h with ⟨h1, h2⟩ | ⟨h1, h2, h3⟩
    · exact Or.inl ⟨h1, congrArg lnp h2⟩
    · exact Or.inr ⟨h1, fun v hv => by have := h2 v; rw [if_pos hv] at this; exact this, h3⟩
  · refine Or.inr ⟨n1, n2, ?_⟩
    rcases h with ⟨h1, h2⟩ | ⟨h1, h2⟩
    · exact Or.inl ⟨h1, congrArg lnp h2⟩
    · refine Or.inr ⟨h1, ?_⟩
      rcases lnLk_o o h2 with ⟨n22, h2⟩ | ⟨e22, g1, g2, g3, g4⟩ | ⟨ho2, n22, g1, g2, g3, g4⟩
      · refine ⟨fun e => ?_, fun e => ?_, fun e => ?_, fun e => ?_, fun e => absurd e n22, fun a1 a2 a3 a4 a5 a6 _ => ?_⟩
        · subst e
          obtain ⟨L, u, rv, q1, q2, q3, q4⟩ := h2
          exact ⟨L, lnp u, rv, q1, q2, lnSd_p q3, congrArg lnp q4⟩
        · subst e
          obtain ⟨L, u, rv, q1, q2, q3, q4⟩ := h2
          exact ⟨L, lnp u, rv, q1, q2, lnSd_p q3, congrArg lnp q4⟩
        · rcases e with rfl | rfl | rfl
          · obtain ⟨L, u, rv, q1, q2, q3, q4⟩ := h2
            exact ⟨L, rv, q1, q2, by rw [← lnPo_p q3]; exact lnSd_p q4⟩
          · obtain ⟨L, u, rv, q1, q2, q3, q4⟩ := h2
            exact ⟨L, rv, q1, q2, by rw [← lnPo_p q3]; exact lnSd_p q4⟩
          · obtain ⟨L, u, rv, q1, q2, q3, q4⟩ := h2
            exact ⟨L, rv, q1, q2, by rw [← lnPo_p q3]; exact lnSd_p q4⟩
        · subst e
          obtain ⟨tb, c, u, v, q1, q2, q3, q4, q5, q6, q7⟩ := h2
          exact ⟨tb, c, lnp v, q1, q2, q3, q4, by rw [← lnPo_p q5]; exact lnSw_p q6, congrArg lnp q7⟩
        · rw [lnFl_o o a1 a2 a3 a4 a5 a6 h2]
      · refine ⟨fun e => by omega, fun e => by omega, fun e => by omega, fun e => by omega, fun _ => ?_, fun _ _ _ _ _ _ e => absurd e22 e⟩
        show (t.2.1, t.2.2.1, t.2.2.2.1, t.2.2.2.2.1) = _
        rw [g1, g2, g3, g4]; rfl
      · refine ⟨fun e => by omega, fun e => by omega, fun e => by omega, fun e => by omega, fun e => absurd e n22, fun _ _ _ _ _ _ _ => ?_⟩
        show (t.2.1, t.2.2.1, t.2.2.2.1, t.2.2.2.2.1) = _
        rw [g1, g2, g3, g4]; rfl
