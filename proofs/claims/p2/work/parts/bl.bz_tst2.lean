/-- the same behind the first instruction -/
def tCq (X : tF) (nw q : Nat) (s : tgS) : Prop := s.1 0 + 2 * (q - nw) ≤ 6001 ∧ 2 * s.1 1 + 2 * (cL X q - cL X nw) ≤ 2200 ∧ s.1 2 + (q - nw) ≤ 3000 ∧ s.1 3 + 2 * (q - nw) ≤ 2978 ∧ s.1 7 + (q - nw) ≤ 3039
theorem tCp_q {X : tF} {nw q : Nat} {s : tgS} (h : tCp X nw q s) : tCq X nw q s := by
  obtain ⟨a, b⟩ := h
  exact ⟨by omega, b⟩
theorem tCq_sub {X : tF} {nw q nw1 q1 : Nat} {s : tgS} (h : tCq X nw q s) (h1 : nw ≤ nw1) (h2 : q1 ≤ q) (h3 : nw1 ≤ q1 ∧ q1 + nw < q + nw1) : tCp X nw1 q1 s := by
  obtain ⟨a, b, c, d, e⟩ := h
  have := cL_le (X := X) h1
  have := cL_le (X := X) h2
  exact ⟨by omega, by omega, by omega, by omega, by omega⟩
/-- variables below n that are there all over the code from a to b -/
def scI (F : tF) (n a b : Nat) (O : List tE) : Prop := ∀ x : tE, x ∈ O → ∃ v f e : Nat, x = (8, v, 0) ∧ v < n ∧ F 18 v = nI f ∧ f ≤ a ∧ F 19 v = nI e ∧ b ≤ e ∧ e ≤ 2 ^ 30
theorem scI_vl {F : tF} {n a b : Nat} : ∀ {O : List tE}, scI F n a b O → vl O = 0
  | [], _ => rfl
  | x :: O, h => by
    obtain ⟨v, f, e, hx, -⟩ := h x (List.mem_cons.mpr (Or.inl rfl))
    have h2 := scI_vl (O := O) (fun y hy => h y (List.mem_cons.mpr (Or.inr hy)))
    show vl O + (if x.1 = 8 then 0 else if x.1 = 4 ∨ x.1 = 5 ∨ x.1 = 6 then 211 else 1) = 0
    rw [hx, h2, if_pos rfl]
theorem sc_no {F : tF} {n a b : Nat} {O : List tE} (h : scI F n a b O) : ∀ x : tE, x ∈ O → x ≠ (8, n, 0) := fun x hx e => by
  obtain ⟨v, f, g, e2, hv, -⟩ := h x hx
  rw [e2] at e
  injection e with e3 e4
  injection e4 with e5 e6
  omega
theorem scI_nil {F : tF} {n a b : Nat} : scI F n a b [] := fun x hx => by cases hx
theorem scI_sub {F : tF} {n n2 a a2 b b2 : Nat} {O : List tE} (h : scI F n a b O) (hn : n ≤ n2) (ha : a ≤ a2) (hb : b2 ≤ b) : scI F n2 a2 b2 O := fun x hx => by
  obtain ⟨v, f, e, h1, h2, h3, h4, h5, h6, h7⟩ := h x hx
  exact ⟨v, f, e, h1, by omega, h3, by omega, h5, by omega, h7⟩
theorem scI_app {F : tF} {n a b : Nat} {N O : List tE} (h1 : scI F n a b N) (h2 : scI F n a b O) : scI F n a b (N ++ O) := fun x hx => (List.mem_append.mp hx).elim (h1 x) (h2 x)
/-- variables from fi on that haven't ended in t -/
def tnwA (fi : Nat) (t : tgS) (N : List tE) : Prop := ∀ x : tE, x ∈ N → ∃ v f : Nat, x = (8, v, 0) ∧ fi ≤ v ∧ v < t.1 4 ∧ t.2 19 v = 1073741824 ∧ t.2 18 v = nI f ∧ f ≤ t.1 0
theorem tnwA_nil {fi : Nat} {t : tgS} : tnwA fi t [] := fun x hx => by cases hx
theorem tnwA_no {fi : Nat} {t : tgS} {N : List tE} (h : tnwA fi t N) (h4 : t.1 4 ≤ fi) : N = [] := by
  cases N with
  | nil => rfl
  | cons x N =>
    obtain ⟨v, f, -, h1, h2, -⟩ := h x (List.mem_cons.mpr (Or.inl rfl))
    omega
theorem tnwA_x {fi : Nat} {u t : tgS} {N : List tE} (h : tnwA fi u N) (hx : tXt u t) (hp : tOp u t) : tnwA fi t N := fun x hx9 => by
  obtain ⟨v, f, h1, h2, h3, h4, h5, h6⟩ := h x hx9
  have c0 := hx.1 0 (by decide); have c4 := hx.1 4 (by decide)
  exact ⟨v, f, h1, h2, by omega, (hp v h3).trans h4, ((hx.2.2.2.2.2 v h3).2.2.1).trans h5, by omega⟩
theorem tnwA_app {fi : Nat} {t : tgS} {M N : List tE} (h1 : tnwA fi t M) (h2 : tnwA fi t N) : tnwA fi t (M ++ N) := fun x hx => (List.mem_append.mp hx).elim (h1 x) (h2 x)
theorem tnwA_le {fi fj : Nat} {t : tgS} {N : List tE} (h : tnwA fj t N) (hf : fi ≤ fj) : tnwA fi t N := fun x hx => by
  obtain ⟨v, f, h1, h2, h3⟩ := h x hx
  exact ⟨v, f, h1, by omega, h3⟩
/-- such ones are there all over what came -/
theorem tnwA_sc {fi m : Nat} {F : tF} {u t : tgS} {N : List tE} (h : tnwA fi u N) (hx : tXt u t) (hp : tOp u t) (hF : tFu t F) (hm : u.1 0 ≤ m) : scI F (u.1 4) m (t.1 0) N := fun x hx9 => by
  obtain ⟨v, f, h1, h2, h3, h4, h5, h6⟩ := h x hx9
  have c4 := hx.1 4 (by decide)
  obtain ⟨g1, g2, g3, g4, g5⟩ := hF.2 v (by omega)
  obtain ⟨e, e1, e2, e3⟩ := g5 ((hp v h3).trans h4)
  exact ⟨v, f, e, h1, h3, g3.trans (((hx.2.2.2.2.2 v h3).2.2.1).trans h5), by omega, e1, e2, e3⟩
/-- the other variables from fi on have ended -/
def nwC (fi : Nat) (t : tgS) (N : List tE) : Prop := ∀ v : Nat, fi ≤ v → v < t.1 4 → (8, v, 0) ∈ N ∨ ∃ e : Nat, t.2 19 v = nI e ∧ e ≤ t.1 0 ∧ e < 2 ^ 30
def nwI (fi : Nat) (t : tgS) (N : List tE) : Prop := tnwA fi t N ∧ nwC fi t N
theorem nwC_0 {fi : Nat} {t : tgS} {N : List tE} (h : t.1 4 ≤ fi) : nwC fi t N := fun v h1 h2 => absurd h2 (by omega)
theorem nwI_0 {fi : Nat} {t : tgS} (h : t.1 4 ≤ fi) : nwI fi t [] := ⟨tnwA_nil, nwC_0 h⟩
theorem nwC_1 {n : Nat} {t : tgS} (h : t.1 4 ≤ n + 1) : nwC n t [(8, n, 0)] := fun v h1 h2 => Or.inl (by rw [show v = n by omega]; exact List.mem_singleton.mpr rfl)
theorem nwC_x {fi : Nat} {u t : tgS} {N : List tE} (h : nwC fi u N) (hx : tXt u t) (hp : tOp u t) (h4 : t.1 4 ≤ u.1 4) : nwC fi t N := fun v h1 h2 => by
  have c0 := hx.1 0 (by decide)
  rcases h v h1 (by omega) with q | ⟨e, q1, q2, q3⟩
  · exact Or.inl q
  · exact Or.inr ⟨e, (hp v (by omega)).trans q1, by omega, q3⟩
theorem nwC_cat {fi : Nat} {u t : tgS} {M N : List tE} (h1 : nwC fi u M) (h2 : nwC (u.1 4) t N) (hx : tXt u t) (hp : tOp u t) : nwC fi t (N ++ M) := fun v a b => by
  have c0 := hx.1 0 (by decide)
  rcases Nat.lt_or_ge v (u.1 4) with c | c
  · rcases h1 v a c with q | ⟨e, q1, q2, q3⟩
    · exact Or.inl (List.mem_append_right _ q)
    · exact Or.inr ⟨e, (hp v c).trans q1, by omega, q3⟩
  · rcases h2 v c b with q | q
    · exact Or.inl (List.mem_append_left _ q)
    · exact Or.inr q
theorem scX_nw {n a : Nat} {F : tF} {u : tgS} {O N : List tE} (h : scX n F a O) (hN : nwC n u N) (hF : tFu u F) (ha : a ≤ u.1 0) : scX (u.1 4) F (u.1 0) (N ++ O) := fun v e h1 h2 h3 h4 => by
  rcases Nat.lt_or_ge v n with c | c
  · exact List.mem_append_right _ (h v e c h2 h3 (by omega))
  · rcases hN v c h1 with q | ⟨e0, q1, q2, q3⟩
    · exact List.mem_append_left _ q
    · have z := ((hF.2 v h1).2.2.2.1 (by rw [q1]; exact open_ne q3)).trans q1
      have := (nI_eq (a := e) (b := e0) (by omega) (by omega)).mp (h2.symm.trans z)
      omega
def scJ (F : tF) (n a b : Nat) (O : List tE) : Prop := scI F n a b O ∧ scX n F a O
theorem scJ_sub {F : tF} {n a a2 b b2 : Nat} {O : List tE} (h : scJ F n a b O) (ha : a ≤ a2) (hb : b2 ≤ b) : scJ F n a2 b2 O := ⟨scI_sub h.1 (Nat.le_refl _) ha hb, scX_m h.2 ha⟩
/-- a statement's code: N: the variable it brings, r: whether all its ways return -/
def tSm (X : tF) (G : Nat → Nat → Nat) (rs n : Nat) (N : List tE) (r : Int32) : tR := fun F a b => ∀ (J : Int32 → List tE → Prop) (O : List tE), scJ F n a b O → sg F X G rs J a b (some O) (if r = 1 then none else some (N ++ O))
theorem tOK_sq {lo n0 n1 n2 n3 n7 m0 m1 m2 m3 m7 k0 k1 k2 k3 k7 : Nat} {s u t : tgS} {R1 R2 R : tR} (h1 : tOK lo n0 n1 n2 n3 n7 s u R1) (h2 : tOK lo m0 m1 m2 m3 m7 u t R2) (hn : n0 + m0 ≤ k0 ∧ n1 + m1 ≤ k1 ∧ n2 + m2 ≤ k2 ∧ n3 + m3 ≤ k3 ∧ n7 + m7 ≤ k7) (hR : ∀ F : tF, tAg s t F → R1 F (s.1 0) (u.1 0) → R2 F (u.1 0) (t.1 0) → R F (s.1 0) (t.1 0)) : tOK lo k0 k1 k2 k3 k7 s t R := by
  obtain ⟨q1, q2, q3, -⟩ := tOK_seq h1 h2
  exact ⟨q1, q2, by omega, fun F hF => hR F hF (h1.2.2.2 F (tAg_l hF h2.1 h1.1)) (h2.2.2.2 F (tAg_r hF h1.1))⟩
/-- the same where variables from fi on may have been closed -/
def tOKb (fi lo n0 n1 n2 n3 n7 : Nat) (s t : tgS) (R : tR) : Prop := tXt s t ∧ ((∀ i : Nat, s.1 0 ≤ i → i < t.1 0 → isL (t.2 0 i) → ∃ L : Nat, lo ≤ L ∧ L < t.1 1 ∧ t.2 1 i = nI L) ∧ ∀ v : Nat, v < fi → t.2 19 v = s.2 19 v) ∧ (t.1 0 ≤ s.1 0 + n0 ∧ 2 * t.1 1 ≤ 2 * s.1 1 + n1 ∧ t.1 2 ≤ s.1 2 + n2 ∧ t.1 3 ≤ s.1 3 + n3 ∧ t.1 7 ≤ s.1 7 + n7) ∧ ∀ F : tF, tAg s t F → R F (s.1 0) (t.1 0)
theorem tOKb_of {fi lo n0 n1 n2 n3 n7 : Nat} {s t : tgS} {R : tR} (h : tOK lo n0 n1 n2 n3 n7 s t R) (hf : fi ≤ s.1 4) : tOKb fi lo n0 n1 n2 n3 n7 s t R := ⟨h.1, ⟨h.2.1.1, fun v hv => h.2.1.2 v (by omega)⟩, h.2.2⟩
theorem tOKb_ok {lo n0 n1 n2 n3 n7 : Nat} {s t : tgS} {R : tR} (h : tOKb (s.1 4) lo n0 n1 n2 n3 n7 s t R) : tOK lo n0 n1 n2 n3 n7 s t R := h
theorem tOKb_sq {fi lo n0 n1 n2 n3 n7 m0 m1 m2 m3 m7 k0 k1 k2 k3 k7 : Nat} {s u t : tgS} {R1 R2 R : tR} (h1 : tOKb fi lo n0 n1 n2 n3 n7 s u R1) (h2 : tOKb fi lo m0 m1 m2 m3 m7 u t R2) (hn : n0 + m0 ≤ k0 ∧ n1 + m1 ≤ k1 ∧ n2 + m2 ≤ k2 ∧ n3 + m3 ≤ k3 ∧ n7 + m7 ≤ k7) (hR : ∀ F : tF, tAg s t F → R1 F (s.1 0) (u.1 0) → R2 F (u.1 0) (t.1 0) → R F (s.1 0) (t.1 0)) : tOKb fi lo k0 k1 k2 k3 k7 s t R := by
  obtain ⟨a1, a2, a3, a4⟩ := h1
  obtain ⟨b1, b2, b3, b4⟩ := h2
  refine ⟨tXt_tr a1 b1, ⟨fun i hi hj hL => ?_, fun v hv => (b2.2 v hv).trans (a2.2 v hv)⟩, by omega, fun F hF => hR F hF (a4 F (tAg_l hF b1 a1)) (b4 F (tAg_r hF a1))⟩
  have c1 := b1.1 1 (by decide)
  rcases Nat.lt_or_ge i (u.1 0) with c | c
  · rw [b1.2.1 0 (by decide) i c] at hL
    obtain ⟨L, q1, q2, q3⟩ := a2.1 i hi c hL
    exact ⟨L, q1, by omega, (b1.2.1 1 (by decide) i c).trans q3⟩
  · exact b2.1 i c hj hL
/-- behind statements: at any time; while there is no fault -/
def tSb0 (tt nw2 b v : Nat) (ft2 : Int32) (s t : tgS) (r : Int32) (qt2 qv2 ql2 : Nat) (qp2 qm2 : Int32) : Prop := nw2 < tt ∧ (ft2 ≠ 0 → nw2 = tt - 1) ∧ tJ t ∧ tQ qt2 qv2 ql2 qp2 qm2 ∧ (s.1 4 ≤ t.1 4 ∧ t.1 4 ≤ s.1 4 + v) ∧ t.1 5 ≤ s.1 5 + b ∧ (r = 0 ∨ r = 1)
def tSs (c yp : Nat) (X : tF) (G : Nat → Nat → Nat) (rs tt nw q nw2 b v : Nat) (ft ft2 : Int32) (s t : tgS) (r : Int32) (qt2 qv2 ql2 : Nat) (qp2 qm2 : Int32) : Prop := tSb0 tt nw2 b v ft2 s t r qt2 qv2 ql2 qp2 qm2 ∧ (ft2 = 0 → ft = 0 ∧ nw2 = q ∧ tI yp X t ∧ ∃ N : List tE, nwI (s.1 4) t N ∧ tOK (s.1 1) (2 * (q - nw) - c) (2 * (cL X q - cL X nw)) (q - nw) (2 * (q - nw)) (q - nw) s t (tSm X G rs (s.1 4) N r))
/-- a statement behind others -/
theorem tSs_seq {yp rs tt nw p q n1 n2 b1 b2 v1 v2 : Nat} {X : tF} {G : Nat → Nat → Nat} {ft f1 f2 : Int32} {s u t : tgS} {r1 r2 r : Int32} {qt1 qv1 ql1 qt2 qv2 ql2 : Nat} {qp1 qm1 qp2 qm2 : Int32} (h1 : tSs 0 yp X G rs tt nw p n1 b1 v1 ft f1 s u r1 qt1 qv1 ql1 qp1 qm1) (h2 : tSs 0 yp X G rs tt p q n2 b2 v2 f1 f2 u t r2 qt2 qv2 ql2 qp2 qm2) (hp : f1 = 0 → nw ≤ p ∧ p ≤ q) (hr : r = if r1 = 1 then 1 else r2) : tSs 0 yp X G rs tt nw q n2 (b1 + b2) (v1 + v2) ft f2 s t r qt2 qv2 ql2 qp2 qm2 := by
  obtain ⟨⟨a1, a2, a3, a4, a5, a6, a7⟩, ha⟩ := h1
  obtain ⟨⟨b1', b2', b3, b4, b5, b6, b7⟩, hb⟩ := h2
  refine ⟨⟨b1', b2', b3, b4, by omega, by omega, ?_⟩, fun z => ?_⟩
  · rw [hr]
    by_cases e : r1 = 1
    · rw [if_pos e]; exact Or.inr rfl
    · rw [if_neg e]; exact b7
  obtain ⟨c1, c2, c3, N2, c4, c5⟩ := hb z
  obtain ⟨d1, d2, d3, N1, d4, d5⟩ := ha c1
  obtain ⟨p1, p2⟩ := hp c1
  have hlo := d5.1.1 1 (by decide)
  have l1 := cL_le (X := X) p1; have l2 := cL_le (X := X) p2
  have h04 := d5.1.1 4 (by decide)
  refine ⟨d1, c2, c3, N2 ++ N1, ⟨tnwA_app (tnwA_le c4.1 h04) (tnwA_x d4.1 c5.1 c5.2.1.2), nwC_cat d4.2 c4.2 c5.1 c5.2.1.2⟩, tOK_sq d5 (tOK_lo (lo2 := s.1 1) c5 hlo) (by omega) (fun F hF y1 y2 J O hO => ?_)⟩
  have m1 := d5.1.1 0 (by decide); have m2 := c5.1.1 0 (by decide)
  have x1 := y1 J O (scJ_sub hO (Nat.le_refl _) m2)
  have hNO : scJ F (u.1 4) (u.1 0) (t.1 0) (N1 ++ O) := ⟨scI_app (tnwA_sc d4.1 c5.1 c5.2.1.2 hF.2.2.2 (Nat.le_refl _)) (scI_sub hO.1 h04 m1 (Nat.le_refl _)), scX_nw hO.2 d4.2 (tFu_dn hF.2.2.2 c5.1) m1⟩
  rw [hr]
  by_cases e : r1 = 1
  · rw [if_pos e, if_pos rfl]
    rw [if_pos e] at x1
    exact sg_app x1 (sg_kill (y2 J (N1 ++ O) hNO)) m1 m2
  · rw [if_neg e]
    rw [if_neg e] at x1
    have x2 := y2 J (N1 ++ O) hNO
    rw [List.append_assoc]
    exact sg_app x1 x2 m1 m2
theorem tSs_0 {yp rs tt nw : Nat} {X : tF} {G : Nat → Nat → Nat} {ft : Int32} {s : tgS} {qt qv ql : Nat} {qp qm : Int32} (hn : nw < tt) (hf : ft ≠ 0 → nw = tt - 1) (hJ : tJ s) (hQ : tQ qt qv ql qp qm) (hI : ft = 0 → tI yp X s) : tSs 0 yp X G rs tt nw nw nw 0 0 ft ft s s 0 qt qv ql qp qm := by
  refine ⟨⟨hn, hf, hJ, hQ, by omega, by omega, Or.inl rfl⟩, fun z => ⟨z, rfl, hI z, [], nwI_0 (Nat.le_refl _), tOK_mn tOK_rf (Nat.le_refl _) (by omega) (fun F hF y J O hO => ?_)⟩⟩
  rw [if_neg (by decide)]
  have hv := scI_vl hO.1
  show sg F X G rs J (s.1 0) (s.1 0) (some O) (some O)
  exact sg_nil (vs (show vl O ≤ 211 by omega))
/-- FUEL ahead of a statement -/
theorem v_fuel {lo rs n : Nat} {X : tF} {G : Nat → Nat → Nat} {s t : tgS} (h : tAd s t 23 0 0 0 (-1)) (hc : s.1 0 < 6000) : tOK lo 1 0 0 0 0 s t (tSm X G rs n [] 0) := by
  refine tOK_mono (tOK_ad (lo := lo) h hc (by unfold isL; decide)) (Nat.le_refl _) (by omega) (fun F a b hab hF hR J O hO => ?_)
  obtain ⟨rfl, g0, -⟩ := hR
  have hv := scI_vl hO.1
  rw [if_neg (by decide)]
  show sg F X G rs J a (a + 1) (some O) (some O)
  exact sg_one (o := 23) g0 (show 23 < 33 by decide) (by omega) (vs (show vl O ≤ 211 by omega)) (fun k hk => hk)
/-- a value, then one instruction that takes it -/
theorem s_val {rs k T : Nat} {X : tF} {G : Nat → Nat → Nat} {F : tF} {a m : Nat} {J : Int32 → List tE → Prop} {O : List tE} {n e : Nat} (hrs : rs < 4096) (hk : k ≤ 16) (h : tVl n X G (rs + 4096 * k) T F a m) (hO : scJ F n a e O) : sg F X G rs J a m (some O) (some (tNf F T :: O)) := by
  have hv := scI_vl hO.1
  have e1 : rT (rs + 4096 * k) = rs := by unfold rT; omega
  have x := sgw_sg (h J O hO.2 (by unfold rB; omega))
  rw [e1] at x
  exact x
theorem vl_8 {v : Nat} {O : List tE} : vl ((8, v, 0) :: O) = vl O := by
  show vl O + (if (8 : Nat) = 8 then 0 else if (8 : Nat) = 4 ∨ (8 : Nat) = 5 ∨ (8 : Nat) = 6 then 211 else 1) = vl O
  rw [if_pos rfl, Nat.add_zero]
theorem tOK_nc {lo n0 n1 n2 n3 n7 : Nat} {s u t : tgS} {R : tR} (h1 : tOK lo n0 n1 n2 n3 n7 s u R) (h2 : tOK lo 0 0 0 0 0 u t (fun _ a b => b = a)) : tOK lo n0 n1 n2 n3 n7 s t R := tOK_sq h1 h2 (by omega) (fun F hF y1 y2 => by
  have y2 : t.1 0 = u.1 0 := y2
  rw [y2]; exact y1)
/-- FUEL, then what the statement is -/
theorem l_fuel {yp rs tt nw q nw2 b v : Nat} {X : tF} {G : Nat → Nat → Nat} {ft ft2 : Int32} {s u t : tgS} {r : Int32} {qt2 qv2 ql2 : Nat} {qp2 qm2 : Int32} (hA : tAd s u 23 0 0 0 (-1)) (h : tSs 1 yp X G rs tt nw q nw2 b v ft ft2 u t r qt2 qv2 ql2 qp2 qm2) (hc : s.1 0 < 6000) (hq : nw < q) : tSs 0 yp X G rs tt nw q nw2 b v ft ft2 s t r qt2 qv2 ql2 qp2 qm2 := by
  obtain ⟨⟨a1, a2, a3, a4, a5, a6, a7⟩, h2⟩ := h
  have u4 := hA.1 4 (by decide); have u5 := hA.1 5 (by decide); have u1 := hA.1 1 (by decide)
  refine ⟨⟨a1, a2, a3, a4, by omega, by omega, a7⟩, fun z => ?_⟩
  obtain ⟨b1, b2, b3, N, b4, b5⟩ := h2 z
  rw [u1] at b5
  rw [u4] at b4 b5
  refine ⟨b1, b2, b3, N, b4, tOK_sq (v_fuel (lo := s.1 1) (X := X) (G := G) (rs := rs) (n := s.1 4) hA hc) b5 (by omega) (fun F hF y1 y2 J O hO => ?_)⟩
  have m1 := (tXt_ad hA hc).1 0 (by decide); have m2 := b5.1.1 0 (by decide)
  have x1 := y1 J O (scJ_sub hO (Nat.le_refl _) m2)
  rw [if_neg (by decide)] at x1
  exact sg_app x1 (y2 J O (scJ_sub hO m1 (Nat.le_refl _))) m1 m2
/-- let with an exp -/
theorem l_let {yp rs k tt nw p0 p q n1 n3 b T z : Nat} {X : tF} {G : Nat → Nat → Nat} {ft f1 f2 na mu : Int32} {s u w x t : tgS} {qv ql : Nat} {qp qm : Int32} (hv : tRw yp X G (rs + 4096 * k) tt p0 p n1 b ft f1 s u T qv ql qp qm) (hrs : rs < 4096) (hk : k ≤ 16) (hD : tDe u w na mu (nI (u.1 0))) (hS : tSe w x (s.1 4) T z) (hz : u.2 22 T = nI z ∧ z ≤ 17) (hA : tAd x t 24 (nI (s.1 4)) 0 0 (-1)) (hJ : tJ t) (h4 : s.1 4 < 40) (hn : n3 < tt) (hf : f2 ≠ 0 → n3 = tt - 1) (h2 : f2 = 0 → f1 = 0 ∧ n3 = q ∧ T ≠ 0) (hp : f2 = 0 → nw + 2 ≤ p0 ∧ p0 < p ∧ p < q) (hcp : ft = 0 → tCq X nw q s) : tSs 1 yp X G rs tt nw q n3 b 1 ft f2 s t 0 T qv ql qp qm := by
  obtain ⟨⟨a1, a2, a3, a4, a5, a6⟩, h5⟩ := hv
  have t4 : t.1 4 = s.1 4 + 1 := by rw [hA.1 4 (by decide), hS.2.1 4 (by decide), hD.1, a5]
  have t5 : t.1 5 = u.1 5 := by rw [hA.1 5 (by decide), hS.2.1 5 (by decide), hD.2.1 5 (by decide)]
  refine ⟨⟨hn, hf, hJ, a4, by omega, by omega, Or.inl rfl⟩, fun y => ?_⟩
  obtain ⟨y1, y2, y3⟩ := h2 y
  obtain ⟨p1, p2, p3⟩ := hp y
  obtain ⟨e1, e2, e3, e4, e5⟩ := h5 y1
  obtain ⟨c0, c1, c2, c3, c7⟩ := hcp e1
  have cl1 := cL_le (X := X) (show nw ≤ p0 by omega); have cl2 := cL_le (X := X) (show p ≤ q by omega); have cl3 := cL_le (X := X) (show p0 ≤ p by omega)
  obtain ⟨r0, r1, r2, r3, r7⟩ := e5.2.2.1
  have hV : tyV yp (u.1 7) (u.2 20) T := e4.elim (fun z => absurd z y3) id
  have w7 := hD.2.1 7 (by decide); have w0 := hD.2.1 0 (by decide); have x0 := hS.2.1 0 (by decide)
  have hu9 : w.2 15 (s.1 4) = -1 := by rw [hD.2.2.2.2.1, a5, pk_us]
  have hx0 : x.1 0 < 6000 := by omega
  have hIw := tI_de e3 hD
  have hIx := tI_se hIw hS (by rw [hD.1]; omega) hu9 (by rw [w7, hD.2.2.1 20 (by decide)]; exact hV) (by rw [hD.2.2.1 22 (by decide)]; exact hz.1) hz.2 (by rw [hD.1]; omega)
  have hIt := tI_ad hIx hA hx0 (by unfold isL; decide)
  have hT7 : T < u.1 7 := hV.2
  have hT30 : u.1 7 ≤ 3040 := e3.1.2.1
  have t18 : t.2 18 (s.1 4) = nI (x.1 0) := by rw [hA.2.1 18 (by decide), hS.2.2.1 18 (by decide) (by decide), hD.2.2.2.2.2.2.2.1, a5, pk_us, x0, w0]
  have t19 : t.2 19 (s.1 4) = 1073741824 := by rw [hA.2.1 19 (by decide), hS.2.2.1 19 (by decide) (by decide), hD.2.2.2.2.2.2.2.2, a5, pk_us]
  have t15 : t.2 15 (s.1 4) = nI T := by rw [hA.2.1 15 (by decide), hS.2.2.2.1, pk_us]
  have t0 : t.1 0 = x.1 0 + 1 := (insA_lt hA.2.2.1 hx0).1
  have h3 := tOK_nc (tOK_nc e5 (tOK_de (lo := s.1 1) hD)) (tOK_se (lo := s.1 1) hS hu9)
  refine ⟨e1, y2, hIt, [(8, s.1 4, 0)], ⟨fun x9 hx9 => ?_, nwC_1 (by omega)⟩, tOK_sq h3 (tOK_ad (lo := s.1 1) hA hx0 (by unfold isL; decide)) (by omega) (fun F hF g1 g2 J O hO => ?_)⟩
  · rw [List.mem_singleton] at hx9
    exact ⟨s.1 4, x.1 0, hx9, Nat.le_refl _, by omega, t19, t18, by omega⟩
  · rw [if_neg (by decide)]
    have m1 := h3.1.1 0 (by decide)
    have hv0 := scI_vl hO.1
    have x1 := s_val (J := J) hrs hk g1 hO
    obtain ⟨b1, k0, k1, -⟩ := g2
    rw [b1]
    obtain ⟨f1', f2', f3', -⟩ := hF.2.2.2.2 (s.1 4) (by omega)
    refine sg_app x1 (sg_one (o := 24) k0 ⟨s.1 4, k1, h4⟩ (sg_end x1 m1) (vs (show vl ((8, s.1 4, 0) :: O) ≤ 211 by rw [vl_8]; omega)) (fun k hk9 => ⟨s.1 4, T, O, h4, k1, ?_, by omega, f3'.trans t18, sc_no hO.1, rfl, hk9⟩)) m1 (Nat.le_succ _)
    rw [(f1' (by rw [t15]; exact nI_ne1 (by omega))).1, t15]
/-- let without one -/
theorem l_letn {yp rs tt nw q n3 b : Nat} {X : tF} {G : Nat → Nat → Nat} {ft f2 na mu : Int32} {s u w x t : tgS} {lo n7 : Nat} {qt qv ql : Nat} {qp qm : Int32} (hU : f2 = 0 → ft = 0 ∧ n3 = q ∧ tI yp X u ∧ tOK (s.1 1) 0 0 0 0 n7 s u (fun _ a b => b = a)) (hD : tDe u w na mu (nI (u.1 0))) (hS : x = w ∨ ∃ T z : Nat, tSe w x (s.1 4) T z ∧ (f2 = 0 → tyV yp (u.1 7) (u.2 20) T ∧ u.2 22 T = nI z ∧ z ≤ 17)) (hA : tAd x t 25 (nI (s.1 4)) 0 0 (-1)) (hJ : tJ t) (hQ : tQ qt qv ql qp qm) (hu4 : u.1 4 = s.1 4) (hu5 : u.1 5 ≤ s.1 5 + b) (h4 : s.1 4 < 40) (hn : n3 < tt) (hf : f2 ≠ 0 → n3 = tt - 1) (hp : f2 = 0 → nw + 3 ≤ q ∧ n7 ≤ q - nw) (hcp : ft = 0 → tCq X nw q s) : tSs 1 yp X G rs tt nw q n3 b 1 ft f2 s t 0 qt qv ql qp qm := by
  have hx4 : x.1 4 = w.1 4 ∧ x.1 5 = w.1 5 ∧ x.1 0 = w.1 0 ∧ x.2 18 = w.2 18 ∧ x.2 19 = w.2 19 := by
    rcases hS with rfl | ⟨T, z, hS, -⟩
    · exact ⟨rfl, rfl, rfl, rfl, rfl⟩
    · exact ⟨hS.2.1 4 (by decide), hS.2.1 5 (by decide), hS.2.1 0 (by decide), hS.2.2.1 18 (by decide) (by decide), hS.2.2.1 19 (by decide) (by decide)⟩
  obtain ⟨x4, x5, x0, x18, x19⟩ := hx4
  have t4 : t.1 4 = s.1 4 + 1 := by rw [hA.1 4 (by decide), x4, hD.1, hu4]
  have t5 : t.1 5 = u.1 5 := by rw [hA.1 5 (by decide), x5, hD.2.1 5 (by decide)]
  refine ⟨⟨hn, hf, hJ, hQ, by omega, by omega, Or.inl rfl⟩, fun y => ?_⟩
  obtain ⟨e1, e2, e3, e5⟩ := hU y
  obtain ⟨p1, p2⟩ := hp y
  obtain ⟨c0, c1, c2, c3, c7⟩ := hcp e1
  obtain ⟨r0, r1, r2, r3, r7⟩ := e5.2.2.1
  have w7 := hD.2.1 7 (by decide); have w0 := hD.2.1 0 (by decide)
  have hu9 : w.2 15 (s.1 4) = -1 := by rw [hD.2.2.2.2.1, hu4, pk_us]
  have hx0 : x.1 0 < 6000 := by omega
  have hIw := tI_de e3 hD
  have hIx : tI yp X x ∧ tOK (s.1 1) 0 0 0 0 0 w x (fun _ a b => b = a) := by
    rcases hS with rfl | ⟨T, z, hS, hT⟩
    · exact ⟨hIw, tOK_mn tOK_rf (Nat.le_refl _) (by omega) (fun F hF y => rfl)⟩
    · obtain ⟨g1, g2, g3⟩ := hT y
      exact ⟨tI_se hIw hS (by rw [hD.1]; omega) hu9 (by rw [w7, hD.2.2.1 20 (by decide)]; exact g1) (by rw [hD.2.2.1 22 (by decide)]; exact g2) g3 (by rw [hD.1]; omega), tOK_se (lo := s.1 1) hS hu9⟩
  have hIt := tI_ad hIx.1 hA hx0 (by unfold isL; decide)
  have t18 : t.2 18 (s.1 4) = nI (x.1 0) := by rw [hA.2.1 18 (by decide), x18, hD.2.2.2.2.2.2.2.1, hu4, pk_us, x0, w0]
  have t19 : t.2 19 (s.1 4) = 1073741824 := by rw [hA.2.1 19 (by decide), x19, hD.2.2.2.2.2.2.2.2, hu4, pk_us]
  have t0 : t.1 0 = x.1 0 + 1 := (insA_lt hA.2.2.1 hx0).1
  have h3 := tOK_nc (tOK_nc e5 (tOK_de (lo := s.1 1) hD)) hIx.2
  refine ⟨e1, e2, hIt, [(8, s.1 4, 0)], ⟨fun x9 hx9 => ?_, nwC_1 (by omega)⟩, tOK_sq h3 (tOK_ad (lo := s.1 1) hA hx0 (by unfold isL; decide)) (by omega) (fun F hF g1 g2 J O hO => ?_)⟩
  · rw [List.mem_singleton] at hx9
    exact ⟨s.1 4, x.1 0, hx9, Nat.le_refl _, by omega, t19, t18, by omega⟩
  · rw [if_neg (by decide)]
    have g1 : x.1 0 = s.1 0 := g1
    have hv0 := scI_vl hO.1
    obtain ⟨b1, k0, k1, -⟩ := g2
    rw [b1, ← g1]
    obtain ⟨f1', f2', f3', -⟩ := hF.2.2.2.2 (s.1 4) (by omega)
    exact sg_one (o := 25) k0 ⟨s.1 4, k1, h4⟩ (by omega) (vs (show vl ((8, s.1 4, 0) :: O) ≤ 211 by rw [vl_8]; omega)) (fun k hk9 => ⟨s.1 4, h4, k1, f3'.trans t18, sc_no hO.1, hk9⟩) (hvi := Or.inr (vIs_25 k0 hv0))
/-- a value, then one instruction that takes it off -/
theorem l_off {yp rs k tt nw p0 p q n1 n3 b T o : Nat} {X : tF} {G : Nat → Nat → Nat} {ft f1 f2 r x1 x2 x3 x4 : Int32} {s u t : tgS} {qv ql : Nat} {qp qm : Int32} (hv : tRw yp X G (rs + 4096 * k) tt p0 p n1 b ft f1 s u T qv ql qp qm) (hrs : rs < 4096) (hk : k ≤ 16) (hA : tAd u t (nI o) x1 x2 x3 x4) (ho : o < 33) (hoL : ¬ isL (nI o)) (ho4 : nI o ≠ 4) (hr : r = 0 ∨ r = 1) (hn : n3 < tt) (hf : f2 ≠ 0 → n3 = tt - 1) (h2 : f2 = 0 → f1 = 0 ∧ n3 = q) (hp : f2 = 0 → nw ≤ p0 ∧ p0 < p ∧ p < q) (hcp : ft = 0 → tCq X nw q s) (hB : ∀ (F : tF) (i : Nat), F 0 i = nI o → F 1 i = x1 → iBo F i o) (hO : f2 = 0 → ∀ (F : tF) (k : Nat → Option (List tE)) (J K : Int32 → List tE → Prop) (i e : Nat) (O : List tE), tFu t F → scI F (s.1 4) i e O → i < e → F 0 i = nI o → F 1 i = x1 → (F 2 i = x2 ∧ F 3 i = x3 ∧ F 4 i = x4) → (r = 1 ∨ k (i + 1) = some O) → iOp F X G rs k J K i (tNf F T :: O) o) (hvo : vOk o := by unfold vOk; decide) : tSs 1 yp X G rs tt nw q n3 b 0 ft f2 s t r T qv ql qp qm := by
  obtain ⟨⟨a1, a2, a3, a4, a5, a6⟩, h5⟩ := hv
  have t4 := hA.1 4 (by decide); have t5 := hA.1 5 (by decide)
  refine ⟨⟨hn, hf, tJ_ad a3 hA, a4, by omega, by omega, hr⟩, fun y => ?_⟩
  obtain ⟨y1, y2⟩ := h2 y
  obtain ⟨p1, p2, p3⟩ := hp y
  obtain ⟨e1, e2, e3, e4, e5⟩ := h5 y1
  obtain ⟨c0, c1, c2, c3, c7⟩ := hcp e1
  have cl1 := cL_le (X := X) p1; have cl2 := cL_le (X := X) (show p ≤ q by omega); have cl3 := cL_le (X := X) (show p0 ≤ p by omega)
  obtain ⟨r0, r1, r2, r3, r7⟩ := e5.2.2.1
  have hu0 : u.1 0 < 6000 := by omega
  have hIt := tI_ad e3 hA hu0 hoL ho4
  have t0 : t.1 0 = u.1 0 + 1 := (insA_lt hA.2.2.1 hu0).1
  refine ⟨e1, y2, hIt, [], nwI_0 (by omega), tOK_sq e5 (tOK_ad (lo := s.1 1) hA hu0 hoL) (by omega) (fun F hF g1 g2 J O hO9 => ?_)⟩
  have m1 := e5.1.1 0 (by decide)
  have hv0 := scI_vl hO9.1
  have x1 := s_val (J := J) hrs hk g1 hO9
  obtain ⟨b1, k0, k1, k2⟩ := g2
  rw [b1] at hO9 ⊢
  have hsc : scI F (s.1 4) (u.1 0) (u.1 0 + 1) O := scI_sub hO9.1 (Nat.le_refl _) m1 (Nat.le_refl _)
  refine sg_app x1 (sg_one (o := o) k0 (hB F _ k0 k1) (sg_end x1 m1) (fun r9 hr9 => ?_) (fun k hk9 => hO y F k J _ _ (u.1 0 + 1) O hF.2.2.2 hsc (Nat.lt_succ_self _) k0 k1 k2 ?_) (fun z => hoL (Or.inr z)) (Or.inl hvo)) m1 (Nat.le_succ _)
  · by_cases z : r = 1
    · rw [if_pos z] at hr9; exact absurd hr9 (by simp)
    · rw [if_neg z] at hr9
      exact vs (show vl ([] ++ O) ≤ 211 by show vl O ≤ 211; omega) r9 hr9
  · by_cases z : r = 1
    · exact Or.inl z
    · rw [if_neg z] at hk9; exact Or.inr hk9
theorem l_prt {yp rs k tt nw p0 p q n1 n3 b T : Nat} {X : tF} {G : Nat → Nat → Nat} {ft f1 f2 : Int32} {s u t : tgS} {qv ql : Nat} {qp qm : Int32} (hv : tRw yp X G (rs + 4096 * k) tt p0 p n1 b ft f1 s u T qv ql qp qm) (hrs : rs < 4096) (hk : k ≤ 16) (hA : tAd u t 28 (nI T) 0 0 (-1)) (hT : f2 = 0 → T = 1 ∨ T = 2) (hn : n3 < tt) (hf : f2 ≠ 0 → n3 = tt - 1) (h2 : f2 = 0 → f1 = 0 ∧ n3 = q) (hp : f2 = 0 → nw ≤ p0 ∧ p0 < p ∧ p < q) (hcp : ft = 0 → tCq X nw q s) : tSs 1 yp X G rs tt nw q n3 b 0 ft f2 s t 0 T qv ql qp qm :=
  l_off (o := 28) hv hrs hk hA (by decide) (by unfold isL; decide) (by decide) (Or.inl rfl) hn hf h2 hp hcp (fun F i _ _ => show 28 < 33 by decide) (fun y F k9 J K i e O hF hsc hie h0 h1 h3 hk9 => ⟨T, O, hT y, h1, by rw [tF_low (t := t) (show tyOK yp (tTy t) by rw [tTy_ad hA]; exact (hv.2 (h2 y).1).2.2.1.1) hF (Or.inr (hT y))], hk9.elim (fun q9 => absurd q9 (by decide)) id⟩)
theorem l_drp {yp rs k tt nw p0 p q n1 n3 b T : Nat} {X : tF} {G : Nat → Nat → Nat} {ft f1 f2 : Int32} {s u t : tgS} {qv ql : Nat} {qp qm : Int32} (hv : tRw yp X G (rs + 4096 * k) tt p0 p n1 b ft f1 s u T qv ql qp qm) (hrs : rs < 4096) (hk : k ≤ 16) (hA : tAd u t 27 (nI T) 0 0 (-1)) (hn : n3 < tt) (hf : f2 ≠ 0 → n3 = tt - 1) (h2 : f2 = 0 → f1 = 0 ∧ n3 = q) (hp : f2 = 0 → nw ≤ p0 ∧ p0 < p ∧ p < q) (hcp : ft = 0 → tCq X nw q s) : tSs 1 yp X G rs tt nw q n3 b 0 ft f2 s t 0 T qv ql qp qm :=
  l_off (o := 27) hv hrs hk hA (by decide) (by unfold isL; decide) (by decide) (Or.inl rfl) hn hf h2 hp hcp (fun F i _ _ => show 27 < 33 by decide) (fun y F k9 J K i e O hF hsc hie h0 h1 h3 hk9 => ⟨T, O, h1, hv.1.2.2.2.1.1, rfl, hk9.elim (fun q9 => absurd q9 (by decide)) id⟩)
theorem sc_ret {F : tF} {n i e : Nat} {O : List tE} (h : scI F n i e O) (h40 : n ≤ 40) (hi : i < e) : ∀ x : tE, x ∈ O → ∃ v : Nat, x = (8, v, 0) ∧ v < 40 ∧ F 18 v ≤ nI i ∧ nI i < F 19 v := fun x hx => by
  obtain ⟨v, f, e2, h1, h2, h3, h4, h5, h6, h7⟩ := h x hx
  exact ⟨v, h1, by omega, by rw [h3]; exact nI_le h4 (by omega), by rw [h5]; exact nI_lt (by omega) (by omega)⟩
theorem l_ret {yp rs k tt nw p0 p q n1 n3 b T : Nat} {X : tF} {G : Nat → Nat → Nat} {ft f1 f2 x3 x4 : Int32} {s u t : tgS} {qv ql : Nat} {qp qm : Int32} (hv : tRw yp X G (rs + 4096 * k) tt p0 p n1 b ft f1 s u T qv ql qp qm) (hrs : rs < 4096) (hk : k ≤ 16) (hA : tAd u t 22 (nI T) 1 (aN x3) (aN x4)) (hT : f2 = 0 → T = rs) (h40 : s.1 4 ≤ 40) (hn : n3 < tt) (hf : f2 ≠ 0 → n3 = tt - 1) (h2 : f2 = 0 → f1 = 0 ∧ n3 = q) (hp : f2 = 0 → nw ≤ p0 ∧ p0 < p ∧ p < q) (hcp : ft = 0 → tCq X nw q s) : tSs 1 yp X G rs tt nw q n3 b 0 ft f2 s t 1 T qv ql qp qm :=
  l_off (o := 22) hv hrs hk hA (by decide) (by unfold isL; decide) (by decide) (Or.inr rfl) hn hf h2 hp hcp (fun F i _ _ => show 22 < 33 by decide) (fun y F k9 J K i e O hF hsc hie h0 h1 h3 hk9 => ⟨T, O, h1, ⟨hT y, by rw [h3.2.2]; exact aN_ge _, fun _ => by rw [h3.2.1]; exact aN_ge _⟩, hv.1.2.2.2.1.1, Or.inl ⟨h3.1, rfl⟩, sc_ret hsc h40 hie⟩)
theorem l_ret0 {yp rs tt nw q n3 b : Nat} {X : tF} {G : Nat → Nat → Nat} {ft f2 x3 x4 : Int32} {s t : tgS} {qt qv ql : Nat} {qp qm : Int32} (hA : tAd s t 22 0 0 x3 (aN x4)) (hJ : tJ s) (hQ : tQ qt qv ql qp qm) (hI : ft = 0 → tI yp X s) (hT : f2 = 0 → rs = 0) (h40 : s.1 4 ≤ 40) (hn : n3 < tt) (hf : f2 ≠ 0 → n3 = tt - 1) (h2 : f2 = 0 → ft = 0 ∧ n3 = q) (hp : f2 = 0 → nw < q) (hcp : ft = 0 → tCq X nw q s) : tSs 1 yp X G rs tt nw q n3 b 0 ft f2 s t 1 qt qv ql qp qm := by
  have t4 := hA.1 4 (by decide); have t5 := hA.1 5 (by decide)
  refine ⟨⟨hn, hf, tJ_ad hJ hA, hQ, by omega, by omega, Or.inr rfl⟩, fun y => ?_⟩
  obtain ⟨y1, y2⟩ := h2 y
  have p1 := hp y
  obtain ⟨c0, c1, c2, c3, c7⟩ := hcp y1
  have hs0 : s.1 0 < 6000 := by omega
  have hIt := tI_ad (hI y1) hA hs0 (by unfold isL; decide)
  refine ⟨y1, y2, hIt, [], nwI_0 (by omega), tOK_mn (tOK_ad (lo := s.1 1) hA hs0 (by unfold isL; decide)) (Nat.le_refl _) (by omega) (fun F hF g2 J O hO => ?_)⟩
  obtain ⟨b1, k0, k1, k2, k3, k4⟩ := g2
  have hv0 := scI_vl hO.1
  rw [b1] at hO ⊢
  rw [if_pos rfl]
  exact sg_one (o := 22) k0 (show 22 < 33 by decide) (by omega) (fun r9 hr9 => absurd hr9 (by simp)) (fun k hk9 => ⟨0, O, k1, ⟨(hT y).symm, by rw [k4]; exact aN_ge _, fun z9 => absurd (k2.symm.trans z9) (by decide)⟩, by omega, Or.inr ⟨k2, rfl, rfl⟩, sc_ret hO.1 h40 (Nat.lt_succ_self _)⟩)
/-- a block: first: the variables from there on end with it -/
def tBm (X : tF) (G : Nat → Nat → Nat) (rs fi : Nat) (N : List tE) (r : Int32) : tR := fun F a b => ∀ (J : Int32 → List tE → Prop) (O : List tE), scJ F fi a b O → sg F X G rs J a b (some (N ++ O)) (if r = 1 then none else some O)
def tBs (c yp : Nat) (X : tF) (G : Nat → Nat → Nat) (rs tt nw q nw2 b v fi : Nat) (ft ft2 : Int32) (s t : tgS) (r : Int32) (qt2 qv2 ql2 : Nat) (qp2 qm2 : Int32) : Prop := tSb0 tt nw2 b v ft2 s t r qt2 qv2 ql2 qp2 qm2 ∧ (ft2 = 0 → ft = 0 ∧ nw2 = q ∧ tI yp X t ∧ (∀ N : List tE, nwI fi s N → tOKb fi (s.1 1) (2 * (q - nw) - c) (2 * (cL X q - cL X nw)) (q - nw) (2 * (q - nw)) (q - nw) s t (tBm X G rs fi N r)) ∧ nwC fi t [])
theorem tBs_s {c c2 yp rs tt nw q nw2 b v : Nat} {X : tF} {G : Nat → Nat → Nat} {ft ft2 : Int32} {s t : tgS} {r : Int32} {qt2 qv2 ql2 : Nat} {qp2 qm2 : Int32} (h : tBs c yp X G rs tt nw q nw2 b v (s.1 4) ft ft2 s t r qt2 qv2 ql2 qp2 qm2) (hc : c2 ≤ c) : tSs c2 yp X G rs tt nw q nw2 b v ft ft2 s t r qt2 qv2 ql2 qp2 qm2 := by
  obtain ⟨h1, h2⟩ := h
  refine ⟨h1, fun z => ?_⟩
  obtain ⟨a1, a2, a3, a4⟩ := h2 z
  exact ⟨a1, a2, a3, [], ⟨tnwA_nil, a4.2⟩, tOK_mn (tOKb_ok (a4.1 [] (nwI_0 (Nat.le_refl _)))) (Nat.le_refl _) (by omega) (fun F hF y J O hO => y J O hO)⟩
/-- the end of a block: without variables; with them -/
theorem l_blk0 {yp rs tt nw p q n1 n2 b v fi : Nat} {X : tF} {G : Nat → Nat → Nat} {ft f1 : Int32} {s u : tgS} {r : Int32} {qt qv ql : Nat} {qp qm : Int32} (h : tSs 0 yp X G rs tt (nw + 1) p n1 b v ft f1 s u r qt qv ql qp qm) (h4 : u.1 4 ≤ fi) (hfi : fi ≤ s.1 4) (hn : n2 < tt) (hf : f1 ≠ 0 → n2 = tt - 1) (h2 : f1 = 0 → n2 = q ∧ q = p + 1 ∧ nw + 1 ≤ p) : tBs 3 yp X G rs tt nw q n2 b v fi ft f1 s u r qt qv ql qp qm := by
  obtain ⟨⟨a1, a2, a3, a4, a5, a6, a7⟩, h3⟩ := h
  refine ⟨⟨hn, hf, a3, a4, a5, a6, a7⟩, fun z => ?_⟩
  obtain ⟨p1, p2, p3⟩ := h2 z
  obtain ⟨b1, b2, b3, N, b4, b5⟩ := h3 z
  have cl1 := cL_le (X := X) (show nw ≤ nw + 1 by omega); have cl2 := cL_le (X := X) (show p ≤ q by omega); have cl3 := cL_le (X := X) p3
  obtain ⟨r0, r1, r2, r3, r7⟩ := b5.2.2.1
  refine ⟨b1, p1, b3, fun M hM => ?_, nwC_0 h4⟩
  have eM : M = [] := tnwA_no hM.1 (by omega)
  have eN : N = [] := tnwA_no b4.1 (by omega)
  have e9 : fi = s.1 4 := by have := b5.1.1 4 (by decide); omega
  subst eM eN
  refine tOKb_of (tOK_mn b5 (Nat.le_refl _) (by omega) (fun F hF y J O hO => ?_)) hfi
  exact y J O (by rw [← e9]; exact hO)
theorem l_blk1 {yp rs tt nw p q n1 n2 b v fi : Nat} {X : tF} {G : Nat → Nat → Nat} {ft f1 wh : Int32} {s u w t : tgS} {r : Int32} {qt qv ql : Nat} {qp qm : Int32} (h : tSs 0 yp X G rs tt (nw + 1) p n1 b v ft f1 s u r qt qv ql qp qm) (hC : tCl u w fi) (hA : tAd w t 32 (nI fi) (nI (u.1 4)) 0 (aN wh)) (hfi : fi ≤ s.1 4) (h40 : u.1 4 ≤ 40) (hn : n2 < tt) (hf : f1 ≠ 0 → n2 = tt - 1) (h2 : f1 = 0 → n2 = q ∧ q = p + 1 ∧ nw + 1 ≤ p) (hcp : ft = 0 → tCq X nw q s) : tBs 3 yp X G rs tt nw q n2 b v fi ft f1 s t r qt qv ql qp qm := by
  obtain ⟨⟨a1, a2, a3, a4, a5, a6, a7⟩, h3⟩ := h
  have t4 : t.1 4 = u.1 4 := by rw [hA.1 4 (by decide), hC.1]
  have t5 : t.1 5 = u.1 5 := by rw [hA.1 5 (by decide), hC.1]
  refine ⟨⟨hn, hf, tJ_ad (tJ_cl a3 hC) hA, a4, by omega, by omega, a7⟩, fun z => ?_⟩
  obtain ⟨p1, p2, p3⟩ := h2 z
  obtain ⟨b1, b2, b3, N, b4, b5⟩ := h3 z
  obtain ⟨c0, c1, c2, c3, c7⟩ := hcp b1
  have cl1 := cL_le (X := X) (show nw ≤ nw + 1 by omega); have cl2 := cL_le (X := X) (show p ≤ q by omega); have cl3 := cL_le (X := X) p3
  obtain ⟨r0, r1, r2, r3, r7⟩ := b5.2.2.1
  have u0 : u.1 0 ≤ 6000 := a3.1
  have hbu := b3.2.2.2.2.2
  have hxc := tXt_cl hC hbu u0
  have w0 : w.1 0 = u.1 0 := by rw [hC.1]
  have hw0 : w.1 0 < 6000 := by omega
  have hIt := tI_ad (tI_cl b3 hC u0) hA hw0 (by unfold isL; decide)
  have t0 : t.1 0 = w.1 0 + 1 := (insA_lt hA.2.2.1 hw0).1
  have h04 := b5.1.1 4 (by decide)
  have hJt : tJ t := tJ_ad (tJ_cl a3 hC) hA
  have hcl9 : nwC fi t [] := fun v h1 h2 => Or.inr (by
    have hv9 : v < u.1 4 := by omega
    have e19 : t.2 19 v = w.2 19 v := by rw [hA.2.1 19 (by decide)]
    by_cases c : u.2 19 v = 1073741824
    · exact ⟨u.1 0, e19.trans ((cl_val hC hbu u0 hv9).1 ⟨c, h1⟩), by omega, by omega⟩
    · rcases hbu.1 v hv9 with q | ⟨e, q1, q2⟩
      · exact absurd q c
      · exact ⟨e, e19.trans (((cl_val hC hbu u0 hv9).2 (Or.inl c)).trans q1), by omega, by omega⟩)
  refine ⟨b1, p1, hIt, fun M hM => ?_, hcl9⟩
  have k1 : tOKb fi (s.1 1) 0 0 0 0 0 u w (fun _ a b => b = a) := ⟨hxc, ⟨fun i h1 h2 h3 => absurd h2 (by omega), fun v hv => (cl_val hC hbu u0 (by omega)).2 (Or.inr hv)⟩, by rw [hC.1]; omega, fun F hF => w0⟩
  have k2 := tOKb_of (fi := fi) (tOK_ad (lo := s.1 1) hA hw0 (by unfold isL; decide)) (by rw [hC.1]; omega)
  have k3 := tOKb_sq (k0 := 1) (k1 := 0) (k2 := 0) (k3 := 0) (k7 := 0) (R := fun F a b => tIn 32 (nI fi) (nI (u.1 4)) 0 (aN wh) F a b) k1 k2 (by omega) (fun F hF y1 y2 => by
    have y1 : w.1 0 = u.1 0 := y1
    rw [← y1]; exact y2)
  refine tOKb_sq (tOKb_of (fi := fi) b5 hfi) k3 (by omega) (fun F hF y1 y2 J O hO => ?_)
  obtain ⟨g0, g1, g2, g3, g4, g5⟩ := y2
  have m1 := b5.1.1 0 (by decide)
  have hxt : tXt s t := tXt_tr b5.1 (tXt_tr hxc (tXt_ad hA hw0))
  have hFw : tFu w F := tFu_dn hF.2.2.2 (tXt_ad hA hw0)
  have hopen : ∀ L : List tE, tnwA fi u L → scI F (u.1 4) (u.1 0) (u.1 0) L := fun L hL x hx => by
    obtain ⟨v, f, e1, e2, e3, e4, e5, e6⟩ := hL x hx
    have q1 := (cl_val hC hbu u0 e3).1 ⟨e4, e2⟩
    obtain ⟨f1', f2', f3', f4', -⟩ := hFw.2 v (by rw [hC.1]; exact e3)
    exact ⟨v, f, u.1 0, e1, e3, f3'.trans (by rw [hC.2.1 18 (by decide)]; exact e5), e6, (f4' (by rw [q1]; exact open_ne (by omega))).trans q1, Nat.le_refl _, by omega⟩
  have hMu : tnwA fi u M := tnwA_x hM.1 b5.1 b5.2.1.2
  have hNu : tnwA fi u N := tnwA_le b4.1 hfi
  have scM : scI F (s.1 4) (s.1 0) (u.1 0) M := fun x hx => by
    obtain ⟨v, f, e1, e2, e3, e4, e5, e6⟩ := hM.1 x hx
    obtain ⟨v2, f2, e9, q1, q2, q3, q4, q5, q6, q7⟩ := hopen M hMu x hx
    have ev : v = v2 := congrArg (fun y : tE => y.2.1) (e1.symm.trans q1)
    rw [← ev] at q5
    have e18 : F 18 v = nI f := by
      have z1 := (hxt.2.2.2.2.2 v e3).2.2.1
      exact ((hF.2.2.2.2 v (by omega)).2.2.1).trans (z1.trans e5)
    exact ⟨v, f, e9, e1, e3, e18, e6, q5, q6, q7⟩
  have x1 := y1 J (M ++ O) ⟨scI_app scM (scI_sub hO.1 hfi (Nat.le_refl _) (by omega)), scX_nw hO.2 hM.2 (tFu_dn hF.2.2.2 hxt) (Nat.le_refl _)⟩
  rw [g0]
  by_cases e : r = 1
  · rw [if_pos e] at x1 ⊢
    have hB : iB F (u.1 0) := ⟨32, g1, ⟨fi, u.1 4, g2, g3, by omega, h40⟩⟩
    have y3 : sg F X G rs J (u.1 0) (u.1 0 + 1) none none := ⟨fun _ => none, rfl, rfl, fun i ha hb s hs => absurd hs (by simp), fun i ha hb => ⟨by rw [show i = u.1 0 by omega]; exact ⟨hB, fun z => absurd (g1.symm.trans z) (by decide)⟩, fun s hs => absurd hs (by simp)⟩⟩
    exact sg_app x1 y3 m1 (Nat.le_succ _)
  · rw [if_neg e] at x1 ⊢
    rw [← List.append_assoc] at x1
    have hv0 := scI_vl hO.1
    refine sg_app x1 (sg_one (o := 32) g1 ⟨fi, u.1 4, g2, g3, by omega, h40⟩ (sg_end x1 m1) (vs (show vl O ≤ 211 by omega)) (fun k hk9 => ⟨fi, u.1 4, N ++ M, O, ⟨by omega, by rw [g5]; exact aN_ge _⟩, h40, g2, g3, rfl, fun x hx => ?_, fun x hx => ?_, hk9⟩) (hvi := Or.inr (vIs_32 g1 g3 h40 (fun h9 => by rw [(hF.2.2.2.2 (u.1 4 - 1) (by omega)).2.1]; exact hJt.2.2.2.2.2.2.2.2.2 (u.1 4 - 1) (by omega))))) m1 (Nat.le_succ _)
    · rcases List.mem_append.mp hx with hx | hx
      · obtain ⟨v, f, e1, e2, e3, -⟩ := hNu x hx
        exact ⟨v, e1, e2, e3⟩
      · obtain ⟨v, f, e1, e2, e3, -⟩ := hMu x hx
        exact ⟨v, e1, e2, e3⟩
    · obtain ⟨v, f, e9, e1, e2, -⟩ := hO.1 x hx
      exact ⟨v, e1, e2⟩
