/-- behind the label of an arm -/
theorem l_mlab {yp tag tb L : Nat} {X : tF} {s t u e w : tgS} (hx : tXt s t) (hI : tI yp X t) (h1 : tNl t u L) (h2 : tArl u e (tb + tag) L) (h3 : tSb e w 13 L) (htb : s.1 3 ≤ tb) (hl : t.1 1 < 1100) (hc0 : t.1 0 < 6000) : tI yp X w ∧ tXt s w ∧ w.1 0 = t.1 0 + 1 ∧ w.1 1 = t.1 1 + 1 ∧ w.1 2 = t.1 2 ∧ w.1 3 = t.1 3 ∧ w.1 4 = t.1 4 ∧ w.1 5 = t.1 5 ∧ w.1 7 = t.1 7 := by
  obtain ⟨o1, q1, m1⟩ := nl_x (lo := 0) h1 hl
  have hu := (tNl_up h1 hl).1
  have hIu := tI_up hI hu (Or.inr (Or.inl rfl))
  have hUu : lbU u L := by rw [q1]; exact lbU_new hI.2.1 hu (by omega)
  have hIe := tI_al hIu h2
  have hUe := lbU_al hUu h2
  have e0 : e.1 0 = t.1 0 := by rw [h2.1]; exact h1.2.1 0 (by decide)
  have e1 : e.1 1 = t.1 1 + 1 := by rw [h2.1]; exact m1
  have hc : e.1 0 < 6000 := by omega
  have o3 := tOK_sb (lo := 0) h3 hc (by omega) hUe.1
  have c3 := hx.1 3 (by decide)
  have u3 := h1.2.1 3 (by decide)
  have e3 : e.1 3 = u.1 3 := by rw [h2.1]
  refine ⟨tI_sb hIe hUe h3 hc (by omega), tXn_tr (tXn_of hx (Nat.le_refl _)) (tXn_tr (tXn_of o1.1 c3) (tXn_tr (tXn_al h2 (by omega)) (tXn_of o3.1 (by omega)))), by have := (insA_lt h3.2.2.2.1 hc).1; omega, by rw [h3.1 1 (by decide)]; omega, ?_, ?_, ?_, ?_, ?_⟩
  · rw [h3.1 2 (by decide), h2.1]; exact h1.2.1 2 (by decide)
  · rw [h3.1 3 (by decide), h2.1]; exact h1.2.1 3 (by decide)
  · rw [h3.1 4 (by decide), h2.1]; exact h1.2.1 4 (by decide)
  · rw [h3.1 5 (by decide), h2.1]; exact h1.2.1 5 (by decide)
  · rw [h3.1 7 (by decide), h2.1]; exact h1.2.1 7 (by decide)
/-- one arm more -/
theorem l_mstep {yp lo n0 n1 n2 n3 n7 m0 m1 m2 m3 m7 rs q sh m tb tot Le tag L : Nat} {X : tF} {G : Nat → Nat → Nat} {sn z r z2 : Int32} {s t u e w y t2 : tgS} (h : tOKm tb tot sn lo n0 n1 n2 n3 n7 s t (tMm X G rs (s.1 4) q sh m tb tot Le sn z)) (hI : tI yp X t) (hU : lbU t Le) (h1 : tNl t u L) (h2 : tArl u e (tb + tag) L) (h3 : tSb e w 13 L) (hIy : tI yp X y) (ha : tOK (w.1 1) m0 m1 m2 m3 m7 w y (tAm X G rs (w.1 4) q (sh * 12 + tag) m r)) (hna : nwC (w.1 4) y []) (h5 : tAd y t2 16 (nI Le) 0 0 (-1)) (htag : tag < tot) (h12 : tot ≤ 12) (hns : ¬ bS sn tag) (hlo : lo ≤ t.1 1) (hl : t.1 1 < 1100) (hc0 : t.1 0 < 6000) (hcy : y.1 0 < 6000) (hly : y.1 1 ≤ 1100) (hz : z2 = if z = 1 then r else 0) (hq : q = 0 ∨ q = 1 ∨ q = 2) : tI yp X t2 ∧ lbU t2 Le ∧ tOKm tb tot (sn ||| ((1 : Int32) <<< (nI tag &&& 31))) lo (n0 + m0 + 2) (n1 + m1 + 2) (n2 + m2) (n3 + m3) (n7 + m7) s t2 (tMm X G rs (s.1 4) q sh m tb tot Le (sn ||| ((1 : Int32) <<< (nI tag &&& 31))) z2) := by
  obtain ⟨x1, x2, x3, ⟨x4, x5, x6, x9⟩, x7⟩ := h
  obtain ⟨o1, q1, p1⟩ := nl_x (lo := Le + 1) h1 hl
  have hu := (tNl_up h1 hl).1
  have hUu : lbU u L := by rw [q1]; exact lbU_new hI.2.1 hu (by omega)
  have hUe := lbU_al hUu h2
  obtain ⟨hIw, xsw, w0, w1, w2, w3, w4, w5, w7⟩ := l_mlab x1 hI h1 h2 h3 x4 hl hc0
  have e0 : e.1 0 = t.1 0 := by rw [h2.1]; exact h1.2.1 0 (by decide)
  have e1 : e.1 1 = t.1 1 + 1 := by rw [h2.1]; exact p1
  have e2 : e.1 2 = t.1 2 := by rw [h2.1]; exact h1.2.1 2 (by decide)
  have e3 : e.1 3 = t.1 3 := by rw [h2.1]; exact h1.2.1 3 (by decide)
  have hc : e.1 0 < 6000 := by omega
  have o3 := tOK_sb (lo := lo) h3 hc (by omega) hUe.1
  have o5 := tOK_ad (lo := lo) h5 hcy (by unfold isL; decide)
  have hLe : Le < t.1 1 := hU.1
  have f1 := lbU_al (lbU_x hU o1 (by omega) (by omega)) h2
  have f2 := lbU_sb f1 h3 hc (by omega) (by omega) (by omega)
  have f3 := lbU_x f2 ha (by omega) hly
  have f4 := lbU_x (lo := Le + 1) f3 (tOK_ad (lo := Le + 1) h5 hcy (by unfold isL; decide)) (by omega) (by rw [h5.1 1 (by decide)]; exact hly)
  have y0 : t2.1 0 = y.1 0 + 1 := (insA_lt h5.2.2.1 hcy).1
  have y1 := h5.1 1 (by decide); have y2 := h5.1 2 (by decide); have y3 := h5.1 3 (by decide); have y7 := h5.1 7 (by decide); have y4 := h5.1 4 (by decide)
  have c0 := ha.1.1 0 (by decide); have c2 := ha.1.1 2 (by decide); have c3 := ha.1.1 3 (by decide); have c4 := ha.1.1 4 (by decide); have c1 := ha.1.1 1 (by decide)
  have d0 := x1.1 0 (by decide); have d2 := x1.1 2 (by decide); have d3 := x1.1 3 (by decide); have d4 := x1.1 4 (by decide)
  have W : tXt w t2 := tXt_tr ha.1 o5.1
  have Xt : tXn (s.1 3) t t2 := tXn_tr (tXn_of o1.1 d3) (tXn_tr (tXn_al h2 (by omega)) (tXn_tr (tXn_of o3.1 (by omega)) (tXn_of W (by omega))))
  have r13 : ∀ i : Nat, i < t.1 3 → i ≠ tb + tag → t2.2 13 i = t.2 13 i := fun i hi hne => by
    rw [h5.2.1 13 (by decide), ha.1.2.2.2.1 i (by omega), h3.2.1 13 (by decide), h2.2.2, pk_un hne, h1.1]
  have r13t : t2.2 13 (tb + tag) = nI L := by
    rw [h5.2.1 13 (by decide), ha.1.2.2.2.1 (tb + tag) (by omega), h3.2.1 13 (by decide), h2.2.2, pk_us]
  have hL11 : L < 1100 := by omega
  have hcl9 : nwC (s.1 4) t2 [] := fun v b1 b2 => by
    rcases Nat.lt_or_ge v (t.1 4) with c | c
    · rcases x9 v b1 c with q9 | ⟨e9, g1, g2, g3⟩
      · exact absurd q9 (by simp)
      · exact Or.inr ⟨e9, by rw [h5.2.1 19 (by decide), ha.2.1.2 v (by omega), h3.2.1 19 (by decide), h2.2.1 19 (by decide), h1.1]; exact g1, by omega, g3⟩
    · rcases hna v (by omega) (by omega) with q9 | ⟨e9, g1, g2, g3⟩
      · exact absurd q9 (by simp)
      · exact Or.inr ⟨e9, by rw [h5.2.1 19 (by decide)]; exact g1, by omega, g3⟩
  obtain ⟨k0, k1, k2, k3, k7⟩ := x3
  obtain ⟨j0, j1, j2, j3, j7⟩ := ha.2.2.1
  refine ⟨tI_ad hIy h5 hcy (by unfold isL; decide), f4, tXn_tr (tXn_of x1 (Nat.le_refl _)) Xt, ⟨fun i hi hj hL => ?_, fun a ha9 => ?_⟩, ⟨by omega, by omega, by omega, by omega, by omega⟩, ⟨x4, by omega, fun g hg hb => ?_, hcl9⟩, fun F hF => ?_⟩
  · rcases Nat.lt_or_ge i (t.1 0) with c | c
    · rw [Xt.2.1 0 (by decide) i c] at hL
      obtain ⟨M, g1, g2, g3⟩ := x2.1 i hi c hL
      exact ⟨M, g1, by omega, (Xt.2.1 1 (by decide) i c).trans g3⟩
    · rcases Nat.lt_or_ge i (w.1 0) with c9 | c9
      · rw [W.2.1 0 (by decide) i c9] at hL
        obtain ⟨M, g1, g2, g3⟩ := o3.2.1.1 i (by omega) c9 hL
        exact ⟨M, g1, by omega, (W.2.1 1 (by decide) i c9).trans g3⟩
      · rcases Nat.lt_or_ge i (y.1 0) with c8 | c8
        · rw [o5.1.2.1 0 (by decide) i c8] at hL
          obtain ⟨M, g1, g2, g3⟩ := ha.2.1.1 i c9 c8 hL
          exact ⟨M, by omega, by omega, (o5.1.2.1 1 (by decide) i c8).trans g3⟩
        · exact o5.2.1.1 i c8 hj hL
  · rw [h5.2.1 19 (by decide), ha.2.1.2 a (by omega), h3.2.1 19 (by decide), h2.2.1 19 (by decide), h1.1]
    exact x2.2 a ha9
  · rcases (bS_or (by omega) (by omega)).mp hb with q9 | q9
    · rw [q9]; exact ⟨L, r13t, hL11⟩
    · obtain ⟨M, g1, g2⟩ := x6 g hg q9
      by_cases q8 : g = tag
      · rw [q8]; exact ⟨L, r13t, hL11⟩
      · exact ⟨M, (r13 (tb + g) (by omega) (by omega)).trans g1, g2⟩
  · have hFm : tAgm tb tot sn s t F := ⟨fun k hk i hi hj => (hF.1 k hk i hi (by omega)).trans (Xt.2.1 k hk i hj), fun k hk hk2 i hi hj => (hF.2.1 k hk hk2 i hi (by omega)).trans (Xt.2.2.1 k hk hk2 i hj), fun i hi hj hs => (hF.2.2.1 i hi (by omega) (fun g hg q9 => (bS_or (by omega) (by omega)).mpr (Or.inr (hs g hg q9)))).trans (r13 i hj (fun q9 => hns (hs tag htag q9))), tFu_dnn hF.2.2.2 Xt⟩
    have f13 : F 13 (tb + tag) = nI L := (hF.2.2.1 (tb + tag) (by omega) (by omega) (fun g hg q9 => (bS_or (by omega) (by omega)).mpr (Or.inl (by omega)))).trans r13t
    have hF3 : tAg e w F := ⟨fun k hk i hi hj => (hF.1 k hk i (by omega) (by omega)).trans (W.2.1 k hk i hj), fun k hk hk2 i hi hj => absurd hi (by omega), fun i hi hj => absurd hi (by omega), tFu_dn hF.2.2.2 W⟩
    have hFa : tAg w y F := ⟨fun k hk i hi hj => (hF.1 k hk i (by omega) (by omega)).trans (o5.1.2.1 k hk i hj), fun k hk hk2 i hi hj => (hF.2.1 k hk hk2 i (by omega) (by omega)).trans (o5.1.2.2.1 k hk hk2 i hj), fun i hi hj => (hF.2.2.1 i (by omega) (by omega) (fun g hg q9 => absurd q9 (by omega))).trans (o5.1.2.2.2.1 i hj), tFu_dn hF.2.2.2 o5.1⟩
    have hF5 : tAg y t2 F := ⟨fun k hk i hi hj => hF.1 k hk i (by omega) hj, fun k hk hk2 i hi hj => hF.2.1 k hk hk2 i (by omega) hj, fun i hi hj => absurd hi (by omega), hF.2.2.2⟩
    obtain ⟨hab, hseg⟩ := x7 F hFm
    obtain ⟨l1, l2, l3, -⟩ := o3.2.2.2 F hF3
    have harm := ha.2.2.2 F hFa
    obtain ⟨n1', n2', n3', -⟩ := o5.2.2.2 F hF5
    refine ⟨by omega, fun hall J O hO => ?_⟩
    have hv := scI_vl hO.1
    have hvO : vl O ≤ 211 := by omega
    have hvm : vl (mE q (sh * 12 + tag) m 0 :: O) ≤ 211 := vl_n (by omega)
    have seg1 := sg_none (y := some (mE q (sh * 12 + tag) m 0 :: O)) (hseg hall J O (scJ_sub hO (Nat.le_refl _) (by omega))) hab (vs hvm)
    have seg2 : sg F X G rs (fun M st => J M st ∨ (∃ g : Nat, g < tot ∧ ¬ bS (sn ||| ((1 : Int32) <<< (nI tag &&& 31))) g ∧ M = F 13 (tb + g) ∧ st = mE q (sh * 12 + g) m 0 :: O) ∨ (z2 ≠ 1 ∧ M = nI Le ∧ st = O)) (t.1 0) (w.1 0) (some (mE q (sh * 12 + tag) m 0 :: O)) (some (mE q (sh * 12 + tag) m 0 :: O)) := by
      rw [w0, ← e0]
      exact sg_one (o := 13) l2 ⟨L, l3, hL11⟩ hvm (vs hvm) (fun k9 hk9 => hk9)
    have seg3 := harm (fun M st => J M st ∨ (∃ g : Nat, g < tot ∧ ¬ bS (sn ||| ((1 : Int32) <<< (nI tag &&& 31))) g ∧ M = F 13 (tb + g) ∧ st = mE q (sh * 12 + g) m 0 :: O) ∨ (z2 ≠ 1 ∧ M = nI Le ∧ st = O)) O ⟨scI_sub hO.1 (by omega) (by omega) (by omega), by rw [w4]; exact scX_m (scX_nw (N := []) hO.2 x9 hFm.2.2.2 d0) (by omega)⟩
    have seg4 : sg F X G rs (fun M st => J M st ∨ (∃ g : Nat, g < tot ∧ ¬ bS (sn ||| ((1 : Int32) <<< (nI tag &&& 31))) g ∧ M = F 13 (tb + g) ∧ st = mE q (sh * 12 + g) m 0 :: O) ∨ (z2 ≠ 1 ∧ M = nI Le ∧ st = O)) (y.1 0) (t2.1 0) (if r = 1 then none else some O) none := by
      rw [y0]
      by_cases q9 : r = 1
      · rw [if_pos q9]; exact sg_dead (o := 16) n2' ⟨Le, n3', by omega⟩
      · rw [if_neg q9]
        refine sg_one (o := 16) n2' ⟨Le, n3', by omega⟩ hvO (fun r9 hr9 => absurd hr9 (by simp)) (fun k9 hk9 => ⟨hv, Or.inr (Or.inr ⟨?_, n3', rfl⟩)⟩)
        rw [hz]
        by_cases q8 : z = 1
        · rw [if_pos q8]; exact q9
        · rw [if_neg q8]; decide
    have seg := sg_app (sg_app seg2 seg3 (by omega) c0) seg4 (by omega) (by omega)
    refine sg_app2 seg1 seg (by omega) (by omega) (fun M st h9 => ?_)
    rcases h9 with h9 | ⟨g, g1, g2, g3, g4⟩ | ⟨g1, g2, g3⟩
    · exact Or.inl (Or.inl h9)
    · by_cases q9 : g = tag
      · refine Or.inr ⟨⟨by omega, by rw [g4]; exact wl_mE hq (wl_vl hv)⟩, by rw [← e0]; exact l2, by rw [← e0, l3, g3, q9, f13], by rw [g4, q9]⟩
      · exact Or.inl (Or.inr (Or.inl ⟨g, g1, fun h8 => ((bS_or (by omega) (by omega)).mp h8).elim q9 g2, g3, g4⟩))
    · refine Or.inl (Or.inr (Or.inr ⟨?_, g2, g3⟩))
      rw [hz, if_neg g1]; decide
/-- all arms -/
def tMt (X : tF) (G : Nat → Nat → Nat) (rs n q sh m : Nat) (z : Int32) : tR := fun F a b => ∀ (J : Int32 → List tE → Prop) (O : List tE), scJ F n a b O → sg F X G rs J a b (some (sE q sh m :: O)) (if z = 1 then none else some O)
theorem l_mend {yp lo n0 n1 n2 n3 n7 rs q sh m tb tot Le : Nat} {X : tF} {G : Nat → Nat → Nat} {sn z : Int32} {s t u : tgS} (h : tOKm tb tot sn lo n0 n1 n2 n3 n7 s t (tMm X G rs (s.1 4) q sh m tb tot Le sn z)) (hI : tI yp X t) (hU : lbU t Le) (h3 : tSb t u 13 Le) (hsn : sn = ((1 : Int32) <<< (nI tot &&& 31)) - 1) (h12 : tot ≤ 12) (hlo : lo ≤ Le) (hc0 : t.1 0 < 6000) (hl : t.1 1 ≤ 1100) : tI yp X u ∧ tOK lo (n0 + 1) n1 n2 n3 n7 s u (tMt X G rs (s.1 4) q sh m z) ∧ nwC (s.1 4) u [] := by
  obtain ⟨x1, x2, x3, ⟨x4, x5, x6, x9⟩, x7⟩ := h
  have o3 := tOK_sb (lo := lo) h3 hc0 hlo hU.1
  have u0 : u.1 0 = t.1 0 + 1 := (insA_lt h3.2.2.2.1 hc0).1
  have u1 := h3.1 1 (by decide); have u2 := h3.1 2 (by decide); have u3 := h3.1 3 (by decide); have u4 := h3.1 4 (by decide); have u7 := h3.1 7 (by decide)
  have d0 := x1.1 0 (by decide); have d4 := x1.1 4 (by decide)
  have hLe : Le < 1100 := by have := hU.1; omega
  have hb : ∀ g : Nat, g < tot → bS sn g := fun g hg => by rw [hsn]; exact bS_all tot (by omega) g hg
  refine ⟨tI_sb hI hU h3 hc0 hl, ⟨tXt_tr x1 o3.1, ⟨fun i hi hj hL => ?_, tOp_tr x2.2 o3.2.1.2 d4⟩, by omega, fun F hF => ?_⟩, nwC_x x9 o3.1 o3.2.1.2 (by omega)⟩
  · rcases Nat.lt_or_ge i (t.1 0) with c | c
    · rw [o3.1.2.1 0 (by decide) i c] at hL
      obtain ⟨M, g1, g2, g3⟩ := x2.1 i hi c hL
      exact ⟨M, g1, by omega, (o3.1.2.1 1 (by decide) i c).trans g3⟩
    · exact o3.2.1.1 i c hj hL
  · have hFt := tAg_l hF o3.1 x1
    obtain ⟨hab, hseg⟩ := x7 F ⟨hFt.1, hFt.2.1, fun i a b _ => hFt.2.2.1 i a b, hFt.2.2.2⟩
    obtain ⟨l1, l2, l3, -⟩ := o3.2.2.2 F (tAg_r hF x1)
    intro J O hO
    have hv := scI_vl hO.1
    have hvO : vl O ≤ 211 := by omega
    have seg1 := hseg (fun g hg => by
      obtain ⟨M, g1, g2⟩ := x6 g hg (hb g hg)
      exact ⟨M, (hFt.2.2.1 (tb + g) (by omega) (by omega)).trans g1, g2⟩) J O (scJ_sub hO (Nat.le_refl _) (by omega))
    rw [u0]
    by_cases q9 : z = 1
    · rw [if_pos q9]
      have seg2 : sg F X G rs J (s.1 0) (t.1 0) (some (sE q sh m :: O)) none := sg_wk seg1 (fun M st h9 => by
        rcases h9 with h9 | ⟨g, g1, g2, -⟩ | ⟨g1, -⟩
        · exact h9
        · exact absurd (hb g g1) g2
        · exact absurd q9 g1)
      exact sg_app seg2 (sg_dead (o := 13) l2 ⟨Le, l3, hLe⟩) d0 (Nat.le_succ _)
    · rw [if_neg q9]
      have seg2 : sg F X G rs (fun M st => J M st ∨ (M = nI Le ∧ st = O)) (s.1 0) (t.1 0) (some (sE q sh m :: O)) (some O) := sg_none (sg_wk seg1 (fun M st h9 => by
        rcases h9 with h9 | ⟨g, g1, g2, -⟩ | ⟨-, g2, g3⟩
        · exact Or.inl h9
        · exact absurd (hb g g1) g2
        · exact Or.inr ⟨g2, g3⟩)) hab (vs hvO)
      exact sg_lab (j := t.1 0) (L := nI Le) (r := O) seg2 (sg_one (o := 13) l2 ⟨Le, l3, hLe⟩ hvO (vs hvO) (fun k9 hk9 => hk9)) d0 (Nat.lt_succ_self _) l2 l3 (scI_vl hO.1)
