section LY33
variable {R : yR} {S0 Sb S S1 S2 S3 : Sg} {P P1 P2 P3 h h0 h1 h2 hc L L1 L2 Lb z n z2 n2 : Nat} {Γ Γ0 Γ1 Γ2 Λ : List Nat} {E : eV} {s s1 s2 yD : List tE} {gv : Nat} {js js1 ks : List Nat} {bw : Nat → Nat} {cl cD : Prop} {p q b c v w : Nat} {V : Sg → Option Nat → Option (Sg × Unit)} {D : Nat → Prop}
/-- a jump back to where the piece begins -/
theorem GVo.bk {tk : Nat} {y2 : List tE} (g : GVo R S0 S S2 E P P2 h2 Γ2 L L2 s s D yD cl cD z n) (p : LPt R S0 S2 S3 P2 h2 Γ2 L2 L2 (ptRc 16 (nI tk)) 0 0) (htk : tk < R.T) (hP : P2 < 24000) (hw : wl s ≤ 177) (hfu : Zr S3 27 P = 0) (hT : nT s) : GVo R S0 S (Ur S3 30 (upd (Zr S3 30) P2 (nI P))) E P (P2 + 1) h2 Γ2 L L2 s y2 D yD True cD z n := by
  obtain ⟨a1, a2, a3, a4, a5, a6, a7, a8⟩ := g
  have z3 : LZ P2 L2 S2 (Ur S3 30 (upd (Zr S3 30) P2 (nI P))) := p.2.1.tr (LZ.ur (by decide) (Nat.le_refl _)) (Nat.le_refl _) (Nat.le_refl _)
  have z4 := a2.tr z3 a6 a7
  refine ⟨p.1.ur (Or.inl (by decide)), z4, ?_, by have := p.2.2.2.1; show Zz S3 ≤ _; omega, by have := p.2.2.2.2.1; show Zn S3 ≤ _; omega, by omega, a7, ?_⟩
  · obtain ⟨st, W, h1, h2, h3, h4, h5, h6, h7, h8⟩ := a3.st z3
    have hj : ∀ {j : Nat} {t : List tE}, j ≤ P2 → wkS t (st j) → wkS t (pcE (P2 + 1) y2 st j) := fun hjb j3 => by rw [pcE_n (by omega)]; exact j3
    refine ⟨pcE (P2 + 1) y2 st, fun k => k ≠ P2 + 1 ∧ W k, by rw [pcE_n (by omega)]; exact h1, pcE_s, ⟨by omega, h3⟩, fun _ w => w.1 rfl, by omega, fun k hk => by have := h6 k hk; omega, fun w k hk q => h7 w k hk q.2, fun k hk hb => ?_⟩
    rw [pcE_n (show k ≠ P2 + 1 by omega)]
    by_cases e : k < P2
    · obtain ⟨q0, q1, q2⟩ := h8 k hk e
      refine ⟨q0, fun hd => ?_, fun hd T hT hT2 => ?_⟩
      · obtain ⟨i, p1, p2, p3, p4⟩ := q1 hd
        refine ⟨i, p1, p2, fun j hj2 => ?_, p4.im (fun w => w.2) (fun j t ⟨j1, j2, j3⟩ => ⟨j1, by omega, hj j2 j3⟩)⟩
        obtain ⟨j1, j2, j3, j4⟩ := p3 j hj2
        exact ⟨j1, by omega, fun w => ⟨by omega, j3 w.2⟩, j4⟩
      · obtain ⟨i, p1, p2, p3, p4⟩ := q2 hd T hT hT2
        refine ⟨i, p1, p2, fun j hj2 => (p3 j hj2).imp id (fun ⟨w1, w2⟩ => ⟨w1, fun w => ⟨by omega, w2 w.2⟩⟩), p4.im (fun w => w.2) (fun j t w => w.imp id (fun ⟨j1, j3⟩ => ⟨j1, hj (by omega) j3⟩))⟩
    · obtain rfl : k = P2 := by omega
      have hnd : ¬ D k := fun w => by have := h6 k w; omega
      refine ⟨by rw [h2]; exact hw, fun _ => ⟨_, rz_j (K := 16) (sc := [P]) (Or.inl ⟨rfl, rfl⟩) p.2.2.1 pl0_o htk (by omega), (fun l e => by cases e), fun j hj2 => ?_, tP_16 rfl ⟨⟨iD0_0, by rw [h2]; exact hT⟩, P, rfl, Nat.le_refl _, by omega, ?_⟩⟩, fun w => absurd w hnd⟩
      · rw [List.mem_singleton.mp hj2]
        exact ⟨Nat.le_refl _, by omega, fun _ => ⟨by omega, h3⟩, Or.inr ((congrFun (Zr_un (by decide)) P).trans hfu)⟩
      · rw [pcE_n (by omega), h2]; exact h1
  · have hR := a8.tr (P1 := P2) (p.2.2.2.2.2.2) a2.1 p.2.1
    exact hR
/-- FUEL of a round -/
theorem fue_ {tk : Nat} {g : Sg → Int32 → Option (Sg × Unit)} {Q : Sg → Unit → Prop} (c : LC R S0 S P h Γ L) (htk : tk < R.T) (hP : P < 24000) (hw : wl s ≤ 177) (hT : nT s) (k : ∀ S1 : Sg, GV R S0 S S1 E P (P + 1) h0 h Γ0 Γ L L s s False 0 0 → (P = 0 ∨ K0 S P → K0 S1 (P + 1)) → Zr S1 27 P = 0 → Rt (g S1 (nI P)) Q) : Rt (bnd (f_point R.K S 0 (nI tk)) g) Q := by
  refine pnt_ (Lb := L) (Sb := S) (z := 0) (n := 0) hP c LZ.rf (Nat.le_refl _) (by omega) (by omega) UsK.rf (fun S1 p1 _ => k S1 (gvp (K := 0) (pp := tk) (by decide) p1 pl0_o htk hw (tP_0 rfl ⟨⟨iD0_0, hT⟩, rfl, wkS.rf⟩)) (fun w => ?_) (p1.2.2.1.1 27 (by decide) (by decide) (by decide)))
  rcases w with e | e
  · subst e
    have : Zr S1 27 0 = 0 := p1.2.2.1.1 27 (by decide) (by decide) (by decide)
    exact ⟨by omega, by rw [this]; decide, by rw [this]; decide⟩
  · exact e.st p1.2.1 (Nat.le_succ _)
/-- while -/
theorem lwh_ {a xe y q0 b1 t m : Nat} (H : LyH R S0 S E P Γ L js Λ gv bw p q b c v w) (hV : LbV R S0 E Λ gv bw V n) (hm : m ≤ n) (ha : a ∈ ZL R.S) (k1 : ZF S0 a = stC 4 p 0 0 0 .null (.ref xe) .null .null (.ref y) .null .null .null 0) (k2 : xE R S0 Γ 408 16 xe (p + 1) q0 b b1 t) (k3 : isTy S0 t 1 0 none) (k4 : sN R S0 Λ gv m 1 y q0 q b1 c v w Γ Γ (0, 0, 0)) : Rt (f_layWhile R.K V S (some a)) (fun S2 _ => LyQ R S0 S E P Γ Γ L js Λ bw p q b c v w False 1 S2) := by
  have H2 := H
  obtain ⟨hF, hB, cc, k0, hG, hv, hw, hpq, hP, hl, hr⟩ := H
  have hL := hF.1.1
  have hY := hF.1.2.1
  have hlt := xE_lt k2
  have hbc := xE_bc k2
  have hlt2 := sN_lt k4
  have hmo2 := sN_mo k4
  have m1 := hB.mo (p := p) (q := p + 1) (by omega) (by omega)
  have m2 := hB.mo (p := p + 1) (q := q0) (by omega) (by omega)
  have m3 := hB.mo (p := q0) (q := q) (by omega) (by omega)
  have rT : ∀ {S' : Sg}, LX S0 S' → oI S' 19 (some a) 1 = some (nI p) := fun hx => hx.vi (by decide) (by decide) (oI_mk (hL a ha) k1 rfl)
  unfold f_layWhile
  refine Rt.bd (rT cc.1) (fue_ (E := E) (h0 := 0) (Γ0 := Γ) (s := mkV js) cc (by omega) (by omega) (by rw [wl_mk]; omega) nT_mk (fun S1 g1 kk1 hf1 => ?_))
  have kk1 := kk1 (Or.inr k0)
  refine Rt.bd (g1.1.1.vr (by decide) (by decide) (oR_mk (hL a ha) k1 (v := some xe) rfl)) ?_
  refine Rt.bn (sgv (p := p + 1) (q := q) (c := b1) (v := v) (w := v) ⟨hF, hB, g1.1, kk1, hG, hv, by omega, by omega, by omega, by omega, g1.rm hr (by omega) (by omega)⟩ k2 (Nat.le_refl _) hlt2) (fun S2 _ t2 => ?_)
  obtain ⟨P2, L2, g2, b1', b2', b3', b4', b5', kk2⟩ := t2
  rw [resE_b hY k3] at g2
  have hw1 : wl ([(0, 2, 0)] ++ mkV js) = 0 + 1 := by show wl ((0, 2, 0) :: mkV js) = _; rw [wl_0t, wl_mk]
  rw [hw1] at g2
  have e48 : Zi S2 48 - 1 = nI 0 := by rw [g2.1.2.2.1]; exact nI_pred 0
  refine g2.hs e48 (fun S3 g3 e3 => ?_)
  have kk3 : K0 S3 P2 := by unfold K0; rw [e3]; exact kk2
  refine Rt.bd (rT g3.1.1) ?_
  refine pnt_ (Lb := L2) (Sb := S3) (z := 0) (n := 0) (by omega) g3.1 LZ.rf (Nat.le_refl _) (by omega) (by omega) UsK.rf (fun S4 p4 _ => ?_)
  have g4 : GVo R S0 S3 S4 E P2 (P2 + 1) 0 Γ L2 L2 ([(0, 2, 0)] ++ mkV js) (mkV js) (fun k => k = P2) (mkV js) False False 0 0 := by
    refine gvj (K := 17) (pp := p) (Or.inr ⟨Or.inl rfl, fun w => w.elim⟩) p4 pl0_o (by omega) (by rw [hw1]; omega) (fun T _ _ => ?_)
    exact tP_17 rfl ⟨iD0_0, 2, T, mkV js, Or.inr rfl, rfl, rfl, Or.inr ⟨rfl, wkS.rf⟩, Or.inl ⟨rfl, wkS.rf⟩⟩
  have G4 := ((GVo.of (yD := mkV js) (cD := True) g1).tr (GVo.of (yD := mkV js) (cD := True) g3)).tr g4
  refine Rt.bd (g4.1.1.vr (by decide) (by decide) (oR_mk (hL a ha) k1 (v := some y) rfl)) ?_
  have r4 : RMl R S4 (20 * (bw q - bw q0)) (60 * (bw q - bw q0)) := ⟨by have := G4.2.2.2.1; have := hr.1; omega, by have := G4.2.2.2.2.1; have := hr.2; omega⟩
  refine Rt.bn (hV m hm y q0 q b1 c v w Γ k4 S4 (P2 + 1) L2 js ⟨hF, hB, g4.1, Or.inr (kk3.st g4.2.1 (Nat.le_succ _)), hG, hv, hw, by omega, by omega, by omega, r4.le (by omega) (by omega)⟩) (fun S5 _ t5 => ?_)
  obtain ⟨P5, L5, z5, n5, g5, d1, d2, d3, d4, d5⟩ := t5
  have G5 := G4.tr (GVo.of (yD := mkV js) (cD := True) g5)
  have hP5 : P2 + 1 ≤ P5 := g5.2.2.2.2.2.1
  refine Rt.bd (rT g5.1.1) ?_
  refine pnt_ (Lb := L5) (Sb := S5) (z := 0) (n := 0) (by omega) g5.1 LZ.rf (Nat.le_refl _) (by omega) (by omega) UsK.rf (fun S6 p6 _ => ?_)
  refine Rt.bd (wRI_n (show P5 < rlen 30 from by show P5 < 24000; omega) (by decide)) ?_
  have hf6 : Zr S6 27 P = 0 := by
    have z1 := (g3.2.1.2.1 P (by omega)).1 27 (by decide) (by decide)
    have z2 := (g4.2.1.2.1 P (by omega)).1 27 (by decide) (by decide)
    have z3 := (g5.2.1.2.1 P (by omega)).1 27 (by decide) (by decide)
    have z4 := (p6.2.1.2.1 P (by omega)).1 27 (by decide) (by decide)
    rw [z4, z3, z2, z1]; exact hf1
  have G6 := GVo.bk (y2 := mkV js) G5 p6 (by omega) (by omega) (by rw [wl_mk]; omega) hf6 nT_mk
  have e26 : Zi (Ur S6 30 (upd (Zr S6 30) P5 (nI P))) 26 = nI (P5 + 1) := G6.1.2.1
  rw [e26]
  refine Rt.bd (wRI_n (show P2 < rlen 30 from by show P2 < 24000; omega) (by decide)) (Rt.rt ?_)
  have G7 := G6.pj (k := P2) (Or.inl (Or.inr rfl)) wkS.rf (by omega)
  have g8 : GV R S0 S _ E P (P5 + 1) 0 0 Γ Γ L L5 (mkV js) (mkV js) (True ∧ _) _ _ := G7.cls (h := 0) (Γ := Γ) (fun k hk => by
    obtain ⟨w1, w2⟩ := hk
    rcases w1 with ((w1 | w1) | w1) | w1
    · exact w1
    · exact w1
    · exact w2 w1
    · exact w1)
  have kk6 : K0 S6 (P5 + 1) := by
    rcases d5 with e | e
    · omega
    · exact e.st p6.2.1 (Nat.le_succ _)
  refine LyQ.of hG (fun i hi => by have := hv i hi; omega) (g8.mo (fun w => w.elim) (Nat.le_refl _) (Nat.le_refl _)) (by omega) (by omega) (by omega) (by omega) ?_
  have hz1 : Zr (Ur (Ur S6 30 (upd (Zr S6 30) P5 (nI P))) 30 (upd (Zr (Ur S6 30 (upd (Zr S6 30) P5 (nI P))) 30) P2 (nI (P5 + 1)))) 27 = Zr S6 27 := by rw [Zr_un (by decide), Zr_un (by decide)]
  unfold K0; rw [hz1]; exact kk6
end LY33
