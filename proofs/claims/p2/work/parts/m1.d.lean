/-- what a statement's laying begins with -/
def LyH (R : yR) (S0 S : Sg) (E : eV) (P : Nat) (Γ : List Nat) (L : Nat) (js Λ : List Nat) (gv : Nat) (bw : Nat → Nat) (p q b c v w : Nat) : Prop := FEn R S0 E Λ gv ∧ BWt R bw ∧ LC R S0 S P 0 Γ L ∧ K0 S P ∧ GJ Λ Γ js ∧ (∀ i ∈ js, i < v) ∧ (v ≤ w ∧ w ≤ 40) ∧ (p < q ∧ q ≤ R.T) ∧ P + 8 * (bw q - bw p) ≤ 24000 ∧ (b ≤ c ∧ L + c + w ≤ 160 + b + v) ∧ RMl R S (20 * (bw q - bw p)) (60 * (bw q - bw p))
section LY29
variable {R : yR} {S0 Sb S S1 S2 : Sg} {P P1 P2 h h0 h1 hc L L2 Lb z n : Nat} {Γ Γ0 Γ1 Γ2 Λ : List Nat} {E : eV} {s s2 : List tE} {gv : Nat} {js js1 ks : List Nat} {x : pRc} {bw : Nat → Nat} {cl : Prop} {p q b c v w : Nat}
/-- one point was laid -/
theorem gv1 {i : iR} (p : LPt R S0 Sb S P h Γ L Lb x z n) (hz : rz R S0 S P i) (hsc : i.sc = [P + 1]) (hln : ∀ l : Nat, i.ln = some l → l < L) (hw : wl s ≤ 177) (ht : tPt E P True i s (fun j t => j = P + 1 ∧ wkS t s2)) : GV R S0 Sb S E P (P + 1) h0 h Γ0 Γ Lb L s s2 False z n :=
  ⟨p.1, p.2.1, tsg.one hz hln (fun j hj => by rw [hsc] at hj; exact List.mem_singleton.mp hj) hw ht (fun w => w.elim), p.2.2.2.1, p.2.2.2.2.1, Nat.le_succ _, p.2.2.2.2.2.1, p.2.2.2.2.2.2⟩
theorem GV.mo {P2 L2 z2 n2 : Nat} {cl2 : Prop} (g : GV R S0 S S2 E P P2 h h1 Γ Γ2 L L2 s s2 cl z n) (hc : cl2 → cl) (hz : z ≤ z2) (hn : n ≤ n2) : GV R S0 S S2 E P P2 h h1 Γ Γ2 L L2 s s2 cl2 z2 n2 := ⟨g.1, g.2.1, g.2.2.1.fl hc, Nat.le_trans g.2.2.2.1 (by omega), Nat.le_trans g.2.2.2.2.1 (by omega), g.2.2.2.2.2⟩
/-- an exp of a statement -/
theorem sgv {xe p' q' t : Nat} (H : LyH R S0 S E P Γ L js Λ gv bw p q b c v w) (hx : xE R S0 Γ 408 16 xe p' q' b c t) (h1 : p ≤ p') (h2 : q' < q) : Rt (f_give R.K 410 S (some xe)) (fun S2 _ => ∃ P1 L1 : Nat, GV R S0 S S2 E P P1 0 (wl (resE S0 t ++ mkV js)) Γ Γ L L1 (mkV js) (resE S0 t ++ mkV js) False (5 * (q' - p')) (40 * (q' - p')) ∧ P < P1 ∧ P1 ≤ P + (q' - p') ∧ L1 + b ≤ L + c ∧ p' < q' ∧ (q' - p') + 1 + (p' - p) ≤ bw q - bw p ∧ K0 S2 P1) := by
  obtain ⟨hF, hB, cc, k0, hG, hv, hw, hpq, hP, hl, hr⟩ := H
  have hlt := xE_lt hx
  have hm := hB.mo (p := p) (q := q) (by omega) hpq.2
  refine (give_ hF.1 408 410 (by decide) (by decide) 16 xe p' q' b c t hx S P 0 Γ L (mkV js) cc k0 (hG.al hF (fun i hi => List.mem_map.mpr ⟨i, hi, rfl⟩) nT_mk) wl_mk (by decide) (by omega) (by omega) (by omega) (hr.le (by omega) (by omega))).mo (fun S2 _ g => ?_)
  obtain ⟨P1, L1, g, g1, g2, g3⟩ := g
  exact ⟨P1, L1, g, g1, g2, g3, hlt, by omega, k0.st g.2.1 (by omega)⟩
theorem not8 {v : Nat} (hv : ∀ i ∈ js, i < v) : (8, v, 0) ∉ mkV js := fun w => by have := hv v (mkV_m w); omega
/-- let -/
theorem llt_ {a nm y : Nat} {mu : Int32} {wr ex : Value} (H : LyH R S0 S E P Γ L js Λ gv bw p q b c v w) (ha : a ∈ ZL R.S) (k1 : ZF S0 a = stC 0 p (nI nm) mu 0 wr ex .null (.ref y) .null .null .null .null 0) (k2 : Λ[v]? = some y) (k3 : w = v + 1) (k4 : Γ2 = Γ ++ [y] ∧ p < nm ∧ nm < q) (k5 : (ex = .null ∧ b = c) ∨ ∃ (x p' q' t : Nat) (m9 : Int32), ex = .ref x ∧ p < p' ∧ q' < q ∧ xE R S0 Γ 408 16 x p' q' b c t ∧ rTy S0 t ∧ isV S0 y v (nI nm) (some t) m9) : Rt (f_layLet R.K S (some a)) (fun S2 _ => LyQ R S0 S E P Γ Γ2 L js Λ bw p q b c v w False 1 S2) := by
  have H2 := H
  obtain ⟨hF, hB, cc, k0, hG, hv, hw, hpq, hP, hl, hr⟩ := H
  have hL := hF.1.1
  have hY := hF.1.2.1
  have hm := hB.mo (p := p) (q := q) (by omega) hpq.2
  obtain ⟨⟨v40, _⟩, nm2, mu2, ty, hV, hvt, hty⟩ := hF.2.1 v y k2
  obtain ⟨rfl, k41, k42⟩ := k4
  subst k3
  have hGl := hG.len
  have hjl := GJ.l40 (v := v) hG hv
  have rv : ∀ {S' : Sg} {P' h' L' : Nat} {Γ' : List Nat}, LC R S0 S' P' h' Γ' L' → okO S' 21 (some y) = true ∧ oI S' 21 (some y) 0 = some (nI v) ∧ isU S' y v ty mu2 := fun c' => by
    obtain ⟨wh, w1, w2, _⟩ := c'.2.2.2.2.2.2.1 y v nm2 ty mu2 hV
    exact ⟨okO_mk w1 w2, oI_mk w1 w2 rfl, w1, nm2, wh, w2⟩
  have r8 : ∀ {S' : Sg}, LX S0 S' → oR S' 19 (some a) 8 = some (some y) := fun hx => hx.vr (by decide) (by decide) (oR_mk (hL a ha) k1 (v := some y) rfl)
  have r2 : ∀ {S' : Sg}, LX S0 S' → oI S' 19 (some a) 2 = some (nI nm) := fun hx => hx.vi (by decide) (by decide) (oI_mk (hL a ha) k1 rfl)
  have r6 : ∀ {S' : Sg} {o : Option Nat}, LX S0 S' → ex = va_rf o → oR S' 19 (some a) 6 = some o := fun hx e => hx.vr (by decide) (by decide) (oR_mk (hL a ha) k1 (by rw [← e]; rfl))
  have hG2 : GJ Λ (Γ ++ [y]) (v :: js) := hG.add k2 hv
  have hv2 : ∀ i ∈ v :: js, i < v + 1 := fun i hi => by
    rcases List.mem_cons.mp hi with e | e
    · omega
    · have := hv i e; omega
  -- it comes alive
  have h80 : ∀ (S3 : Sg) (P3 L3 z n : Nat), GV R S0 S S3 E P P3 0 0 Γ Γ L L3 (mkV js) (mkV (v :: js)) False z n → P3 + 2 ≤ P + 8 * (bw q - bw p) → z + 3 ≤ 20 * (bw q - bw p) → n + 5 ≤ 60 * (bw q - bw p) → L3 + b ≤ L + c → K0 S3 P3 → Rt (f_layLet_80 R.K S3 (some a)) (fun S2 _ => LyQ R S0 S E P Γ (Γ ++ [y]) L js Λ bw p q b c v (v + 1) False 1 S2) := fun S3 P3 L3 z n g a1 a2 a3 a4 k3 => by
    unfold f_layLet_80
    refine Rt.bd (r8 g.1.1) (cma_ g (rv g.1).1 (by omega) (fun S4 g4 e4 => Rt.rt ?_))
    refine ⟨P3, L3, z, n, v :: js, g4, hG2, hv2, Or.inr ⟨v, rfl⟩, ?_, ?_, ?_, by omega, ?_⟩
    · show P3 + 1 + (js.length + 1) ≤ _; omega
    · show z + 3 * (js.length + 1) ≤ _; omega
    · show n + 5 * (js.length + 1) ≤ _; omega
    · unfold K0; rw [e4]; exact k3
  unfold f_layLet
  rcases k5 with ⟨rfl, rfl⟩ | ⟨xe, p', q', t, m9, rfl, e2, e3, e4, e5, e6⟩
  · refine Rt.bd (r6 cc.1 (o := none) rfl) (Rt.ip rfl ?_)
    unfold f_layLet_15
    refine Rt.bd (r6 cc.1 (o := none) rfl) (Rt.ip rfl ?_)
    unfold f_layLet_30
    refine Rt.bd (r2 cc.1) ?_
    refine pnt_ (Lb := L) (Sb := S) (z := 0) (n := 0) (by omega) cc LZ.rf (Nat.le_refl _) (by omega) (by omega) UsK.rf (fun S1 p1 _ => ?_)
    refine Rt.bd (r8 p1.1.1) (p1.wO (by omega) (by decide) (rv p1.1).1 (Or.inl (by decide)) (fun S2 p2 _ => ?_))
    refine Rt.bd (r8 p2.1.1) (Rt.bd (rv p2.1).2.1 (p2.wI (by omega) (by decide) (fun S3 p3 _ => ?_)))
    refine Rt.bd (r6 p3.1.1 (o := none) rfl) (Rt.ip rfl ?_)
    refine h80 S3 (P + 1) L 0 0 (gv1 p3 (i := (13, 0, none, (some v, none), ([], []), [P + 1], (E.vt v, 0, 0), [v])) (rz_g (K := 13) rfl p3.2.2.1 (by decide) (by decide) rfl rfl (by show (0 : Nat) < 8; decide) rfl rfl (Or.inl ⟨rfl, rfl⟩) (Or.inl ⟨rfl, rfl⟩) ⟨nm, rfl, by omega⟩ (Or.inl ⟨rfl, rfl⟩) (fun l e => by cases e) rfl rfl (fun w => absurd w (by decide)) (fun w => absurd w (by decide)) (fun w => absurd w (by decide)) (fun _ => ⟨y, v, ty, mu2, rfl, rfl, (rv p3.1).2.2, hvt.symm, hty⟩) (fun w => absurd w (by decide)) (fun w => absurd w (by decide))) rfl (fun l e => by cases e) (by rw [wl_mk]; omega) (tP_13 rfl ⟨rfl, rfl, ⟨rfl, nT_mk⟩, rfl, rfl, v, rfl, v40, rfl, not8 hv, wl_mk, rfl, rfl, wkS.rf⟩)) (by omega) (by omega) (by omega) (Nat.le_refl _) (k0.st p3.2.1 (Nat.le_succ _))
  · have hxt : E.vt v = abT S0 t := by
      obtain ⟨_, _, e9, _⟩ := isV_u e6 hV (by omega) (by omega)
      rw [hvt, ← e9]; rfl
    have e9 : ty = some t := by obtain ⟨_, _, e9, _⟩ := isV_u e6 hV (by omega) (by omega); exact e9.symm
    obtain ⟨gs, y1, y2, y3⟩ := xE_t12 e4
    refine Rt.bd (r6 cc.1 (o := some xe) rfl) (Rt.iq (by simp) (Rt.bd (r6 cc.1 (o := some xe) rfl) (Rt.bn (sgv H2 e4 (by omega) e3) (fun S1 _ t1 => ?_))))
    obtain ⟨P1, L1, g1, b1, b2, b3, b4, b5, k1'⟩ := t1
    rw [resE_r hY e5] at g1
    have hw1 : wl ([eT (abT S0 t)] ++ mkV js) = 0 + 1 := by show wl (eT (abT S0 t) :: mkV js) = _; rw [wl_eT, wl_mk]
    rw [hw1] at g1
    have hr1 := g1.rm hr (z2 := 2) (n2 := 2) (by omega) (by omega)
    unfold f_layLet_15
    refine Rt.bd (r6 g1.1.1 (o := some xe) rfl) (Rt.iq (by simp) ?_)
    unfold f_layLet_30
    refine Rt.bd (r2 g1.1.1) ?_
    refine pnt_ (Lb := L1) (Sb := S1) (z := 0) (n := 0) (by omega) g1.1 LZ.rf (Nat.le_refl _) (by omega) (by omega) UsK.rf (fun S2 p2 _ => ?_)
    refine Rt.bd (r8 p2.1.1) (p2.wO (by omega) (by decide) (rv p2.1).1 (Or.inl (by decide)) (fun S3 p3 _ => ?_))
    refine Rt.bd (r8 p3.1.1) (Rt.bd (rv p3.1).2.1 (p3.wI (by omega) (by decide) (fun S4 p4 _ => ?_)))
    refine Rt.bd (r6 p4.1.1 (o := some xe) rfl) (Rt.iq (by simp) (Rt.bd (r6 p4.1.1 (o := some xe) rfl) (Rt.bd (p4.1.1.vr (by decide) (by decide) (oR_mk (hL xe y1) y2 (v := some t) y3)) ?_)))
    refine Rt.bn (use_ (xt := t) (by omega) hY p4 (by decide) e5 (by have := hr1.1; omega) (by have := hr1.2; omega)) (fun S5 _ t5 => ?_)
    obtain ⟨x5, p5, l5, u1, u2, u3, u4, u5⟩ := t5
    have hus : ∀ r : Nat, (r = 36 ∨ r = 37) → rAr R S5 (x5.2.2 r) (ifR (E.vt v) [40] []) := fun r hr => by
      by_cases q : isRf (E.vt v)
      · rw [ifR_p q]
        rw [hxt] at q
        rcases hr with e | e <;> subst e
        · exact (u4 q).2
        · exact (u4 q).1
      · rw [ifR_n q]
        rw [hxt] at q
        rcases hr with e | e <;> subst e
        · exact Or.inl ⟨(u5 q).2, rfl⟩
        · exact Or.inl ⟨(u5 q).1, rfl⟩
    have g5 : GV R S0 S1 S5 E P1 (P1 + 1) 0 0 Γ Γ L1 L1 ([eT (abT S0 t)] ++ mkV js) (mkV (v :: js)) False (0 + 2) (0 + 2) := by
      refine gv1 p5 (i := (12, 0, none, (some v, none), (ifR (E.vt v) [40] [], ifR (E.vt v) [40] []), [P1 + 1], (E.vt v, 0, 0), [v])) (rz_g (K := 12) rfl p5.2.2.1 (by decide) (by decide) ?_ ?_ (by show (0 : Nat) < 8; decide) ?_ ?_ (hus 37 (Or.inr rfl)) (hus 36 (Or.inl rfl)) ⟨nm, ?_, by omega⟩ (Or.inl ⟨?_, rfl⟩) (fun l e => by cases e) ?_ rfl (fun w => absurd w (by decide)) (fun w => absurd w (by decide)) (fun w => absurd w (by decide)) (fun _ => ⟨y, v, ty, mu2, ?_, rfl, (rv p5.1).2.2, hvt.symm, hty⟩) (fun w => absurd w (by decide)) (fun w => absurd w (by decide))) rfl (fun l e => by cases e) (by rw [hw1]; omega) (tP_12 rfl ⟨rfl, rfl, rfl, v, mkV js, rfl, v40, rfl, ?_, ?_, not8 hv, wl_mk, fun q => ⟨ifR_p q, ifR_p q⟩, fun q => ⟨ifR_n q, ifR_n q⟩, rfl, rfl, wkS.rf⟩)
      · rw [u1]; rfl
      · rw [u1]; rfl
      · rw [u1]; rfl
      · rw [u1]; rfl
      · rw [u1]; rfl
      · rw [u3 38 (by decide) (by decide)]; rfl
      · rw [u1]; rfl
      · rw [u3 40 (by decide) (by decide)]; rfl
      · rw [hxt]; exact e5.n0 hY
      · rw [hxt]; rfl
    exact h80 S5 (P1 + 1) L1 (5 * (q' - p') + 2) (40 * (q' - p') + 2) (g1.tr g5 (fun w => w.elim) (Nat.le_refl _) (Nat.le_refl _)) (by omega) (by omega) (by omega) b3 (k1'.st g5.2.1 (Nat.le_succ _))
end LY29
