section LY31
variable {R : yR} {S0 Sb S S1 S2 : Sg} {P P1 P2 h h0 h1 hc L L2 Lb z n : Nat} {Γ Γ0 Γ1 Γ2 Λ : List Nat} {E : eV} {s s2 : List tE} {gv : Nat} {js js1 ks : List Nat} {x : pRc} {bw : Nat → Nat} {cl : Prop} {p q b c v w : Nat} {V : Sg → Option Nat → Option (Sg × Unit)}
/-- a place's path is made -/
theorem pthS {e p q v xt mu mv : Nat} {π : List (Nat × Nat)} (hF : FEn R S0 E Λ gv) (hA : ALv S0 E Γ s) (c : LC R S0 S P h Γ2 L) (hx : xPl R S0 Γ 408 e p q v π xt mu mv) (hπ : π.length ≤ 4) (hr : RMl R S 3 13) : Rt (f_pathOf R.K S (some e)) (fun S1 r => ∃ (w ix tv : Nat), r = some w ∧ LC R S0 S1 P h Γ2 L ∧ KX S S1 ∧ isPw R S0 S1 w v ix tv π xt ∧ Zz S1 ≤ Zz S + 3 ∧ Zn S1 ≤ Zn S + 13 ∧ UsK S0 S S1 ∧ PN S0 S S1 w ∧ (ix < 40 ∧ E.ad ix = v) ∧ E.vt ix = abT S0 tv ∧ (8, ix, 0) ∈ s ∧ rTy S0 tv ∧ rTy S0 xt ∧ qMs π ∧ (π ≠ [] → vTy S0 xt) ∧ (π = [] → xt = tv) ∧ (isRf (abT S0 tv) → π ≠ [] → mu = 1 → abT S0 tv % 2 = 1)) := by
  obtain ⟨r1, r2⟩ := hr
  have hY := hF.1.2.1
  obtain ⟨tv, vi, nm, mt, i0, i2, i3, i4, i5, i6, i7, i8, i9, i10⟩ := xPl_in hY hx
  obtain ⟨ix2, i1, a1, a2, a3⟩ := hA.2 v i2 vi nm tv mt i0
  refine (pth_ c hF.1.1 hx (by decide) hπ (by omega) (by omega)).mo (fun S1 r t => ?_)
  obtain ⟨w, ix3, tv2, rfl, t2, t3, t4, t5, t6, t7, t8, t9⟩ := t
  have hsame : tv2 = tv ∧ isPw R S0 S1 w v ix2 tv2 π xt := by
    obtain ⟨sa, ta, f9, g9, j1, j2, j3, j4, j5, j6, nm2, mt2, u⟩ := t4
    have e2 := u.2.symm.trans i1.2
    obtain ⟨_, e4⟩ := Prod.mk.inj (Sum.inr.inj e2)
    injection e4 with b1 e4
    injection e4 with b2 e4
    injection e4 with b3 e4
    injection b1 with b1
    exact ⟨Option.some.inj (va_rf_inj b3), sa, ta, f9, g9, j1, j2, j3, j4, j5, j6, nm2, mt2, u.1, by rw [u.2]; unfold vrC; rw [b1]⟩
  obtain ⟨e1, t4⟩ := hsame
  subst e1
  exact ⟨w, ix2, tv2, rfl, t2, t3, t4, t6, t7, t8, t9, a1, a2, a3, i3, i4, i5, i8, fun e => (i9 e).1, fun q1 q2 => (i10 q1 q2).2⟩
/-- an assignment -/
theorem las_ {a xe y q1 p2 q2 vv t mu mv : Nat} {π : List (Nat × Nat)} (H : LyH R S0 S E P Γ L js Λ gv bw p q b c v v) (ha : a ∈ ZL R.S) (k1 : ZF S0 a = stC 2 p 0 0 0 .null (.ref xe) (.ref y) .null .null .null .null .null 0) (k2 : xPl R S0 Γ 408 y p q1 vv π t mu mv) (k3 : π.length ≤ 4) (k4 : q1 < p2) (k5 : q2 < q) (k6 : xE R S0 Γ 408 16 xe p2 q2 b c t) (k7 : π = [] ∨ mu = 1) : Rt (f_layAssign R.K S (some a)) (fun S2 _ => LyQ R S0 S E P Γ Γ L js Λ bw p q b c v v False 1 S2) := by
  have H2 := H
  obtain ⟨hF, hB, cc, k0, hG, hv, hw, hpq, hP, hl, hr⟩ := H
  have hL := hF.1.1
  have hY := hF.1.2.1
  have hEy := hF.1.2.2.2.2.1
  have hpq1 : p < q1 := k2.1.2.2
  have r6 : ∀ {S' : Sg}, LX S0 S' → oR S' 19 (some a) 6 = some (some xe) := fun hx => hx.vr (by decide) (by decide) (oR_mk (hL a ha) k1 (v := some xe) rfl)
  have r7 : ∀ {S' : Sg}, LX S0 S' → oR S' 19 (some a) 7 = some (some y) := fun hx => hx.vr (by decide) (by decide) (oR_mk (hL a ha) k1 (v := some y) rfl)
  obtain ⟨xs, x1, x2, x3⟩ := xE_t12 k6
  obtain ⟨ys, y1, y2, y3⟩ := xPl_ty k2
  obtain ⟨ys', y2', y4⟩ := xPl_t1 k2
  obtain rfl : ys' = ys := by rw [y2] at y2'; cases y2'; rfl
  unfold f_layAssign
  refine Rt.bd (r6 cc.1) (Rt.bn (sgv H2 k6 (by omega) k5) (fun S1 _ t1 => ?_))
  obtain ⟨P1, L1, g1, b1, b2, b3, b4, b5, k1'⟩ := t1
  have hrt : rTy S0 t := (xPl_c k2).2.2.1
  rw [resE_r hY hrt] at g1
  have hw1 : wl ([eT (abT S0 t)] ++ mkV js) = 0 + 1 := by show wl (eT (abT S0 t) :: mkV js) = _; rw [wl_eT, wl_mk]
  rw [hw1] at g1
  have hr1 := g1.rm hr (z2 := 6) (n2 := 16) (by omega) (by omega)
  have hA1 : ALv S0 E Γ (mkV js) := hG.al hF (fun i hi => List.mem_map.mpr ⟨i, hi, rfl⟩) nT_mk
  refine Rt.bd (r7 g1.1.1) (Rt.bn (pthS hF hA1 g1.1 k2 k3 (hr1.le (by omega) (by omega))) (fun S2 r t2 => ?_))
  obtain ⟨w, ix, tv, rfl, c2, kx2, pw2, z2, n2, u2, pn2, ⟨ix40, iad⟩, evt, hin, rtv, _, qms, hvt, hx0, hmu⟩ := t2
  refine Rt.bd (r7 c2.1) (Rt.bd (c2.1.vi (by decide) (by decide) (oI_mk (hL y y1) y2 y4)) ?_)
  refine pnt_ (Lb := L1) (Sb := S1) (z := 3) (n := 13) (by omega) c2 (kx2.1 _ _) (Nat.le_refl _) (by omega) (by omega) u2 (fun S3 p3 e3 => ?_)
  refine p3.wI (by omega) (by decide) (fun S4 p4 e4 => ?_)
  have e34 := e3.tr e4
  have hwm : w ∈ ZL S2 := by obtain ⟨_, _, _, _, h, _⟩ := pw2; exact h
  have pw4 := pw2.st e34.1
  obtain ⟨sa, ta, ff, gf, q1', q2', q3', q4', q5', q6', nm3, mt3, q7'⟩ := id pw4
  refine p4.wO (by omega) (by decide) (okO_mk q1' q2') (Or.inr ⟨rfl, fun y e => by cases e; exact ⟨q1', pn2.st e34.1 hwm⟩⟩) (fun S5 p5 e5 => ?_)
  obtain ⟨a1, a2⟩ := e5.1.ob q1' q2' (by decide) (by decide)
  refine Rt.bd (oB_mk a1 a2) ?_
  have hty : f_X18_type R.K S5 w = some (S5, some t) := by
    unfold f_X18_type
    obtain ⟨b1, b2⟩ := e5.1.ro q4'.1 q4'.2
    rw [oR_mk a1 a2 (v := some ta) rfl, Option.bind_some, oI_mk a1 a2 (v := nI π.length) rfl, Option.bind_some, aQ_n b1 b2 (Nat.lt_succ_self _) (by omega), Option.bind_some, q5'.2.2]
  refine Rt.be hty ?_
  obtain ⟨kd, ixx, oo, yt, _⟩ := hrt.ty
  refine p5.wO (by omega) (by decide) (p5.1.1.okT ⟨_, _, _, yt⟩) (Or.inl (by decide)) (fun S6 p6 e6 => ?_)
  refine Rt.bd (r6 p6.1.1) (Rt.bd (p6.1.1.vr (by decide) (by decide) (oR_mk (hL xe x1) x2 (v := some t) x3)) ?_)
  refine Rt.bn (use_ (xt := t) (by omega) hY p6 (by decide) hrt (by have := hr1.1; omega) (by have := hr1.2; omega)) (fun S7 _ t7 => ?_)
  obtain ⟨x7, p7, l7, v1, v2, v3, v4, v5⟩ := t7
  have l47 := (e5.1.tr e6.1).tr l7
  have pw7 := pw4.st l47
  obtain ⟨c1, c2'⟩ := l47.ob q1' q2' (by decide) (by decide)
  refine Rt.bd (oI_mk c1 c2' (v := nI π.length) rfl) ?_
  have rix : ∀ {S' : Sg} {P' h' L' : Nat} {Γ' : List Nat}, LC R S0 S' P' h' Γ' L' → oI S' 21 (some vv) 0 = some (nI ix) := fun c' => by
    obtain ⟨wh, w1, w2, _⟩ := c'.2.2.2.2.2.2.1 vv ix nm3 (some tv) mt3 q7'
    exact oI_mk w1 w2 rfl
  have hx38 : x7.2.2 38 = some w := by rw [v3 38 (by decide) (by decide)]; rfl
  have hpT : ∀ {i : iR}, i.pa = some (ix, π, abT S0 t) → i.n2 = vv → iPa E i (mkV js) ix π (abT S0 t) := fun hi hn2 => ⟨hi, ⟨ix40, iad.trans hn2.symm⟩, hin, by rw [hEy, evt]; exact q5'.ty hY q6', qms, hrt.n0 hY, k3, nT_mk⟩
  have fin : ∀ (S8 : Sg) (x8 : pRc) (ho : Option Nat) (us fr : List Nat) (zz nn : Nat), LPt R S0 S1 S8 P1 0 Γ L1 L1 x8 zz nn → LX S7 S8 → (∀ r : Nat, r ≠ 34 → x8.1 r = x7.1 r) → x8.2.2 38 = some w → x8.1 34 = oNm ho → rAr R S8 (x8.2.2 37) us → rAr R S8 (x8.2.2 36) fr → zz ≤ 6 → nn ≤ 16 → ((π = [] ∧ ho = some ix ∧ (isRf (abT S0 t) → us = [40] ∧ fr = [40]) ∧ (¬ isRf (abT S0 t) → us = [] ∧ fr = [])) ∨ (π ≠ [] ∧ ho = none ∧ fr = [] ∧ (isRf (E.vt ix) → us = [ix] ∧ E.vt ix % 2 = 1) ∧ (¬ isRf (E.vt ix) → us = []))) → Rt (f_layAssign_120 R.K S8) (fun S2 _ => LyQ R S0 S E P Γ Γ L js Λ bw p q b c v v False 1 S2) := fun S8 x8 ho us fr zz nn p8 l8 w1 w2 w3 w4 w5 w6 w7 w8 => by
    have g8 : GV R S0 S1 S8 E P1 (P1 + 1) 1 0 Γ Γ L1 L1 ([eT (abT S0 t)] ++ mkV js) (mkV js) False zz nn := by
      refine gv1 p8 (i := (14, 6, some (ix, π, abT S0 t), (ho, none), (us, fr), [P1 + 1], (0, vv, 0), [])) (rz_g (K := 14) rfl p8.2.2.1 (by decide) (by decide) ?_ ?_ (by show (6 : Nat) < 8; decide) w3 ?_ w4 w5 ⟨p, ?_, by omega⟩ (Or.inr ⟨w, ix, abT S0 t, π, w2, rfl, (pw7.st l8).pt p8.1 (by omega), (pw7.st l8).va⟩) (fun l e => by cases e) ?_ rfl (fun w => absurd w (by decide)) (fun w => absurd w (by decide)) (fun w => absurd w (by decide)) (fun w => absurd w (by decide)) (fun w => absurd w (by decide)) (fun w => absurd w (by decide))) rfl (fun l e => by cases e) (by rw [hw1]; omega) (tP_14 rfl ⟨rfl, rfl, ix, π, abT S0 t, mkV js, hpT rfl rfl, rfl, wl_mk, w8, rfl, wkS.rf⟩)
      · rw [w1 27 (by decide), v1]; rfl
      · rw [w1 33 (by decide), v1]; rfl
      · rw [w1 35 (by decide), v1]; rfl
      · rw [w1 32 (by decide), v1]; rfl
      · rw [w1 30 (by decide), v1]; rfl
    unfold f_layAssign_120
    exact Rt.rt (LyQ.of hG hv (g1.tr g8 (cl3 := False) (fun w => w.elim) (Nat.le_refl _) (Nat.le_refl _)) (by omega) (by omega) (by omega) (by omega) (k1'.st p8.2.1 (Nat.le_succ _)))
  by_cases hπ : π = []
  · have ht : t = tv := hx0 hπ
    refine Rt.ip (by rw [hπ]; rfl) ?_
    refine Rt.bd (oR_mk c1 c2' (v := some vv) rfl) (Rt.bd (rix p7.1) (p7.wI (by omega) (by decide) (fun S8 p8 e8 => ?_)))
    refine fin S8 _ (some ix) (ifR (abT S0 t) [40] []) (ifR (abT S0 t) [40] []) _ _ p8 e8.1 (fun r hr => upd_n hr) hx38 (upd_s (f := x7.1) (k := 34)) ?_ ?_ (by omega) (by omega) (Or.inl ⟨hπ, rfl, fun q => ⟨ifR_p q, ifR_p q⟩, fun q => ⟨ifR_n q, ifR_n q⟩⟩)
    · by_cases q : isRf (abT S0 t)
      · rw [ifR_p q]; exact (v4 q).1.st e8.1
      · rw [ifR_n q]; exact Or.inl ⟨(v5 q).1, rfl⟩
    · by_cases q : isRf (abT S0 t)
      · rw [ifR_p q]; exact (v4 q).2.st e8.1
      · rw [ifR_n q]; exact Or.inl ⟨(v5 q).2, rfl⟩
  · have hnr : ¬ isRf (abT S0 t) := fun q => by
      have := (hvt hπ).nm hY
      rw [this.2.2] at q
      have := q.1; omega
    have hl0 : π.length ≠ 0 := fun e => hπ (List.length_eq_zero_iff.mp e)
    refine Rt.iq (nI_ne0 (by omega) (by omega)) ?_
    obtain ⟨d1, d2⟩ := l47.ro q4'.1 q4'.2
    have h0a : aQ R.K 4 S7 (some ta) (nI 0) = some (some tv) := by rw [aQ_n d1 d2 (by omega) (by omega), q6']
    refine Rt.bd (oR_mk c1 c2' (v := some ta) rfl) (Rt.bd h0a ?_)
    obtain ⟨kv, iv, ov, tvt, _⟩ := rtv.ty
    have hrf := rtv.rf hY tvt
    have h34 : x7.1 34 = oNm none := by rw [v1]; rfl
    have h36 : x7.2.2 36 = none := (v5 hnr).2
    have h37 : x7.2.2 37 = none := (v5 hnr).1
    refine Rt.be (ref_ (p7.1.1.ty tvt)) ?_
    by_cases hk : kv = 6 ∨ kv = 7
    · rw [if_pos hk]
      have hrv : isRf (E.vt ix) := by rw [evt]; exact hrf.mpr hk
      refine Rt.iq (by decide) (Rt.bd (oR_mk c1 c2' (v := some vv) rfl) (Rt.bd (rix p7.1) ?_))
      have z7 := p7.2.2.2.1
      have n7 := p7.2.2.2.2.1
      refine Rt.bn (jst_ (u := ix) p7.1 (by omega) (by have := hr1.1; omega) (by have := hr1.2; omega)) (fun S8 r t => ?_)
      obtain ⟨aa, f1, rfl, t2, t3, t4, t5, t6, t7, t8, t9, t10⟩ := t
      have p8 := p7.kx t2 t3 t10 (z2 := 6) (n2 := 16) (by omega) (by omega)
      refine p8.wA (by omega) (by decide) (okA_mk t4 t5) ⟨by decide, fun y e hy => by cases e; exact p8.2.2.2.2.2.2.1 aa hy (Or.inl ⟨ix, by omega, t9⟩)⟩ (fun S9 p9 e9 => ?_)
      obtain ⟨v1', v2'⟩ := e9.1.ro t4 t5
      refine fin S9 _ none [ix] [] _ _ p9 (t3.lx.tr e9.1) (fun r _ => rfl) ?_ h34 ?_ (Or.inl ⟨?_, rfl⟩) (Nat.le_refl _) (Nat.le_refl _) (Or.inr ⟨hπ, rfl, rfl, fun _ => ⟨rfl, ?_⟩, fun w => absurd hrv w⟩)
      · exact (va_up_ne x7.2.2 (some aa) (show (38 : Nat) ≠ 37 by decide)).trans hx38
      · show rAr R S9 (va_up x7.2.2 37 (some aa) 37) [ix]
        rw [va_up_self]
        exact rAr_1 (by omega) v1' v2' t6
      · exact (va_up_ne x7.2.2 (some aa) (show (36 : Nat) ≠ 37 by decide)).trans h36
      · rw [evt]; exact hmu (hrf.mpr hk) hπ (k7.resolve_left hπ)
    · rw [if_neg hk]
      have hrv : ¬ isRf (E.vt ix) := by rw [evt]; exact fun w => hk (hrf.mp w)
      refine Rt.ip rfl ?_
      exact fin S7 x7 none [] [] _ _ p7 LX.rf (fun _ _ => rfl) hx38 h34 (Or.inl ⟨h37, rfl⟩) (Or.inl ⟨h36, rfl⟩) (by omega) (by omega) (Or.inr ⟨hπ, rfl, rfl, fun w => absurd w hrv, fun _ => rfl⟩)
end LY31
