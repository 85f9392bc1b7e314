section LY30
variable {R : yR} {S0 Sb S S1 S2 : Sg} {P P1 P2 h h0 h1 hc L L2 Lb z n : Nat} {Γ Γ0 Γ1 Γ2 Λ : List Nat} {E : eV} {s s2 : List tE} {gv : Nat} {js js1 ks : List Nat} {x : pRc} {bw : Nat → Nat} {cl : Prop} {p q b c v w : Nat} {V : Sg → Option Nat → Option (Sg × Unit)}
theorem xPl_t1 {nn e p q v x mu mv : Nat} {π : List (Nat × Nat)} (h : xPl R S Γ nn e p q v π x mu mv) : ∃ gs : List Value, ZF S e = .inr (15, gs) ∧ gs[1]? = some (.int (nI p)) := by
  cases nn with
  | zero => exact h.elim
  | succ nn =>
    obtain ⟨⟨h1, _, _⟩, _, ⟨ix, nm, k1, _⟩ | ⟨o, p', q', k1, _⟩ | ⟨o, p', q', y, m2, w2, kd, π2, k1, _⟩ | ⟨o, nm, q', y, i, k, w2, π2, k1, _⟩⟩ := h
    · exact ⟨_, k1, rfl⟩
    · exact ⟨_, k1, rfl⟩
    · exact ⟨_, k1, rfl⟩
    · exact ⟨_, k1, rfl⟩
theorem xE_tk {nn kk e p q b c x : Nat} {gs : List Value} (h : xE R S Γ nn kk e p q b c x) (hg : ZF S e = .inr (15, gs)) (hq : q ≤ R.T) : ∃ pt : Nat, gs[1]? = some (.int (nI pt)) ∧ pt < R.T := by
  have hlt := xE_lt h
  refine ⟨p, ?_, by omega⟩
  have : ∃ gs : List Value, ZF S e = .inr (15, gs) ∧ gs[1]? = some (.int (nI p)) := by
    cases nn with
    | zero => exact h.elim
    | succ nn =>
      obtain ⟨⟨h1, _, _⟩, _, ⟨v, π, mu, mv, kd, ix, o, k1, _⟩ | h5⟩ := h
      · exact xPl_t1 k1
      · have h5 : xNp R S Γ nn kk e p q b c x := h5
        rcases h5 with ⟨kd, num, k1, k2, _⟩ | ⟨kd, o, p', q', y, k1, _⟩ | ⟨mu, o, p', v, y, m2, w2, π, k1, _⟩ | ⟨o, q1, b1, mn, li, si, f, g, tx, tt, k1, _⟩ | ⟨i, mn, p', z, li, si, f, g, tx, k1, _⟩ | ⟨i, mn, p', li, si, f, g, tx, fo, k1, _⟩ | ⟨i, v, mn, p', z, li, si, f, g, tx, k1, _⟩
        · exact ⟨_, k2, rfl⟩
        · exact ⟨_, k1, rfl⟩
        · exact ⟨_, k1, rfl⟩
        · exact ⟨_, k1, rfl⟩
        · exact ⟨_, k1, rfl⟩
        · exact ⟨_, k1, rfl⟩
        · exact ⟨_, k1, rfl⟩
  obtain ⟨gs2, a1, a2⟩ := this
  rw [hg] at a1; cases a1
  exact a2
/-- the height is set -/
theorem GV.hs {h3 : Nat} {α : Type} {g : Sg → Option (Sg × α)} {Q : Sg → α → Prop} {y : Int32} (gg : GV R S0 S S2 E P P2 h h1 Γ Γ2 L L2 s s2 cl z n) (hy : y = nI h3) (k : ∀ S3 : Sg, GV R S0 S S3 E P P2 h h3 Γ Γ2 L L2 s s2 cl z n → Zr S3 = Zr S2 → Rt (g S3) Q) : Rt ((pM S2 48 y).bind g) Q := by
  subst hy
  refine Rt.bd (v := Ui S2 48 (nI h3)) rfl (k _ ⟨gg.1.hh, gg.2.1.tr (LZ.ui (Or.inr (Or.inr (Or.inl rfl)))) (Nat.le_refl _) (Nat.le_refl _), gg.2.2.1.st (LZ.ui (Or.inr (Or.inr (Or.inl rfl)))), gg.2.2.2.1, gg.2.2.2.2.1, gg.2.2.2.2.2.1, gg.2.2.2.2.2.2.1, gg.2.2.2.2.2.2.2⟩ rfl)
/-- .. of the end of a statement that leaves the variables as they were -/
theorem LyQ.of {d : Nat} (hG : GJ Λ Γ js) (hv : ∀ i ∈ js, i < w) (g : GV R S0 S S2 E P P2 0 0 Γ Γ L L2 (mkV js) (mkV js) cl z n) (h1 : P2 + d ≤ P + 8 * (bw q - bw p)) (h2 : z ≤ 20 * (bw q - bw p)) (h3 : n ≤ 60 * (bw q - bw p)) (h4 : L2 + b + v ≤ L + c + w) (k : K0 S2 P2) : LyQ R S0 S E P Γ Γ L js Λ bw p q b c v w cl d S2 := ⟨P2, L2, z, n, js, g, hG, hv, Or.inl rfl, by omega, by omega, by omega, h4, k⟩
/-- an exp as a statement -/
theorem lex_ {a xe p' q' t : Nat} (H : LyH R S0 S E P Γ L js Λ gv bw p q b c v v) (ha : a ∈ ZL R.S) (k1 : ZF S0 a = stC 1 p 0 0 0 .null (.ref xe) .null .null .null .null .null .null 0) (h1 : p ≤ p') (h2 : q' < q) (hx : xE R S0 Γ 408 16 xe p' q' b c t) : Rt ((oR S 19 (some a) 6).bind fun v7 =>
  bnd (f_give R.K 410 S v7) fun S8 _ =>
  if (Zi S8 48) ≤ (Zi S 48) then (f_lay_111 R.K V S8 (Zi S 48)) else ((oI S8 19 (some a) 1).bind fun v10 =>
  bnd (f_point R.K S8 11 v10) fun S11 v12 =>
  (oR S11 19 (some a) 6).bind fun v13 =>
  (oR S11 15 v13 12).bind fun v14 =>
  (wQ S11 20 39 v12 v14).bind fun S15 =>
  f_lay_111 R.K V S15 (Zi S 48))) (fun S2 _ => LyQ R S0 S E P Γ Γ L js Λ bw p q b c v v False 1 S2) := by
  have H2 := H
  obtain ⟨hF, hB, cc, k0, hG, hv, hw, hpq, hP, hl, hr⟩ := H
  have hL := hF.1.1
  have hY := hF.1.2.1
  have r6 : ∀ {S' : Sg}, LX S0 S' → oR S' 19 (some a) 6 = some (some xe) := fun hx => hx.vr (by decide) (by decide) (oR_mk (hL a ha) k1 (v := some xe) rfl)
  refine Rt.bd (r6 cc.1) (Rt.bn (sgv H2 hx h1 h2) (fun S1 _ t1 => ?_))
  obtain ⟨P1, L1, g1, b1, b2, b3, b4, b5, k1'⟩ := t1
  rw [cc.2.2.1, g1.1.2.2.1]
  rcases xE_ty hx with ht | ht
  · have hre := resE_r hY ht
    rw [hre] at g1
    have hw1 : wl ([eT (abT S0 t)] ++ mkV js) = 1 := by show wl (eT (abT S0 t) :: mkV js) = _; rw [wl_eT, wl_mk]
    rw [hre, hw1]
    rw [hw1] at g1
    refine Rt.iq (by decide) ?_
    obtain ⟨gs, y1, y2, y3⟩ := xE_t12 hx
    refine Rt.bd (g1.1.1.vi (by decide) (by decide) (oI_mk (hL a ha) k1 (v := nI p) rfl)) ?_
    refine pnt_ (Lb := L1) (Sb := S1) (z := 0) (n := 0) (by omega) g1.1 LZ.rf (Nat.le_refl _) (by omega) (by omega) UsK.rf (fun S2 p2 _ => ?_)
    obtain ⟨kd, ix, o, yt, _⟩ := ht.ty
    refine Rt.bd (r6 p2.1.1) (Rt.bd (p2.1.1.vr (by decide) (by decide) (oR_mk (hL xe y1) y2 (v := some t) y3)) (p2.wO (by omega) (by decide) (p2.1.1.okT ⟨_, _, _, yt⟩) (Or.inl (by decide)) (fun S3 p3 _ => ?_)))
    have fin : ∀ T : Nat, T ≠ 0 → T < 10000 → (T = abT S0 t ∨ (isRf (abT S0 t) ∧ T = 1)) → wkS ([eT (abT S0 t)] ++ mkV js) ((0, T, 0) :: mkV js) → Rt (f_lay_111 R.K V S3 (nI 0)) (fun S2 _ => LyQ R S0 S E P Γ Γ L js Λ bw p q b c v v False 1 S2) := fun T t1 t2 t3 t4 => by
      have g1' := g1.wk wkS.rf t4 (fun w => w) b1
      have g3 : GV R S0 S1 S3 E P1 (P1 + 1) 1 1 Γ Γ L1 L1 ((0, T, 0) :: mkV js) (mkV js) False 0 0 := gv0 (K := 11) (pp := p) (n1 := abT S0 t) (n2 := 0) (n3 := 0) (vs := []) (by decide) (by decide) p3 ⟨rfl, rfl, rfl, rfl, rfl, rfl, rfl, rfl, rfl⟩ (by omega) (fun _ => ⟨t, rfl, ht, rfl⟩) (fun w => absurd w (by decide)) (fun w => absurd w (by decide)) (fun w => absurd w (by decide)) (fun w => absurd w (by decide)) (fun w => absurd w (by decide)) (by rw [wl_0t, wl_mk]; omega) (tP_11 rfl ⟨iD0_0, T, mkV js, rfl, t1, t2, t3, rfl, wkS.rf⟩)
      unfold f_lay_111 f_lay_210
      refine (g1'.tr g3 (cl3 := False) (fun w => w.elim) (Nat.le_refl _) (Nat.le_refl _)).hs rfl (fun S4 g4 e4 => Rt.rt ?_)
      exact LyQ.of hG hv g4 (by omega) (by omega) (by omega) (by omega) (by unfold K0; rw [e4]; exact k1'.st p3.2.1 (Nat.le_succ _))
    rcases ht.nm hY with ⟨a1, a2, a3, a4⟩ | ⟨kd2, u, a1, a2, a3, a4⟩
    · have hn := a1.nm hY
      refine fin (abT S0 t) (ht.n0 hY) (by rw [hn.2.2]; exact hn.2.1) (Or.inl rfl) ?_
      rw [a4, hn.2.2]; exact wkS.rf
    · refine fin 1 (by decide) (by decide) (Or.inr ⟨a3, rfl⟩) ⟨Or.inr ⟨1, Or.inl rfl, rfl, Or.inr ⟨abV S0 u, ?_⟩⟩, wkS.rf⟩
      rcases a4 with ⟨_, _, e⟩ | ⟨_, _, e⟩
      · rw [e]; exact Or.inl rfl
      · rw [e]; exact Or.inr rfl
  · have hre := resE_8 hY ht
    rw [hre] at g1
    have hw1 : wl ([] ++ mkV js) = 0 := wl_mk
    rw [hre, hw1]
    rw [hw1] at g1
    refine Rt.ip (by decide) ?_
    unfold f_lay_111 f_lay_210
    have g1 : GV R S0 S S1 E P P1 0 0 Γ Γ L L1 (mkV js) (mkV js) False (5 * (q' - p')) (40 * (q' - p')) := g1
    refine g1.hs rfl (fun S4 g4 e4 => Rt.rt ?_)
    exact LyQ.of hG hv g4 (by omega) (by omega) (by omega) (by omega) (by unfold K0; rw [e4]; exact k1')
/-- print -/
theorem lpr_ {a xe p' q' t : Nat} (H : LyH R S0 S E P Γ L js Λ gv bw p q b c v v) (ha : a ∈ ZL R.S) (k1 : ZF S0 a = stC 7 p 0 0 0 .null (.ref xe) .null .null .null .null .null .null 0) (ht : isTy S0 t 0 0 none ∨ isTy S0 t 1 0 none) (h1 : p ≤ p') (h2 : q' < q) (hx : xE R S0 Γ 408 16 xe p' q' b c t) : Rt ((oR S 19 (some a) 6).bind fun v26 =>
  bnd (f_give R.K 410 S v26) fun S27 _ =>
  (pM S27 48 ((Zi S27 48) - 1)).bind fun S29 =>
  (oI S29 19 (some a) 1).bind fun v30 =>
  bnd (f_point R.K S29 15 v30) fun S31 v32 =>
  (oR S31 19 (some a) 6).bind fun v33 =>
  (oR S31 15 v33 12).bind fun v34 =>
  (wQ S31 20 39 v32 v34).bind fun S35 =>
  f_lay_210 R.K V S35) (fun S2 _ => LyQ R S0 S E P Γ Γ L js Λ bw p q b c v v False 1 S2) := by
  have H2 := H
  obtain ⟨hF, hB, cc, k0, hG, hv, hw, hpq, hP, hl, hr⟩ := H
  have hL := hF.1.1
  have hY := hF.1.2.1
  have r6 : ∀ {S' : Sg}, LX S0 S' → oR S' 19 (some a) 6 = some (some xe) := fun hx => hx.vr (by decide) (by decide) (oR_mk (hL a ha) k1 (v := some xe) rfl)
  refine Rt.bd (r6 cc.1) (Rt.bn (sgv H2 hx h1 h2) (fun S1 _ t1 => ?_))
  obtain ⟨P1, L1, g1, b1, b2, b3, b4, b5, k1'⟩ := t1
  obtain ⟨u, hu, hre⟩ := resE_ib hY ht
  have hrt : rTy S0 t := by
    rcases ht with w | w
    · exact Or.inl (vTy.pl w (by decide))
    · exact Or.inl (vTy.pl w (by decide))
  rw [hre] at g1
  have hw1 : wl ([(0, u, 0)] ++ mkV js) = 0 + 1 := by show wl ((0, u, 0) :: mkV js) = _; rw [wl_0t, wl_mk]
  rw [hw1] at g1
  have e48 : Zi S1 48 - 1 = nI 0 := by rw [g1.1.2.2.1]; exact nI_pred 0
  refine g1.hs e48 (fun S2 g2 e2 => ?_)
  obtain ⟨gs, y1, y2, y3⟩ := xE_t12 hx
  obtain ⟨kd, ix, o, yt, _⟩ := hrt.ty
  refine Rt.bd (g2.1.1.vi (by decide) (by decide) (oI_mk (hL a ha) k1 (v := nI p) rfl)) ?_
  refine pnt_ (Lb := L1) (Sb := S2) (z := 0) (n := 0) (by omega) g2.1 LZ.rf (Nat.le_refl _) (by omega) (by omega) UsK.rf (fun S3 p3 _ => ?_)
  refine Rt.bd (r6 p3.1.1) (Rt.bd (p3.1.1.vr (by decide) (by decide) (oR_mk (hL xe y1) y2 (v := some t) y3)) (p3.wO (by omega) (by decide) (p3.1.1.okT ⟨_, _, _, yt⟩) (Or.inl (by decide)) (fun S4 p4 _ => ?_)))
  have g4 : GV R S0 S2 S4 E P1 (P1 + 1) 0 0 Γ Γ L1 L1 ([(0, u, 0)] ++ mkV js) (mkV js) False 0 0 := gv0 (K := 15) (pp := p) (n1 := abT S0 t) (n2 := 0) (n3 := 0) (vs := []) (by decide) (by decide) p4 ⟨rfl, rfl, rfl, rfl, rfl, rfl, rfl, rfl, rfl⟩ (by omega) (fun _ => ⟨t, rfl, hrt, rfl⟩) (fun w => absurd w (by decide)) (fun w => absurd w (by decide)) (fun w => absurd w (by decide)) (fun w => absurd w (by decide)) (fun w => absurd w (by decide)) (by rw [hw1]; omega) (tP_15 rfl ⟨iD0_0, u, mkV js, hu, rfl, rfl, wkS.rf⟩)
  unfold f_lay_210
  have k2' : K0 S2 P1 := by unfold K0; rw [e2]; exact k1'
  exact Rt.rt (LyQ.of hG hv (g2.tr g4 (cl3 := False) (fun w => w.elim) (Nat.le_refl _) (Nat.le_refl _)) (by omega) (by omega) (by omega) (by omega) (k2'.st p4.2.1 (Nat.le_succ _)))
theorem wl_eU {t : Nat} : wl (eU t :: s) = wl s + 1 := wl_n (by
  unfold eU
  by_cases h : 10000 ≤ t
  · rw [if_pos h]
    by_cases g : t % 2 = 0
    · rw [if_pos g]; exact (by decide : ¬ ((1 : Nat) = 8 ∨ (1 : Nat) = 4 ∨ (1 : Nat) = 5 ∨ (1 : Nat) = 6))
    · rw [if_neg g]; exact (by decide : ¬ ((2 : Nat) = 8 ∨ (2 : Nat) = 4 ∨ (2 : Nat) = 5 ∨ (2 : Nat) = 6))
  · rw [if_neg h]; exact (by decide : ¬ ((0 : Nat) = 8 ∨ (0 : Nat) = 4 ∨ (0 : Nat) = 5 ∨ (0 : Nat) = 6)))
/-- return's point -/
theorem ret1 {pp : Nat} (p : LPt R S0 Sb S P h Γ L L (ptRc (nI 26) (nI pp)) z n) (hpp : pp < R.T) (hs : (s = [] ∧ E.gv = 0) ∨ (s = [eU E.gv] ∧ E.gv ≠ 0)) : GV R S0 Sb S E P (P + 1) h0 h Γ0 Γ L L s s2 True z n := by
  have hw : wl s ≤ 177 := by
    rcases hs with ⟨e, _⟩ | ⟨e, _⟩
    · rw [e]; exact Nat.zero_le _
    · rw [e, wl_eU]; show 0 + 1 ≤ 177; omega
  have q := p.2.2.1
  refine ⟨p.1, p.2.1, tsg.one (i := (26, 0, none, (none, none), ([], []), [], (0, 0, 0), [])) ⟨q.1 27 (by decide) (by decide) (by decide), by show (26 : Nat) < 28; decide, q.1 33 (by decide) (by decide) (by decide), by show (0 : Nat) < 8; decide, q.1 34 (by decide) (by decide) (by decide), q.1 35 (by decide) (by decide) (by decide), Or.inl ⟨q.2.2 37 (by decide) (by decide), rfl⟩, Or.inl ⟨q.2.2 36 (by decide) (by decide), rfl⟩, ⟨pp, q.1 32 (by decide) (by decide) (by decide), hpp⟩, Or.inl ⟨q.2.2 38 (by decide) (by decide), rfl⟩, (fun l e => by cases e), Or.inl ⟨rfl, rfl⟩, fun w => absurd w (by decide), fun w => absurd w (by decide), fun w => absurd w (by decide), fun w => absurd w (by decide), fun w => absurd w (by decide), fun w => absurd w (by decide), fun w => absurd w (by decide)⟩ (fun l e => by cases e) (fun j hj => by cases hj) hw (tP_26 rfl ⟨iD0_0, fun _ => hs⟩) (fun _ => rfl), p.2.2.2.1, p.2.2.2.2.1, Nat.le_succ _, Nat.le_refl _, p.2.2.2.2.2.2⟩
/-- return -/
theorem lrt_ {a : Nat} {ex : Value} (H : LyH R S0 S E P Γ L js Λ gv bw p q b c v v) (ha : a ∈ ZL R.S) (k1 : ZF S0 a = stC 6 p 0 0 0 .null ex .null .null .null .null .null .null 0) (k2 : (ex = .null ∧ b = c ∧ isTy S0 gv 8 0 none) ∨ ∃ x p' q' : Nat, ex = .ref x ∧ p < p' ∧ q' < q ∧ xE R S0 Γ 408 16 x p' q' b c gv ∧ rTy S0 gv) (h19 : Zr R.S 5 p = 19) : Rt (f_layReturn R.K S (some a)) (fun S2 _ => LyQ R S0 S E P Γ Γ L js Λ bw p q b c v v True 1 S2) := by
  have H2 := H
  obtain ⟨hF, hB, cc, k0, hG, hv, hw, hpq, hP, hl, hr⟩ := H
  have hL := hF.1.1
  have hY := hF.1.2.1
  have hGl := hG.len
  have hjl := GJ.l40 (v := v) hG hv
  have h6 := (hB p (by omega)).2 h19
  have hm := hB.mo (p := p + 1) (q := q) (by omega) hpq.2
  have r1 : ∀ {S' : Sg}, LX S0 S' → oI S' 19 (some a) 1 = some (nI p) := fun hx => hx.vi (by decide) (by decide) (oI_mk (hL a ha) k1 rfl)
  have r6 : ∀ {S' : Sg} {o : Option Nat}, LX S0 S' → ex = va_rf o → oR S' 19 (some a) 6 = some o := fun hx e => hx.vr (by decide) (by decide) (oR_mk (hL a ha) k1 (by rw [← e]; rfl))
  -- the end
  have h87 : ∀ (S3 : Sg) (P3 L3 h3 z n : Nat) (s3 : List tE), GV R S0 S S3 E P P3 0 h3 Γ Γ L L3 (mkV js) s3 False z n → ((s3 = [] ∧ E.gv = 0) ∨ (s3 = [eU E.gv] ∧ E.gv ≠ 0)) → P3 + 2 ≤ P + 8 * (bw q - bw p) → z ≤ 20 * (bw q - bw p) → n ≤ 60 * (bw q - bw p) → L3 + b ≤ L + c → K0 S3 P3 → Rt (f_layReturn_87 R.K S3 (some a) (nI 0)) (fun S2 _ => LyQ R S0 S E P Γ Γ L js Λ bw p q b c v v True 1 S2) := fun S3 P3 L3 h3 z n s3 g hs a1 a2 a3 a4 kk => by
    unfold f_layReturn_87
    refine Rt.bd (r1 g.1.1) ?_
    refine pnt_ (Lb := L3) (Sb := S3) (z := 0) (n := 0) (by omega) g.1 LZ.rf (Nat.le_refl _) (by omega) (by omega) UsK.rf (fun S4 p4 _ => ?_)
    have g4 : GV R S0 S3 S4 E P3 (P3 + 1) h3 h3 Γ Γ L3 L3 s3 (mkV js) True 0 0 := ret1 p4 (by omega) hs
    refine (g.tr g4 (cl3 := True) (fun _ => Or.inr trivial) (Nat.le_refl _) (Nat.le_refl _)).hs rfl (fun S5 g5 e5 => Rt.rt ?_)
    exact LyQ.of hG hv g5 (by omega) (by omega) (by omega) (by omega) (by unfold K0; rw [e5]; exact kk.st p4.2.1 (Nat.le_succ _))
  have hGn : GJ Λ Γ (js ++ []) := by rw [List.append_nil]; exact hG
  unfold f_layReturn
  rw [cc.2.2.1]
  rcases k2 with ⟨rfl, rfl, k2⟩ | ⟨xe, p', q', rfl, e2, e3, e4, e5⟩
  · have hg0 : E.gv = 0 := by
      rw [hF.2.2.1]
      obtain ⟨t, _, _, _, a, b⟩ := abV_is hY k2
      rw [b, if_neg (by decide), if_neg (by decide), a]; rfl
    refine Rt.bd (r6 cc.1 (o := none) rfl) (Rt.ip rfl ?_)
    unfold f_layReturn_20
    refine Rt.bd (r1 cc.1) (Rt.bn (gou_ (h0 := 0) (Γ0 := Γ) (e := []) (ks := js) (js1 := []) hF (Or.inl rfl) rfl rfl (by omega) cc hGn (by omega) (by omega) (hr.le (by omega) (by omega))) (fun S2 _ g2 => ?_))
    rw [List.append_nil] at g2
    refine Rt.bd (r6 g2.1.1 (o := none) rfl) (Rt.ip rfl ?_)
    exact h87 S2 (P + js.length) L 0 _ _ [] g2 (Or.inl ⟨rfl, hg0⟩) (by omega) (by omega) (by omega) (by omega) (k0.st g2.2.1 (by omega))
  · have hgv : E.gv = abT S0 gv := hF.2.2.1
    have hg0 : E.gv ≠ 0 := by rw [hgv]; exact e5.n0 hY
    have hlt := xE_lt e4
    have hm2 := hB.mo (p := p + 1) (q := q) (by omega) hpq.2
    refine Rt.bd (r6 cc.1 (o := some xe) rfl) (Rt.iq (by simp) (Rt.bd (r6 cc.1 (o := some xe) rfl) (Rt.bn (sgv H2 e4 (by omega) e3) (fun S1 _ t1 => ?_))))
    obtain ⟨P1, L1, g1, b1, b2, b3, b4, b5, k1'⟩ := t1
    rw [resE_r hY e5, ← hgv] at g1
    have hw1 : wl ([eT E.gv] ++ mkV js) = 1 := by show wl (eT E.gv :: mkV js) = _; rw [wl_eT, wl_mk]
    rw [hw1] at g1
    have hr1 := g1.rm hr (z2 := 3 * js.length + 1) (n2 := 5 * js.length + 1) (by omega) (by omega)
    unfold f_layReturn_20
    refine Rt.bd (r1 g1.1.1) (Rt.bn (gou_ (h0 := 1) (Γ0 := Γ) (e := [eT E.gv]) (ks := js) (js1 := []) hF (Or.inr ⟨rfl, hg0⟩) rfl rfl (by omega) g1.1 hGn (by omega) (by omega) (hr1.le (by omega) (by omega))) (fun S2 _ g2 => ?_))
    rw [List.append_nil] at g2
    have g12 := g1.tr g2 (cl3 := False) (fun w => w.elim) (Nat.le_refl _) (Nat.le_refl _)
    have k2' := k1'.st g2.2.1 (show P1 ≤ P1 + js.length by omega)
    obtain ⟨gs, y1, y2, y3⟩ := xE_t12 e4
    obtain ⟨kd, ix, o, yt, _⟩ := e5.ty
    have hrf := e5.rf hY yt
    refine Rt.bd (r6 g2.1.1 (o := some xe) rfl) (Rt.iq (by simp) (Rt.bd (r6 g2.1.1 (o := some xe) rfl) (Rt.bd (g2.1.1.vr (by decide) (by decide) (oR_mk (hL xe y1) y2 (v := some gv) y3)) (Rt.be (ref_ (g2.1.1.ty yt)) ?_))))
    by_cases hk : kd = 6 ∨ kd = 7
    · rw [if_pos hk]
      refine Rt.iq (by decide) (Rt.bd (r6 g2.1.1 (o := some xe) rfl) ?_)
      obtain ⟨pt, hpt, hpt2⟩ : ∃ pt : Nat, gs[1]? = some (.int (nI pt)) ∧ pt < R.T := xE_tk e4 y2 (by omega)
      refine Rt.bd (g2.1.1.vi (by decide) (by decide) (oI_mk (hL xe y1) y2 hpt)) ?_
      refine pnt_ (Lb := L1) (Sb := S2) (z := 0) (n := 0) (by omega) g2.1 LZ.rf (Nat.le_refl _) (by omega) (by omega) UsK.rf (fun S3 p3 _ => ?_)
      unfold f_temporary
      refine Rt.be rfl ?_
      have hr2 := g12.rm hr (z2 := 1) (n2 := 1) (by omega) (by omega)
      have z3 := p3.2.2.2.1
      have n3 := p3.2.2.2.2.1
      refine Rt.bn (jst_ (u := 40) p3.1 (by decide) (by have := hr2.1; omega) (by have := hr2.2; omega)) (fun S4 r t => ?_)
      obtain ⟨aa, f1, rfl, t2, t3, t4, t5, t6, t7, t8, t9, t10⟩ := t
      have p4 := p3.kx t2 t3 t10 (z2 := 1) (n2 := 1) (by omega) (by omega)
      refine p4.wA (by omega) (by decide) (okA_mk t4 t5) ⟨by decide, fun y e hy => by cases e; exact p4.2.2.2.2.2.2.1 aa hy (Or.inl ⟨40, by decide, t9⟩)⟩ (fun S5 p5 e5' => Rt.be rfl ?_)
      refine p5.wI (by omega) (by decide) (fun S6 p6 e6 => ?_)
      obtain ⟨v1, v2⟩ := (e5'.1.tr e6.1).ro t4 t5
      have g6 : GV R S0 S2 S6 E (P1 + js.length) (P1 + js.length + 1) 1 1 Γ Γ L1 L1 ([eT E.gv] ++ mkV []) [eU E.gv] False 1 1 := by
        refine gv1 p6 (i := (25, 0, none, (none, none), ([40], []), [P1 + js.length + 1], (40, 0, 0), [])) (rz_g (K := 25) rfl p6.2.2.1 (by decide) (by decide) rfl rfl (by show (0 : Nat) < 8; decide) rfl rfl (rAr_1 (by decide) v1 v2 t6) (Or.inl ⟨rfl, rfl⟩) ⟨pt, rfl, hpt2⟩ (Or.inl ⟨rfl, rfl⟩) (fun l e => by cases e) rfl rfl (fun w => absurd w (by decide)) (fun w => absurd w (by decide)) (fun w => absurd w (by decide)) (fun w => absurd w (by decide)) (fun w => absurd w (by decide)) (fun _ => rfl)) rfl (fun l e => by cases e) (by show wl (eT E.gv :: []) ≤ 177; rw [wl_eT]; show 0 + 1 ≤ 177; omega) (tP_25 rfl ⟨rfl, rfl, rfl, rfl, rfl, rfl, rfl, rfl, by rw [hgv]; exact hrf.mpr hk, rfl, wkS.rf⟩)
      exact h87 S6 (P1 + js.length + 1) L1 1 _ _ [eU E.gv] (g12.tr g6 (cl3 := False) (fun w => w.elim) (Nat.le_refl _) (Nat.le_refl _)) (Or.inr ⟨rfl, hg0⟩) (by omega) (by omega) (by omega) b3 (k2'.st g6.2.1 (Nat.le_succ _))
    · rw [if_neg hk]
      refine Rt.ip rfl ?_
      have he : eT E.gv = eU E.gv := by
        have h1 : E.gv < 10000 := by
          rcases e5.nm hY with ⟨w1, _⟩ | ⟨_, _, _, _, w3, _⟩
          · rw [hgv, (w1.nm hY).2.2]; exact (w1.nm hY).2.1
          · exact absurd (hrf.mp w3) hk
        unfold eT eU; rw [if_neg (by omega), if_neg (by omega)]
      rw [he] at g12
      exact h87 S2 (P1 + js.length) L1 1 _ _ [eU E.gv] g12 (Or.inr ⟨rfl, hg0⟩) (by omega) (by omega) (by omega) b3 k2'
end LY30
