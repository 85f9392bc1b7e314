section LY44
variable {R : yR} {S0 Sb Sx S S1 S2 S3 : Sg} {P P1 P2 P3 Pe h h0 h1 h2 hc L L1 L2 Le Lb z n z2 n2 : Nat} {Γ Γ0 Γ1 Γ2 Λ : List Nat} {E : eV} {s s1 s2 yD : List tE} {gv : Nat} {js ks us : List Nat} {bw : Nat → Nat} {V : Sg → Option Nat → Option (Sg × Unit)} {m mn i : Nat} {x : pRc} {A J bk : Nat → Nat} {xk : Nat → List tE} {p q b c v w : Nat}
theorem enM.y (hY : YK R S) {i mn : Nat} (h : enM R S i mn) : yK R S (4 + i) = 3 ∧ (yT R S).2.2.1 (4 + i) = mn ∧ mn ≤ 12 ∧ i < 70 := by
  obtain ⟨fs, h1, h2, h3, h4, h5, h6⟩ := h
  have := hY.2.1
  refine ⟨by rw [yK_it hY h1, if_neg (by rw [h2]; decide), if_pos h2], ?_, h6, by omega⟩
  show fN (obF S (R.ws (4 + i - 4))) 3 = mn
  rw [show 4 + i - 4 = i by omega, obF_o h4, fN_i h5 (by omega)]
/-- all arms end the way -/
def amE (S0 : Sg) (mn : Nat) (f : Nat → Option Nat) : Prop := ∀ k : Nat, k < mn → ∃ (y bk : Nat) (ys : List Value), f k = some y ∧ ZF S0 y = .inr (13, ys) ∧ ys[5]? = some (.ref bk) ∧ eBx S0 bk
theorem amE.bx {f : Nat → Option Nat} (h : amE S0 mn f) (hj : ∀ j : Nat, j < mn → ∃ (y : Nat) (ys : List Value), f j = some y ∧ ZF S0 y = .inr (13, ys) ∧ ys[5]? = some (.ref (bk j))) : ∀ j : Nat, j < mn → eBx S0 (bk j) := fun j hj2 => by
  obtain ⟨y, b, ys, a1, a2, a3, a4⟩ := h j hj2
  obtain ⟨y', ys', b1, b2, b3⟩ := hj j hj2
  rw [a1] at b1; cases b1
  rw [a2] at b2; cases b2
  rw [a3] at b3; cases b3
  exact a4
/-- match -/
theorem lmt_ {a xe ar cap p0 q0 b1 t bd m9 nn w8 : Nat} {mu rf : Int32} {f : Nat → Option Nat} {vf : Nat → Nat} (H : LyH R S0 S E P Γ L js Λ gv bw p q b c v w8) (hV : LbV R S0 E Λ gv bw V nn) (hm : m9 ≤ nn + 1) (ha : a ∈ ZL R.S) (k1 : ZF S0 a = stC 5 p 0 mu rf .null (.ref xe) .null .null .null .null .null (.ref ar) mn) (k2 : p < p0) (k3 : (rf = 0 ∧ mu = 0 ∧ bd = 0 ∧ xE R S0 Γ 408 16 xe p0 q0 b b1 t) ∨ (rf = 1 ∧ b1 = b + 1 ∧ ∃ (vv m2 w2 : Nat) (π : List (Nat × Nat)), ((mu = 0 ∧ bd = 1) ∨ (mu = 1 ∧ bd = 2 ∧ m2 = 1)) ∧ xPl R S0 Γ 408 xe p0 q0 vv π t m2 w2 ∧ π.length ≤ 4)) (k4 : isTy S0 t 4 (nI i) none) (k5 : enM R S0 i mn) (k6 : nXo R ar) (k7 : ZF S0 ar = .inl (R.K.1 7, cap, .inr (.inr (.inr (.inr f))))) (k8 : mn ≤ cap) (l1 : chJ (fun k y p1 q1 b2 c1 v1 w1 => sN R S0 Λ gv m9 2 y p1 q1 b2 c1 v1 w1 Γ Γ (i, vf k, bd)) f mn (q0 + 1) (q - 1) b1 c v w8) (l2 : ∀ k j : Nat, k < mn → j < mn → vf k = vf j → k = j) (l3 : ∀ k : Nat, k < mn → vf k < mn) : Rt (f_layMatch R.K V S (some a)) (fun S2 _ => LyQ R S0 S E P Γ Γ L js Λ bw p q b c v w8 (amE S0 mn f) 1 S2) := by
  have H2 := H
  obtain ⟨hF, hB, cc, k0, hG, hv, hw, hpq, hP, hl, hr⟩ := H2
  have hL := hF.1.1
  have hY := hF.1.2.1
  have hEy := hF.1.2.2.2.2.1
  obtain ⟨y1, y2, y3, y4⟩ := k5.y hY
  have k5' := k5
  obtain ⟨fs, i1, i2, i3, i4, i5, i6⟩ := k5'
  have hm1 : 1 ≤ mn := hF.1.2.2.2.2.2.2.2.2.2.2.1 i mn fs i1 (by rw [i2]; decide) i4 i5 i6
  obtain ⟨ps, bs, vs, h1, h2, h3, h4, h5, h6, h7⟩ := l1
  have hmo : ∀ i j : Nat, i ≤ j → j ≤ mn → ps i + (j - i) ≤ ps j ∧ bs i ≤ bs j ∧ vs i ≤ vs j := fun i' j hi hj => chJ_mo (P := fun k y p1 q1 b2 c1 v1 w1 => sN R S0 Λ gv m9 2 y p1 q1 b2 c1 v1 w1 Γ Γ (i, vf k, bd)) (fun i x p q b c v w _ z => ⟨sN_lt z, (sN_mo z).1, (sN_mo z).2⟩) h7 hi hj
  obtain ⟨m8, rfl⟩ : ∃ m8 : Nat, m9 = m8 + 1 := by
    cases m9 with
    | zero => obtain ⟨y, _, w⟩ := h7 0 (by omega); exact w.elim
    | succ m8 => exact ⟨m8, rfl⟩
  have hmn := hmo 0 mn (Nat.zero_le _) (Nat.le_refl _)
  have hpq0 : p0 < q0 := by
    rcases k3 with ⟨_, _, _, z⟩ | ⟨_, _, vv, m2, w2, π, _, z, _⟩
    · exact xE_lt z
    · exact (xPl_c z).2.1
  have hb1 : b ≤ b1 := by
    rcases k3 with ⟨_, _, _, z⟩ | ⟨_, z, _⟩
    · exact xE_bc z
    · omega
  have w1 := hB.mo (p := p) (q := q0) (by omega) (by omega)
  have w2 := hB.mo (p := q0) (q := ps 0) (by omega) (by omega)
  have w3 := hB.mo (p := ps 0) (q := ps mn) (by omega) (by omega)
  have w4 := hB.mo (p := ps mn) (q := q) (by omega) (by omega)
  have r4 : ∀ {S' : Sg}, LX S0 S' → oI S' 19 (some a) 4 = some rf := fun hx => hx.vi (by decide) (by decide) (oI_mk (hL a ha) k1 rfl)
  have r3 : ∀ {S' : Sg}, LX S0 S' → oI S' 19 (some a) 3 = some mu := fun hx => hx.vi (by decide) (by decide) (oI_mk (hL a ha) k1 rfl)
  have r6 : ∀ {S' : Sg}, LX S0 S' → oR S' 19 (some a) 6 = some (some xe) := fun hx => hx.vr (by decide) (by decide) (oR_mk (hL a ha) k1 (v := some xe) rfl)
  have hgs : xe ∈ ZL R.S ∧ ∃ (gs : List Value) (px : Nat), ZF S0 xe = .inr (15, gs) ∧ gs[12]? = some (.ref t) ∧ gs[1]? = some (.int (nI px)) ∧ px < R.T := by
    rcases k3 with ⟨_, _, _, z⟩ | ⟨_, _, vv, m2, w2, π, _, z, _⟩
    · obtain ⟨gs, g1, g2, g3⟩ := xE_t12 z
      obtain ⟨px, g4, g5⟩ := xE_tk z g2 (by omega)
      exact ⟨g1, gs, px, g2, g3, g4, g5⟩
    · obtain ⟨gs, g1, g2, g3⟩ := xPl_ty z
      obtain ⟨gs', g4, g5⟩ := xPl_t1 z
      obtain rfl : gs' = gs := by rw [g2] at g4; cases g4; rfl
      exact ⟨g1, gs', p0, g2, g3, g5, by omega⟩
  obtain ⟨hxe, gs, px, g1, g12, gx, hpx⟩ := hgs
  have hM : MtH R S0 a xe ar px p mn mu rf := ⟨ha, k1, by omega, hxe, gs, g1, gx, hpx⟩
  have hvt : vTy S0 t := vTy.pl k4 (by decide)
  have eV : abT S0 t = 4 + i := by rw [(hvt.nm hY).2.2, abV_it hY (Or.inr rfl) i1 k4]
  unfold f_layMatch
  rcases k3 with ⟨z1, z2, z3, z4⟩ | ⟨z1, z2, vv, m2, w9, π, z3, z4, z5⟩
  · -- by value
    refine Rt.bd (r4 cc.1) (Rt.ip z1 ?_)
    unfold f_layMatch_19
    have hbc : b1 ≤ c := by omega
    refine Rt.bd (r4 cc.1) (Rt.ip z1 (Rt.bd (r6 cc.1) (Rt.bn (sgv (p := p) (q := q) (c := b1) (v := v) (w := v) ⟨hF, hB, cc, k0, hG, hv, ⟨Nat.le_refl _, by omega⟩, hpq, hP, ⟨hb1, by omega⟩, hr⟩ z4 (by omega) (by omega)) (fun S1 _ t1 => ?_))))
    obtain ⟨P1, L1, g1', b1', b2', b3', b4', b5', kk1⟩ := t1
    have hre : resE S0 t = [(0, 4 + i, 0)] := by
      rw [resE_r hY (Or.inl hvt), eV]
      unfold eT
      rw [if_neg (by omega)]
    rw [hre] at g1'
    have hw1 : wl ([(0, 4 + i, 0)] ++ mkV js) = 0 + 1 := by show wl ((0, 4 + i, 0) :: mkV js) = _; rw [wl_0t, wl_mk]
    rw [hw1] at g1'
    unfold f_layMatch_35
    refine Rt.bd (r4 g1'.1.1) (Rt.ip z1 ?_)
    unfold f_layMatch_50
    refine Rt.bd (r6 g1'.1.1) (Rt.bd (g1'.1.1.vi (by decide) (by decide) (oI_mk (hL xe hxe) g1 gx)) ?_)
    refine pnt_ (Lb := L1) (Sb := S1) (z := 0) (n := 0) (by omega) g1'.1 LZ.rf (Nat.le_refl _) (by omega) (by omega) UsK.rf (fun S2 p2 e2 => ?_)
    refine Rt.bd (r4 p2.1.1) (Rt.ip z1 ?_)
    have e48 : Zi S2 48 - 1 = nI 0 := by rw [p2.1.2.2.1]; exact nI_pred 0
    refine p2.hh e48 (fun S3 p3 e3 => ?_)
    refine lma105 (w9 := 0) (va9 := 0) (ix := 0) (tv := 0) (xt := 0) (ρ := []) (t := t) hF hB hV (by omega) hM ⟨gs, g1, g12⟩ k4 k5 k6.1 k7 k8 hG (by rw [h5]; exact hv) (by omega) (by omega) h7 l2 l3 hmo (by omega) (by omega) (g1'.rm hr (by omega) (by omega)) (Or.inl ⟨z1, z3⟩) p3 (kk1.st p3.2.1 (Nat.le_succ _)) (fun S4 Pe Le z2 n2 A J bk xk ft ta F hx hat qq hta hj kk4 d1 d2 d3 d4 => ?_)
    obtain ⟨sc, c1, c2, c3, c4⟩ := mt_sc (Z := fun j => xkO (cdP 0 []) E js i bd (vf j) (xk j) ∧ ∃ (y : Nat) (ys : List Value), f j = some y ∧ ZF S0 y = .inr (13, ys) ∧ ys[5]? = some (.ref (bk j))) qq l2 l3 hj (by omega) hm1 hta
    have hz : rz R S0 S4 P1 ((20, 0, none, (none, none), ([], []), sc, (i, 0, 0), []) : iR) := rz_m (K := 20) (Or.inl rfl) rfl hat rfl rfl (by show (0 : Nat) < 8; decide) rfl rfl (Or.inl ⟨rfl, rfl⟩) (Or.inl ⟨rfl, rfl⟩) ⟨px, rfl, hpx⟩ (Or.inl ⟨rfl, rfl⟩) rfl c3 c2
    have T := qq.mm mn (Nat.le_refl _)
    rw [qq.2.1] at T
    have T2 := T.fin hz rfl (fun j hj2 => by
      obtain ⟨g, hg⟩ := List.mem_iff_getElem?.mp hj2
      obtain ⟨k, a1, a2, a3, a4⟩ := c4 g j hg
      exact ⟨xk k, k, a1, a3, rfl⟩) (x0 := [(0, 4 + i, 0)] ++ mkV js) (by rw [hw1]; omega) (tP_20 rfl ⟨iD0_0, mkV js, rfl, wl_mk, y4, by rw [hEy]; exact y1, by rw [hEy]; exact c1.trans y2.symm, by show sc.length ≤ 12; omega, fun g j e => by
        obtain ⟨k, a1, a2, a3, a4⟩ := c4 g j e
        refine ⟨a4, k, a1, a3, ?_⟩
        rcases (hj k a1).2.1 with ⟨_, w⟩ | ⟨w, _⟩
        · rw [w, a2]; rfl
        · exact absurd z3 w⟩)
    have g5 : GV R S0 S1 S4 E P1 Pe (0 + 1) 0 Γ Γ L1 Le ([(0, 4 + i, 0)] ++ mkV js) (mkV js) (amE S0 mn f) z2 n2 := ⟨F.1, F.2.1, T2.fl (fun w => w.bx (fun j hj2 => (hj j hj2).2.2)), F.2.2⟩
    exact LyQ.of hG (fun i hi => by have := hv i hi; omega) (g1'.tr g5 (fun w => Or.inr w) (Nat.le_refl _) (Nat.le_refl _)) (by omega) (by omega) (by omega) (by omega) kk4
  · -- by reference
    have hA1 : ALv S0 E Γ (mkV js) := hG.al hF (fun i hi => List.mem_map.mpr ⟨i, hi, rfl⟩) nT_mk
    have hrf : rf ≠ 0 := by rw [z1]; decide
    refine Rt.bd (r4 cc.1) (Rt.iq hrf (Rt.bd (r6 cc.1) (Rt.bn (pthS hF hA1 cc z4 z5 (hr.le (by omega) (by omega))) (fun S1 r t1 => ?_))))
    obtain ⟨w, ix, tv, rfl, c1, kx1, pw1, zz1, nn1, u1, pn1, ⟨ix40, iad⟩, evt, hin, rtv, _, qms, hvt', hx0, hmu⟩ := t1
    unfold f_layMatch_19
    refine Rt.bd (r4 c1.1) (Rt.iq hrf ?_)
    unfold f_layMatch_35
    refine Rt.bd (r4 c1.1) (Rt.iq hrf ?_)
    unfold f_layMatch_50
    refine Rt.bd (r6 c1.1) (Rt.bd (c1.1.vi (by decide) (by decide) (oI_mk (hL xe hxe) g1 gx)) ?_)
    refine pnt_ (Lb := L) (Sb := S) (z := 3) (n := 13) (by omega) c1 (kx1.1 _ _) (Nat.le_refl _) zz1 nn1 u1 (fun S2 p2 e2 => ?_)
    have hwm : w ∈ ZL S1 := by obtain ⟨_, _, _, _, h, _⟩ := pw1; exact h
    refine Rt.bd (r4 p2.1.1) (Rt.iq hrf (Rt.bn (thr_ (by omega) p2 hY (pw1.st e2.1) (by omega) (by omega) (pn1.st e2.1 hwm) (by have := hr.1; omega) (by have := hr.2; omega)) (fun S3 _ t3 => ?_)))
    obtain ⟨x3, p3, l3', v1, v2, v3, v4, v5, v6, v7⟩ := t3
    have hπ0 : isRf (abT S0 tv) → π ≠ [] := fun q e => by
      rw [← hx0 e, eV] at q
      have := q.1; omega
    have h91 : ∀ ac n3 : Nat, ((ac = 2 ∧ n3 = 1 ∧ mu = 0 ∧ bd = 1) ∨ (ac = 3 ∧ n3 = 0 ∧ mu = 1 ∧ bd = 2 ∧ m2 = 1)) → Rt (f_layMatch_91 R.K V S3 (some a) (some w) (nI P) (nI ac) (nI P)) (fun S2 _ => LyQ R S0 S E P Γ Γ L js Λ bw p q b c v w8 (amE S0 mn f) 1 S2) := fun ac n3 hac => by
      have hac8 : ac < 8 := by rcases hac with w | w <;> omega
      unfold f_layMatch_91
      refine p3.wI (by omega) (by decide) (fun S4 p4 e4 => ?_)
      have pw4 := ((pw1.st e2.1).st l3').st e4.1
      refine lma105 (w9 := w) (va9 := vv) (ix := ix) (tv := tv) (xt := t) (ρ := π) (t := t) (bd := bd) hF hB hV (by omega) hM ⟨gs, g1, g12⟩ k4 k5 k6.1 k7 k8 hG (by rw [h5]; exact hv) (by omega) (by omega) h7 l2 l3 hmo (by omega) (by omega) (hr.le (by omega) (by omega)) (Or.inr ⟨z1, z3.imp id (fun w => ⟨w.1, w.2.1⟩), rfl, pw4, k4, ⟨ix40, iad⟩, evt, hin, qms, z5, i1, fun q1 q2 => by
        rcases hac with ⟨_, _, _, w4⟩ | ⟨_, _, _, _, w5⟩
        · exact absurd w4 q1
        · rw [evt] at q2 ⊢
          exact hmu q2 (hπ0 q2) w5⟩) p4 (k0.st p4.2.1 (Nat.le_succ _)) (fun S5 Pe Le z2 n2 A J bk xk ft ta F hx hat qq hta hj kk4 d1 d2 d3 d4 => ?_)
      obtain ⟨sc, c1', c2, c3, c4⟩ := mt_sc (Z := fun j => xkO (cdP ix π) E js i bd (vf j) (xk j) ∧ ∃ (y : Nat) (ys : List Value), f j = some y ∧ ZF S0 y = .inr (13, ys) ∧ ys[5]? = some (.ref (bk j))) qq l2 l3 hj (by omega) hm1 hta
      have hpt := (pw4.st hx).pt F.1 (by omega)
      rw [eV] at hpt
      have hus : ∀ r : Nat, (r = 36 ∨ r = 37) → rAr R S5 (va_up x3.2.2 42 (some ta) r) (ifR (E.vt ix) [ix] []) := fun r hr => by
        rw [va_up_ne _ _ (by omega)]
        by_cases q : isRf (E.vt ix)
        · rw [ifR_p q]
          rw [evt] at q
          rcases hr with e | e <;> subst e
          · exact ((v6 q).2.st e4.1).st hx
          · exact ((v6 q).1.st e4.1).st hx
        · rw [ifR_n q]
          rw [evt] at q
          rcases hr with e | e <;> subst e
          · exact Or.inl ⟨(v7 q).2, rfl⟩
          · exact Or.inl ⟨(v7 q).1, rfl⟩
      have g9 : ∀ r : Nat, r ≠ 33 → upd x3.1 33 (nI ac) r = (ptRc 21 (nI px)).1 r := fun r h1 => by rw [upd_n h1, v1]
      have hz : rz R S0 S5 P ((21, ac, some (ix, π, 4 + i), (none, none), (ifR (E.vt ix) [ix] [], ifR (E.vt ix) [ix] []), sc, (i, vv, n3), []) : iR) := rz_m (K := 21) (Or.inr rfl) rfl hat ((g9 27 (by decide)).trans rfl) (upd_s (f := x3.1) (k := 33)) hac8 ((g9 34 (by decide)).trans rfl) ((g9 35 (by decide)).trans rfl) (hus 37 (Or.inr rfl)) (hus 36 (Or.inl rfl)) ⟨px, (g9 32 (by decide)).trans rfl, hpx⟩ (Or.inr ⟨w, ix, 4 + i, π, (va_up_ne x3.2.2 (some ta) (show (38 : Nat) ≠ 42 by decide)).trans v3, rfl, hpt, (pw4.st hx).va⟩) rfl c3 c2
      have T := qq.mm mn (Nat.le_refl _)
      rw [qq.2.1] at T
      obtain ⟨_, _, _, _, _, _, _, _, q5, q6, _⟩ := id pw4
      have hpty : pTy E.y (E.vt ix) π (4 + i) := by rw [hEy, evt, ← eV]; exact q5.ty hY q6
      have T2 := T.fin hz rfl (fun j hj2 => by
        obtain ⟨g, hg⟩ := List.mem_iff_getElem?.mp hj2
        obtain ⟨k, a1, a2, a3, a4⟩ := c4 g j hg
        exact ⟨xk k, k, a1, a3, rfl⟩) (x0 := mkV js) (by rw [wl_mk]; omega) (tP_21 rfl ⟨rfl, rfl, ix, π, ⟨rfl, ⟨ix40, iad⟩, hin, hpty, qms, by show 4 + i ≠ 0; omega, z5, nT_mk⟩, ⟨fun q => ⟨ifR_p q, ifR_p q⟩, fun q => ⟨ifR_n q, ifR_n q⟩⟩, wl_mk, y4, by rw [hEy]; exact y1, by
          rcases hac with ⟨w1, w2, _⟩ | ⟨w1, w2, w3, w4, w5⟩
          · exact Or.inl ⟨w1, w2⟩
          · refine Or.inr ⟨w1, w2, fun q => ?_⟩
            rw [evt] at q ⊢
            exact hmu q (hπ0 q) w5, by rw [hEy]; exact c1'.trans y2.symm, by show sc.length ≤ 12; omega, fun g j e => by
          obtain ⟨k, a1, a2, a3, a4⟩ := c4 g j e
          refine ⟨a4, ?_⟩
          have hb0 : bd ≠ 0 := by rcases hac with w | w <;> omega
          have htag : (if n3 = 1 then 5 else 6) = (if bd = 1 then (5 : Nat) else 6) := by
            rcases hac with w | w
            · rw [if_pos w.2.1, if_pos w.2.2.2]
            · rw [if_neg (by omega), if_neg (by omega)]
          rcases (hj k a1).2.1 with ⟨w, _⟩ | ⟨_, w⟩
          · exact absurd w hb0
          · rw [a2] at w
            rcases w with ⟨w1, w2⟩ | ⟨w1, w2⟩
            · exact Or.inl ⟨w1, k, a1, a3, w2.symm⟩
            · refine Or.inr ⟨w1, k, a1, a3, ?_⟩
              show (if n3 = 1 then 5 else 6, i * 12 + g, 64 * cdP ix π) :: mkV js = xk k
              rw [w2, htag]⟩)
      have g5 : GV R S0 S S5 E P Pe 0 0 Γ Γ L Le (mkV js) (mkV js) (amE S0 mn f) z2 n2 := ⟨F.1, F.2.1, T2.fl (fun w => w.bx (fun j hj2 => (hj j hj2).2.2)), F.2.2⟩
      exact LyQ.of hG (fun i hi => by have := hv i hi; omega) g5 (by omega) (by omega) (by omega) (by omega) kk4
    refine Rt.bd (r3 p3.1.1) (Rt.it (fun w => ?_) (fun w => ?_))
    · refine h91 2 1 (Or.inl ⟨rfl, rfl, w, ?_⟩)
      rcases z3 with z | z
      · exact z.2
      · exact absurd (w.symm.trans z.1) (by decide)
    · refine h91 3 0 (Or.inr ?_)
      rcases z3 with z | z
      · exact absurd z.1 w
      · exact ⟨rfl, rfl, z⟩
end LY44
