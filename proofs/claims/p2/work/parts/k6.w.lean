section ASH
variable {R : yR} {c nv : Nat} {S : Sg} {Γ Λ : List Nat} {fi gv : Nat}
theorem UF_cm {S : Sg} {a b : Nat} {c1 c2 : va_E} (h : a ≠ b) : UF (UF S a c1) b c2 = UF (UF S b c2) a c1 := by
  have : updE (updE (ZF S) a c1) b c2 = updE (updE (ZF S) b c2) a c1 := by
    funext x
    by_cases e1 : x = a
    · subst e1; rw [updE_n h, updE_s, updE_s]
    · by_cases e2 : x = b
      · subst e2; rw [updE_s, updE_n e1, updE_s]
      · rw [updE_n e2, updE_n e1, updE_n e1, updE_n e2]
  show (Zi S, Zr S, Zl S, Zq S, Zf S, ZL S, updE (updE (ZF S) a c1) b c2, Zz S, Zn S) = _
  rw [this]
  rfl
/-- an assignment -/
theorem tas_ (hK : yRm R) (hv : nv ≤ 10000) (h : YS R c nv S Γ Λ fi gv) {n a p q b b1 b2 v x y q1 p2 q2 : Nat} (hz : Zi S 3 = 0) (hΛ : Λ.length = v) (hc : c + (q - p) ≤ 1990) (ha : a ∈ ZL R.S) (hG : ZF R.S a = sxC 2 p 0 0 0 .null (.ref x) (.ref y) .null .null .null .null 0) (hF : ZF S a = ZF R.S a) (hpq : p < q) (hy : isE (ZL R.S) (ZF R.S) (R.K.1 9) (R.K.1 0) 408 16 y p q1 b b1) (hpl : plE (ZF R.S) 408 y) (hq1 : q1 < p2) (hq2 : q2 < q) (hx : isE (ZL R.S) (ZF R.S) (R.K.1 9) (R.K.1 0) 408 16 x p2 q2 b1 b2) (hU : Unt R S p q) (hq : q ≤ R.T) : Rt (f_typeAssign R.K S (some a)) (fun S2 _ => StP R c nv S Γ Λ fi gv (n + 1) 0 a p q b b2 v v (0, 0, 0) S2) := by
  have hT := h.1.tb
  have hly := (isE_mem hy).2
  have hlx := (isE_mem hx).2
  have hbb := isE_plb hy hpl
  have ho : ownT (ZF R.S) a = some p := own_s hG (by omega)
  have c1 : ZF S a = sxC 2 p 0 0 0 .null (.ref x) (.ref y) .null .null .null .null 0 := hF.trans hG
  have he1 := h.1.L ha
  unfold f_typeAssign
  refine Rt.bd (oR_mk he1 c1 (v := some x) rfl) (Rt.bn (vst_ hK hv h (show c + (q2 - p2) ≤ 1990 by omega) hx (hU.su (by omega) (by omega)) (by omega)) (fun S2 r q3 => ?_))
  obtain ⟨t, rfl, y1, v2, s2, ⟨kt, it, ot, u1⟩, x2⟩ := q3
  have c2 := (s2.2.2.1.2 a 19 _ (Or.inr rfl) he1 c1)
  have v2' : VX R (Xo R p q) S S2 := v2.mo (fun a w => Xo_mo w (by omega) (by omega))
  refine Rt.ok (fun z2 => ?_) (fun z2 => Rt.rt (StP.bad (c2 := c + (q2 - p2)) (by omega) (by omega) y1.1 v2' z2))
  have hU2 : Unt R S2 p q1 := fun a9 ha9 w9 => (v2.2.1 a9 ha9 (fun x9 => Xo_dj w9 x9 (Or.inl (by omega)))).trans (hU a9 ha9 (Xo_mo w9 (Nat.le_refl _) (by omega)))
  obtain ⟨e2, n2, pb, qb, r1, r2, r3, r4, r5, r6, r7, kb, fb, r8, r9, r10⟩ := bru_ (K := R.K) (S := S2) (fun a ha => y1.1.L ha) hy hpl hU2 (by omega) (m := bigN) (by decide)
  have hbare : f_bare R.K S2 (some y) = some (S2, some e2) := r2
  have hx2 := x2 z2
  obtain ⟨tb, ob, ob1, ob2⟩ := isE_own r4 (by omega)
  have hXe : Xo R p q1 e2 := Or.inl ⟨tb, ob, by omega, by omega⟩
  have he2R := (isE_mem r4).1
  have hFe2 := hU2 e2 he2R hXe
  have hxtok : ∀ {S5 : Sg} {c5 : Nat}, TS R c5 nv S5 → ∃ gs : List Value, x ∈ ZL S5 ∧ ZF S5 x = .inr (15, gs) ∧ gs[1]? = some (.int (nI p2)) := fun {S5 c5} t5 => by
    obtain ⟨vs, k1, k2⟩ := isE_tok hx
    obtain ⟨m1, gs, m2, m3, m4, m5⟩ := t5.ob (isE_mem hx).1 k1
    exact ⟨gs, m1, m2, (m4 1 rfl).trans k2⟩
  -- the place is typed, from a state that is good for it
  have h150 : ∀ (S3 S4 : Sg), Zi S3 3 = 0 → YS R (c + (q2 - p2)) nv S3 Γ Λ fi gv → VX R nX S2 S3 → Zq S3 22 = Zq S2 22 → (∀ b9 : Nat, b9 ∈ ZL R.S → ZF S3 b9 = ZF S2 b9) → a ∈ ZL S4 → ZF S4 a = ZF S3 a → f_place R.K 410 S4 (some y) = f_place R.K 410 S3 (some y) → Rt (f_typeAssign_150 R.K S4 (some a) (some t) (some e2)) (fun S2 _ => StP R c nv S Γ Λ fi gv (n + 1) 0 a p q b b2 v v (0, 0, 0) S2) := fun S3 S4 z3 y3 v3 q3 f3 ha4 hF4 hpe => by
    have hU3 : Unt R S3 p q1 := fun a9 ha9 w9 => (f3 a9 ha9).trans (hU2 a9 ha9 w9)
    have ca3 : ZF S3 a = sxC 2 p 0 0 0 .null (.ref x) (.ref y) .null .null .null .null 0 := (f3 a ha).trans c2.2
    unfold f_typeAssign_150
    refine Rt.bd (oR_mk ha4 (hF4.trans ca3) (v := some y) rfl) ?_
    rw [hpe]
    refine Rt.bn (plc_ hK hv (show c + (q2 - p2) ≤ 1990 by omega) 408 410 (by decide) (by decide) y3.1 y3.2.1 y3.2.2.2.1 hy hpl hU3 (by omega)) (fun S5 r5 q5 => ?_)
    obtain ⟨u, rfl, w1, w2⟩ := q5
    have y5 : YS R (c + (q2 - p2)) nv S5 Γ Λ fi gv := y3.vx w1.1 w1.2.1 w1.2.2.1
    have v25 : VX R (Xo R p q1) S2 S5 := v3.b w1.2.1
    have v05 : VX R (Xo R p q) S S5 := v2'.tr v25 (fun a w => Xo_mo w (Nat.le_refl _) (by omega))
    have ca5 := (w1.2.2.1.2.2.1.2 a 19 _ (Or.inr rfl) (y3.1.L ha) ca3)
    have hxE5 : xE R S5 Γ 408 16 x p2 q2 b1 b2 t := xE_vx v25 hx2 (v25.fr (Or.inr (by omega)))
    -- the end
    have h185 : ∀ S6 : Sg, (S6 = S5 ∧ (Zi S5 3 = 0 → u = t)) ∨ (∃ x9 : Int32, S6 = flS S5 4 x9 ∧ ¬ Zi S6 3 = 0) → Rt (f_typeAssign_185 R.K S6 (some a) (some e2)) (fun S2 _ => StP R c nv S Γ Λ fi gv (n + 1) 0 a p q b b2 v v (0, 0, 0) S2) := fun S6 h6 => by
      unfold f_typeAssign_185 f_typeAssign_220
      rcases h6 with ⟨e6, h6⟩ | ⟨x9, e6, h6⟩
      · subst e6
        refine Rt.ok (fun z6 => ?_) (fun z6 => Rt.rt (StP.bad (c2 := c + (q2 - p2)) (by omega) (by omega) y5.1 v05 z6))
        have hut := h6 z6
        subst hut
        obtain ⟨vv, π, mu, mv, g1, g2⟩ := w2 z6
        obtain ⟨n3, p3, q3', g3, g4, g5⟩ := brx_ y5.1 r1 g1
        obtain ⟨m1, gs, m2, m3, m4, m5⟩ := y5.1.ob he2R r8
        have hgood : (π = [] ∨ mu = 1) → StP R c nv S Γ Λ fi gv (n + 1) 0 a p q b b2 v v (0, 0, 0) S6 := fun hm => ⟨c + (q2 - p2), nv, by omega, by omega, y5.1, v05, fun _ => ⟨Γ, Λ, by rw [Nat.sub_self, Nat.add_zero]; exact y5.up (by omega), pfx.rf, hΛ, fun k _ => by rw [w1.2.2.1.2.2.1.1, q3, s2.2.2.1.1], ⟨ha, ho, hpq⟩, Or.inr (Or.inr (Or.inl ⟨x, y, q1, p2, q2, vv, u, mu, mv, π, ca5.2, g1, g2, hq1, hq2, by rw [hbb]; exact hxE5, hm, rfl, rfl⟩))⟩⟩
        refine Rt.bd (oI_mk m1 m2 ((m4 0 rfl).trans r9)) (Rt.it (fun w => Rt.rt (hgood (Or.inl (g5 ⟨fb, r8, by rw [r9, w]⟩)))) (fun w => ?_))
        refine Rt.bn (mut_ (K := R.K) (fun a ha => y5.1.L ha) g4 (d := 410) (by omega) (by omega)) (fun S7 r7 q7 => ?_)
        obtain ⟨e7, q7⟩ := q7
        rw [e7]
        refine Rt.it (fun w7 => ?_) (fun w7 => Rt.rt (hgood (Or.inr ?_)))
        · obtain ⟨d1, d2, d3, d4, ck, cf, d5, d6, d7, _⟩ := xPl_c g1
          exact Rt.bd (oR_mk ca5.1 ca5.2 (v := some y) rfl) (Rt.bd (oI_mk (y5.1.L d1) d5 d7) (Rt.be (fai_ y5.1 (by omega)) (Rt.rt (StP.bad (c2 := c + (q2 - p2)) (by omega) (by omega) y5.1.fl (v05.n VX.fl) (flS_n0 (by decide))))))
        · have := (xPl_c g1).2.2.2.1.1
          rcases Nat.lt_or_ge mu 1 with w6 | w6
          · rw [show mu = 0 by omega] at q7; exact absurd q7 w7
          · omega
      · subst e6
        exact Rt.ok (fun z6 => absurd z6 h6) (fun z6 => Rt.rt (StP.bad (c2 := c + (q2 - p2)) (by omega) (by omega) y5.1.fl (v05.n VX.fl) z6))
    refine Rt.ok (fun z5 => Rt.it (fun w => h185 S5 (Or.inl ⟨rfl, fun _ => Option.some.inj w⟩)) (fun _ => ?_)) (fun z5 => h185 S5 (Or.inl ⟨rfl, fun w => absurd w z5⟩))
    obtain ⟨gs, m1, m2, m3⟩ := hxtok y5.1
    exact Rt.bd (oR_mk ca5.1 ca5.2 (v := some x) rfl) (Rt.bd (oI_mk m1 m2 m3) (Rt.be (fai_ y5.1 (by omega)) (h185 _ (Or.inr ⟨_, rfl, flS_n0 (by decide)⟩))))
  refine Rt.bd (oR_mk c2.1 c2.2 (v := some y) rfl) (Rt.be hbare (Rt.bd (oI_mk (y1.1.L he2R) (hFe2.trans r8) r9) (Rt.it (fun wk => ?_) (fun wk => h150 S2 S2 z2 y1 VX.rf rfl (fun _ _ => rfl) c2.1 rfl rfl))))
  -- a name
  have hnm : ∃ pn : Nat, ZF R.S e2 = xpC 2 pn 0 (nI pn) 0 0 .null .null .null 0 ∧ pn < R.T := by
    cases n2 with
    | zero => exact r4.elim
    | succ n2 =>
    obtain ⟨_, hh, _, h3⟩ := xpl_pl r4 r5
    rcases h3 with ⟨k, _⟩ | ⟨kd, o, p', q', k1, k2, _⟩ | ⟨o, nm, q', k2, _⟩
    · exact ⟨pb, k, by omega⟩
    · rw [k2] at r8; cases r8; cases r9
      rcases k1 with w | w <;> rw [wk] at w <;> exact absurd w (by decide)
    · rw [k2] at r8; cases r8; cases r9; exact absurd wk (by decide)
  obtain ⟨pn, hcn, hpn⟩ := hnm
  have hne2 : e2 ≠ a := fun e => by rw [e, hG] at hcn; cases hcn
  have hob : ownT (ZF R.S) e2 = some pn := own_a hcn (by decide) (by decide) (by omega)
  have htb : tb = pn := by rw [ob] at hob; exact Option.some.inj hob
  have hloop : ∀ (m k : Nat) (w : Option Nat), Γ.length < k + m → k ≤ Γ.length → (w = none ∨ ∃ u : Nat, u ∈ Γ ∧ w = some u) → Rt (f_typeAssign_36 R.K m (UF S2 e2 (xtC 2 pn 0 (nI pn) 0 0 0 0 .null .null .null 0 .null (va_rf w))) (some a) (some t) (some e2) (nI k)) (fun S2 _ => StP R c nv S Γ Λ fi gv (n + 1) 0 a p q b b2 v v (0, 0, 0) S2) := by
    intro m
    induction m with
    | zero => intro k w a b; omega
    | succ m ih =>
      intro k w hk1 hk2 hw
      have hce : ZF (UF S2 e2 (xtC 2 pn 0 (nI pn) 0 0 0 0 .null .null .null 0 .null (va_rf w))) e2 = xtC 2 pn 0 (nI pn) 0 0 0 0 .null .null .null 0 .null (va_rf w) := ZF_s
      have hme : e2 ∈ ZL (UF S2 e2 (xtC 2 pn 0 (nI pn) 0 0 0 0 .null .null .null 0 .null (va_rf w))) := y1.1.L he2R
      have hfo : ∀ b9 : Nat, b9 ≠ e2 → ZF (UF S2 e2 (xtC 2 pn 0 (nI pn) 0 0 0 0 .null .null .null 0 .null (va_rf w))) b9 = ZF S2 b9 := fun _ hb => ZF_n hb
      have hVf : ∀ {u ix : Nat} {nm mu : Int32} {ty : Option Nat}, isV S2 u ix nm ty mu → isV (UF S2 e2 (xtC 2 pn 0 (nI pn) 0 0 0 0 .null .null .null 0 .null (va_rf w))) u ix nm ty mu := fun {u ix nm mu ty} q9 => ⟨q9.1, (hfo u (fun e => by have := q9.2; rw [e, hFe2, hcn] at this; cases this)).trans q9.2⟩
      have heq := plc_eq (K := R.K) (w := w) (d := 410) (S := S2) (fun a ha => y1.1.L ha) z2 hcn hFe2 he2R hy hpl hU2 (by omega) r1
      have h150' : Rt (f_typeAssign_150 R.K (UF S2 e2 (xtC 2 pn 0 (nI pn) 0 0 0 0 .null .null .null 0 .null (va_rf w))) (some a) (some t) (some e2)) (fun S2 _ => StP R c nv S Γ Λ fi gv (n + 1) 0 a p q b b2 v v (0, 0, 0) S2) := h150 S2 _ z2 y1 VX.rf rfl (fun _ _ => rfl) c2.1 (ZF_n (fun e => hne2 e.symm)) heq
      have t1 : TS R (c + (q2 - p2)) nv (UF S2 e2 (xtC 2 pn 0 (nI pn) 0 0 0 0 .null .null .null 0 .null (va_rf w))) := y1.1.uf he2R (by
        rw [hcn]
        exact cs_put (k := 13) (c := 15) (gs := [.int 2, .int (nI pn), .int 0, .int (nI pn), .int 0, .int 0, .long 0, .int 0, .null, .null, .null, .int (nI 0), .null, .null]) (cs_rf _) rfl)
      have vbd : VX R (Xo R p q) S (UF S2 e2 (xtC 2 pn 0 (nI pn) 0 0 0 0 .null .null .null 0 .null (va_rf w))) := v2'.tr (VX.uf (X := Xo R p q) (Xo_mo hXe (Nat.le_refl _) (by omega)) (fun vs z => by rw [hFe2, hcn] at z; cases z) (fun vs z => by rw [hFe2, hcn] at z; cases z)) (fun _ w => w)
      have cae : ZF (UF S2 e2 (xtC 2 pn 0 (nI pn) 0 0 0 0 .null .null .null 0 .null (va_rf w))) a = sxC 2 p 0 0 0 .null (.ref x) (.ref y) .null .null .null .null 0 := (hfo a (fun e => hne2 e.symm)).trans c2.2
      have u1e : isTy (UF S2 e2 (xtC 2 pn 0 (nI pn) 0 0 0 0 .null .null .null 0 .null (va_rf w))) t kt it ot := by
        obtain ⟨ti, d1, d2, d3, d4⟩ := u1
        exact ⟨ti, d1, d2, d3, (hfo t (fun e => by rw [e, hFe2, hcn] at d4; cases d4)).trans d4⟩
      have h120 : Rt (f_typeAssign_120 R.K (UF S2 e2 (xtC 2 pn 0 (nI pn) 0 0 0 0 .null .null .null 0 .null (va_rf w))) (some a) (some t) (some e2)) (fun S2 _ => StP R c nv S Γ Λ fi gv (n + 1) 0 a p q b b2 v v (0, 0, 0) S2) := by
        unfold f_typeAssign_120
        refine Rt.bd (oR_mk hme hce rfl) ?_
        rcases hw with hw | ⟨u, hw1, hw2⟩
        · exact Rt.ip hw h150'
        · subst hw2
          obtain ⟨j, hj⟩ := List.mem_iff_getElem?.mp hw1
          obtain ⟨k1, ix, nm, mu, ty, k2, k3, k4, k5⟩ := y1.2.1.2.2 j u hj
          have k2' := hVf k2
          refine Rt.iq (by simp) (Rt.bd (oR_mk hme hce rfl) (Rt.bd (oR_mk k2'.1 k2'.2 rfl) (Rt.it (fun _ => ?_) (fun _ => h150'))))
          obtain ⟨gs, m1, m2, m3⟩ := hxtok t1
          exact Rt.bd (oR_mk (show a ∈ ZL (UF S2 e2 (xtC 2 pn 0 (nI pn) 0 0 0 0 .null .null .null 0 .null (va_rf (some u)))) from c2.1) cae (v := some x) rfl) (Rt.bd (oI_mk m1 m2 m3) (Rt.be (fai_ t1 (by omega)) (Rt.rt (StP.bad (c2 := c + (q2 - p2)) (by omega) (by omega) t1.fl (vbd.n VX.fl) (flS_n0 (by decide))))))
      unfold f_typeAssign_36 f_typeAssign_77
      have hz23 : Zi (UF S2 e2 (xtC 2 pn 0 (nI pn) 0 0 0 0 .null .null .null 0 .null (va_rf w))) 23 = nI Γ.length := y1.2.1.1
      rw [hz23]
      refine Rt.it (fun _ => ?_) (fun hk => ?_)
      · refine Rt.bd (oR_mk hme hce rfl) ?_
        rcases hw with hw | ⟨u, hw1, hw2⟩
        · exact Rt.ip hw h120
        · subst hw2
          obtain ⟨j, hj⟩ := List.mem_iff_getElem?.mp hw1
          obtain ⟨k1, ix, nm, mu, ty, k2, k3, k4, k5⟩ := y1.2.1.2.2 j u hj
          have k2' := hVf k2
          refine Rt.iq (by simp) (Rt.bd (oR_mk hme hce rfl) (Rt.bd (oR_mk k2'.1 k2'.2 rfl) (Rt.it (fun wt => ?_) (fun _ => h120))))
          subst wt
          have u1e' := u1e
          obtain ⟨ti, d1, d2, d3, d4⟩ := u1e
          refine Rt.bd (oI_mk d3 d4 (v := kt) rfl) (Rt.it (fun _ => h120) (fun w8 => ?_))
          have hrt : rTy S2 t := (xE_ty hx2).r u1 w8
          obtain ⟨j9, hj9⟩ := List.mem_iff_getElem?.mp (y1.2.2.2.2.2.1.1 u hw1)
          have hnu := (y1.2.2.1.2.2 j9 u hj9).1
          have hue : u ≠ e2 := fun e => hnu (e ▸ he2R)
          obtain ⟨ys, vs'⟩ := y1.st hnu k2 hrt
          refine Rt.bd (oR_mk hme hce rfl) (Rt.bd (pV_mk (v := va_rf (some t)) k2'.1 k2'.2 (Nat.le_of_ble_eq_true rfl)) ?_)
          have hcm : UF (UF S2 e2 (xtC 2 pn 0 (nI pn) 0 0 0 0 .null .null .null 0 .null (va_rf (some u)))) u (.inr (21, ([.int (nI ix), .int (nI nm), va_rf none, .int (nI mu), .null] : List Value).set 2 (va_rf (some t)))) = UF (UF S2 u (vrC ix (nI nm) (some t) (nI mu))) e2 (xtC 2 pn 0 (nI pn) 0 0 0 0 .null .null .null 0 .null (va_rf (some u))) := UF_cm (fun e => hue e.symm)
          rw [hcm]
          have hF3 : ∀ b9 : Nat, b9 ∈ ZL R.S → ZF (UF S2 u (vrC ix (nI nm) (some t) (nI mu))) b9 = ZF S2 b9 := fun b9 hb => ZF_n (fun e => hnu (e ▸ hb))
          have heq3 := plc_eq (K := R.K) (w := some u) (d := 410) (S := UF S2 u (vrC ix (nI nm) (some t) (nI mu))) (fun a ha => y1.1.L ha) z2 hcn ((hF3 e2 he2R).trans hFe2) he2R hy hpl (fun a9 ha9 w9 => (hF3 a9 ha9).trans (hU2 a9 ha9 w9)) (by omega) r1
          exact h150 (UF S2 u (vrC ix (nI nm) (some t) (nI mu))) _ z2 ys vs' rfl hF3 c2.1 (ZF_n (fun e => hne2 e.symm)) heq3
      · have hlt : k < Γ.length := by
          rcases Nat.lt_or_ge k Γ.length with z | z
          · exact z
          · exact absurd (nI_le z (by have := y1.2.1.2.1; omega)) hk
        have hg : Γ[k]? = some Γ[k] := List.getElem?_eq_getElem hlt
        obtain ⟨k1, ix, nm, mu, ty, k2, k3, k4, k5⟩ := y1.2.1.2.2 k _ hg
        have k2' := hVf k2
        have hrq : rQ (UF S2 e2 (xtC 2 pn 0 (nI pn) 0 0 0 0 .null .null .null 0 .null (va_rf w))) 22 (nI k) = some (some Γ[k]) := by rw [rQ_n (show k < rlen 22 by show k < 40; have := y1.2.1.2.1; omega) (by decide)]; exact congrArg some k1
        refine Rt.bd hrq (Rt.bd (oI_mk k2'.1 k2'.2 rfl) (Rt.bd (oI_mk hme hce rfl) (Rt.bn (snm_ t1 k3 hpn) (fun S3 r3 q3 => ?_))))
        obtain ⟨e3, _⟩ := q3
        rw [e3, nI_1]
        refine Rt.it (fun _ => ih (k + 1) w (by omega) (by omega) hw) (fun _ => ?_)
        refine Rt.bd hrq (Rt.bd (pV_mk hme hce (Nat.le_of_ble_eq_true rfl)) ?_)
        rw [UF_UF]
        exact ih (k + 1) (some Γ[k]) (by omega) (by omega) (Or.inr ⟨_, List.getElem_mem hlt, rfl⟩)
  have hst := hloop bigN 0 none (by have := y1.2.1.2.1; show _ < 0 + 1000000000000; omega) (Nat.zero_le _) (Or.inl rfl)
  have hid : UF S2 e2 (xtC 2 pn 0 (nI pn) 0 0 0 0 .null .null .null 0 .null (va_rf none)) = S2 := UF_id (hFe2.trans hcn)
  rw [hid] at hst
  exact hst
end ASH
