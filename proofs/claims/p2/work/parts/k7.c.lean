section MAU
variable {R : yR} {c nv : Nat} {S : Sg} {Γ Λ : List Nat} {fi gv : Nat}
/-- match -/
theorem tmt_ (hK : yRm R) {V : Sg → Option Nat → Option (Sg × Unit)} {n : Nat} (hV : ∀ m : Nat, m < n → BH R fi gv m V) (h : YS R c nv S Γ Λ fi gv) {a p q b b0 b1 b2 v w x ar cap mn p0 q0 : Nat} {mu rf : Int32} {f : Nat → Option Nat} (hz : Zi S 3 = 0) (hΛ : Λ.length = v) (hw : w ≤ 40) (hnv : nv + (w - v) ≤ 10000) (hc : c + (q - p) ≤ 1990) (ha : a ∈ ZL R.S) (hG : ZF R.S a = sxC 5 p 0 mu rf .null (.ref x) .null .null .null .null (.ref ar) mn) (hF : ZF S a = ZF R.S a) (hpq : p < q) (hrf : (rf = 0 ∧ mu = 0 ∧ b0 = b) ∨ (rf = 1 ∧ (mu = 0 ∨ mu = 1) ∧ b0 = b + 1 ∧ plE (ZF R.S) 408 x)) (hp0 : p < p0) (hE : isE (ZL R.S) (ZF R.S) (R.K.1 9) (R.K.1 0) 408 16 x p0 q0 b0 b1) (har : ar ∈ ZL R.S) (hfa : ZF R.S ar = .inl (R.K.1 7, cap, .inr (.inr (.inr (.inr f))))) (hcap : mn ≤ cap) (hJ : chN (isQ R n 2) f mn (q0 + 1) (q - 1) b1 b2 v w) (hU : Unt R S p q) (hq : q ≤ R.T) : Rt (f_typeMatch R.K V S (some a)) (fun S2 _ => StP R c nv S Γ Λ fi gv (n + 1) 0 a p q b b2 v w (0, 0, 0) S2) := by
  have hT := h.1.tb
  have ho : ownT (ZF R.S) a = some p := own_s hG (by omega)
  have c1 := hF.trans hG
  have he1 := h.1.L ha
  have hlx := (isE_mem hE).2
  have hq0 : q0 + 1 ≤ q - 1 := by
    obtain ⟨ps, bs, vs, z1, z2, _, _, _, _, z7⟩ := hJ
    have hps := chJ_ps (P := fun _ => isQ R n 2) (bs := bs) (vs := vs) (fun i x p q b c v w z => (isN_lt z).2) z7 mn 0 (by omega)
    rw [Nat.zero_add] at hps
    omega
  have hUx := hU.su (p2 := p0) (q2 := q0) (by omega) (by omega)
  obtain ⟨bd, hbd⟩ : ∃ bd : Nat, (rf = 0 ∧ bd = 0) ∨ (rf = 1 ∧ mu = 0 ∧ bd = 1) ∨ (rf = 1 ∧ mu = 1 ∧ bd = 2) := by
    rcases hrf with ⟨e, _⟩ | ⟨e, e2 | e2, _⟩
    · exact ⟨0, Or.inl ⟨e, rfl⟩⟩
    · exact ⟨1, Or.inr (Or.inl ⟨e, e2, rfl⟩)⟩
    · exact ⟨2, Or.inr (Or.inr ⟨e, e2, rfl⟩)⟩
  have h98 : ∀ (S3 : Sg) (c3 t : Nat), YS R c3 nv S3 Γ Λ fi gv → c3 ≤ c + (q0 - p0) → VX R (Xo R p0 q0) S S3 → VS S S3 → (∃ (kd ix : Int32) (o : Option Nat), isTy S3 t kd ix o) → (Zi S3 3 = 0 → HD R S3 Γ x p0 q0 b b1 t bd mu rf ∧ ∃ (ix : Int32) (o : Option Nat), isTy S3 t 4 ix o) → Rt (f_typeMatch_98 R.K V S3 (some a) (some t)) (fun S2 _ => StP R c nv S Γ Λ fi gv (n + 1) 0 a p q b b2 v w (0, 0, 0) S2) := fun S3 c3 t y3 hc3 v3 s3 _ g3 => by
    unfold f_typeMatch_98
    refine Rt.ok (fun z3 => ?_) (fun z3 => Rt.rt (StP.bad (c2 := c3) (nv2 := nv) (by omega) (by omega) y3.1 (v3.mo (fun a w => Xo_mo w (by omega) (by omega))) z3))
    obtain ⟨g4, ix, o, g5⟩ := g3 z3
    obtain ⟨⟨i, w1, w2, w3⟩, w4⟩ := yOK_4 (y3.1.at (by omega) g5).1
    subst w2 w4
    have g5' := g5
    obtain ⟨ti, e1, e2, e3, e4⟩ := g5
    obtain ⟨_, n2, _⟩ := y3.2.2.2.1 i w1
    have ca3 := (s3.2.2.1.2 a 19 _ (Or.inr rfl) he1 c1).2
    have hU3 : Unt R S3 (q0 + 1) (q - 1) := fun a9 ha9 w9 => (v3.2.1 a9 ha9 (fun x9 => Xo_dj w9 x9 (Or.inr (by omega)))).trans (hU a9 ha9 (Xo_mo w9 (by omega) (by omega)))
    refine Rt.bd (oI_mk e3 e4 (v := nI i) rfl) (Rt.bd (y3.1.it w1 n2) ?_)
    exact mt119 hK hV (S0 := S) (c0 := c) y3 z3 hΛ hw hnv (by omega) hc ha hG (ca3.trans hG.symm) hpq hp0 hlx (by omega) hbd har hfa hcap hJ w1 w3 g4 g5' (v3.mo (fun a w => Xo_mo w (by omega) (Nat.le_refl _))) (fun k _ => by rw [s3.2.2.1.1]) rfl hU3 hq
  have hxtok : ∀ {S5 : Sg} {c5 : Nat}, TS R c5 nv S5 → ∃ gs : List Value, x ∈ ZL S5 ∧ ZF S5 x = .inr (15, gs) ∧ gs[1]? = some (.int (nI p0)) := fun {S5 c5} t5 => by
    obtain ⟨vs, k1, k2⟩ := isE_tok hE
    obtain ⟨m1, gs, m2, m3, m4, m5⟩ := t5.ob (isE_mem hE).1 k1
    exact ⟨gs, m1, m2, (m4 1 rfl).trans k2⟩
  -- behind the look at the exp: it may have to be mutable
  have h26 : ∀ (S3 : Sg) (c3 t : Nat), YS R c3 nv S3 Γ Λ fi gv → c3 ≤ c + (q0 - p0) → VX R (Xo R p0 q0) S S3 → VS S S3 → (∃ (kd ix : Int32) (o : Option Nat), isTy S3 t kd ix o) → (Zi S3 3 = 0 → (rf = 0 ∧ xE R S3 Γ 408 16 x p0 q0 b b1 t) ∨ (rf = 1 ∧ b1 = b + 1 ∧ ∃ (vv m2 w2 : Nat) (π : List (Nat × Nat)), xPl R S3 Γ 408 x p0 q0 vv π t m2 w2 ∧ π.length ≤ 4)) → Rt (f_typeMatch_26 R.K V S3 (some a) (some t)) (fun S2 _ => StP R c nv S Γ Λ fi gv (n + 1) 0 a p q b b2 v w (0, 0, 0) S2) := fun S3 c3 t y3 hc3 v3 s3 u3 g3 => by
    have ca3 := s3.2.2.1.2 a 19 _ (Or.inr rfl) he1 c1
    have hfl : ∀ {Q : Sg → Unit → Prop} (k : Rt (f_typeMatch_98 R.K V (flS S3 4 (Zr S3 6 p0)) (some a) (some t)) Q), Rt ((oR S3 19 (some a) 6).bind fun v22 => (oI S3 15 v22 1).bind fun v23 => bnd (f_fail R.K S3 4 v23) fun S24 v25 => f_typeMatch_98 R.K V S24 (some a) (some t)) Q := fun {Q} k => by
      obtain ⟨gs, m1, m2, m3⟩ := hxtok y3.1
      exact Rt.bd (oR_mk ca3.1 ca3.2 (v := some x) rfl) (Rt.bd (oI_mk m1 m2 m3) (Rt.be (fai_ y3.1 (by omega)) k))
    have hbad98 : ∀ wh : Int32, wh ≠ 0 → Rt (f_typeMatch_98 R.K V (flS S3 wh (Zr S3 6 p0)) (some a) (some t)) (fun S2 _ => StP R c nv S Γ Λ fi gv (n + 1) 0 a p q b b2 v w (0, 0, 0) S2) := fun wh hwh => h98 _ c3 t y3.fl hc3 (v3.n VX.fl) (s3.tr VS.fl) (by obtain ⟨k, i, o, u⟩ := u3; exact ⟨k, i, o, (VX.fl (R := R) (X := nX)).2.2.2.1 _ _ _ _ u⟩) (fun z => absurd z (flS_n0 hwh))
    have h54 : (Zi S3 3 = 0 → ∃ (ix : Int32) (o : Option Nat), isTy S3 t 4 ix o) → Rt (f_typeMatch_54 R.K V S3 (some a) (some t)) (fun S2 _ => StP R c nv S Γ Λ fi gv (n + 1) 0 a p q b b2 v w (0, 0, 0) S2) := fun h4 => by
      unfold f_typeMatch_54
      refine Rt.ok (fun z3 => ?_) (fun z3 => h98 S3 c3 t y3 hc3 v3 s3 u3 (fun z => absurd z z3))
      refine Rt.bd (oI_mk ca3.1 ca3.2 (v := rf) rfl) (Rt.it (fun w0 => ?_) (fun w0 => ?_))
      · refine h98 S3 c3 t y3 hc3 v3 s3 u3 (fun z => ⟨Or.inl ?_, h4 z⟩)
        rcases hrf with ⟨_, e2, _⟩ | ⟨e, _⟩
        · rcases g3 z with ⟨_, g4⟩ | ⟨e, _⟩
          · rcases hbd with ⟨_, e5⟩ | ⟨e5, _⟩ | ⟨e5, _⟩
            · exact ⟨w0, e2, e5, g4⟩
            · rw [w0] at e5; exact absurd e5 (by decide)
            · rw [w0] at e5; exact absurd e5 (by decide)
          · rw [w0] at e; exact absurd e (by decide)
        · rw [w0] at e; exact absurd e (by decide)
      · rcases g3 z3 with ⟨e, _⟩ | ⟨e1, e2, vv, m2, w2, π, e3, e4⟩
        · exact absurd e w0
        refine Rt.bd (oI_mk ca3.1 ca3.2 (v := mu) rfl) (Rt.it (fun w1 => ?_) (fun w1 => ?_))
        · refine h98 S3 c3 t y3 hc3 v3 s3 u3 (fun z => ⟨Or.inr ⟨e1, e2, vv, m2, w2, π, Or.inl ⟨w1, ?_⟩, e3, e4⟩, h4 z⟩)
          rcases hbd with ⟨e, _⟩ | ⟨_, _, e⟩ | ⟨_, e, _⟩
          · exact absurd e w0
          · exact e
          · rw [w1] at e; exact absurd e (by decide)
        · refine Rt.bd (oR_mk ca3.1 ca3.2 (v := some x) rfl) (Rt.bn (mut_ (K := R.K) (fun a ha => y3.1.L ha) e3 (d := 410) (by decide) (by decide)) (fun S7 r7 q7 => ?_))
          obtain ⟨e7, q7⟩ := q7
          rw [e7]
          refine Rt.it (fun _ => hfl (hbad98 4 (by decide))) (fun w7 => h98 S3 c3 t y3 hc3 v3 s3 u3 (fun z => ⟨Or.inr ⟨e1, e2, vv, m2, w2, π, Or.inr ?_, e3, e4⟩, h4 z⟩))
          have hm2 : m2 = 1 := by
            have := (xPl_c e3).2.2.2.1.1
            rcases Nat.lt_or_ge m2 1 with w6 | w6
            · rw [show m2 = 0 by omega] at q7; exact absurd q7 w7
            · omega
          rcases hbd with ⟨e, _⟩ | ⟨_, e, _⟩ | ⟨_, e, e9⟩
          · exact absurd e w0
          · exact absurd e w1
          · exact ⟨e, e9, hm2⟩
    unfold f_typeMatch_26
    refine Rt.ok (fun z3 => ?_) (fun z3 => h54 (fun z => absurd z z3))
    obtain ⟨kd, ix, o, u⟩ := u3
    have u' := u
    obtain ⟨ti, e1, e2, e3, e4⟩ := u
    refine Rt.bd (oI_mk e3 e4 (v := kd) rfl) (Rt.it (fun w4 => h54 (fun _ => ⟨ix, o, by rw [w4] at u'; exact u'⟩)) (fun _ => ?_))
    obtain ⟨gs, m1, m2, m3⟩ := hxtok y3.1
    refine Rt.bd (oR_mk ca3.1 ca3.2 (v := some x) rfl) (Rt.bd (oI_mk m1 m2 m3) (Rt.be (fai_ y3.1 (by omega)) ?_))
    unfold f_typeMatch_54
    exact Rt.ok (fun z => absurd z (flS_n0 (by decide))) (fun _ => hbad98 4 (by decide))
  unfold f_typeMatch
  refine Rt.bd (oI_mk he1 c1 (v := rf) rfl) (Rt.it (fun w0 => ?_) (fun w0 => ?_))
  · refine Rt.bd (oR_mk he1 c1 (v := some x) rfl) (Rt.bn (vst_ hK (by omega) h (show c + (q0 - p0) ≤ 1990 by omega) hE hUx (by omega)) (fun S3 r q3 => ?_))
    obtain ⟨t, rfl, y1, y2, y3, y4, y5⟩ := q3
    refine h26 S3 _ t y1 (Nat.le_refl _) y2 y3 y4 (fun z => Or.inl ⟨w0, ?_⟩)
    rcases hrf with ⟨_, _, e⟩ | ⟨e, _⟩
    · rw [← e]; exact y5 z
    · rw [w0] at e; exact absurd e (by decide)
  · rcases hrf with ⟨e, _⟩ | ⟨e1, e2, e3, e4⟩
    · exact absurd e w0
    have hbb := isE_plb hE e4
    refine Rt.bd (oR_mk he1 c1 (v := some x) rfl) (Rt.bn (plc_ hK (by omega) (show c ≤ 1990 by omega) 408 410 (by decide) (by decide) h.1 h.2.1 h.2.2.2.1 hE e4 hUx (by omega)) (fun S3 r q3 => ?_))
    obtain ⟨t, rfl, y1, y2⟩ := q3
    refine h26 S3 c t (h.vx y1.1 y1.2.1 y1.2.2.1) (by omega) y1.2.1 y1.2.2.1 y1.2.2.2 (fun z => Or.inr ⟨e1, by omega, ?_⟩)
    obtain ⟨vv, π, m2, w2, g1, g2⟩ := y2 z
    exact ⟨vv, m2, w2, π, g1, g2⟩
/-- a statement -/
theorem tst_ (hK : yRm R) {V : Sg → Option Nat → Option (Sg × Unit)} {n : Nat} (hV : ∀ m : Nat, m < n → BH R fi gv m V) : SH R fi gv n V := fun c nv S Γ Λ a p q b b2 v w h hz hΛ hw hnv hc hN hU hq => by
  cases n with
  | zero => exact hN.elim
  | succ n =>
  have hT := h.1.tb
  have hvw := isN_vw hN
  obtain ⟨ha, hpq, hN⟩ := hN
  have hcell : ∀ {kd : Int32} {nm mu rf : Int32} {wr ex pl bl cs bs ar : Value} {mn : Nat}, ZF R.S a = sxC kd p nm mu rf wr ex pl bl cs bs ar mn → ZF S a = ZF R.S a := fun hG => hU a ha (Or.inl ⟨p, own_s hG (by omega), Nat.le_refl _, hpq⟩)
  have he1 := h.1.L ha
  unfold f_typeStatement
  rcases hN with ⟨nm, pm, mu, wr, ex, k1, k2, k3, k4, k5, k8, k6, k7⟩ | ⟨kd, x, p', q', k1, k2, k3, k4, k5, k6⟩ | ⟨x, y, q1, p2, q2, b1, k1, k2, k3, k4, k5, k6, k7⟩ | ⟨ca, ba, cap, mn, f, g, k1, k2, k3, k4, k5, k6, k7, k8, k9⟩ | ⟨x, y, q0, b1, k1, k2, k3⟩ | ⟨x, ar, cap, mn, p0, q0, b0, b1, mu, rf, f, k1, k2, k3, k4, k5, k6, k7, k8⟩ | ⟨ex, k1, k2, k3⟩ | ⟨y, k1, k2⟩
  · have hF := hcell k1
    subst k5
    refine Rt.bd (oI_mk he1 (hF.trans k1) (v := 0) rfl) (Rt.ip rfl (Rt.bn (tlt_ hK h hz hΛ (by omega) (by omega) hc ha k1 hF hpq k2 k3 k4 k8 k6 k7 hU hq) (fun S2 _ q2 => Rt.rt q2)))
  · have hF := hcell k2
    subst k6
    have hx := tex_ (n := n) hK (by omega) h hz hΛ hc ha k2 hF hpq k3 k4 k5 hU hq
    refine Rt.bd (oI_mk he1 (hF.trans k2) (v := kd) rfl) ?_
    unfold f_typeStatement_238
    rcases k1 with e | e
    · have hx1 := hx.1 e
      subst e
      exact Rt.iq (by decide) (Rt.ip rfl hx1)
    · have hx1 := hx.2 e
      subst e
      exact Rt.iq (by decide) (Rt.iq (by decide) (Rt.iq (by decide) (Rt.iq (by decide) (Rt.iq (by decide) (Rt.iq (by decide) (Rt.iq (by decide) (Rt.ip rfl hx1)))))))
  · have hF := hcell k1
    subst k7
    exact Rt.bd (oI_mk he1 (hF.trans k1) (v := 2) rfl) (Rt.iq (by decide) (Rt.iq (by decide) (Rt.ip rfl (Rt.bn (tas_ hK (by omega) h hz hΛ hc ha k1 hF hpq k2 k3 k4 k5 k6 hU hq) (fun S2 _ q2 => Rt.rt q2)))))
  · have hF := hcell k1
    exact Rt.bd (oI_mk he1 (hF.trans k1) (v := 3) rfl) (Rt.iq (by decide) (Rt.iq (by decide) (Rt.iq (by decide) (Rt.ip rfl (tif_ hK (hV n (by omega)) h hz hΛ hw hnv hc ha k1 hF hpq k2 k3 k4 k5 k6 k7 k8 k9 hU hq)))))
  · have hF := hcell k1
    unfold f_typeStatement_238
    exact Rt.bd (oI_mk he1 (hF.trans k1) (v := 4) rfl) (Rt.iq (by decide) (Rt.iq (by decide) (Rt.iq (by decide) (Rt.iq (by decide) (Rt.ip rfl (twh_ hK (hV n (by omega)) h hz hΛ hw hnv hc ha k1 hF hpq k2 k3 hU hq))))))
  · have hF := hcell k1
    exact Rt.bd (oI_mk he1 (hF.trans k1) (v := 5) rfl) (Rt.iq (by decide) (Rt.iq (by decide) (Rt.iq (by decide) (Rt.iq (by decide) (Rt.iq (by decide) (Rt.ip rfl (Rt.bn (tmt_ hK (fun m hm => hV m (by omega)) h hz hΛ hw hnv hc ha k1 hF hpq k2 k3 k4 k5 k6 k7 k8 hU hq) (fun S2 _ q2 => Rt.rt q2))))))))
  · have hF := hcell k1
    have k3e := k3.1
    subst k3e
    exact Rt.bd (oI_mk he1 (hF.trans k1) (v := 6) rfl) (Rt.iq (by decide) (Rt.iq (by decide) (Rt.iq (by decide) (Rt.iq (by decide) (Rt.iq (by decide) (Rt.iq (by decide) (Rt.ip rfl (Rt.bn (trt_ hK (by omega) h hz hΛ hc ha k1 hF hpq k2 k3.2 hU hq) (fun S2 _ q2 => Rt.rt q2)))))))))
  · have hF := hcell k1
    unfold f_typeStatement_238
    exact Rt.bd (oI_mk he1 (hF.trans k1) (v := 8) rfl) (Rt.iq (by decide) (Rt.iq (by decide) (Rt.iq (by decide) (Rt.iq (by decide) (Rt.iq (by decide) (Rt.iq (by decide) (Rt.iq (by decide) (Rt.iq (by decide) (tbl_ (hV n (by omega)) h hz hΛ hw hnv hc ha k1 hF hpq k2 hU hq)))))))))
/-- typeBlock -/
theorem blT (hK : yRm R) : ∀ (N n d : Nat), n ≤ N → n ≤ d → BH R fi gv n (f_typeBlock R.K d)
  | 0, n, d, hN, _ => fun c nv S Γ Λ a p q b b2 v w _ _ _ _ _ _ hB _ _ => by rw [show n = 0 by omega] at hB; exact hB.elim
  | N + 1, 0, d, _, _ => fun c nv S Γ Λ a p q b b2 v w _ _ _ _ _ _ hB _ _ => hB.elim
  | N + 1, n + 1, 0, _, hd => absurd hd (by omega)
  | N + 1, n + 1, d + 1, hN, hd => fun c nv S Γ Λ a p q b b2 v w h hz hΛ hw hnv hc hB hU hq => by
    unfold f_typeBlock
    exact blk7 hK (tst_ hK (fun m hm => blT hK N m d (by omega) (by omega))) h hz hΛ hw hnv hc hB hU hq
end MAU
