theorem isE_plb {L : List Nat} {F : Nat → va_E} {kE kI : ClassId} : ∀ {n kk e p q b c : Nat}, isE L F kE kI n kk e p q b c → plE F n e → b = c
  | 0, _, _, _, _, _, _, h, _ => h.elim
  | n + 1, kk, e, p, q, b, c, h, hp => by
    obtain ⟨_, _, _, h3⟩ := xpl_pl h hp
    rcases h3 with ⟨_, k⟩ | ⟨kd, o, p', q', _, _, _, _, k5, k6⟩ | ⟨o, nm, q', _, _, _, k5, k6⟩
    · exact k
    · exact isE_plb k5 k6
    · exact isE_plb k5 k6
section REF
variable {R : yR} {Γ : List Nat} {c nv : Nat}
theorem un_pw {S : Sg} {kE kI : ClassId} : ∀ {n kk e p q b c : Nat}, isE (ZL R.S) (ZF R.S) kE kI n kk e p q b c → q ≤ 100000 → Unt R S p q → pwE (ZL R.S) (ZF S) n e ∧ (plE (ZF S) n e ↔ plE (ZF R.S) n e)
  | 0, _, _, _, _, _, _, h, _, _ => h.elim
  | n + 1, kk, e, p, q, b, c, h, hq, hU => by
    obtain ⟨t, ho, ho1, ho2⟩ := isE_own h hq
    have hF := hU e h.1 (Or.inl ⟨t, ho, ho1, ho2⟩)
    have hgo : ∀ {kd : Int32} {o p' q' : Nat} {fs : List Value}, ZF R.S e = .inr (15, fs) → fs[0]? = some (.int kd) → fs[8]? = some (.ref o) → p ≤ p' → q' ≤ q → isE (ZL R.S) (ZF R.S) kE kI n kk o p' q' b c → pwE (ZL R.S) (ZF S) (n + 1) e ∧ (plE (ZF S) (n + 1) e ↔ plE (ZF R.S) (n + 1) e) := fun {kd o p' q' fs} g1 g2 g3 g4 g5 g6 => by
      obtain ⟨r1, r2⟩ := un_pw g6 (by omega) (hU.su g4 g5)
      refine ⟨⟨h.1, kd, .ref o, fs, hF.trans g1, g2, g3, fun _ => ⟨o, rfl, r1⟩⟩, ?_⟩
      by_cases hk : kd = 7 ∨ kd = 14 ∨ kd = 11
      · rw [plE_dn (hF.trans g1) g2 g3 hk, plE_dn g1 g2 g3 hk]; exact r2
      · rw [plE_end (hF.trans g1) g2 g3 hk, plE_end g1 g2 g3 hk]
    have hno : ∀ {kd : Int32} {vo : Value} {fs : List Value}, ZF R.S e = .inr (15, fs) → fs[0]? = some (.int kd) → fs[8]? = some vo → ¬ (kd = 7 ∨ kd = 14 ∨ kd = 11) → pwE (ZL R.S) (ZF S) (n + 1) e ∧ (plE (ZF S) (n + 1) e ↔ plE (ZF R.S) (n + 1) e) := fun {kd vo fs} g1 g2 g3 hk => by
      refine ⟨⟨h.1, kd, vo, fs, hF.trans g1, g2, g3, fun w => absurd w hk⟩, ?_⟩
      rw [plE_end (hF.trans g1) g2 g3 hk, plE_end g1 g2 g3 hk]
    rcases h.2.2 with ⟨kd, num, k1, k2, k3⟩ | ⟨k2, k3⟩ | ⟨kd, o, p', q', k1, k2, k3, k4, k5⟩ | ⟨mu, o, p', k1, k2, k3, k5⟩ | ⟨o, nm, q', k2, k3, k4, k5⟩ | ⟨o, q1, b1, mn, li, si, k2, k3, k5, k6⟩ | ⟨kd, sg, nm, mn, p', z9, li, si, k2, k3, k4, k5⟩
    · exact hno k2 rfl rfl (by rcases k1 with w | w | w <;> subst w <;> decide)
    · exact hno k2 rfl rfl (by decide)
    · exact hgo k2 rfl rfl (by omega) k4 k5
    · exact hno k2 rfl rfl (by decide)
    · exact hgo k2 rfl rfl (Nat.le_refl _) (by omega) k5
    · exact hno k2 rfl rfl (by decide)
    · exact hno k2 rfl rfl (by rcases k3 with ⟨w, _⟩ | ⟨w, _⟩ | ⟨w, _⟩ <;> subst w <;> decide)
/-- refer -/
theorem rfr_ (hK : yRm R) (hv : nv ≤ 10000) {V : Sg → Option Nat → Option (Sg × Option Nat)} {n : Nat} (hn : n ≤ 409) (hV : VH R Γ nv n V) {S : Sg} {kk e p q b b2 o p' : Nat} {mu : Int32} (hmu : mu = 0 ∨ mu = 1) (hc : c + (q - p) ≤ 1990) (h : TS R c nv S) (hS : SCO R S Γ) (hI : ITA R S) (he : e ∈ ZL R.S) (hG : ZF R.S e = xpC 12 p 0 0 0 mu (.ref o) .null .null 0) (hF : ZF S e = ZF R.S e) (hp : p < p') (hpq : p < q) (hE : isE (ZL R.S) (ZF R.S) (R.K.1 9) (R.K.1 0) n kk o p' q (b + 1) b2) (hU : Unt R S p q) (hq : q ≤ R.T) : Rt (f_refer R.K V S (some e)) (VaP R Γ c nv S (n + 1) kk e p q b b2) := by
  have hT := h.tb
  have ho : ownT (ZF R.S) e = some p := own_a hG (by decide) (by decide) (by omega)
  have c1 : ZF S e = xpC 12 p 0 0 0 mu (.ref o) .null .null 0 := hF.trans hG
  have hne : ¬ Xo R p' q e := own_n ho ⟨_, hG⟩ (Nat.le_refl p) (Nat.lt_succ_self p) (Or.inl (by omega))
  have hpl := (isE_mem hE).2
  have hom := (isE_mem hE).1
  have hU' := hU.su (p2 := p') (by omega) (Nat.le_refl q)
  obtain ⟨hw1, hw2⟩ := un_pw hE (by omega) hU'
  unfold f_refer
  refine Rt.bd (oR_mk (h.L he) c1 (v := some o) rfl) (Rt.bn (isp_ (K := R.K) (fun a ha => h.L ha) hw1 (by omega)) (fun S1 r1 q1 => ?_))
  obtain ⟨rfl, q1⟩ := q1
  rcases q1 with ⟨e1, q1⟩ | ⟨e1, q1⟩
  · subst e1
    have hpe := hw2.mp q1
    have hbb := isE_plb hE hpe
    refine Rt.iq (by decide) (Rt.bd (oR_mk (h.L he) c1 (v := some o) rfl) (Rt.bn (plc_ hK hv (show c ≤ 1990 by omega) n 410 (by omega) (by omega) h hS hI hE hpe hU' hq) (fun S2 r2 q2 => ?_)))
    obtain ⟨y, rfl, y1, y2⟩ := q2
    have c2 : ZF S2 e = xpC 12 p 0 0 0 mu (.ref o) .null .null 0 := (y1.2.1.2.1 e he hne).trans c1
    have v2 : VX R (Xo R p q) S1 S2 := y1.2.1.mo (fun a w => Xo_mo w (by omega) (Nat.le_refl _))
    obtain ⟨ky, iy, oy, u1⟩ := y1.2.2.2
    have he2 := y1.1.L he
    have h99 : ∀ S4 : Sg, TS R c nv S4 → VX R nX S2 S4 → VS S2 S4 → (Zi S4 3 = 0 → S4 = S2 ∧ vTy S2 y ∧ ∃ (v : Nat) (π : List (Nat × Nat)) (m2 w2 : Nat), xPl R S2 Γ n o p' q v π y m2 w2 ∧ π.length ≤ 4 ∧ (mu = 1 → m2 = 1)) → Rt (f_refer_99 R.K V S4 (some e) (some y)) (VaP R Γ c nv S1 (n + 1) kk e p q b b2) := fun S4 t4 v4 s4 g4 => by
      have c4 : ZF S4 e = xpC 12 p 0 0 0 mu (.ref o) .null .null 0 := (v4.2.1 e he (fun w => w)).trans c2
      have h116 : ∀ kt : Int32, (mu = 0 ∧ kt = 6) ∨ (mu = 1 ∧ kt = 7) → Rt (f_refer_116 R.K V S4 (some y) kt (some e)) (VaP R Γ c nv S1 (n + 1) kk e p q b b2) := fun kt hkt => by
        unfold f_refer_116
        refine Rt.bn (typ_ hK hv t4 (Or.inr (Or.inr (Or.inr ⟨show kt = 5 ∨ kt = 6 ∨ kt = 7 from hkt.elim (fun w => Or.inr (Or.inl w.2)) (fun w => Or.inr (Or.inr w.2)), rfl, y, rfl⟩))) (Or.inr ⟨y, ky, iy, oy, rfl, v4.2.2.2.1 _ _ _ _ u1⟩) (by omega)) (fun S5 r5 q5 => ?_)
        obtain ⟨x, rfl, t5, x5, v5, s5, z5⟩ := q5
        have v25 := v4.n v5
        have c5 : ZF S5 e = xpC 12 p 0 0 0 mu (.ref o) .null .null 0 := (v25.2.1 e he (fun w => w)).trans c2
        refine ftl_ t5 (by omega) (v2.n v25) (y1.2.2.1.tr (s4.tr s5)) ⟨_, _, _, x5⟩ he hG rfl ho (Nat.le_refl p) hpq c5 (fun S6 v6 f6 e6 z6 => ?_)
        obtain ⟨g1, g2, v, π, m2, w2, g3, g5, g6⟩ := g4 (by rw [← z5]; exact z6)
        have x6 := v6.2.2.2.1 _ _ _ _ x5
        have v26 := v25.b v6
        have hch := xPl_vx v26 g3 (fun a a1 ⟨t, a2, a3, a4⟩ a5 => by
          have hae : a ≠ e := fun w => by rw [w, ho] at a2; cases a2; omega
          exact (f6 a hae).trans (v25.2.1 a a1 (fun w => w)))
        have hvy := g2.im v26.2.2.2.1
        refine ⟨⟨he, ⟨p, ho, Nat.le_refl _, hpq⟩, hpq⟩, Or.inl (Or.inr ⟨kt, y, x6, by rcases hkt with ⟨_, w⟩ | ⟨_, w⟩ <;> subst w <;> decide, hvy⟩), Or.inr (Or.inr (Or.inr (Or.inl ⟨mu, o, p', v, y, m2, w2, π, e6, hp, hch, g5, hvy, by omega, ?_⟩)))⟩
        rcases hkt with ⟨w1, w2⟩ | ⟨w1, w2⟩
        · subst w2; exact Or.inl ⟨w1, x6⟩
        · subst w2; exact Or.inr ⟨w1, x6, g6 w1⟩
      unfold f_refer_99
      refine Rt.bd (oI_mk (t4.L he) c4 (v := mu) rfl) (Rt.it (fun w => h116 6 (Or.inl ⟨w, rfl⟩)) (fun w => h116 7 (Or.inr ⟨hmu.elim (fun e => absurd e w) id, rfl⟩)))
    have h62 : ∀ S4 : Sg, TS R c nv S4 → VX R nX S2 S4 → VS S2 S4 → (Zi S4 3 = 0 → S4 = S2 ∧ vTy S2 y) → Rt (f_refer_62 R.K V S4 (some e) (some y)) (VaP R Γ c nv S1 (n + 1) kk e p q b b2) := fun S4 t4 v4 s4 g4 => by
      unfold f_refer_62
      refine Rt.ok (fun z4 => ?_) (fun z4 => h99 S4 t4 v4 s4 (fun w => absurd w z4))
      obtain ⟨rfl, g5⟩ := g4 z4
      obtain ⟨v, π, m2, w2, g3, g6⟩ := y2 z4
      refine Rt.bd (oI_mk he2 c2 (v := mu) rfl) (Rt.it (fun w => h99 S4 t4 v4 s4 (fun _ => ⟨rfl, g5, v, π, m2, w2, g3, g6, fun e => by rw [w] at e; exact absurd e (by decide)⟩)) (fun w => ?_))
      refine Rt.bd (oR_mk he2 c2 (v := some o) rfl) (Rt.bn (mut_ (K := R.K) (fun a ha => y1.1.L ha) g3 (d := 410) (by omega) (by omega)) (fun S5 r5 q5 => ?_))
      obtain ⟨rfl, e5⟩ := q5
      refine Rt.it (fun w5 => ?_) (fun w5 => h99 S5 t4 v4 s4 (fun _ => ⟨rfl, g5, v, π, m2, w2, g3, g6, fun _ => ?_⟩))
      · obtain ⟨_, _, _, _, ck, cf, d5, d6, d7, _⟩ := xPl_c g3
        refine Rt.bd (oR_mk he2 c2 (v := some o) rfl) (Rt.bd (oI_mk (y1.1.L hom) d5 d7) (Rt.be (fai_ t4 (by omega)) (h99 _ t4.fl (v4.n VX.fl) (s4.tr VS.fl) (fun w => absurd w (flS_n0 (by decide))))))
      · have := (xPl_c g3).2.2.2.1.1
        rcases Nat.lt_or_ge m2 1 with w6 | w6
        · rw [show m2 = 0 by omega] at e5; exact absurd e5 w5
        · omega
    refine Rt.ok (fun z => ?_) (fun z => h62 S2 y1.1 VX.rf VS.rf (fun w => absurd w z))
    obtain ⟨v, π, m2, w2, g3, g6⟩ := y2 z
    refine Rt.be (ref_ u1) (Rt.it (fun w => h62 S2 y1.1 VX.rf VS.rf (fun _ => ⟨rfl, ?_⟩)) (fun w => ?_))
    · exact (xPl_c g3).2.2.1.v u1 (fun e => by rw [if_pos (Or.inl e)] at w; cases w) (fun e => by rw [if_pos (Or.inr e)] at w; cases w)
    · exact Rt.bd (oI_mk he2 c2 rfl) (Rt.be (fai_ y1.1 (by omega)) (h62 _ y1.1.fl VX.fl VS.fl (fun w => absurd w (flS_n0 (by decide)))))
  · subst e1
    refine Rt.ip rfl (Rt.bd (oR_mk (h.L he) c1 (v := some o) rfl) (Rt.bn (hV (show c + (q - p') ≤ 1990 by omega) h hS hI hE hU' hq) (fun S2 r2 q2 => ?_)))
    obtain ⟨y, rfl, y1, y2⟩ := q2
    have c2 : ZF S2 e = xpC 12 p 0 0 0 mu (.ref o) .null .null 0 := (y1.2.1.2.1 e he hne).trans c1
    have v2 : VX R (Xo R p q) S1 S2 := y1.2.1.mo (fun a w => Xo_mo w (by omega) (Nat.le_refl _))
    refine Rt.bd (oI_mk (y1.1.L he) c2 rfl) (Rt.bn (wrg_ hK hv (show c + (q - p') ≤ 1990 by omega) y1.1 he hG rfl ho (Nat.le_refl p) hpq (by omega) (by decide)) (fun S3 r3 q3 => ?_))
    obtain ⟨x3, rfl, k1, k2⟩ := q3
    exact Rt.rt (VaP.bad ⟨k1.1, v2.tr k1.2.1 (fun _ w => w), y1.2.2.1.tr k1.2.2.1, k1.2.2.2⟩ (by omega) k2)
/-- fits -/
theorem fts_ {V : Sg → Option Nat → Option (Sg × Option Nat)} {n : Nat} (hV : VH R Γ nv n V) {S : Sg} {kk x p q b b2 : Nat} {y : Option Nat} (hc : c + (q - p) ≤ 1990) (h : TS R c nv S) (hS : SCO R S Γ) (hI : ITA R S) (hE : isE (ZL R.S) (ZF R.S) (R.K.1 9) (R.K.1 0) n kk x p q b b2) (hU : Unt R S p q) (hq : q ≤ R.T) : Rt (f_fits R.K V S (some x) y) (fun S2 _ => TS R (c + (q - p)) nv S2 ∧ VX R (Xo R p q) S S2 ∧ VS S S2 ∧ (Zi S2 3 = 0 → ∃ t : Nat, y = some t ∧ xE R S2 Γ n kk x p q b b2 t)) := by
  have hT := h.tb
  have hpq := (isE_mem hE).2
  unfold f_fits f_fits_27
  refine Rt.bn (hV hc h hS hI hE hU hq) (fun S2 r2 q2 => ?_)
  obtain ⟨t, rfl, y1, y2⟩ := q2
  refine Rt.ok (fun z => Rt.it (fun w => ?_) (fun w => ?_)) (fun z => Rt.rt ⟨y1.1, y1.2.1, y1.2.2.1, fun w => absurd w z⟩)
  · exact Rt.rt ⟨y1.1, y1.2.1, y1.2.2.1, fun w2 => ⟨t, w.symm, y2 w2⟩⟩
  · obtain ⟨vs, g1, g2⟩ := isE_tok hE
    obtain ⟨k1, gs, k2, k3, k4, k5⟩ := y1.1.ob (isE_mem hE).1 g1
    refine Rt.bd (oI_mk k1 k2 ((k4 1 rfl).trans g2)) (Rt.be (fai_ y1.1 (by omega)) (Rt.rt ⟨y1.1.fl, y1.2.1.n VX.fl, y1.2.2.1.tr VS.fl, fun w => absurd w (flS_n0 (by decide))⟩))
end REF
