section VLU
variable {R : yR} {Γ : List Nat} {nv : Nat}
/-- value -/
theorem val0 (hK : yRm R) (hv : nv ≤ 10000) : ∀ (n d : Nat), n ≤ d → n ≤ 409 → ∀ (c : Nat) (S : Sg) (kk e p q b b2 : Nat), c + (q - p) ≤ 1990 → TS R c nv S → SCO R S Γ → ITA R S → isE (ZL R.S) (ZF R.S) (R.K.1 9) (R.K.1 0) n kk e p q b b2 → Unt R S p q → q ≤ R.T → Rt (f_value R.K d S (some e)) (VaP R Γ c nv S n kk e p q b b2)
  | 0, _, _, _ => fun _ _ _ _ _ _ _ _ _ _ _ _ h _ _ => h.elim
  | n + 1, 0, hd, _ => absurd hd (by omega)
  | n + 1, d + 1, hd, hn => fun c S kk e p q b b2 hc h hS hI hE hU hq => by
    have hV : VH R Γ nv n (f_value R.K d) := @fun c S kk e p q b b2 => val0 hK hv n d (by omega) (by omega) c S kk e p q b b2
    have hT := h.tb
    have hpq := hE.2.1
    obtain ⟨t, ho, ho1, ho2⟩ := isE_own hE (by omega)
    have he := hE.1
    have hF := hU e he (Or.inl ⟨t, ho, ho1, ho2⟩)
    have he1 := h.L he
    obtain ⟨fs0, hF0, hl0⟩ : ∃ fs : List Value, ZF R.S e = .inr (15, fs) ∧ fs.length = 14 := by
      rcases hE.2.2 with ⟨kd, num, k1, k2, k3⟩ | ⟨k2, k3⟩ | ⟨kd, o, p', q', k1, k2, k3, k4, k5⟩ | ⟨mu, o, p', k1, k2, k3, k5⟩ | ⟨o, nm, q', k2, k3, k4, k5⟩ | ⟨o, q1, b1, mn, li, si, k2, k3, k5, k6⟩ | ⟨kd, sg, nm, mn, p', z9, li, si, k2, k3, k4, k5⟩ <;> exact ⟨_, k2, rfl⟩
    unfold f_value
    refine Rt.ok (fun z0 => ?_) (fun z0 => by
      refine Rt.bn (plt_ hK hv h (Or.inl rfl) (by omega)) (fun S2 r2 q2 => ?_)
      obtain ⟨x, rfl, t2, y2, v2, s2, z2⟩ := q2
      obtain ⟨gs, g1, g2, g3⟩ := tol_ (K := R.K) (x := x) t2 he hF0 hl0 ho ho1 ho2 ⟨_, _, _, y2⟩
      exact Rt.be g2 (Rt.rt (VaP.bad ⟨g3.1, v2.b g3.2.1, s2.tr g3.2.2.1, g3.2.2.2⟩ (by omega) (by show ¬ Zi S2 3 = 0; rw [z2]; exact z0))))
    obtain ⟨hw1, hw2⟩ := un_pw hE (by omega) hU
    refine Rt.bn (isp_ (K := R.K) (fun a ha => h.L ha) hw1 (by omega)) (fun S1 r1 q1 => ?_)
    obtain ⟨e9, q1⟩ := q1
    rw [e9]
    rcases q1 with ⟨e1, q1⟩ | ⟨e1, q1⟩
    · -- a place
      rw [e1]
      have hpe := hw2.mp q1
      have hbb := isE_plb hE hpe
      unfold f_value_61
      refine Rt.iq (by decide) (Rt.bn (plc_ hK hv (show c ≤ 1990 by omega) (n + 1) 410 (by omega) (by omega) h hS hI hE hpe hU hq) (fun S2 r2 q2 => ?_))
      obtain ⟨y, rfl, y1, y2⟩ := q2
      obtain ⟨ky, iy, oy, u1⟩ := y1.2.2.2
      refine Rt.ok (fun z => ?_) (fun z => Rt.rt (VaP.bad y1 (by omega) z))
      obtain ⟨v, π, mu, mv, g3, g6⟩ := y2 z
      have hgd : (ky = 0 ∨ ky = 1 ∨ ky = 6 ∨ mv ≠ 0) → VaP R Γ c nv S (n + 1) kk e p q b b2 S2 (some y) := fun hg => ⟨y, rfl, y1.up (by omega), fun _ => ⟨⟨he, ⟨t, ho, ho1, ho2⟩, hpq⟩, Or.inl (xPl_c g3).2.2.1, Or.inl ⟨v, π, mu, mv, ky, iy, oy, g3, g6, hbb, u1, hg⟩⟩⟩
      refine Rt.be (cop_ u1) (Rt.it (fun w => ?_) (fun w => Rt.rt (hgd ?_)))
      · refine Rt.bn (mov_ (K := R.K) (fun a ha => y1.1.L ha) g3 (by omega)) (fun S3 r3 q3 => ?_)
        obtain ⟨e3, q3⟩ := q3
        rw [e3]
        rcases q3 with ⟨w1, w2⟩ | ⟨w1, w2⟩
        · rw [w1]
          obtain ⟨d1, d2, d3, d4, ck, cf, d5, d6, d7, _⟩ := xPl_c g3
          refine Rt.ip rfl (Rt.bd (oI_mk (y1.1.L he) d5 d7) (Rt.be (fai_ y1.1 (by omega)) (Rt.rt (VaP.bad (c1 := c) ⟨y1.1.fl, y1.2.1.n VX.fl, y1.2.2.1.tr VS.fl, ky, iy, oy, (VX.fl (R := R) (X := nX)).2.2.2.1 _ _ _ _ u1⟩ (by omega) (flS_n0 (by decide))))))
        · rw [w1]
          exact Rt.iq (by decide) (Rt.rt (hgd (Or.inr (Or.inr (Or.inr w2)))))
      · by_cases e0 : ky = 0 ∨ ky = 1 ∨ ky = 6
        · rcases e0 with e0 | e0 | e0
          · exact Or.inl e0
          · exact Or.inr (Or.inl e0)
          · exact Or.inr (Or.inr (Or.inl e0))
        · rw [if_neg e0] at w; exact absurd rfl w
    · rw [e1]
      refine Rt.ip rfl ?_
      have hnp : ¬ plE (ZF R.S) (n + 1) e := fun w => q1 (hw2.mpr w)
      -- a plain literal
      have hlit : ∀ {kd : Int32} {num : Int64} {kt : Int32}, (kd = 0 ∨ kd = 1 ∨ kd = 15) → (kt = 0 ∨ kt = 1) → ZF R.S e = xpC kd p 0 0 num 0 .null .null .null 0 → b = b2 → Rt (bnd (f_plainType R.K S kt) fun S60 v61 => bnd (f_told R.K S60 (some e) v61) fun S62 v63 => some (S62, v63)) (VaP R Γ c nv S (n + 1) kk e p q b b2) := fun {kd num kt} k1 k2 k3 k4 => by
        refine Rt.bn (plt_ hK hv h (by rcases k2 with w | w <;> subst w <;> decide) (by omega)) (fun S2 r2 q2 => ?_)
        obtain ⟨x, rfl, t2, y2, v2, s2, z2⟩ := q2
        have c2 : ZF S2 e = xpC kd p 0 0 num 0 .null .null .null 0 := ((v2.2.1 e he (fun w => w)).trans hF).trans k3
        refine ftl_ t2 (by omega) (v2.mo (fun _ w => w.elim)) s2 ⟨_, _, _, y2⟩ he hF0 hl0 ho ho1 ho2 c2 (fun S6 v6 f6 e6 z6 => ?_)
        have y6 := v6.2.2.2.1 _ _ _ _ y2
        refine ⟨⟨he, ⟨t, ho, ho1, ho2⟩, hpq⟩, Or.inl (Or.inl (vTy.pl y6 (by rcases k2 with w | w <;> subst w <;> decide))), Or.inr (Or.inl ⟨kd, num, k1, e6, k4, ?_⟩)⟩
        rcases k2 with w | w <;> subst w
        · exact Or.inl y6
        · exact Or.inr y6
      -- a child that is no place, then a fault
      have hbad : ∀ {o p' q' : Nat} {tj : Nat} {fs : List Value} {k : Nat}, p ≤ p' → q' ≤ q → (t < p' ∨ q' ≤ t) → isE (ZL R.S) (ZF R.S) (R.K.1 9) (R.K.1 0) n kk o p' q' b b2 → ZF R.S e = .inr (15, fs) → fs[k]? = some (.int (nI tj)) → fs[8]? = some (.ref o) → tj < R.T → Rt ((oR S 15 (some e) 8).bind fun v27 => bnd (f_value R.K d S v27) fun S28 v29 => (oI S28 15 (some e) k).bind fun v30 => bnd (f_wrong R.K S28 (some e) 4 v30) fun S31 v32 => some (S31, v32)) (VaP R Γ c nv S (n + 1) kk e p q b b2) := fun {o p' q' tj fs k} k1 k2 k3 k4 k5 k6 k7 k8 => by
        have hlt := (isE_mem k4).2
        refine Rt.bd (oR_mk he1 (hF.trans k5) (v := some o) k7) (Rt.bn (hV (show c + (q' - p') ≤ 1990 by omega) h hS hI k4 (hU.su k1 k2) (by omega)) (fun S2 r2 q2 => ?_))
        obtain ⟨y, rfl, y1, y2⟩ := q2
        have hne : ¬ Xo R p' q' e := own_n ho ⟨_, hF0⟩ (Nat.le_refl t) (Nat.lt_succ_self t) (by rcases k3 with w | w; exact Or.inl (by omega); exact Or.inr (by omega))
        have c2 : ZF S2 e = .inr (15, fs) := ((y1.2.1.2.1 e he hne).trans hF).trans k5
        refine Rt.bd (oI_mk (y1.1.L he) c2 k6) (Rt.bn (wrg_ hK hv (by omega) y1.1 he hF0 hl0 ho ho1 ho2 k8 (by decide)) (fun S3 r3 q3 => ?_))
        obtain ⟨x3, rfl, w1, w2⟩ := q3
        exact Rt.rt (VaP.bad ⟨w1.1, (y1.2.1.mo (fun a w => Xo_mo w k1 k2)).tr w1.2.1 (fun _ w => w), y1.2.2.1.tr w1.2.2.1, w1.2.2.2⟩ (by omega) w2)
      rcases hE.2.2 with ⟨kd, num, k1, k2, k3⟩ | ⟨k2, k3⟩ | ⟨kd, o, p', q', k1, k2, k3, k4, k5⟩ | ⟨mu, o, p', k1, k2, k3, k5⟩ | ⟨o, nm, q', k2, k3, k4, k5⟩ | ⟨o, q1', b1, mn, li, si, k2, k3, k5, k6⟩ | ⟨kd, sg, nm, mn, p', z9, li, si, k2, k3, k4, k5⟩
      · refine Rt.bd (oI_mk he1 (hF.trans k2) (v := kd) rfl) ?_
        rcases k1 with w | w | w
        · subst w
          unfold f_value_144
          exact Rt.ip rfl (hlit (Or.inl rfl) (Or.inl rfl) k2 k3)
        · subst w
          exact Rt.iq (by decide) (Rt.ip rfl (hlit (Or.inr (Or.inl rfl)) (Or.inr rfl) k2 k3))
        · subst w
          unfold f_value_144
          exact Rt.iq (by decide) (Rt.iq (by decide) (Rt.iq (by decide) (Rt.iq (by decide) (Rt.iq (by decide) (Rt.iq (by decide) (Rt.iq (by decide) (Rt.iq (by decide) (Rt.iq (by decide) (Rt.iq (by decide) (Rt.iq (by decide) (Rt.iq (by decide) (Rt.iq (by decide) (Rt.iq (by decide) (Rt.iq (by decide) (Rt.ip rfl (hlit (Or.inr (Or.inr rfl)) (Or.inl rfl) k2 k3))))))))))))))))
      · exact absurd (⟨2, .null, _, k2, rfl, rfl, Or.inl rfl⟩ : plE (ZF R.S) (n + 1) e) hnp
      · refine Rt.bd (oI_mk he1 (hF.trans k2) (v := kd) rfl) ?_
        have htp : t = p := by
          have := own_a k2 (by rcases k1 with w | w | w | w | w | w <;> subst w <;> decide) (by rcases k1 with w | w | w | w | w | w <;> subst w <;> decide) (by omega)
          rw [ho] at this; exact Option.some.inj this
        rcases k1 with w | w | w | w | w | w
        · subst w
          refine Rt.iq (by decide) (Rt.iq (by decide) (Rt.iq (by decide) (Rt.iq (by decide) (Rt.ip rfl (Rt.bn (opd_ hK hv hV (Or.inl ⟨rfl, rfl, rfl⟩) hc h hS hI he k2 hF k3 k4 hpq k5 hU hq) (fun S2 r2 q2 => Rt.rt q2))))))
        · subst w
          have hno : ¬ plE (ZF R.S) n o := fun w => hnp ((plE_dn k2 rfl rfl (Or.inl rfl)).mpr w)
          refine Rt.iq (by decide) (Rt.iq (by decide) (Rt.iq (by decide) (Rt.iq (by decide) (Rt.iq (by decide) (Rt.iq (by decide) (Rt.iq (by decide) (Rt.ip rfl ?_)))))))
          have hlt := (isE_mem k5).2
          refine Rt.bd (oR_mk he1 (hF.trans k2) (v := some o) rfl) (Rt.bn (hV (show c + (q' - p') ≤ 1990 by omega) h hS hI k5 (hU.su (by omega) k4) (by omega)) (fun S2 r2 q2 => ?_))
          obtain ⟨y, rfl, y1, y2⟩ := q2
          have hne : ¬ Xo R p' q' e := own_n ho ⟨_, hF0⟩ (Nat.le_refl t) (Nat.lt_succ_self t) (Or.inl (by omega))
          have c2 : ZF S2 e = xpC 7 p 0 0 0 0 (.ref o) .null .null 0 := ((y1.2.1.2.1 e he hne).trans hF).trans k2
          refine ftl_ y1.1 (by omega) (y1.2.1.mo (fun a w => Xo_mo w (by omega) k4)) y1.2.2.1 y1.2.2.2 he hF0 hl0 ho ho1 ho2 c2 (fun S6 v6 f6 e6 z6 => ?_)
          have hch := xE_vx v6 (y2 z6) (fun a a1 ⟨t2, a2, a3, a4⟩ a5 => f6 a (fun w => by rw [w, ho] at a2; cases a2; omega))
          have hx : xTy S6 y := by
            cases n with
            | zero => exact hch.elim
            | succ n => exact hch.2.1
          exact ⟨⟨he, ⟨t, ho, ho1, ho2⟩, hpq⟩, hx, Or.inr (Or.inr (Or.inl ⟨7, o, p', q', y, e6, k3, k4, hch, Or.inr (Or.inl ⟨rfl, rfl, hno⟩)⟩))⟩
        · subst w
          refine Rt.iq (by decide) (Rt.iq (by decide) (Rt.iq (by decide) (Rt.iq (by decide) (Rt.iq (by decide) (Rt.iq (by decide) (Rt.iq (by decide) (Rt.iq (by decide) (Rt.iq (by decide) (Rt.ip rfl (Rt.bn (opd_ hK hv hV (Or.inr (Or.inl ⟨rfl, rfl, rfl⟩)) hc h hS hI he k2 hF k3 k4 hpq k5 hU hq) (fun S2 r2 q2 => Rt.rt q2)))))))))))
        · subst w
          refine Rt.iq (by decide) (Rt.iq (by decide) (Rt.iq (by decide) (Rt.iq (by decide) (Rt.iq (by decide) (Rt.iq (by decide) (Rt.iq (by decide) (Rt.iq (by decide) (Rt.iq (by decide) (Rt.iq (by decide) (Rt.ip rfl (Rt.bn (opd_ hK hv hV (Or.inr (Or.inr ⟨rfl, rfl, rfl⟩)) hc h hS hI he k2 hF k3 k4 hpq k5 hU hq) (fun S2 r2 q2 => Rt.rt q2))))))))))))
        · subst w
          refine Rt.iq (by decide) (Rt.iq (by decide) (Rt.iq (by decide) (Rt.iq (by decide) (Rt.iq (by decide) (Rt.iq (by decide) (Rt.iq (by decide) (Rt.iq (by decide) (Rt.iq (by decide) (Rt.iq (by decide) (Rt.iq (by decide) (Rt.ip rfl (hbad (tj := p) (by omega) k4 (by omega) k5 k2 rfl rfl (by omega)))))))))))))
        · subst w
          refine Rt.iq (by decide) (Rt.iq (by decide) (Rt.iq (by decide) (Rt.iq (by decide) (Rt.iq (by decide) (Rt.iq (by decide) (Rt.iq (by decide) (Rt.iq (by decide) (Rt.iq (by decide) (Rt.iq (by decide) (Rt.iq (by decide) (Rt.iq (by decide) (Rt.iq (by decide) (Rt.ip rfl (Rt.bn (box_ hK hv hV hc h hS hI he k2 hF k3 k4 hpq k5 hU hq) (fun S2 r2 q2 => Rt.rt q2)))))))))))))))
      · refine Rt.bd (oI_mk he1 (hF.trans k2) (v := 12) rfl) ?_
        refine Rt.iq (by decide) (Rt.iq (by decide) (Rt.iq (by decide) (Rt.iq (by decide) (Rt.iq (by decide) (Rt.iq (by decide) (Rt.iq (by decide) (Rt.iq (by decide) (Rt.iq (by decide) (Rt.iq (by decide) (Rt.iq (by decide) (Rt.iq (by decide) (Rt.ip rfl (Rt.bn (rfr_ hK hv (by omega) hV k1 hc h hS hI he k2 hF k3 hpq k5 hU hq) (fun S2 r2 q2 => Rt.rt q2))))))))))))))
      · refine Rt.bd (oI_mk he1 (hF.trans k2) (v := 14) rfl) ?_
        have htn : t = nm := by
          have := own_m k2 (by omega)
          rw [ho] at this; exact Option.some.inj this
        refine Rt.iq (by decide) (Rt.iq (by decide) (Rt.iq (by decide) (Rt.iq (by decide) (Rt.iq (by decide) (Rt.iq (by decide) (Rt.iq (by decide) (Rt.iq (by decide) (Rt.iq (by decide) (Rt.iq (by decide) (Rt.iq (by decide) (Rt.iq (by decide) (Rt.iq (by decide) (Rt.iq (by decide) (Rt.ip rfl (hbad (tj := nm) (Nat.le_refl _) (by omega) (by omega) k5 k2 rfl rfl (by omega))))))))))))))))
      · refine Rt.bd (oI_mk he1 (hF.trans k2) (v := 8) rfl) ?_
        obtain ⟨kz, ekz, k6⟩ := k6
        refine Rt.iq (by decide) (Rt.iq (by decide) (Rt.iq (by decide) (Rt.iq (by decide) (Rt.iq (by decide) (Rt.iq (by decide) (Rt.iq (by decide) (Rt.iq (by decide) (Rt.ip rfl (Rt.bn (chd_ hK hv hV hc h hS hI he k2 hF k3 k5 ekz k6 hU hq) (fun S2 r2 q2 => Rt.rt q2))))))))))
      · refine Rt.bd (oI_mk he1 (hF.trans k2) (v := kd) rfl) ?_
        rcases k3 with ⟨w1, w2, w3⟩ | ⟨w1, w2, w3, w4, w5⟩ | ⟨w1, w2, w3, w4⟩
        · subst w1 w2 w3
          obtain ⟨kz, ekz, k5⟩ := k5
          exact Rt.iq (by decide) (Rt.iq (by decide) (Rt.iq (by decide) (Rt.ip rfl (Rt.bn (cal_ hK hv hV hc h hS hI he k2 hF hpq k4 ekz k5 hU hq) (fun S2 r2 q2 => Rt.rt q2)))))
        · subst w1 w2 w3 w5
          obtain ⟨kz, ekz, k5⟩ := k5
          exact Rt.iq (by decide) (Rt.iq (by decide) (Rt.iq (by decide) (Rt.iq (by decide) (Rt.iq (by decide) (Rt.ip rfl (Rt.bn (mad_ hK hv hV hc h hS hI he k2 hF w4 k4 ekz k5 hU hq) (fun S2 r2 q2 => Rt.rt q2)))))))
        · subst w1 w2 w3
          unfold f_value_274
          obtain ⟨kz, ekz, k5⟩ := k5
          exact Rt.iq (by decide) (Rt.iq (by decide) (Rt.iq (by decide) (Rt.iq (by decide) (Rt.iq (by decide) (Rt.iq (by decide) (Rt.ip rfl (Rt.bn (vro_ hK hv hV hc h hS hI he k2 hF w4 k4 ekz k5 hU hq) (fun S2 r2 q2 => Rt.rt q2))))))))
theorem val_ (hK : yRm R) (hv : nv ≤ 10000) : VH R Γ nv 408 (f_value R.K 410) := @fun c S kk e p q b b2 => val0 hK hv 408 410 (by decide) (by decide) c S kk e p q b b2
end VLU
