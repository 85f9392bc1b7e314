theorem xpl_pl {L : List Nat} {F : Nat → va_E} {kE kI : ClassId} {n k e p q b c : Nat} (h : isE L F kE kI (n + 1) k e p q b c) (hp : plE F (n + 1) e) : e ∈ L ∧ p < q ∧ b = b ∧
    ((F e = xpC 2 p 0 (nI p) 0 0 .null .null .null 0 ∧ b = c) ∨
     (∃ (kd : Int32) (o p' q' : Nat), (kd = 7 ∨ kd = 11) ∧ F e = xpC kd p 0 0 0 0 (.ref o) .null .null 0 ∧ p < p' ∧ q' ≤ q ∧ isE L F kE kI n k o p' q' b c ∧ plE F n o) ∨
     (∃ o nm q' : Nat, F e = xpC 14 p 0 (nI nm) 0 0 (.ref o) .null .null 0 ∧ q' < nm ∧ nm < q ∧ isE L F kE kI n k o p q' b c ∧ plE F n o)) := by
  have hno : ∀ {kd : Int32} {fs : List Value}, F e = .inr (15, fs) → fs[0]? = some (.int kd) → (kd = 2 ∨ kd = 7 ∨ kd = 14 ∨ kd = 11) := fun {kd fs} h1 h2 => by
    obtain ⟨kd2, vo, fs2, g1, g2, g3, g4⟩ := hp
    rw [h1] at g1; cases g1
    rw [h2] at g2; cases g2
    rcases g4 with g4 | ⟨g4, _⟩
    · exact Or.inl g4
    · exact Or.inr g4
  refine ⟨h.1, h.2.1, rfl, ?_⟩
  rcases h.2.2 with ⟨kd, num, k1, k2, k3⟩ | ⟨k2, k3⟩ | ⟨kd, o, p', q', k1, k2, k3, k4, k5⟩ | ⟨mu, o, p', k1, k2, k3, k5⟩ | ⟨o, nm, q', k2, k3, k4, k5⟩ | ⟨o, q1, b1, mn, li, si, k2, k3, k5, k6⟩ | ⟨kd, sg, nm, mn, p', z9, li, si, k2, k3, k4, k5⟩
  · have := hno k2 rfl
    rcases k1 with w | w | w <;> subst w <;> exact absurd this (by decide)
  · exact Or.inl ⟨k2, k3⟩
  · have := hno k2 rfl
    have hk : kd = 7 ∨ kd = 11 := by rcases k1 with w | w | w | w | w | w <;> subst w <;> first | exact absurd this (by decide) | exact Or.inl rfl | exact Or.inr rfl
    exact Or.inr (Or.inl ⟨kd, o, p', q', hk, k2, k3, k4, k5, (plE_dn k2 rfl rfl (hk.elim Or.inl (fun w => Or.inr (Or.inr w)))).mp hp⟩)
  · exact absurd (hno k2 rfl) (by decide)
  · exact Or.inr (Or.inr ⟨o, nm, q', k2, k3, k4, k5, (plE_dn k2 rfl rfl (Or.inr (Or.inl rfl))).mp hp⟩)
  · exact absurd (hno k2 rfl) (by decide)
  · have := hno k2 rfl
    rcases k3 with ⟨w, _⟩ | ⟨w, _⟩ | ⟨w, _⟩ <;> subst w <;> exact absurd this (by decide)
section PLE
variable {R : yR} {Γ : List Nat} {c nv : Nat}
/-- place -/
theorem plc_ (hK : yRm R) (hv : nv ≤ 10000) (hc : c ≤ 1990) : ∀ (n d : Nat) {S : Sg} {kk e p q b b2 : Nat}, n ≤ d → n ≤ 1000 → TS R c nv S → SCO R S Γ → ITA R S → isE (ZL R.S) (ZF R.S) (R.K.1 9) (R.K.1 0) n kk e p q b b2 → plE (ZF R.S) n e → Unt R S p q → q ≤ R.T → Rt (f_place R.K d S (some e)) (PlP R Γ c nv S n e p q)
  | 0, _, S, kk, e, p, q, b, b2, _, _, _, _, _, h, _, _, _ => h.elim
  | n + 1, 0, S, kk, e, p, q, b, b2, hd, _, _, _, _, _, _, _, _ => absurd hd (by omega)
  | n + 1, d + 1, S, kk, e, p, q, b, b2, hd, hn, hS, hG, hI, h, hp, hU, hq => by
    have hT := hS.tb
    obtain ⟨t, ho, ho1, ho2⟩ := isE_own h (by omega)
    obtain ⟨h1, h2, _, h3⟩ := xpl_pl h hp
    have hX : Xo R p q e := Or.inl ⟨t, ho, ho1, ho2⟩
    have hF := hU e h1 hX
    have he1 := hS.L h1
    have hobj : ∃ fs : List Value, ZF R.S e = .inr (15, fs) ∧ fs.length = 14 := by
      rcases h3 with ⟨k, _⟩ | ⟨kd, o, p', q', _, k, _⟩ | ⟨o, nm, q', k, _⟩ <;> exact ⟨_, k, rfl⟩
    obtain ⟨fs0, hF0, hl0⟩ := hobj
    unfold f_place
    refine Rt.ok (fun z => ?_) (fun z => ?_)
    · rcases h3 with ⟨k1, _⟩ | ⟨kd, o, p', q', k1, k2, k3, k4, k5, k6⟩ | ⟨o, nm, q', k2, k3, k4, k5, k6⟩
      · -- a name
        have c1 : ZF S e = xpC 2 p 0 (nI p) 0 0 .null .null .null 0 := hF.trans k1
        refine Rt.bd (oI_mk he1 c1 (v := 2) rfl) (Rt.iq (by decide) (Rt.bd (oI_mk he1 c1 (v := 2) rfl) (Rt.ip rfl (Rt.bd (pV_mk he1 c1 (Nat.le_of_ble_eq_true rfl)) ?_))))
        exact pl56 hK hv hc hS hG h1 k1 hF h2 hq bigN 0 none (by have := hG.2.1; show _ < 0 + 1000000000000; omega) (by omega) (Or.inl rfl)
      · have c1 : ZF S e = xpC kd p 0 0 0 0 (.ref o) .null .null 0 := hF.trans k2
        have hop : t = p := by
          have := own_a k2 (by rcases k1 with w | w <;> subst w <;> decide) (by rcases k1 with w | w <;> subst w <;> decide) (by omega)
          rw [ho] at this; exact Option.some.inj this
        subst hop
        have hsub : ∀ a : Nat, Xo R p' q' a → Xo R t q a := fun a w => Xo_mo w (by omega) k4
        have hne : ¬ Xo R p' q' e := own_n ho ⟨_, k2⟩ (Nat.le_refl t) (Nat.lt_succ_self t) (Or.inl (by omega))
        have hrec := plc_ hK hv hc n d (S := S) (e := o) (by omega) (by omega) hS hG hI k5 k6 (hU.su (by omega) k4) (by omega)
        have hend : ∀ (S2 : Sg) (x : Nat), yXP R c nv S p' q' S2 x → ZF S2 e = xpC kd t 0 0 0 0 (.ref o) .null .null 0 := fun S2 x w => (w.2.1.2.1 e h1 hne).trans c1
        rcases k1 with k1 | k1
        · subst k1
          refine Rt.bd (oI_mk he1 c1 (v := 7) rfl) (Rt.ip rfl (Rt.bd (oR_mk he1 c1 (v := some o) rfl) (Rt.bn hrec (fun S2 r2 q2 => ?_))))
          obtain ⟨x, rfl, y1, y2⟩ := q2
          have c2 := hend S2 x y1
          obtain ⟨gs, g1, g2, g3⟩ := tol_ (K := R.K) (x := x) y1.1 h1 hF0 hl0 ho ho1 ho2 y1.2.2.2
          rw [c2] at g1; cases g1
          have v2 : VX R (Xo R t q) S S2 := y1.2.1.mo hsub
          refine Rt.be g2 (Rt.rt ⟨x, rfl, ⟨g3.1, v2.tr g3.2.1 (fun _ w => w), y1.2.2.1.tr g3.2.2.1, g3.2.2.2⟩, fun z3 => ?_⟩)
          obtain ⟨v, π, mu, mv, w1, w2⟩ := y2 z3
          refine ⟨v, π, mu, mv, ⟨⟨h1, ⟨t, ho, ho1, ho2⟩, h2⟩, (xPl_c w1).2.2.1.im g3.2.1.2.2.2.1, Or.inr (Or.inl ⟨o, p', q', ZF_s, k3, k4, xPl_vx g3.2.1 w1 (fun a a1 ⟨t2, a2, a3, a4⟩ _ => ZF_n (fun w => ?_))⟩)⟩, w2⟩
          rw [w, ho] at a2; cases a2; omega
        · subst k1
          refine Rt.bd (oI_mk he1 c1 (v := 11) rfl) (Rt.iq (by decide) (Rt.bd (oI_mk he1 c1 (v := 11) rfl) (Rt.iq (by decide) (Rt.bd (oR_mk he1 c1 (v := some o) rfl) (Rt.bn hrec (fun S2 r2 q2 => ?_))))))
          obtain ⟨y, rfl, y1, y2⟩ := q2
          have c2 := hend S2 y y1
          have he2 := y1.1.L h1
          have v2 : VX R (Xo R t q) S S2 := y1.2.1.mo hsub
          refine Rt.ok (fun z2 => ?_) (fun z2 => ?_)
          · refine Rt.bd (oI_mk he2 c2 (v := 11) rfl) (Rt.ip rfl (Rt.bd (oI_mk he2 c2 (v := nI t) rfl) ?_))
            obtain ⟨v, π, mu, mv, w1, w2⟩ := y2 z2
            obtain ⟨kd, ix, oo, u1⟩ := y1.2.2.2
            have u1' := u1
            obtain ⟨ty, e1, e2, e3, e4⟩ := u1
            unfold f_place_197
            refine Rt.bd (oI_mk he2 c2 (v := 11) rfl) (Rt.ip rfl (Rt.bd (oI_mk e3 e4 (v := kd) rfl) ?_))
            -- the star of a box or a reference
            have h231 : (kd = 5 ∨ kd = 6 ∨ kd = 7) → Rt (f_place_231 R.K (f_place R.K d) S2 (some e) (some y) (nI t)) (PlP R Γ c nv S (n + 1) e t q) := fun hkd => by
              obtain ⟨a1, x, a2⟩ := yOK_5 (y1.1.at hc u1').1 hkd
              subst a1 a2
              obtain ⟨kx, ixx, ox, b1⟩ := (y1.1.at hc u1').2 x rfl
              obtain ⟨gs, g1, g2, g3⟩ := tol_ (K := R.K) (x := x) y1.1 h1 hF0 hl0 ho ho1 ho2 ⟨_, _, _, b1⟩
              rw [c2] at g1; cases g1
              unfold f_place_231
              refine Rt.bd (oR_mk e3 e4 (v := some x) rfl) (Rt.be g2 ?_)
              have hvx := (xPl_c w1).2.2.1.of u1' hkd
              refine pl250 hK hv hc (n := n + 1) h1 hF0 hl0 ho ho1 ho2 (by omega) hn ⟨g3.1, v2.tr g3.2.1 (fun _ w => w), y1.2.2.1.tr g3.2.2.1, g3.2.2.2⟩ (fun _ => ?_)
              have hch := xPl_vx g3.2.1 w1 (fun a a1 ⟨t2, a2, a3, a4⟩ _ => ZF_n (fun w => by rw [w, ho] at a2; cases a2; omega))
              have hlen : (π ++ [((1 : Nat), (0 : Nat))]).length ≤ 100 := by rw [List.length_append]; show π.length + 1 ≤ 100; omega
              rcases hkd with w | w | w
              · exact ⟨v, π ++ [(1, 0)], mu, if mv = 1 then 2 else 0, ⟨⟨h1, ⟨t, ho, ho1, ho2⟩, h2⟩, Or.inl (hvx.im g3.2.1.2.2.2.1), Or.inr (Or.inr (Or.inl ⟨o, p', q', y, mu, mv, kd, π, ZF_s, k3, k4, hch, g3.2.1.2.2.2.1 _ _ _ _ u1', rfl, Or.inl ⟨w, rfl, rfl⟩⟩))⟩, hlen⟩
              · exact ⟨v, π ++ [(1, 0)], 0, 0, ⟨⟨h1, ⟨t, ho, ho1, ho2⟩, h2⟩, Or.inl (hvx.im g3.2.1.2.2.2.1), Or.inr (Or.inr (Or.inl ⟨o, p', q', y, mu, mv, kd, π, ZF_s, k3, k4, hch, g3.2.1.2.2.2.1 _ _ _ _ u1', rfl, Or.inr (Or.inl ⟨w, rfl, rfl⟩)⟩))⟩, hlen⟩
              · exact ⟨v, π ++ [(1, 0)], 1, 0, ⟨⟨h1, ⟨t, ho, ho1, ho2⟩, h2⟩, Or.inl (hvx.im g3.2.1.2.2.2.1), Or.inr (Or.inr (Or.inl ⟨o, p', q', y, mu, mv, kd, π, ZF_s, k3, k4, hch, g3.2.1.2.2.2.1 _ _ _ _ u1', rfl, Or.inr (Or.inr ⟨w, rfl, rfl⟩)⟩))⟩, hlen⟩
            refine Rt.it (fun w => h231 (Or.inl w)) (fun _ => Rt.be (ref_ u1') (Rt.it (fun w => ?_) (fun w => h231 ?_)))
            · refine Rt.bn (wrg_ hK hv hc y1.1 h1 hF0 hl0 ho ho1 ho2 (by omega) (by decide)) (fun S3 r3 q3 => ?_)
              obtain ⟨x3, rfl, b1, b2⟩ := q3
              exact pl250 hK hv hc (n := n + 1) h1 hF0 hl0 ho ho1 ho2 (by omega) hn ⟨b1.1, v2.tr b1.2.1 (fun _ w => w), y1.2.2.1.tr b1.2.2.1, b1.2.2.2⟩ (fun z => absurd z b2)
            · by_cases e : kd = 6 ∨ kd = 7
              · exact Or.inr e
              · rw [if_neg e] at w; exact absurd rfl w
          · obtain ⟨gs, g1, g2, g3⟩ := tol_ (K := R.K) (x := y) y1.1 h1 hF0 hl0 ho ho1 ho2 y1.2.2.2
            exact Rt.be g2 (Rt.rt (PlP.bad ⟨g3.1, v2.tr g3.2.1 (fun _ w => w), y1.2.2.1.tr g3.2.2.1, g3.2.2.2⟩ z2))
      · have c1 : ZF S e = xpC 14 p 0 (nI nm) 0 0 (.ref o) .null .null 0 := hF.trans k2
        have hop : t = nm := by
          have := own_m k2 (by omega)
          rw [ho] at this; exact Option.some.inj this
        subst hop
        have hsub : ∀ a : Nat, Xo R p q' a → Xo R p q a := fun a w => Xo_mo w (Nat.le_refl _) (by omega)
        have hne : ¬ Xo R p q' e := own_n ho ⟨_, k2⟩ (Nat.le_refl t) (Nat.lt_succ_self t) (Or.inr (by omega))
        have hrec := plc_ hK hv hc n d (S := S) (e := o) (by omega) (by omega) hS hG hI k5 k6 (hU.su (Nat.le_refl _) (by omega)) (by omega)
        refine Rt.bd (oI_mk he1 c1 (v := 14) rfl) (Rt.iq (by decide) (Rt.bd (oI_mk he1 c1 (v := 14) rfl) (Rt.iq (by decide) (Rt.bd (oR_mk he1 c1 (v := some o) rfl) (Rt.bn hrec (fun S2 r2 q2 => ?_))))))
        obtain ⟨y, rfl, y1, y2⟩ := q2
        have f2 : ZF S2 e = ZF R.S e := (y1.2.1.2.1 e h1 hne).trans hF
        have c2 := f2.trans k2
        have he2 := y1.1.L h1
        have v2 : VX R (Xo R p q) S S2 := y1.2.1.mo hsub
        refine Rt.ok (fun z2 => ?_) (fun z2 => ?_)
        · refine Rt.bd (oI_mk he2 c2 (v := 14) rfl) (Rt.iq (by decide) (Rt.bd (oI_mk he2 c2 (v := nI t) rfl) ?_))
          obtain ⟨v, π, mu, mv, w1, w2⟩ := y2 z2
          unfold f_place_197
          refine Rt.bd (oI_mk he2 c2 (v := 14) rfl) (Rt.iq (by decide) (Rt.bn (mem_ hK hv hc y1.1 (hI.vx y1.2.1) h1 k2 f2 k3 k4 hq w1) (fun S3 r3 q3 => ?_)))
          obtain ⟨x, rfl, b1, b2⟩ := q3
          refine pl250 hK hv hc (n := n + 1) h1 hF0 hl0 ho ho1 ho2 (by omega) hn ⟨b1.1, v2.tr b1.2.1 (fun _ w => w), y1.2.2.1.tr b1.2.2.1, b1.2.2.2⟩ (fun z => ?_)
          obtain ⟨k, b3⟩ := b2 z
          exact ⟨v, _, mu, _, b3, by rw [List.length_append]; show π.length + 1 ≤ 100; omega⟩
        · obtain ⟨gs, g1, g2, g3⟩ := tol_ (K := R.K) (x := y) y1.1 h1 hF0 hl0 ho ho1 ho2 y1.2.2.2
          exact Rt.be g2 (Rt.rt (PlP.bad ⟨g3.1, v2.tr g3.2.1 (fun _ w => w), y1.2.2.1.tr g3.2.2.1, g3.2.2.2⟩ z2))
    · refine Rt.bn (plt_ hK hv hS (Or.inl rfl) hc) (fun S2 r2 q2 => ?_)
      obtain ⟨x, rfl, t2, y2, v2, s2, z2⟩ := q2
      obtain ⟨gs, g1, g2, g3⟩ := tol_ (K := R.K) (x := x) t2 h1 hF0 hl0 ho ho1 ho2 ⟨_, _, _, y2⟩
      exact Rt.be g2 (Rt.rt (PlP.bad ⟨g3.1, v2.b g3.2.1, s2.tr g3.2.2.1, g3.2.2.2⟩ (by show ¬ Zi S2 3 = 0; rw [z2]; exact z)))
end PLE
