section LY45
variable {R : yR} {S0 Sb Sx S S1 S2 S3 : Sg} {P P1 P2 P3 Pe h h0 h1 h2 hc L L1 L2 Le Lb z n z2 n2 : Nat} {Γ Γ0 Γ1 Γ2 Λ : List Nat} {E : eV} {s s1 s2 yD : List tE} {gv : Nat} {js ks us : List Nat} {bw : Nat → Nat} {V : Sg → Option Nat → Option (Sg × Unit)} {cl cl2 : Prop} {p q b c v w : Nat}
/-- FUEL ahead of a statement -/
theorem LyQ.fu (g : GV R S0 S S1 E P (P + 1) 0 0 Γ Γ L L (mkV js) (mkV js) False 0 0) (t : LyQ R S0 S1 E (P + 1) Γ Γ2 L js Λ bw p q b c v w cl 1 S2) (hc : cl2 → cl) : LyQ R S0 S E P Γ Γ2 L js Λ bw p q b c v w cl2 0 S2 := by
  obtain ⟨P2, L2, z, n, js2, g2, c1, c2, c3, c4, c5, c6, c7, c8⟩ := t
  exact ⟨P2, L2, 0 + z, 0 + n, js2, g.tr g2 (fun w => Or.inr (hc w)) (Nat.le_refl _) (Nat.le_refl _), c1, c2, c3, by omega, by omega, by omega, c7, c8⟩
theorem eS_c {Q : Nat → Prop} {a tk mn : Nat} {kd nm mu rf : Int32} {wr ex pl vr bl cs bs ar : Value} (k1 : ZF S a = stC kd tk nm mu rf wr ex pl vr bl cs bs ar mn) (h : eS S Q a) : kd = 6 ∨ (kd = 8 ∧ ∃ y : Nat, bl = .ref y ∧ Q y) ∨ (kd = 5 ∧ ∃ (ar' mn' cap : Nat) (k9 : ClassId) (f : Nat → Option Nat), ar = .ref ar' ∧ nI mn = nI mn' ∧ mn' ≤ 100000 ∧ ZF S ar' = .inl (k9, cap, .inr (.inr (.inr (.inr f)))) ∧ ∀ k : Nat, k < mn' → ∃ (y bk : Nat) (ys : List Value), f k = some y ∧ ZF S y = .inr (13, ys) ∧ ys[5]? = some (.ref bk) ∧ Q bk) ∨ (kd = 3 ∧ ∃ (ca ba mn' cap cap2 : Nat) (k8 k9 : ClassId) (f g : Nat → Option Nat), cs = .ref ca ∧ bs = .ref ba ∧ nI mn = nI mn' ∧ 1 ≤ mn' ∧ mn' ≤ 100000 ∧ ZF S ca = .inl (k8, cap, .inr (.inr (.inr (.inr f)))) ∧ f (mn' - 1) = none ∧ ZF S ba = .inl (k9, cap2, .inr (.inr (.inr (.inr g)))) ∧ ∀ k : Nat, k < mn' → ∃ y : Nat, g k = some y ∧ Q y) := by
  obtain ⟨fs, h1, h2⟩ := h
  obtain rfl : fs = _ := (Prod.mk.inj (Sum.inr.inj (h1.symm.trans k1))).2
  rcases h2 with h2 | ⟨h2, y, h3, h4⟩ | ⟨h2, ar', mn', cap, k9, f, h3, h4, h5, h6, h7⟩ | ⟨h2, ca, ba, mn', cap, cap2, k8, k9, f, g, h3, h4, h5, h6, h7, h8, h9, h10, h11⟩
  · exact Or.inl (Value.int.inj (Option.some.inj h2))
  · exact Or.inr (Or.inl ⟨Value.int.inj (Option.some.inj h2), y, Option.some.inj h3, h4⟩)
  · exact Or.inr (Or.inr (Or.inl ⟨Value.int.inj (Option.some.inj h2), ar', mn', cap, k9, f, Option.some.inj h3, Value.int.inj (Option.some.inj h4), h5, h6, h7⟩))
  · exact Or.inr (Or.inr (Or.inr ⟨Value.int.inj (Option.some.inj h2), ca, ba, mn', cap, cap2, k8, k9, f, g, Option.some.inj h3, Option.some.inj h4, Value.int.inj (Option.some.inj h5), h6, h7, h8, h9, h10, h11⟩))
theorem eS_no {Q : Nat → Prop} {a tk mn : Nat} {kd nm mu rf : Int32} {wr ex pl vr bl cs bs ar : Value} (k1 : ZF S a = stC kd tk nm mu rf wr ex pl vr bl cs bs ar mn) (h0 : kd = 0 ∨ kd = 1 ∨ kd = 2 ∨ kd = 4 ∨ kd = 7) (h : eS S Q a) : False := by
  rcases eS_c k1 h with e | ⟨e, _⟩ | ⟨e, _⟩ | ⟨e, _⟩ <;> subst e <;> exact absurd h0 (by decide)
/-- statements -/
theorem lay_ (hV : LbV R S0 E Λ gv bw V n) : LsV R S0 E Λ gv bw (f_lay R.K V) (n + 1) := fun m hm a p q b c v w Γ Γ2 hs S P L js H hP0 hr0 => by
  obtain ⟨hF, hB, cc, k0, hG, hv, hw, hpq, hP, hl, hr⟩ := H
  have hL := hF.1.1
  have hT3 : R.T ≤ 3001 := hF.1.2.2.2.2.2.2.2.2.2.1
  cases m with
  | zero => exact hs.elim
  | succ m =>
    obtain ⟨⟨ha, _, _⟩, hs⟩ := hs
    have hmn : m ≤ n := by omega
    -- the first point
    have h0 : ∀ {kd nm mu rf : Int32} {wr ex pl vr bl cs bs ar : Value} {mn : Nat} {g : Sg → Int32 → Option (Sg × Unit)} {Q : Sg → Unit → Prop}, ZF S0 a = stC kd p nm mu rf wr ex pl vr bl cs bs ar mn → (∀ S1 : Sg, GV R S0 S S1 E P (P + 1) 0 0 Γ Γ L L (mkV js) (mkV js) False 0 0 → LyH R S0 S1 E (P + 1) Γ L js Λ gv bw p q b c v w → Rt (g S1 kd) Q) → Rt ((oI S 19 (some a) 1).bind fun v1 => bnd (f_point R.K S 0 v1) fun S2 _ => (oI S2 19 (some a) 0).bind fun v4 => g S2 v4) Q := fun {kd nm mu rf wr ex pl vr bl cs bs ar mn g Q} k1 k => by
      refine Rt.bd (cc.1.vi (by decide) (by decide) (oI_mk (hL a ha) k1 (v := nI p) rfl)) (fue_ (E := E) (h0 := 0) (Γ0 := Γ) (s := mkV js) cc (by omega) (by omega) (by rw [wl_mk]; omega) nT_mk (fun S1 g1 kk1 _ => ?_))
      refine Rt.bd (g1.1.1.vi (by decide) (by decide) (oI_mk (hL a ha) k1 (v := kd) rfl)) (k S1 g1 ⟨hF, hB, g1.1, kk1 k0, hG, hv, hw, hpq, by omega, hl, g1.rm hr0 (by omega) (by omega)⟩)
    rcases hs with ⟨nm, y, mu, wr, ex, k1, k2, k3, k4, k5⟩ | ⟨kd, x, p', q', t, k1, k2, k3, k4, k5, k6, k7⟩ | ⟨x, y, q1, p3, q3, vv, t, mu, mv, π, k1, k2, k3, k4, k5, k6, k7, k8, k9⟩ | ⟨ca, ba, cap, mn, f, g, k1, k2, k3, k4, k5, k6, k7, k8, k9, l1⟩ | ⟨x, y, q0, b1, t, k1, k2, k3, k4, k5⟩ | ⟨x, ar, cap, mn, p0, q0, b1, i, t, bd, mu, rf, f, vf, k1, k2, k3, k4, k5, k6, k7, k8, k9, l1, l2, l3⟩ | ⟨ex, k1, k2, k3, k4⟩ | ⟨y, k1, k2, k3⟩
    · unfold f_lay
      refine h0 k1 (fun S1 g1 H1 => Rt.ip rfl (Rt.bn (llt_ H1 ha k1 k2 k3 k4 k5) (fun S2 _ t2 => ?_)))
      unfold f_lay_210
      exact Rt.rt (t2.fu g1 (fun w => eS_no k1 (by decide) w))
    · obtain rfl : w = v := k6
      obtain rfl : Γ2 = Γ := k7
      unfold f_lay
      rcases k1 with rfl | ⟨rfl, k1⟩
      · refine h0 k2 (fun S1 g1 H1 => Rt.iq (by decide) (Rt.ip rfl ?_))
        exact (lex_ H1 ha k2 k3 k4 k5).mo (fun S2 _ t2 => t2.fu g1 (fun w => eS_no k2 (by decide) w))
      · refine h0 k2 (fun S1 g1 H1 => Rt.iq (by decide) (Rt.iq (by decide) (Rt.iq (by decide) (Rt.iq (by decide) (Rt.iq (by decide) (Rt.iq (by decide) (Rt.iq (by decide) (Rt.ip rfl ?_))))))))
        exact (lpr_ H1 ha k2 k1 k3 k4 k5).mo (fun S2 _ t2 => t2.fu g1 (fun w => eS_no k2 (by decide) w))
    · obtain rfl : w = v := k8
      obtain rfl : Γ2 = Γ := k9
      unfold f_lay
      refine h0 k1 (fun S1 g1 H1 => Rt.iq (by decide) (Rt.iq (by decide) (Rt.ip rfl (Rt.bn (las_ H1 ha k1 k2 k3 k4 k5 k6 k7) (fun S2 _ t2 => ?_)))))
      unfold f_lay_210
      exact Rt.rt (t2.fu g1 (fun w => eS_no k1 (by decide) w))
    · obtain rfl : Γ2 = Γ := k9
      unfold f_lay
      have hps : mn ≤ 3001 := by
        obtain ⟨ps, bs, vs, z1, z2, _, _, _, _, z7⟩ := l1
        have hh : ∀ d : Nat, d ≤ mn → ps 0 + d ≤ ps d := fun d => by
          induction d with
          | zero => intro _; omega
          | succ d ih =>
            intro hd
            obtain ⟨x, _, p0, b0, y1, y2, y3⟩ := z7 d (by omega)
            have := sN_lt y3
            have := ih (by omega)
            omega
        have := hh mn (Nat.le_refl _)
        omega
      refine h0 k1 (fun S1 g1 H1 => Rt.iq (by decide) (Rt.iq (by decide) (Rt.iq (by decide) (Rt.ip rfl (Rt.bn (lif_ H1 hV hmn ha k1 k4.1 k5.1 k6 k7 k3 k2 l1) (fun S2 _ t2 => ?_))))))
      unfold f_lay_210
      refine Rt.rt (t2.fu g1 (fun w => ?_))
      rcases eS_c k1 w with e | ⟨e, _⟩ | ⟨e, _⟩ | ⟨_, ca', ba', mn', cap', cap2, k8', k9', f', g', e1, e2, e3, e4, e5, e6, e7, e8, e9⟩
      · exact absurd e (by decide)
      · exact absurd e (by decide)
      · exact absurd e (by decide)
      · obtain rfl : ca' = ca := (Value.ref.inj e1).symm
        obtain rfl : ba' = ba := (Value.ref.inj e2).symm
        obtain rfl : mn' = mn := (nI_ij e3 (by omega) (by omega)).symm
        obtain rfl : f' = f := by rw [k6] at e6; cases e6; rfl
        obtain rfl : g' = g := by rw [k7] at e8; cases e8; rfl
        exact ⟨⟨mn' - 1, by omega, e7⟩, e9⟩
    · obtain rfl : Γ2 = Γ := k5
      unfold f_lay
      refine h0 k1 (fun S1 g1 H1 => Rt.iq (by decide) (Rt.iq (by decide) (Rt.iq (by decide) (Rt.iq (by decide) (Rt.ip rfl (Rt.bn (lwh_ H1 hV hmn ha k1 k2 k3 k4) (fun S2 _ t2 => ?_)))))))
      unfold f_lay_210
      exact Rt.rt (t2.fu g1 (fun w => eS_no k1 (by decide) w))
    · obtain rfl : Γ2 = Γ := k9
      unfold f_lay
      have hm12 : mn ≤ 12 := by obtain ⟨_, _, _, _, _, _, w⟩ := k5; exact w
      refine h0 k1 (fun S1 g1 H1 => Rt.iq (by decide) (Rt.iq (by decide) (Rt.iq (by decide) (Rt.iq (by decide) (Rt.iq (by decide) (Rt.ip rfl (Rt.bn (lmt_ H1 hV (by omega) ha k1 k2 k3 k4 k5 k6 k7 k8 l1 l2 l3) (fun S2 _ t2 => ?_))))))))
      unfold f_lay_210
      refine Rt.rt (t2.fu g1 (fun w => ?_))
      rcases eS_c k1 w with e | ⟨e, _⟩ | ⟨_, ar', mn', cap', k9', f', e1, e2, e3, e4, e5⟩ | ⟨e, _⟩
      · exact absurd e (by decide)
      · exact absurd e (by decide)
      · obtain rfl : ar' = ar := (Value.ref.inj e1).symm
        obtain rfl : mn' = mn := (nI_ij e2 (by omega) (by omega)).symm
        obtain rfl : f' = f := by rw [k7] at e4; cases e4; rfl
        exact e5
      · exact absurd e (by decide)
    · obtain rfl : w = v := k3
      obtain rfl : Γ2 = Γ := k4.1
      unfold f_lay
      refine h0 k1 (fun S1 g1 H1 => Rt.iq (by decide) (Rt.iq (by decide) (Rt.iq (by decide) (Rt.iq (by decide) (Rt.iq (by decide) (Rt.iq (by decide) (Rt.ip rfl (Rt.bn (lrt_ H1 ha k1 k2 k4.2) (fun S2 _ t2 => ?_)))))))))
      unfold f_lay_210
      exact Rt.rt (t2.fu g1 (fun _ => trivial))
    · obtain rfl : Γ2 = Γ := k3
      unfold f_lay
      refine h0 k1 (fun S1 g1 H1 => Rt.iq (by decide) (Rt.iq (by decide) (Rt.iq (by decide) (Rt.iq (by decide) (Rt.iq (by decide) (Rt.iq (by decide) (Rt.iq (by decide) (Rt.iq (by decide) ?_)))))))) 
      obtain ⟨_, _, c1, kk1, _, _, _, _, hP1, _, hr1⟩ := H1
      refine Rt.bd (c1.1.vr (by decide) (by decide) (oR_mk (hL a ha) k1 (v := some y) rfl)) (Rt.bn (hV m hmn y p q b c v w Γ2 k2 S1 (P + 1) L js ⟨hF, hB, c1, Or.inr kk1, hG, hv, hw, hpq, hP1, hl, hr1.le (by omega) (by omega)⟩) (fun S2 _ t2 => ?_))
      obtain ⟨P2, L2, z2, n2, g2, d1, d2, d3, d4, d5⟩ := t2
      unfold f_lay_210
      refine Rt.rt (LyQ.fu (cl := eBx S0 y) g1 (LyQ.of hG (fun i hi => by have := hv i hi; omega) g2 (by omega) (by omega) (by omega) (by omega) ?_) (fun w => ?_))
      · rcases d5 with e | e
        · have := g2.2.2.2.2.2.1; omega
        · exact e
      · rcases eS_c k1 w with e | ⟨_, y', e1, e2⟩ | ⟨e, _⟩ | ⟨e, _⟩
        · exact absurd e (by decide)
        · cases e1; exact e2
        · exact absurd e (by decide)
        · exact absurd e (by decide)
/-- blocks -/
theorem lbk_ : ∀ (d : Nat), LbV R S0 E Λ gv bw (f_layBlock R.K d) (2 * d)
  | 0 => fun m hm bl p q b c v w Γ hs => by
    obtain rfl : m = 0 := by omega
    exact hs.elim
  | d + 1 => fun m hm bl p q b c v w Γ hs S P L js H => by
    cases m with
    | zero => exact hs.elim
    | succ m =>
      have H2 := H
      obtain ⟨hF, hB, cc, k0, hG, hv, hw, hpq, hP, hl, hr⟩ := H2
      obtain ⟨h1, h2, _, la, cap, mn, f, gs, e1, e2, e3, e4, e5, ps, bs, vs, h3, h4, h5, h6, h7, h8, h9⟩ := hs
      have hVs : LsV R S0 E Λ gv bw (f_lay R.K (f_layBlock R.K d)) m := by
        cases m with
        | zero =>
          intro m hm a p q b c v w Γ Γ2 hs
          obtain rfl : m = 0 := by omega
          exact hs.elim
        | succ m => exact lay_ (n := m) (fun m2 hm2 => lbk_ d m2 (by omega))
      show Rt (f_layBlock_7 R.K (f_layBlock R.K d) bigN S (some bl) (Zi S 50) 0) _
      have e50 : Zi S 50 = nI js.length := by rw [← hG.len]; exact cc.2.2.2.1.1
      rw [e50]
      refine lbk7 (n := m) H hVs h1.1 e1 e2.1 e3 e4 e5 h3 h4 h5 h6 h7 h8 h9 bigN 0 S P L 0 0 [] ?_ (Nat.zero_le _) ?_ ?_ ?_ ?_ ?_ ?_ ?_ ?_
      · unfold bigN
        have hT3 : R.T ≤ 3001 := hF.1.2.2.2.2.2.2.2.2.2.1
        have := chJ_mo (P := fun i x p1 q1 b1 c1 v1 w1 => sN R S0 Λ gv m 0 x p1 q1 b1 c1 v1 w1 (gs i) (gs (i + 1)) (0, 0, 0)) (fun i x p q b c v w _ z => ⟨sN_lt z, (sN_mo z).1, (sN_mo z).2⟩) h9 (Nat.zero_le mn) (Nat.le_refl mn)
        omega
      · rw [e5]
        exact ⟨cc, LZ.rf, (tsg.nil wkS.rf).fl (fun ⟨k, _, w, _⟩ => by omega), by omega, by omega, Nat.le_refl _, Nat.le_refl _, RFx.rf⟩
      · rw [e5]; exact hG
      · rw [h7]; exact hv
      · show P + 0 ≤ _; omega
      · show 0 + 3 * 0 ≤ _; omega
      · show 0 + 5 * 0 ≤ _; omega
      · omega
      · exact k0.imp (fun e => ⟨e, rfl⟩) id
end LY45
