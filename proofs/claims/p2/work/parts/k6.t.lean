-- k6.t.lean.txt
section
/-- scope and variables stay -/
def VW (S S2 : Sg) : Prop := Zi S2 23 = Zi S 23 ∧ Zi S2 24 = Zi S 24 ∧ Zq S2 22 = Zq S 22 ∧ ∀ (v ix : Nat) (nm : Int32) (ty : Option Nat) (mu : Int32), isV S v ix nm ty mu → isV S2 v ix nm ty mu
theorem VS.w {S S2 : Sg} (h : VS S S2) : VW S S2 := ⟨h.1, h.2.1, h.2.2.1.1, h.2.2.2⟩
theorem VW.tr {S S1 S2 : Sg} (h : VW S S1) (g : VW S1 S2) : VW S S2 := ⟨g.1.trans h.1, g.2.1.trans h.2.1, g.2.2.1.trans h.2.2.1, fun v ix nm ty mu q => g.2.2.2 v ix nm ty mu (h.2.2.2 v ix nm ty mu q)⟩
section STT
variable {R : yR} {c nv : Nat} {S S2 : Sg} {Γ Λ : List Nat} {fi gv : Nat}
theorem YS.vw {c2 p q : Nat} (h : YS R c nv S Γ Λ fi gv) (t : TS R c2 nv S2) (v : VX R (Xo R p q) S S2) (s : VW S S2) : YS R c2 nv S2 Γ Λ fi gv := by
  obtain ⟨h1, h2, h3, h4, h5, h6, ⟨h7, h8, h9, h10⟩, h11, fs, h12, h13⟩ := h
  refine ⟨t, ⟨s.1.trans h2.1, h2.2.1, fun k u hk => ?_⟩, ⟨s.2.1.trans h3.1, h3.2.1, fun k u hk => ?_⟩, h4.vx v, h5.vx v, h6, ⟨v.1.2.2.2.2.trans h7, h8, h9, h10⟩, h11.im v.2.2.2.1, fs, (v.nx h10).trans h12, h13⟩
  · obtain ⟨a1, ix, nm, mu, ty, a2, a3, a4, a5⟩ := h2.2.2 k u hk
    exact ⟨by rw [s.2.2.1]; exact a1, ix, nm, mu, ty, s.2.2.2 _ _ _ _ _ a2, a3, a4, fun x q => (a5 x q).im v.2.2.2.1⟩
  · obtain ⟨a0, nm, mu, ty, a2, a3, a4, a5⟩ := h3.2.2 k u hk
    exact ⟨a0, nm, mu, ty, s.2.2.2 _ _ _ _ _ a2, a3, a4, fun x q => (a5 x q).im v.2.2.2.1⟩
theorem YS.up {c2 : Nat} (h : YS R c nv S Γ Λ fi gv) (hc : c ≤ c2) : YS R c2 nv S Γ Λ fi gv := ⟨h.1.up hc, h.2⟩
theorem YS.fl {wh x : Int32} (h : YS R c nv S Γ Λ fi gv) : YS R c nv (flS S wh x) Γ Λ fi gv := h.vx (p := 0) (q := 0) h.1.fl VX.fl VS.fl
/-- a statement's own token -/
theorem own_s {F : Nat → va_E} {a : Nat} {kd : Int32} {tk : Nat} {nm mu rf : Int32} {wr ex pl bl cs bs ar : Value} {mn : Nat} (hF : F a = sxC kd tk nm mu rf wr ex pl bl cs bs ar mn) (ht : tk ≤ 100000) : ownT F a = some tk := by
  unfold ownT
  rw [hF]
  show (if 19 = 15 then _ else if 19 = 19 then some (nI tk).toNatClampNeg else _) = _
  rw [if_neg (by decide), if_pos rfl, nI_clamp (by omega)]
/-- behind a statement -/
def StP (R : yR) (c nv : Nat) (S : Sg) (Γ Λ : List Nat) (fi gv n tg a p q b b2 v w : Nat) (κ : Nat × Nat × Nat) (S2 : Sg) : Prop := ∃ c2 nv2 : Nat, c2 ≤ c + (q - p) ∧ nv2 ≤ nv + (w - v) ∧ TS R c2 nv2 S2 ∧ VX R (Xo R p q) S S2 ∧ (Zi S2 3 = 0 → ∃ Γ2 Λ2 : List Nat, YS R (c + (q - p)) (nv + (w - v)) S2 Γ2 Λ2 fi gv ∧ pfx Λ Λ2 ∧ Λ2.length = w ∧ (∀ k : Nat, k < Γ.length → Zq S2 22 k = Zq S 22 k) ∧ sN R S2 Λ2 gv n tg a p q b b2 v w Γ Γ2 κ)
theorem StP.bad {n tg a p q b b2 v w c2 nv2 : Nat} {κ : Nat × Nat × Nat} (hc : c2 ≤ c + (q - p)) (hn : nv2 ≤ nv + (w - v)) (t : TS R c2 nv2 S2) (hv : VX R (Xo R p q) S S2) (hz : ¬ Zi S2 3 = 0) : StP R c nv S Γ Λ fi gv n tg a p q b b2 v w κ S2 := ⟨c2, nv2, hc, hn, t, hv, fun z => absurd z hz⟩
/-- an exp of a statement -/
theorem vst_ (hK : yRm R) (hv : nv ≤ 10000) (h : YS R c nv S Γ Λ fi gv) {x p' q' b b2 : Nat} (hc : c + (q' - p') ≤ 1990) (hE : isE (ZL R.S) (ZF R.S) (R.K.1 9) (R.K.1 0) 408 16 x p' q' b b2) (hU : Unt R S p' q') (hq : q' ≤ R.T) : Rt (f_value R.K 410 S (some x)) (fun S2 r => ∃ t : Nat, r = some t ∧ YS R (c + (q' - p')) nv S2 Γ Λ fi gv ∧ VX R (Xo R p' q') S S2 ∧ VS S S2 ∧ (∃ (kd ix : Int32) (o : Option Nat), isTy S2 t kd ix o) ∧ (Zi S2 3 = 0 → xE R S2 Γ 408 16 x p' q' b b2 t)) := by
  refine (val_ hK hv hc h.1 h.2.1 h.2.2.2.1 hE hU hq).mo (fun S2 r q => ?_)
  obtain ⟨t, rfl, y1, y2⟩ := q
  exact ⟨t, rfl, h.vx y1.1 y1.2.1 y1.2.2.1, y1.2.1, y1.2.2.1, y1.2.2.2, y2⟩
theorem xE_ty {n kk e p q b b2 t : Nat} (h : xE R S Γ n kk e p q b b2 t) : xTy S t := by
  cases n with
  | zero => exact h.elim
  | succ n => exact h.2.1
/-- an exp statement, a print -/
theorem tex_ (hK : yRm R) (hv : nv ≤ 10000) (h : YS R c nv S Γ Λ fi gv) {n a p q b b2 v x p' q' : Nat} {kd : Int32} (hz : Zi S 3 = 0) (hΛ : Λ.length = v) (hc : c + (q - p) ≤ 1990) (ha : a ∈ ZL R.S) (hG : ZF R.S a = sxC kd p 0 0 0 .null (.ref x) .null .null .null .null .null 0) (hF : ZF S a = ZF R.S a) (hpq : p < q) (hp : p ≤ p') (hq' : q' < q) (hE : isE (ZL R.S) (ZF R.S) (R.K.1 9) (R.K.1 0) 408 16 x p' q' b b2) (hU : Unt R S p q) (hq : q ≤ R.T) : (kd = 1 → Rt ((oR S 19 (some a) 6).bind fun v4 => bnd (f_value R.K 410 S v4) fun S5 v6 => some (S5, ())) (fun S2 _ => StP R c nv S Γ Λ fi gv (n + 1) 0 a p q b b2 v v (0, 0, 0) S2)) ∧ (kd = 7 → Rt ((oR S 19 (some a) 6).bind fun v21 => bnd (f_value R.K 410 S v21) fun S22 v23 => bnd (f_ok R.K S22) fun S24 v25 => if v25 = 0 then some (S24, ()) else ((oI S24 20 v23 0).bind fun v26 => if v26 = 0 then some (S24, ()) else ((oI S24 20 v23 0).bind fun v27 => if v27 = 1 then some (S24, ()) else ((oR S24 19 (some a) 6).bind fun v28 => (oI S24 15 v28 1).bind fun v29 => bnd (f_fail R.K S24 4 v29) fun S30 v31 => some (S30, ()))))) (fun S2 _ => StP R c nv S Γ Λ fi gv (n + 1) 0 a p q b b2 v v (0, 0, 0) S2)) := by
  have hT := h.1.tb
  have hlt := (isE_mem hE).2
  have ho : ownT (ZF R.S) a = some p := own_s hG (by omega)
  have c1 : ZF S a = sxC kd p 0 0 0 .null (.ref x) .null .null .null .null .null 0 := hF.trans hG
  have he1 := h.1.L ha
  have hval := vst_ hK hv h (show c + (q' - p') ≤ 1990 by omega) hE (hU.su hp (by omega)) (by omega)
  have hfin : ∀ (S2 : Sg) (t : Nat), YS R (c + (q' - p')) nv S2 Γ Λ fi gv → VX R (Xo R p' q') S S2 → VS S S2 → (Zi S2 3 = 0 → xE R S2 Γ 408 16 x p' q' b b2 t) → (Zi S2 3 = 0 → kd = 1 ∨ (kd = 7 ∧ (isTy S2 t 0 0 none ∨ isTy S2 t 1 0 none))) → StP R c nv S Γ Λ fi gv (n + 1) 0 a p q b b2 v v (0, 0, 0) S2 := fun S2 t y1 y2 y3 y4 y5 => by
    refine ⟨c + (q' - p'), nv, by omega, by omega, y1.1, y2.mo (fun a w => Xo_mo w hp (by omega)), fun z => ⟨Γ, Λ, by rw [Nat.sub_self, Nat.add_zero]; exact y1.up (by omega), pfx.rf, hΛ, fun k _ => by rw [y3.2.2.1.1], ⟨ha, ho, hpq⟩, Or.inr (Or.inl ⟨kd, x, p', q', t, y5 z, ?_, hp, hq', y4 z, rfl, rfl⟩)⟩⟩
    exact (y3.2.2.1.2 a 19 _ (Or.inr rfl) he1 c1).2
  refine ⟨fun hk => Rt.bd (oR_mk he1 c1 (v := some x) rfl) (Rt.bn hval (fun S2 r q2 => ?_)), fun hk => Rt.bd (oR_mk he1 c1 (v := some x) rfl) (Rt.bn hval (fun S2 r q2 => ?_))⟩
  · obtain ⟨t, rfl, y1, y2, y3, y4, y5⟩ := q2
    exact Rt.rt (hfin S2 t y1 y2 y3 y5 (fun _ => Or.inl hk))
  · obtain ⟨t, rfl, y1, y2, y3, ⟨ky, iy, oy, u1⟩, y5⟩ := q2
    have u1' := u1
    obtain ⟨ti, e1, e2, e3, e4⟩ := u1
    have c2 := (y3.2.2.1.2 a 19 _ (Or.inr rfl) he1 c1).2
    refine Rt.ok (fun z => ?_) (fun z => Rt.rt (hfin S2 t y1 y2 y3 y5 (fun w => absurd w z)))
    refine Rt.bd (oI_mk e3 e4 (v := ky) rfl) (Rt.it (fun w => Rt.rt (hfin S2 t y1 y2 y3 y5 (fun _ => Or.inr ⟨hk, Or.inl ?_⟩))) (fun _ => Rt.bd (oI_mk e3 e4 (v := ky) rfl) (Rt.it (fun w => Rt.rt (hfin S2 t y1 y2 y3 y5 (fun _ => Or.inr ⟨hk, Or.inr ?_⟩))) (fun _ => ?_))))
    · subst w
      obtain ⟨a1, a2⟩ := yOK_0 (y1.1.at (by omega) u1').1 (by decide)
      rw [a1, a2] at u1'; exact u1'
    · subst w
      obtain ⟨a1, a2⟩ := yOK_0 (y1.1.at (by omega) u1').1 (by decide)
      rw [a1, a2] at u1'; exact u1'
    · obtain ⟨vs, g1, g2⟩ := isE_tok hE
      obtain ⟨k1, gs, k2, k3, k4, k5⟩ := y1.1.ob (isE_mem hE).1 g1
      refine Rt.bd (oR_mk (y1.1.L ha) c2 (v := some x) rfl) (Rt.bd (oI_mk k1 k2 ((k4 1 rfl).trans g2)) (Rt.be (fai_ y1.1 (by omega)) (Rt.rt (StP.bad (c2 := c + (q' - p')) (by omega) (by omega) y1.1.fl ((y2.mo (fun a w => Xo_mo w hp (by omega))).n VX.fl) (flS_n0 (by decide))))))
/-- return -/
theorem trt_ (hK : yRm R) (hv : nv ≤ 10000) (h : YS R c nv S Γ Λ fi gv) {n a p q b b2 v : Nat} {ex : Value} (hz : Zi S 3 = 0) (hΛ : Λ.length = v) (hc : c + (q - p) ≤ 1990) (ha : a ∈ ZL R.S) (hG : ZF R.S a = sxC 6 p 0 0 0 .null ex .null .null .null .null .null 0) (hF : ZF S a = ZF R.S a) (hpq : p < q) (hE : oxE (isE (ZL R.S) (ZF R.S) (R.K.1 9) (R.K.1 0) 408 16) ex p q b b2) (h19 : Zr R.S 5 p = 19) (hU : Unt R S p q) (hq : q ≤ R.T) : Rt (f_typeReturn R.K S (some a)) (fun S2 _ => StP R c nv S Γ Λ fi gv (n + 1) 0 a p q b b2 v v (0, 0, 0) S2) := by
  have hT := h.1.tb
  have ho : ownT (ZF R.S) a = some p := own_s hG (by omega)
  have c1 : ZF S a = sxC 6 p 0 0 0 .null ex .null .null .null .null .null 0 := hF.trans hG
  have he1 := h.1.L ha
  have hh := h
  obtain ⟨h1, h2, h3, h4, h5, h6, ⟨h7, h8, h9, h10⟩, h11, fs, h12, h13⟩ := h
  unfold f_typeReturn
  rcases hE with ⟨w1, w2⟩ | ⟨x, p', q', w1, w2, w3, w4⟩
  · subst w1
    obtain ⟨kg, ig, og, u1⟩ := h11.ty
    have u1' := u1
    obtain ⟨ti, e1, e2, e3, e4⟩ := u1
    rw [h7]
    unfold f_typeReturn_31
    refine Rt.bd (oR_mk he1 c1 (v := none) rfl) (Rt.ip rfl (Rt.bd (oR_mk (v := some gv) (h1.L h10.1) h12 h13) (Rt.bd (oI_mk e3 e4 (v := kg) rfl) (Rt.it (fun w => Rt.rt ?_) (fun w => ?_)))))
    · subst w
      obtain ⟨a1, a2⟩ := yOK_0 (h1.at (by omega) u1').1 (by decide)
      rw [a1, a2] at u1'
      exact ⟨c, nv, by omega, by omega, h1, VX.rf, fun z => ⟨Γ, Λ, by rw [Nat.sub_self, Nat.add_zero]; exact hh.up (by omega), pfx.rf, hΛ, fun _ _ => rfl, ⟨ha, ho, hpq⟩, Or.inr (Or.inr (Or.inr (Or.inr (Or.inr (Or.inr (Or.inl ⟨.null, c1, Or.inl ⟨rfl, w2, u1'⟩, rfl, rfl, h19⟩))))))⟩⟩
    · exact Rt.bd (oI_mk he1 c1 (v := nI p) rfl) (Rt.be (fai_ h1 (by omega)) (Rt.rt (StP.bad (c2 := c) (by omega) (by omega) h1.fl VX.fl (flS_n0 (by decide)))))
  · subst w1
    have hlt := (isE_mem w4).2
    unfold f_typeReturn_80
    refine Rt.bd (oR_mk he1 c1 (v := some x) rfl) (Rt.iq (by simp) (Rt.bd (oR_mk he1 c1 (v := some x) rfl) (Rt.bn (vst_ hK hv hh (show c + (q' - p') ≤ 1990 by omega) w4 (hU.su (by omega) (by omega)) (by omega)) (fun S2 r q2 => ?_))))
    obtain ⟨t, rfl, y1, y2, y3, ⟨ky, iy, oy, u1⟩, y5⟩ := q2
    have c2 := (y3.2.2.1.2 a 19 _ (Or.inr rfl) he1 c1).2
    have v2 : VX R (Xo R p q) S S2 := y2.mo (fun a w => Xo_mo w (by omega) (by omega))
    refine Rt.ok (fun z => ?_) (fun z => Rt.rt (StP.bad (c2 := c + (q' - p')) (by omega) (by omega) y1.1 v2 z))
    obtain ⟨g1, g2, g3, g4, g5, g6, ⟨g7, g8, g9, g10⟩, g11, fs2, g12, g13⟩ := y1
    have h68 : Rt (f_typeReturn_68 R.K S2 (some a)) (fun S2 _ => StP R c nv S Γ Λ fi gv (n + 1) 0 a p q b b2 v v (0, 0, 0) S2) := by
      obtain ⟨vs, k1, k2⟩ := isE_tok w4
      obtain ⟨m1, gs, m2, m3, m4, m5⟩ := g1.ob (isE_mem w4).1 k1
      unfold f_typeReturn_68 f_typeReturn_80
      exact Rt.bd (oR_mk (g1.L ha) c2 (v := some x) rfl) (Rt.bd (oI_mk m1 m2 ((m4 1 rfl).trans k2)) (Rt.be (fai_ g1 (by omega)) (Rt.rt (StP.bad (c2 := c + (q' - p')) (by omega) (by omega) g1.fl (v2.n VX.fl) (flS_n0 (by decide))))))
    have u1' := u1
    obtain ⟨ti, e1, e2, e3, e4⟩ := u1
    rw [g7]
    refine Rt.bd (oR_mk (v := some gv) (g1.L g10.1) g12 g13) (Rt.it (fun w => ?_) (fun _ => h68))
    refine Rt.bd (oI_mk e3 e4 (v := ky) rfl) (Rt.it (fun _ => h68) (fun w8 => Rt.rt ?_))
    have htg : t = gv := Option.some.inj w
    subst htg
    have hx := y5 z
    exact ⟨c + (q' - p'), nv, by omega, by omega, g1, v2, fun _ => ⟨Γ, Λ, by rw [Nat.sub_self, Nat.add_zero]; exact YS.up (c := c + (q' - p')) ⟨g1, g2, g3, g4, g5, g6, ⟨g7, g8, g9, g10⟩, g11, fs2, g12, g13⟩ (by omega), pfx.rf, hΛ, fun k _ => by rw [y3.2.2.1.1], ⟨ha, ho, hpq⟩, Or.inr (Or.inr (Or.inr (Or.inr (Or.inr (Or.inr (Or.inl ⟨.ref x, c2, Or.inr ⟨x, p', q', rfl, w2, w3, hx, (xE_ty hx).r u1' w8⟩, rfl, rfl, h19⟩))))))⟩⟩
end STT
end
-- k6.u.lean.txt
section
section TLT
variable {R : yR} {c nv : Nat} {S S2 : Sg} {Γ Λ : List Nat} {fi gv : Nat}
/-- a written type is as it was read -/
theorem TS.w22 (h : TS R c nv S) {a : Nat} {fs : List Value} (ha : a ∈ ZL R.S) (hG : ZF R.S a = .inr (22, fs)) : a ∈ ZL S ∧ ZF S a = .inr (22, fs) := by
  obtain ⟨g0, gs, g1, g2, g3, g4⟩ := h.ob ha hG
  rw [show gs = fs from List.ext_getElem? (fun k => g3 k rfl)] at g1
  exact ⟨g0, g1⟩
/-- noLife -/
theorem nol_ (h : TS R c nv S) {n t p' q' : Nat} (hw : isT (ZL R.S) (ZF R.S) (Zr R.S 5) n t p' q') (hq : q' ≤ R.T) : Rt (f_noLife R.K S (some t)) (fun S2 _ => S2 = S ∨ ∃ x : Int32, S2 = flS S 4 x) := by
  cases n with
  | zero => exact hw.elim
  | succ n =>
  have hlt := isT_lt hw
  unfold f_noLife f_noLife_32
  refine Rt.ok (fun z => ?_) (fun z => Rt.rt (Or.inl rfl))
  rcases hw.2 with ⟨k1, k2, k3⟩ | ⟨k0, o, k1, k2⟩ | ⟨k0, o, p2, mu, lf, k1, k2, k3, k4, k5⟩
  · obtain ⟨g1, g2⟩ := h.w22 hw.1 k1
    refine Rt.bd (oI_mk g1 g2 rfl) (Rt.iq (fun w => ?_) (Rt.rt (Or.inl rfl)))
    rw [w] at k2
    exact absurd k2 (by decide)
  · obtain ⟨g1, g2⟩ := h.w22 hw.1 k1
    refine Rt.bd (oI_mk g1 g2 rfl) (Rt.iq (fun w => ?_) (Rt.rt (Or.inl rfl)))
    rw [w] at k0
    exact absurd k0 (by decide)
  · obtain ⟨g1, g2⟩ := h.w22 hw.1 k1
    have hl2 := isT_lt k5
    refine Rt.bd (oI_mk g1 g2 rfl) (Rt.ip k0 (Rt.bd (oI_mk g1 g2 (v := lf) rfl) (Rt.it (fun _ => Rt.rt (Or.inl rfl)) (fun w => Rt.bd (oI_mk g1 g2 (v := lf) rfl) ?_))))
    rcases k4 with e | e
    · subst e; exact absurd (show (-1 : Int32) < 0 by decide) w
    · subst e
      exact Rt.be (fai_ h (show p' + 1 < R.T by omega)) (Rt.rt (Or.inr ⟨_, rfl⟩))
/-- a let -/
theorem tlt_ (hK : yRm R) (h : YS R c nv S Γ Λ fi gv) {n a p q b b2 v nm pm : Nat} {mu : Int32} {wr ex : Value} (hz : Zi S 3 = 0) (hΛ : Λ.length = v) (hv40 : v < 40) (hnv : nv < 10000) (hc : c + (q - p) ≤ 1990) (ha : a ∈ ZL R.S) (hG : ZF R.S a = sxC 0 p (nI nm) mu 0 wr ex .null .null .null .null .null 0) (hF : ZF S a = ZF R.S a) (hpq : p < q) (hn1 : p < nm) (hn2 : nm < q) (hmu : mu = 0 ∨ mu = 1) (hpm : p ≤ pm ∧ pm < q) (hw : wr = .null ∨ ∃ t p' q' : Nat, wr = .ref t ∧ p < p' ∧ q' ≤ pm ∧ isT (ZL R.S) (ZF R.S) (Zr R.S 5) 17 t p' q') (hE : oxE (isE (ZL R.S) (ZF R.S) (R.K.1 9) (R.K.1 0) 408 16) ex pm q b b2) (hU : Unt R S p q) (hq : q ≤ R.T) : Rt (f_typeLet R.K S (some a)) (fun S2 _ => StP R c nv S Γ Λ fi gv (n + 1) 0 a p q b b2 v (v + 1) (0, 0, 0) S2) := by
  have hT := h.1.tb
  have ho : ownT (ZF R.S) a = some p := own_s hG (by omega)
  have c1 : ZF S a = sxC 0 p (nI nm) mu 0 wr ex .null .null .null .null .null 0 := hF.trans hG
  have he1 := h.1.L ha
  obtain ⟨mun, hm1, hm2⟩ : ∃ m : Nat, mu = nI m ∧ m ≤ 1 := by
    rcases hmu with e | e <;> subst e
    · exact ⟨0, rfl, by omega⟩
    · exact ⟨1, rfl, by omega⟩
  -- the end
  have h101 : ∀ (S3 : Sg) (c3 : Nat) (ty : Option Nat), c3 ≤ c + (q - p) → YS R c3 nv S3 Γ Λ fi gv → VX R (Xo R p q) S S3 → VS S S3 → (Zi S3 3 = 0 → (∀ x : Nat, ty = some x → rTy S3 x) ∧ ((ex = .null ∧ b = b2) ∨ ∃ x p' q' t : Nat, ex = .ref x ∧ pm < p' ∧ q' < q ∧ ty = some t ∧ xE R S3 Γ 408 16 x p' q' b b2 t)) → Rt (f_typeLet_101 R.K S3 (some a) ty) (fun S2 _ => StP R c nv S Γ Λ fi gv (n + 1) 0 a p q b b2 v (v + 1) (0, 0, 0) S2) := fun S3 c3 ty hc3 y3 v3 s3 g3 => by
    have c3' := (s3.2.2.1.2 a 19 _ (Or.inr rfl) he1 c1)
    unfold f_typeLet_101 f_typeLet_125
    refine Rt.ok (fun z3 => ?_) (fun z3 => Rt.rt (StP.bad hc3 (by omega) y3.1 v3 z3))
    obtain ⟨g4, g5⟩ := g3 z3
    refine Rt.bd (oI_mk c3'.1 c3'.2 (v := nI nm) rfl) (Rt.bd (oI_mk c3'.1 c3'.2 (v := mu) rfl) ?_)
    rw [hm1]
    refine Rt.bn (dcl_ hK (by omega) hnv y3 (show nm < R.T by omega) hm2 g4 (by omega)) (fun S4 r4 q4 => ?_)
    obtain ⟨y, rfl, y4, v4, z4, w4, i4⟩ := q4
    have c4 : ZF S4 a = sxC 0 p (nI nm) mu 0 wr ex .null .null .null .null .null 0 := (v4.2.1 a ha (fun w => w)).trans c3'.2
    have hobj := y4.1.ob ha hG
    obtain ⟨o1, gs, o2, o3, o4, o5⟩ := hobj
    rw [c4] at o2; cases o2
    refine Rt.bd (pV_mk (v := va_rf (some y)) o1 c4 (Nat.le_of_ble_eq_true rfl)) (Rt.rt ?_)
    have t5 := y4.1.uf ha (cs_put (k := 8) (v := va_rf (some y)) o5 rfl)
    have hne : ∀ (k : Nat) (vs : List Value), k ≠ 19 → ¬ ZF S4 a = .inr (k, vs) := fun k vs hk w => by rw [c4] at w; cases w; exact hk rfl
    have v5 : VX R (Xo R p q) S4 (UF S4 a (.inr (19, ([.int 0, .int (nI p), .int (nI nm), .int mu, .int 0, wr, ex, .null, .null, .null, .null, .null, .null, .int (nI 0)] : List Value).set 8 (va_rf (some y))))) := VX.uf (Or.inl ⟨p, ho, Nat.le_refl _, hpq⟩) (fun vs => hne _ _ (by decide)) (fun vs => hne _ _ (by decide))
    have s5 : VW S4 (UF S4 a (.inr (19, ([.int 0, .int (nI p), .int (nI nm), .int mu, .int 0, wr, ex, .null, .null, .null, .null, .null, .null, .int (nI 0)] : List Value).set 8 (va_rf (some y))))) := ⟨rfl, rfl, rfl, fun u ix nm ty mu q => ⟨q.1, (ZF_n (fun e => hne 21 _ (by decide) (e ▸ q.2))).trans q.2⟩⟩
    have f5 : ∀ b9 : Nat, b9 ≠ a → ZF (UF S4 a (.inr (19, ([.int 0, .int (nI p), .int (nI nm), .int mu, .int 0, wr, ex, .null, .null, .null, .null, .null, .null, .int (nI 0)] : List Value).set 8 (va_rf (some y))))) b9 = ZF S4 b9 := fun _ hb => ZF_n hb
    have e5 : ZF (UF S4 a (.inr (19, ([.int 0, .int (nI p), .int (nI nm), .int mu, .int 0, wr, ex, .null, .null, .null, .null, .null, .null, .int (nI 0)] : List Value).set 8 (va_rf (some y))))) a = stC 0 p (nI nm) mu 0 wr ex .null (.ref y) .null .null .null .null 0 := ZF_s
    have z5 : Zq (UF S4 a (.inr (19, ([.int 0, .int (nI p), .int (nI nm), .int mu, .int 0, wr, ex, .null, .null, .null, .null, .null, .null, .int (nI 0)] : List Value).set 8 (va_rf (some y))))) 22 = Zq S4 22 := rfl
    have v35 := v4.b v5
    refine ⟨c3, nv + 1, hc3, by omega, t5, v3.tr v35 (fun _ w => w), fun _ => ⟨Γ ++ [y], Λ ++ [y], ?_, pfx.add, by rw [List.length_append, hΛ]; rfl, fun k hk => ?_, ⟨ha, ho, hpq⟩, Or.inl ⟨nm, y, mu, wr, ex, e5, ?_, rfl, ⟨rfl, hn1, hn2⟩, ?_⟩⟩⟩
    · rw [show nv + (v + 1 - v) = nv + 1 by omega]
      exact (y4.vw (y4.1.uf ha (cs_put (k := 8) (v := va_rf (some y)) o5 rfl)) v5 s5).up hc3
    · rw [z5, w4 k hk, s3.2.2.1.1]
    · rw [List.getElem?_append_right (by omega), hΛ, Nat.sub_self]; rfl
    · rcases g5 with g5 | ⟨x, p', q', t, d1, d2, d3, d4, d5⟩
      · exact Or.inl g5
      · refine Or.inr ⟨x, p', q', t, nI mun, d1, by omega, d3, xE_vx v35 d5 (fun b9 b1 ⟨t9, b2, b3, b4⟩ b5 => ?_), (g4 t d4).im v35.2.2.2.1, ?_⟩
        · have hba : b9 ≠ a := fun w => by rw [w, ho] at b2; cases b2; omega
          exact (f5 b9 hba).trans (v4.2.1 b9 b1 (fun w => w))
        · rw [d4, hΛ] at i4
          exact s5.2.2.2 _ _ _ _ _ i4
  have h36 : ∀ (S3 : Sg) (c3 : Nat) (ty : Option Nat), c3 ≤ c + (pm - p) → YS R c3 nv S3 Γ Λ fi gv → VX R nX S S3 → VS S S3 → (Zi S3 3 = 0 → ∀ x : Nat, ty = some x → rTy S3 x) → Rt (f_typeLet_36 R.K S3 (some a) ty) (fun S2 _ => StP R c nv S Γ Λ fi gv (n + 1) 0 a p q b b2 v (v + 1) (0, 0, 0) S2) := fun S3 c3 ty hc3 y3 v3 s3 g3 => by
    have c3' := (s3.2.2.1.2 a 19 _ (Or.inr rfl) he1 c1)
    unfold f_typeLet_36
    refine Rt.ok (fun z3 => ?_) (fun z3 => h101 S3 c3 ty (by omega) y3 v3.x s3 (fun w => absurd w z3))
    rcases hE with ⟨w1, w2⟩ | ⟨x, p', q', w1, w2, w3, w4⟩
    · subst w1
      exact Rt.bd (oR_mk c3'.1 c3'.2 (v := none) rfl) (Rt.ip rfl (h101 S3 c3 ty (by omega) y3 v3.x s3 (fun z => ⟨g3 z, Or.inl ⟨rfl, w2⟩⟩)))
    · subst w1
      have hlt := (isE_mem w4).2
      have hU3 : Unt R S3 p' q' := fun a9 ha9 w9 => (v3.2.1 a9 ha9 (fun w => w)).trans (hU a9 ha9 (Xo_mo w9 (by omega) (by omega)))
      refine Rt.bd (oR_mk c3'.1 c3'.2 (v := some x) rfl) (Rt.iq (by simp) (Rt.bd (oR_mk c3'.1 c3'.2 (v := some x) rfl) (Rt.bn (vst_ hK (by omega) y3 (show c3 + (q' - p') ≤ 1990 by omega) w4 hU3 (by omega)) (fun S4 r4 q4 => ?_))))
      obtain ⟨t, rfl, y4, v4, s4, ⟨ky, iy, oy, u1⟩, x4⟩ := q4
      have v4' : VX R (Xo R p q) S S4 := v3.b (v4.mo (fun a w => Xo_mo w (by omega) (by omega)))
      have s34 := s3.tr s4
      unfold f_typeLet_87 f_typeLet_99
      have hbad : ∀ S5 : Sg, ¬ Zi S5 3 = 0 → YS R (c3 + (q' - p')) nv S5 Γ Λ fi gv → VX R (Xo R p q) S S5 → VS S S5 → Rt (f_typeLet_101 R.K S5 (some a) (some t)) (fun S2 _ => StP R c nv S Γ Λ fi gv (n + 1) 0 a p q b b2 v (v + 1) (0, 0, 0) S2) := fun S5 z5 y5 v5 s5 => h101 S5 _ _ (by omega) y5 v5 s5 (fun w => absurd w z5)
      have hgood : Zi S4 3 = 0 → ky ≠ 8 → Rt (f_typeLet_101 R.K S4 (some a) (some t)) (fun S2 _ => StP R c nv S Γ Λ fi gv (n + 1) 0 a p q b b2 v (v + 1) (0, 0, 0) S2) := fun z4 h8 => h101 S4 _ _ (by omega) y4 v4' s34 (fun z => ⟨fun x9 e9 => by cases e9; exact (xE_ty (x4 z)).r u1 h8, Or.inr ⟨x, p', q', t, rfl, w2, w3, rfl, x4 z⟩⟩)
      have hfail : Rt ((oR S4 19 (some a) 6).bind fun v18 => (oI S4 15 v18 1).bind fun v19 => bnd (f_fail R.K S4 4 v19) fun S20 v21 => f_typeLet_101 R.K S20 (some a) (some t)) (fun S2 _ => StP R c nv S Γ Λ fi gv (n + 1) 0 a p q b b2 v (v + 1) (0, 0, 0) S2) := by
        have c4' := (s34.2.2.1.2 a 19 _ (Or.inr rfl) he1 c1)
        obtain ⟨vs, k1, k2⟩ := isE_tok w4
        obtain ⟨m1, gs, m2, m3, m4, m5⟩ := y4.1.ob (isE_mem w4).1 k1
        exact Rt.bd (oR_mk c4'.1 c4'.2 (v := some x) rfl) (Rt.bd (oI_mk m1 m2 ((m4 1 rfl).trans k2)) (Rt.be (fai_ y4.1 (by omega)) (hbad _ (flS_n0 (by decide)) y4.fl (v4'.n VX.fl) (s34.tr VS.fl))))
      refine Rt.ok (fun z4 => ?_) (fun z4 => hbad S4 z4 y4 v4' s34)
      obtain ⟨ti, e1, e2, e3, e4⟩ := u1
      cases ty with
      | none => exact Rt.ip rfl (Rt.bd (oI_mk e3 e4 (v := ky) rfl) (Rt.it (fun _ => hfail) (fun w => hgood z4 w)))
      | some ty =>
        refine Rt.iq (by simp) (Rt.it (fun w => hgood z4 ?_) (fun _ => hfail))
        cases w
        obtain ⟨k9, i9, o9, r1, r2⟩ := (g3 z3 t rfl).ty
        have r3 := v4.2.2.2.1 _ _ _ _ r1
        rw [(isTy_fn ⟨ti, e1, e2, e3, e4⟩ r3).1]; exact r2
  unfold f_typeLet f_typeLet_20
  rcases hw with hw | ⟨t, p', q', w1, w2, w3, w4⟩
  · subst hw
    refine Rt.bd (oR_mk he1 c1 (v := none) rfl) (Rt.ip rfl (Rt.bd (oR_mk he1 c1 (v := none) rfl) (Rt.ip rfl (h36 S c none (by omega) h VX.rf VS.rf (fun _ x e => by cases e)))))
  · subst w1
    have hlt := isT_lt w4
    refine Rt.bd (oR_mk he1 c1 (v := some t) rfl) (Rt.iq (by simp) (Rt.bd (oR_mk he1 c1 (v := some t) rfl) (Rt.bn (rsv_ hK (by omega) h.1 (show 17 ≤ 20 by decide) w4 (by omega) (by omega)) (fun S3 r3 q3 => ?_))))
    obtain ⟨x, rfl, t3, v3, s3, y3, g3⟩ := q3
    have c3' := (s3.2.2.1.2 a 19 _ (Or.inr rfl) he1 c1)
    have hy3 : YS R (c + (q' - p')) nv S3 Γ Λ fi gv := h.vx (p := 0) (q := 0) t3 v3.x s3
    refine Rt.bd (oR_mk c3'.1 c3'.2 (v := some t) rfl) (Rt.iq (by simp) (Rt.bd (oR_mk c3'.1 c3'.2 (v := some t) rfl) (Rt.bn (nol_ t3 w4 (by omega)) (fun S4 r4 q4 => ?_))))
    rcases q4 with q4 | ⟨x4, q4⟩
    · subst q4
      exact h36 S4 _ (some x) (by omega) hy3 v3 s3 (fun z x9 e9 => by cases e9; exact (g3 z).1)
    · subst q4
      exact h36 _ _ (some x) (by omega) hy3.fl (v3.n VX.fl) (s3.tr VS.fl) (fun z => absurd z (flS_n0 (by decide)))
end TLT
end
-- k6.v.lean.txt
section
theorem bnd_s {α β : Type} {S : Sg} {v : β} {g : Sg → β → Option (Sg × α)} : bnd (some (S, v)) g = g S v := rfl
/-- brackets off -/
def brt (R : yR) : Nat → Nat → Nat → Prop
  | 0, _, _ => False
  | n + 1, y, e2 => ∃ (kd : Int32) (fs : List Value), ZF R.S y = .inr (15, fs) ∧ fs[0]? = some (.int kd) ∧ ((kd ≠ 7 ∧ e2 = y) ∨ (kd = 7 ∧ ∃ o : Nat, fs[8]? = some (.ref o) ∧ brt R n o e2))
section ASG
variable {R : yR} {c nv : Nat} {S S2 : Sg} {Γ Λ : List Nat} {fi gv : Nat}
theorem bru_ {K : Ky} {kE kI : ClassId} (hL : ∀ a ∈ ZL R.S, a ∈ ZL S) : ∀ {n m kk y p q b c : Nat}, isE (ZL R.S) (ZF R.S) kE kI n kk y p q b c → plE (ZF R.S) n y → Unt R S p q → q ≤ 100000 → n ≤ m → ∃ e2 n2 p2 q2 : Nat, brt R n y e2 ∧ f_bare_2 K m S (some y) = some (S, some e2) ∧ n2 ≤ n ∧ isE (ZL R.S) (ZF R.S) kE kI n2 kk e2 p2 q2 b c ∧ plE (ZF R.S) n2 e2 ∧ p ≤ p2 ∧ q2 ≤ q ∧ ∃ (kd : Int32) (fs : List Value), ZF R.S e2 = .inr (15, fs) ∧ fs[0]? = some (.int kd) ∧ kd ≠ 7
  | 0, _, _, _, _, _, _, _, h, _, _, _, _ => h.elim
  | n + 1, 0, _, _, _, _, _, _, _, _, _, _, hm => absurd hm (by omega)
  | n + 1, m + 1, kk, y, p, q, b, c, h, hp, hU, hq, hm => by
    obtain ⟨t, ho, ho1, ho2⟩ := isE_own h hq
    have hF := hU y h.1 (Or.inl ⟨t, ho, ho1, ho2⟩)
    have hs : ∀ {kd : Int32} {fs : List Value}, ZF R.S y = .inr (15, fs) → fs[0]? = some (.int kd) → kd ≠ 7 → ∃ e2 n2 p2 q2 : Nat, brt R (n + 1) y e2 ∧ f_bare_2 K (m + 1) S (some y) = some (S, some e2) ∧ n2 ≤ n + 1 ∧ isE (ZL R.S) (ZF R.S) kE kI n2 kk e2 p2 q2 b c ∧ plE (ZF R.S) n2 e2 ∧ p ≤ p2 ∧ q2 ≤ q ∧ ∃ (kd : Int32) (fs : List Value), ZF R.S e2 = .inr (15, fs) ∧ fs[0]? = some (.int kd) ∧ kd ≠ 7 := fun {kd fs} g1 g2 g3 => by
      refine ⟨y, n + 1, p, q, ⟨kd, fs, g1, g2, Or.inl ⟨g3, rfl⟩⟩, ?_, Nat.le_refl _, h, hp, Nat.le_refl _, Nat.le_refl _, kd, fs, g1, g2, g3⟩
      unfold f_bare_2
      rw [oI_mk (hL y h.1) (hF.trans g1) g2, Option.bind_some, if_neg g3]
    obtain ⟨_, _, _, h3⟩ := xpl_pl h hp
    rcases h3 with ⟨k, _⟩ | ⟨kd, o, p', q', k1, k2, k3, k4, k5, k6⟩ | ⟨o, nm, q', k2, k3, k4, k5, k6⟩
    · exact hs k rfl (by decide)
    · rcases k1 with w | w
      · subst w
        obtain ⟨e2, n2, p2, q2, r1, r2, r3, r4, r5, r6, r7, r8⟩ := bru_ (K := K) hL k5 k6 (hU.su (by omega) k4) (by omega) (m := m) (by omega)
        refine ⟨e2, n2, p2, q2, ⟨7, _, k2, rfl, Or.inr ⟨rfl, o, rfl, r1⟩⟩, ?_, by omega, r4, r5, by omega, by omega, r8⟩
        unfold f_bare_2
        rw [oI_mk (hL y h.1) (hF.trans k2) (v := 7) rfl, Option.bind_some, if_pos rfl, oR_mk (hL y h.1) (hF.trans k2) (v := some o) rfl, Option.bind_some]
        exact r2
      · subst w; exact hs k2 rfl (by decide)
    · exact hs k2 rfl (by decide)
/-- .. of a typed place -/
theorem brx_ (hT : TS R c nv S) : ∀ {n y e2 p q v : Nat} {π : List (Nat × Nat)} {x mu mv : Nat}, brt R n y e2 → xPl R S Γ n y p q v π x mu mv → ∃ n2 p2 q2 : Nat, n2 ≤ n ∧ xPl R S Γ n2 e2 p2 q2 v π x mu mv ∧ ((∃ fs : List Value, ZF R.S e2 = .inr (15, fs) ∧ fs[0]? = some (.int 2)) → π = [])
  | 0, _, _, _, _, _, _, _, _, _, h, _ => h.elim
  | n + 1, y, e2, p, q, v, π, x, mu, mv, h, g => by
    obtain ⟨kd, fs, h1, h2, h3⟩ := h
    obtain ⟨o1, gs, o2, o3, o4, o5⟩ := hT.ob g.1.1 h1
    have o6 : gs[0]? = some (.int kd) := (o4 0 rfl).trans h2
    rcases h3 with ⟨h3, h4⟩ | ⟨h3, o, h4, h5⟩
    · subst h4
      refine ⟨n + 1, p, q, Nat.le_refl _, g, fun ⟨fs2, w1, w2⟩ => ?_⟩
      rw [h1] at w1; cases w1
      rw [h2] at w2; cases w2
      rcases g.2.2 with ⟨ix, nm, k1, k2, k3, k4, k5, k6⟩ | ⟨o, p', q', k1, k2, k3, k4⟩ | ⟨o, p', q', y, m2, w2, kd, π2, k1, k2, k3, k4, k5, k6, k7⟩ | ⟨o, nm, q', y, i, k, w2, π2, k1, k2, k3, k4, k5, k6, k7, k8⟩
      · exact k2
      · rw [k1] at o2; cases o2; cases o6
      · rw [k1] at o2; cases o2; cases o6
      · rw [k1] at o2; cases o2; cases o6
    · subst h3
      rcases g.2.2 with ⟨ix, nm, k1, k2, k3, k4, k5, k6⟩ | ⟨o', p', q', k1, k2, k3, k4⟩ | ⟨o, p', q', y, m2, w2, kd, π2, k1, k2, k3, k4, k5, k6, k7⟩ | ⟨o, nm, q', y, i, k, w2, π2, k1, k2, k3, k4, k5, k6, k7, k8⟩
      · rw [k1] at o2; cases o2; cases o6
      · have o7 : gs[8]? = some (.ref o) := (o4 8 rfl).trans h4
        rw [k1] at o2; cases o2; cases o7
        obtain ⟨n2, p2, q2, r1, r2, r3⟩ := brx_ hT h5 k4
        exact ⟨n2, p2, q2, by omega, r2, r3⟩
      · rw [k1] at o2; cases o2; cases o6
      · rw [k1] at o2; cases o2; cases o6
theorem plc_n {K : Ky} {d y : Nat} {fs : List Value} (hz : Zi S 3 = 0) (hy : y ∈ ZL S) (hF : ZF S y = .inr (15, fs)) (h0 : fs[0]? = some (.int 2)) (hl : fs.length = 14) : f_place K (d + 1) S (some y) = f_place_56 K (f_place K d) bigN (UF S y (.inr (15, fs.set 13 .null))) (some y) 0 := by
  unfold f_place
  rw [ok_1 (K := K) hz, bnd_s, if_neg (by decide), oI_mk hy hF h0, Option.bind_some, if_neg (by decide), Option.bind_some, if_pos rfl, pV_mk hy hF (by rw [hl]; decide), Option.bind_some]
  rfl
theorem plc_b {K : Ky} {d y o : Nat} {fs : List Value} (hz : Zi S 3 = 0) (hy : y ∈ ZL S) (hF : ZF S y = .inr (15, fs)) (h0 : fs[0]? = some (.int 7)) (h8 : fs[8]? = some (.ref o)) : f_place K (d + 1) S (some y) = bnd (f_place K d S (some o)) fun S17 v18 => bnd (f_told K S17 (some y) v18) fun S19 v20 => some (S19, v20) := by
  conv => lhs; unfold f_place
  rw [ok_1 (K := K) hz, bnd_s, if_neg (by decide), oI_mk hy hF h0, Option.bind_some, if_pos rfl, oR_mk hy hF (v := some o) h8, Option.bind_some]
/-- place does not look at what its name's variable was -/
theorem plc_eq {K : Ky} {kE kI : ClassId} {e2 p2 : Nat} {w : Option Nat} (hL : ∀ a ∈ ZL R.S, a ∈ ZL S) (hz : Zi S 3 = 0) (h2 : ZF R.S e2 = xpC 2 p2 0 (nI p2) 0 0 .null .null .null 0) (hF2 : ZF S e2 = ZF R.S e2) (he2 : e2 ∈ ZL R.S) : ∀ {n d kk y p q b c : Nat}, isE (ZL R.S) (ZF R.S) kE kI n kk y p q b c → plE (ZF R.S) n y → Unt R S p q → q ≤ 100000 → brt R n y e2 → f_place K d (UF S e2 (xtC 2 p2 0 (nI p2) 0 0 0 0 .null .null .null 0 .null (va_rf w))) (some y) = f_place K d S (some y)
  | 0, _, _, _, _, _, _, _, h, _, _, _, _ => h.elim
  | n + 1, 0, _, _, _, _, _, _, _, _, _, _, _ => rfl
  | n + 1, d + 1, kk, y, p, q, b, c, h, hp, hU, hq, hb => by
    obtain ⟨t, ho, ho1, ho2⟩ := isE_own h hq
    have hF := hU y h.1 (Or.inl ⟨t, ho, ho1, ho2⟩)
    have hy1 := hL y h.1
    have hz2 : Zi (UF S e2 (xtC 2 p2 0 (nI p2) 0 0 0 0 .null .null .null 0 .null (va_rf w))) 3 = 0 := hz
    obtain ⟨kd, fs, b1, b2, b3⟩ := hb
    rcases b3 with ⟨b3, b4⟩ | ⟨b3, o, b4, b5⟩
    · subst b4
      have c1 : ZF S e2 = xpC 2 p2 0 (nI p2) 0 0 .null .null .null 0 := hF2.trans h2
      rw [plc_n (K := K) (d := d) hz2 (show e2 ∈ ZL (UF S e2 (xtC 2 p2 0 (nI p2) 0 0 0 0 .null .null .null 0 .null (va_rf w))) from hy1) ZF_s rfl rfl, plc_n (K := K) (d := d) hz hy1 c1 rfl rfl, UF_UF]
      rfl
    · subst b3
      have hne : y ≠ e2 := fun e => by
        rw [e, h2] at b1; cases b1; cases b2
      have c2 : ZF (UF S e2 (xtC 2 p2 0 (nI p2) 0 0 0 0 .null .null .null 0 .null (va_rf w))) y = .inr (15, fs) := (ZF_n hne).trans (hF.trans b1)
      have hm2 : y ∈ ZL (UF S e2 (xtC 2 p2 0 (nI p2) 0 0 0 0 .null .null .null 0 .null (va_rf w))) := hy1
      obtain ⟨_, _, _, h3⟩ := xpl_pl h hp
      rcases h3 with ⟨k, _⟩ | ⟨kd, o', p', q', k1, k2, k3, k4, k5, k6⟩ | ⟨o', nm, q', k2, k3, k4, k5, k6⟩
      · rw [k] at b1; cases b1; cases b2
      · have e8 : o' = o := by rw [k2] at b1; cases b1; cases b4; rfl
        subst e8
        rw [plc_b (K := K) (d := d) hz2 hm2 c2 b2 b4, plc_b (K := K) (d := d) hz hy1 (hF.trans b1) b2 b4, plc_eq hL hz h2 hF2 he2 k5 k6 (hU.su (by omega) k4) (by omega) b5]
      · rw [k2] at b1; cases b1; cases b2
/-- a variable gets its type -/
theorem YS.st (h : YS R c nv S Γ Λ fi gv) {u ix t : Nat} {nm mu : Int32} (hu : u ∉ ZL R.S) (hV : isV S u ix nm none mu) (ht : rTy S t) : YS R c nv (UF S u (vrC ix nm (some t) mu)) Γ Λ fi gv ∧ VX R nX S (UF S u (vrC ix nm (some t) mu)) := by
  obtain ⟨h1, h2, h3, h4, h5, h6, ⟨h7, h8, h9, h10⟩, h11, fs, h12, h13⟩ := h
  have t2 : TS R c nv (UF S u (vrC ix nm (some t) mu)) := by
    obtain ⟨G, tm, Y, ad, g1, g2, g3, g4⟩ := h1
    have := g1.1.2.1 u hV.1
    rw [hV.2] at this
    have hcs := cs_put (k := 2) (v := va_rf (some t)) this rfl
    exact ⟨G, tm, Y, ad, ⟨tgd_up g1.1 hcs, g1.2.1, g1.2.2.1, g1.2.2.2.1, g1.2.2.2.2.1, g1.2.2.2.2.2.1, g1.2.2.2.2.2.2⟩, g2, g3, g4⟩
  have hTy : ∀ (x : Nat) (kd ix2 : Int32) (o : Option Nat), isTy S x kd ix2 o → isTy (UF S u (vrC ix nm (some t) mu)) x kd ix2 o := fun x kd ix2 o ⟨ti, q1, q2, q3, q4⟩ => ⟨ti, q1, q2, q3, (ZF_n (fun e => by rw [e, hV.2] at q4; cases q4)).trans q4⟩
  have hVv : ∀ (v ix2 : Nat) (nm2 : Int32) (ty2 : Option Nat) (mu2 : Int32), isV S v ix2 nm2 ty2 mu2 → ∃ t2 : Option Nat, isV (UF S u (vrC ix nm (some t) mu)) v ix2 nm2 t2 mu2 ∧ ((ty2 = none ∧ t2 = some t) ∨ t2 = ty2) := fun v ix2 nm2 ty2 mu2 q => by
    by_cases e : v = u
    · subst e
      have e9 := q.2
      rw [hV.2] at e9
      unfold vrC at e9
      have e8 := (Prod.mk.inj (Sum.inr.inj e9)).2
      simp only [List.cons.injEq, Value.int.injEq, and_true] at e8
      obtain ⟨d1, d2, d3, d4⟩ := e8
      refine ⟨some t, ⟨q.1, ?_⟩, Or.inl ⟨(va_rf_inj d3).symm, rfl⟩⟩
      rw [ZF_s]; unfold vrC; rw [d1, d2, d4]
    · exact ⟨ty2, ⟨q.1, (ZF_n e).trans q.2⟩, Or.inr rfl⟩
  have hVX : VX R nX S (UF S u (vrC ix nm (some t) mu)) := ⟨⟨fun _ _ _ _ _ _ => rfl, rfl, rfl, fun _ _ _ => rfl, rfl⟩, fun a ha _ => ZF_n (fun e => hu (e ▸ ha)), fun _ q => q, hTy, fun v ix2 nm2 ty2 mu2 q => by
    obtain ⟨t9, q1, q2⟩ := hVv v ix2 nm2 ty2 mu2 q
    exact ⟨t9, q1, q2.imp (fun w => ⟨w.1, fun x e => by rw [w.2] at e; cases e; exact ht.im hTy⟩) id⟩, id⟩
  have hX0 : VX R (Xo R 0 0) S (UF S u (vrC ix nm (some t) mu)) := hVX.x
  refine ⟨⟨t2, ⟨h2.1, h2.2.1, fun k v hk => ?_⟩, ⟨h3.1, h3.2.1, fun k v hk => ?_⟩, h4.vx hX0, h5.vx hX0, h6, ⟨h7, h8, h9, h10⟩, h11.im hTy, fs, (hX0.nx h10).trans h12, h13⟩, hVX⟩
  · obtain ⟨a1, ix2, nm2, mu2, ty2, a2, a3, a4, a5⟩ := h2.2.2 k v hk
    obtain ⟨t9, q1, q2⟩ := hVv _ _ _ _ _ a2
    refine ⟨a1, ix2, nm2, mu2, t9, q1, a3, a4, fun x e => ?_⟩
    rcases q2 with ⟨_, q2⟩ | q2
    · rw [q2] at e; cases e; exact ht.im hTy
    · exact (a5 x (q2.symm.trans e)).im hTy
  · obtain ⟨a0, nm2, mu2, ty2, a2, a3, a4, a5⟩ := h3.2.2 k v hk
    obtain ⟨t9, q1, q2⟩ := hVv _ _ _ _ _ a2
    refine ⟨a0, nm2, mu2, t9, q1, a3, a4, fun x e => ?_⟩
    rcases q2 with ⟨_, q2⟩ | q2
    · rw [q2] at e; cases e; exact ht.im hTy
    · exact (a5 x (q2.symm.trans e)).im hTy
end ASG
end
-- k6.w.lean.txt
section
section ASH
variable {R : yR} {c nv : Nat} {S : Sg} {Γ Λ : List Nat} {fi gv : Nat}
theorem UF_cm {S : Sg} {a b : Nat} {c1 c2 : va_E} (h : a ≠ b) : UF (UF S a c1) b c2 = UF (UF S b c2) a c1 := by
  have : updE (updE (ZF S) a c1) b c2 = updE (updE (ZF S) b c2) a c1 := by
    funext x
    by_cases e1 : x = a
    · subst e1; rw [updE_n h, updE_s, updE_s]
    · by_cases e2 : x = b
      · subst e2; rw [updE_s, updE_n e1, updE_s]
      · rw [updE_n e2, updE_n e1, updE_n e1, updE_n e2]
  show (Zi S, Zr S, Zl S, Zq S, Zf S, ZL S, updE (updE (ZF S) a c1) b c2, Zz S, Zn S) = _
  rw [this]
  rfl
/-- an assignment -/
theorem tas_ (hK : yRm R) (hv : nv ≤ 10000) (h : YS R c nv S Γ Λ fi gv) {n a p q b b1 b2 v x y q1 p2 q2 : Nat} (hz : Zi S 3 = 0) (hΛ : Λ.length = v) (hc : c + (q - p) ≤ 1990) (ha : a ∈ ZL R.S) (hG : ZF R.S a = sxC 2 p 0 0 0 .null (.ref x) (.ref y) .null .null .null .null 0) (hF : ZF S a = ZF R.S a) (hpq : p < q) (hy : isE (ZL R.S) (ZF R.S) (R.K.1 9) (R.K.1 0) 408 16 y p q1 b b1) (hpl : plE (ZF R.S) 408 y) (hq1 : q1 < p2) (hq2 : q2 < q) (hx : isE (ZL R.S) (ZF R.S) (R.K.1 9) (R.K.1 0) 408 16 x p2 q2 b1 b2) (hU : Unt R S p q) (hq : q ≤ R.T) : Rt (f_typeAssign R.K S (some a)) (fun S2 _ => StP R c nv S Γ Λ fi gv (n + 1) 0 a p q b b2 v v (0, 0, 0) S2) := by
  have hT := h.1.tb
  have hly := (isE_mem hy).2
  have hlx := (isE_mem hx).2
  have hbb := isE_plb hy hpl
  have ho : ownT (ZF R.S) a = some p := own_s hG (by omega)
  have c1 : ZF S a = sxC 2 p 0 0 0 .null (.ref x) (.ref y) .null .null .null .null 0 := hF.trans hG
  have he1 := h.1.L ha
  unfold f_typeAssign
  refine Rt.bd (oR_mk he1 c1 (v := some x) rfl) (Rt.bn (vst_ hK hv h (show c + (q2 - p2) ≤ 1990 by omega) hx (hU.su (by omega) (by omega)) (by omega)) (fun S2 r q3 => ?_))
  obtain ⟨t, rfl, y1, v2, s2, ⟨kt, it, ot, u1⟩, x2⟩ := q3
  have c2 := (s2.2.2.1.2 a 19 _ (Or.inr rfl) he1 c1)
  have v2' : VX R (Xo R p q) S S2 := v2.mo (fun a w => Xo_mo w (by omega) (by omega))
  refine Rt.ok (fun z2 => ?_) (fun z2 => Rt.rt (StP.bad (c2 := c + (q2 - p2)) (by omega) (by omega) y1.1 v2' z2))
  have hU2 : Unt R S2 p q1 := fun a9 ha9 w9 => (v2.2.1 a9 ha9 (fun x9 => Xo_dj w9 x9 (Or.inl (by omega)))).trans (hU a9 ha9 (Xo_mo w9 (Nat.le_refl _) (by omega)))
  obtain ⟨e2, n2, pb, qb, r1, r2, r3, r4, r5, r6, r7, kb, fb, r8, r9, r10⟩ := bru_ (K := R.K) (S := S2) (fun a ha => y1.1.L ha) hy hpl hU2 (by omega) (m := bigN) (by decide)
  have hbare : f_bare R.K S2 (some y) = some (S2, some e2) := r2
  have hx2 := x2 z2
  obtain ⟨tb, ob, ob1, ob2⟩ := isE_own r4 (by omega)
  have hXe : Xo R p q1 e2 := Or.inl ⟨tb, ob, by omega, by omega⟩
  have he2R := (isE_mem r4).1
  have hFe2 := hU2 e2 he2R hXe
  have hxtok : ∀ {S5 : Sg} {c5 : Nat}, TS R c5 nv S5 → ∃ gs : List Value, x ∈ ZL S5 ∧ ZF S5 x = .inr (15, gs) ∧ gs[1]? = some (.int (nI p2)) := fun {S5 c5} t5 => by
    obtain ⟨vs, k1, k2⟩ := isE_tok hx
    obtain ⟨m1, gs, m2, m3, m4, m5⟩ := t5.ob (isE_mem hx).1 k1
    exact ⟨gs, m1, m2, (m4 1 rfl).trans k2⟩
  -- the place is typed, from a state that is good for it
  have h150 : ∀ (S3 S4 : Sg), Zi S3 3 = 0 → YS R (c + (q2 - p2)) nv S3 Γ Λ fi gv → VX R nX S2 S3 → Zq S3 22 = Zq S2 22 → (∀ b9 : Nat, b9 ∈ ZL R.S → ZF S3 b9 = ZF S2 b9) → a ∈ ZL S4 → ZF S4 a = ZF S3 a → f_place R.K 410 S4 (some y) = f_place R.K 410 S3 (some y) → Rt (f_typeAssign_150 R.K S4 (some a) (some t) (some e2)) (fun S2 _ => StP R c nv S Γ Λ fi gv (n + 1) 0 a p q b b2 v v (0, 0, 0) S2) := fun S3 S4 z3 y3 v3 q3 f3 ha4 hF4 hpe => by
    have hU3 : Unt R S3 p q1 := fun a9 ha9 w9 => (f3 a9 ha9).trans (hU2 a9 ha9 w9)
    have ca3 : ZF S3 a = sxC 2 p 0 0 0 .null (.ref x) (.ref y) .null .null .null .null 0 := (f3 a ha).trans c2.2
    unfold f_typeAssign_150
    refine Rt.bd (oR_mk ha4 (hF4.trans ca3) (v := some y) rfl) ?_
    rw [hpe]
    refine Rt.bn (plc_ hK hv (show c + (q2 - p2) ≤ 1990 by omega) 408 410 (by decide) (by decide) y3.1 y3.2.1 y3.2.2.2.1 hy hpl hU3 (by omega)) (fun S5 r5 q5 => ?_)
    obtain ⟨u, rfl, w1, w2⟩ := q5
    have y5 : YS R (c + (q2 - p2)) nv S5 Γ Λ fi gv := y3.vx w1.1 w1.2.1 w1.2.2.1
    have v25 : VX R (Xo R p q1) S2 S5 := v3.b w1.2.1
    have v05 : VX R (Xo R p q) S S5 := v2'.tr v25 (fun a w => Xo_mo w (Nat.le_refl _) (by omega))
    have ca5 := (w1.2.2.1.2.2.1.2 a 19 _ (Or.inr rfl) (y3.1.L ha) ca3)
    have hxE5 : xE R S5 Γ 408 16 x p2 q2 b1 b2 t := xE_vx v25 hx2 (v25.fr (Or.inr (by omega)))
    -- the end
    have h185 : ∀ S6 : Sg, (S6 = S5 ∧ (Zi S5 3 = 0 → u = t)) ∨ (∃ x9 : Int32, S6 = flS S5 4 x9 ∧ ¬ Zi S6 3 = 0) → Rt (f_typeAssign_185 R.K S6 (some a) (some e2)) (fun S2 _ => StP R c nv S Γ Λ fi gv (n + 1) 0 a p q b b2 v v (0, 0, 0) S2) := fun S6 h6 => by
      unfold f_typeAssign_185 f_typeAssign_220
      rcases h6 with ⟨e6, h6⟩ | ⟨x9, e6, h6⟩
      · subst e6
        refine Rt.ok (fun z6 => ?_) (fun z6 => Rt.rt (StP.bad (c2 := c + (q2 - p2)) (by omega) (by omega) y5.1 v05 z6))
        have hut := h6 z6
        subst hut
        obtain ⟨vv, π, mu, mv, g1, g2⟩ := w2 z6
        obtain ⟨n3, p3, q3', g3, g4, g5⟩ := brx_ y5.1 r1 g1
        obtain ⟨m1, gs, m2, m3, m4, m5⟩ := y5.1.ob he2R r8
        have hgood : (π = [] ∨ mu = 1) → StP R c nv S Γ Λ fi gv (n + 1) 0 a p q b b2 v v (0, 0, 0) S6 := fun hm => ⟨c + (q2 - p2), nv, by omega, by omega, y5.1, v05, fun _ => ⟨Γ, Λ, by rw [Nat.sub_self, Nat.add_zero]; exact y5.up (by omega), pfx.rf, hΛ, fun k _ => by rw [w1.2.2.1.2.2.1.1, q3, s2.2.2.1.1], ⟨ha, ho, hpq⟩, Or.inr (Or.inr (Or.inl ⟨x, y, q1, p2, q2, vv, u, mu, mv, π, ca5.2, g1, g2, hq1, hq2, by rw [hbb]; exact hxE5, hm, rfl, rfl⟩))⟩⟩
        refine Rt.bd (oI_mk m1 m2 ((m4 0 rfl).trans r9)) (Rt.it (fun w => Rt.rt (hgood (Or.inl (g5 ⟨fb, r8, by rw [r9, w]⟩)))) (fun w => ?_))
        refine Rt.bn (mut_ (K := R.K) (fun a ha => y5.1.L ha) g4 (d := 410) (by omega) (by omega)) (fun S7 r7 q7 => ?_)
        obtain ⟨e7, q7⟩ := q7
        rw [e7]
        refine Rt.it (fun w7 => ?_) (fun w7 => Rt.rt (hgood (Or.inr ?_)))
        · obtain ⟨d1, d2, d3, d4, ck, cf, d5, d6, d7, _⟩ := xPl_c g1
          exact Rt.bd (oR_mk ca5.1 ca5.2 (v := some y) rfl) (Rt.bd (oI_mk (y5.1.L d1) d5 d7) (Rt.be (fai_ y5.1 (by omega)) (Rt.rt (StP.bad (c2 := c + (q2 - p2)) (by omega) (by omega) y5.1.fl (v05.n VX.fl) (flS_n0 (by decide))))))
        · have := (xPl_c g1).2.2.2.1.1
          rcases Nat.lt_or_ge mu 1 with w6 | w6
          · rw [show mu = 0 by omega] at q7; exact absurd q7 w7
          · omega
      · subst e6
        exact Rt.ok (fun z6 => absurd z6 h6) (fun z6 => Rt.rt (StP.bad (c2 := c + (q2 - p2)) (by omega) (by omega) y5.1.fl (v05.n VX.fl) z6))
    refine Rt.ok (fun z5 => Rt.it (fun w => h185 S5 (Or.inl ⟨rfl, fun _ => Option.some.inj w⟩)) (fun _ => ?_)) (fun z5 => h185 S5 (Or.inl ⟨rfl, fun w => absurd w z5⟩))
    obtain ⟨gs, m1, m2, m3⟩ := hxtok y5.1
    exact Rt.bd (oR_mk ca5.1 ca5.2 (v := some x) rfl) (Rt.bd (oI_mk m1 m2 m3) (Rt.be (fai_ y5.1 (by omega)) (h185 _ (Or.inr ⟨_, rfl, flS_n0 (by decide)⟩))))
  refine Rt.bd (oR_mk c2.1 c2.2 (v := some y) rfl) (Rt.be hbare (Rt.bd (oI_mk (y1.1.L he2R) (hFe2.trans r8) r9) (Rt.it (fun wk => ?_) (fun wk => h150 S2 S2 z2 y1 VX.rf rfl (fun _ _ => rfl) c2.1 rfl rfl))))
  -- a name
  have hnm : ∃ pn : Nat, ZF R.S e2 = xpC 2 pn 0 (nI pn) 0 0 .null .null .null 0 ∧ pn < R.T := by
    cases n2 with
    | zero => exact r4.elim
    | succ n2 =>
    obtain ⟨_, hh, _, h3⟩ := xpl_pl r4 r5
    rcases h3 with ⟨k, _⟩ | ⟨kd, o, p', q', k1, k2, _⟩ | ⟨o, nm, q', k2, _⟩
    · exact ⟨pb, k, by omega⟩
    · rw [k2] at r8; cases r8; cases r9
      rcases k1 with w | w <;> rw [wk] at w <;> exact absurd w (by decide)
    · rw [k2] at r8; cases r8; cases r9; exact absurd wk (by decide)
  obtain ⟨pn, hcn, hpn⟩ := hnm
  have hne2 : e2 ≠ a := fun e => by rw [e, hG] at hcn; cases hcn
  have hob : ownT (ZF R.S) e2 = some pn := own_a hcn (by decide) (by decide) (by omega)
  have htb : tb = pn := by rw [ob] at hob; exact Option.some.inj hob
  have hloop : ∀ (m k : Nat) (w : Option Nat), Γ.length < k + m → k ≤ Γ.length → (w = none ∨ ∃ u : Nat, u ∈ Γ ∧ w = some u) → Rt (f_typeAssign_36 R.K m (UF S2 e2 (xtC 2 pn 0 (nI pn) 0 0 0 0 .null .null .null 0 .null (va_rf w))) (some a) (some t) (some e2) (nI k)) (fun S2 _ => StP R c nv S Γ Λ fi gv (n + 1) 0 a p q b b2 v v (0, 0, 0) S2) := by
    intro m
    induction m with
    | zero => intro k w a b; omega
    | succ m ih =>
      intro k w hk1 hk2 hw
      have hce : ZF (UF S2 e2 (xtC 2 pn 0 (nI pn) 0 0 0 0 .null .null .null 0 .null (va_rf w))) e2 = xtC 2 pn 0 (nI pn) 0 0 0 0 .null .null .null 0 .null (va_rf w) := ZF_s
      have hme : e2 ∈ ZL (UF S2 e2 (xtC 2 pn 0 (nI pn) 0 0 0 0 .null .null .null 0 .null (va_rf w))) := y1.1.L he2R
      have hfo : ∀ b9 : Nat, b9 ≠ e2 → ZF (UF S2 e2 (xtC 2 pn 0 (nI pn) 0 0 0 0 .null .null .null 0 .null (va_rf w))) b9 = ZF S2 b9 := fun _ hb => ZF_n hb
      have hVf : ∀ {u ix : Nat} {nm mu : Int32} {ty : Option Nat}, isV S2 u ix nm ty mu → isV (UF S2 e2 (xtC 2 pn 0 (nI pn) 0 0 0 0 .null .null .null 0 .null (va_rf w))) u ix nm ty mu := fun {u ix nm mu ty} q9 => ⟨q9.1, (hfo u (fun e => by have := q9.2; rw [e, hFe2, hcn] at this; cases this)).trans q9.2⟩
      have heq := plc_eq (K := R.K) (w := w) (d := 410) (S := S2) (fun a ha => y1.1.L ha) z2 hcn hFe2 he2R hy hpl hU2 (by omega) r1
      have h150' : Rt (f_typeAssign_150 R.K (UF S2 e2 (xtC 2 pn 0 (nI pn) 0 0 0 0 .null .null .null 0 .null (va_rf w))) (some a) (some t) (some e2)) (fun S2 _ => StP R c nv S Γ Λ fi gv (n + 1) 0 a p q b b2 v v (0, 0, 0) S2) := h150 S2 _ z2 y1 VX.rf rfl (fun _ _ => rfl) c2.1 (ZF_n (fun e => hne2 e.symm)) heq
      have t1 : TS R (c + (q2 - p2)) nv (UF S2 e2 (xtC 2 pn 0 (nI pn) 0 0 0 0 .null .null .null 0 .null (va_rf w))) := y1.1.uf he2R (by
        rw [hcn]
        exact cs_put (k := 13) (c := 15) (gs := [.int 2, .int (nI pn), .int 0, .int (nI pn), .int 0, .int 0, .long 0, .int 0, .null, .null, .null, .int (nI 0), .null, .null]) (cs_rf _) rfl)
      have vbd : VX R (Xo R p q) S (UF S2 e2 (xtC 2 pn 0 (nI pn) 0 0 0 0 .null .null .null 0 .null (va_rf w))) := v2'.tr (VX.uf (X := Xo R p q) (Xo_mo hXe (Nat.le_refl _) (by omega)) (fun vs z => by rw [hFe2, hcn] at z; cases z) (fun vs z => by rw [hFe2, hcn] at z; cases z)) (fun _ w => w)
      have cae : ZF (UF S2 e2 (xtC 2 pn 0 (nI pn) 0 0 0 0 .null .null .null 0 .null (va_rf w))) a = sxC 2 p 0 0 0 .null (.ref x) (.ref y) .null .null .null .null 0 := (hfo a (fun e => hne2 e.symm)).trans c2.2
      have u1e : isTy (UF S2 e2 (xtC 2 pn 0 (nI pn) 0 0 0 0 .null .null .null 0 .null (va_rf w))) t kt it ot := by
        obtain ⟨ti, d1, d2, d3, d4⟩ := u1
        exact ⟨ti, d1, d2, d3, (hfo t (fun e => by rw [e, hFe2, hcn] at d4; cases d4)).trans d4⟩
      have h120 : Rt (f_typeAssign_120 R.K (UF S2 e2 (xtC 2 pn 0 (nI pn) 0 0 0 0 .null .null .null 0 .null (va_rf w))) (some a) (some t) (some e2)) (fun S2 _ => StP R c nv S Γ Λ fi gv (n + 1) 0 a p q b b2 v v (0, 0, 0) S2) := by
        unfold f_typeAssign_120
        refine Rt.bd (oR_mk hme hce rfl) ?_
        rcases hw with hw | ⟨u, hw1, hw2⟩
        · exact Rt.ip hw h150'
        · subst hw2
          obtain ⟨j, hj⟩ := List.mem_iff_getElem?.mp hw1
          obtain ⟨k1, ix, nm, mu, ty, k2, k3, k4, k5⟩ := y1.2.1.2.2 j u hj
          have k2' := hVf k2
          refine Rt.iq (by simp) (Rt.bd (oR_mk hme hce rfl) (Rt.bd (oR_mk k2'.1 k2'.2 rfl) (Rt.it (fun _ => ?_) (fun _ => h150'))))
          obtain ⟨gs, m1, m2, m3⟩ := hxtok t1
          exact Rt.bd (oR_mk (show a ∈ ZL (UF S2 e2 (xtC 2 pn 0 (nI pn) 0 0 0 0 .null .null .null 0 .null (va_rf (some u)))) from c2.1) cae (v := some x) rfl) (Rt.bd (oI_mk m1 m2 m3) (Rt.be (fai_ t1 (by omega)) (Rt.rt (StP.bad (c2 := c + (q2 - p2)) (by omega) (by omega) t1.fl (vbd.n VX.fl) (flS_n0 (by decide))))))
      unfold f_typeAssign_36 f_typeAssign_77
      have hz23 : Zi (UF S2 e2 (xtC 2 pn 0 (nI pn) 0 0 0 0 .null .null .null 0 .null (va_rf w))) 23 = nI Γ.length := y1.2.1.1
      rw [hz23]
      refine Rt.it (fun _ => ?_) (fun hk => ?_)
      · refine Rt.bd (oR_mk hme hce rfl) ?_
        rcases hw with hw | ⟨u, hw1, hw2⟩
        · exact Rt.ip hw h120
        · subst hw2
          obtain ⟨j, hj⟩ := List.mem_iff_getElem?.mp hw1
          obtain ⟨k1, ix, nm, mu, ty, k2, k3, k4, k5⟩ := y1.2.1.2.2 j u hj
          have k2' := hVf k2
          refine Rt.iq (by simp) (Rt.bd (oR_mk hme hce rfl) (Rt.bd (oR_mk k2'.1 k2'.2 rfl) (Rt.it (fun wt => ?_) (fun _ => h120))))
          subst wt
          have u1e' := u1e
          obtain ⟨ti, d1, d2, d3, d4⟩ := u1e
          refine Rt.bd (oI_mk d3 d4 (v := kt) rfl) (Rt.it (fun _ => h120) (fun w8 => ?_))
          have hrt : rTy S2 t := (xE_ty hx2).r u1 w8
          obtain ⟨j9, hj9⟩ := List.mem_iff_getElem?.mp (y1.2.2.2.2.2.1.1 u hw1)
          have hnu := (y1.2.2.1.2.2 j9 u hj9).1
          have hue : u ≠ e2 := fun e => hnu (e ▸ he2R)
          obtain ⟨ys, vs'⟩ := y1.st hnu k2 hrt
          refine Rt.bd (oR_mk hme hce rfl) (Rt.bd (pV_mk (v := va_rf (some t)) k2'.1 k2'.2 (Nat.le_of_ble_eq_true rfl)) ?_)
          have hcm : UF (UF S2 e2 (xtC 2 pn 0 (nI pn) 0 0 0 0 .null .null .null 0 .null (va_rf (some u)))) u (.inr (21, ([.int (nI ix), .int (nI nm), va_rf none, .int (nI mu), .null] : List Value).set 2 (va_rf (some t)))) = UF (UF S2 u (vrC ix (nI nm) (some t) (nI mu))) e2 (xtC 2 pn 0 (nI pn) 0 0 0 0 .null .null .null 0 .null (va_rf (some u))) := UF_cm (fun e => hue e.symm)
          rw [hcm]
          have hF3 : ∀ b9 : Nat, b9 ∈ ZL R.S → ZF (UF S2 u (vrC ix (nI nm) (some t) (nI mu))) b9 = ZF S2 b9 := fun b9 hb => ZF_n (fun e => hnu (e ▸ hb))
          have heq3 := plc_eq (K := R.K) (w := some u) (d := 410) (S := UF S2 u (vrC ix (nI nm) (some t) (nI mu))) (fun a ha => y1.1.L ha) z2 hcn ((hF3 e2 he2R).trans hFe2) he2R hy hpl (fun a9 ha9 w9 => (hF3 a9 ha9).trans (hU2 a9 ha9 w9)) (by omega) r1
          exact h150 (UF S2 u (vrC ix (nI nm) (some t) (nI mu))) _ z2 ys vs' rfl hF3 c2.1 (ZF_n (fun e => hne2 e.symm)) heq3
      · have hlt : k < Γ.length := by
          rcases Nat.lt_or_ge k Γ.length with z | z
          · exact z
          · exact absurd (nI_le z (by have := y1.2.1.2.1; omega)) hk
        have hg : Γ[k]? = some Γ[k] := List.getElem?_eq_getElem hlt
        obtain ⟨k1, ix, nm, mu, ty, k2, k3, k4, k5⟩ := y1.2.1.2.2 k _ hg
        have k2' := hVf k2
        have hrq : rQ (UF S2 e2 (xtC 2 pn 0 (nI pn) 0 0 0 0 .null .null .null 0 .null (va_rf w))) 22 (nI k) = some (some Γ[k]) := by rw [rQ_n (show k < rlen 22 by show k < 40; have := y1.2.1.2.1; omega) (by decide)]; exact congrArg some k1
        refine Rt.bd hrq (Rt.bd (oI_mk k2'.1 k2'.2 rfl) (Rt.bd (oI_mk hme hce rfl) (Rt.bn (snm_ t1 k3 hpn) (fun S3 r3 q3 => ?_))))
        obtain ⟨e3, _⟩ := q3
        rw [e3, nI_1]
        refine Rt.it (fun _ => ih (k + 1) w (by omega) (by omega) hw) (fun _ => ?_)
        refine Rt.bd hrq (Rt.bd (pV_mk hme hce (Nat.le_of_ble_eq_true rfl)) ?_)
        rw [UF_UF]
        exact ih (k + 1) (some Γ[k]) (by omega) (by omega) (Or.inr ⟨_, List.getElem_mem hlt, rfl⟩)
  have hst := hloop bigN 0 none (by have := y1.2.1.2.1; show _ < 0 + 1000000000000; omega) (Nat.zero_le _) (Or.inl rfl)
  have hid : UF S2 e2 (xtC 2 pn 0 (nI pn) 0 0 0 0 .null .null .null 0 .null (va_rf none)) = S2 := UF_id (hFe2.trans hcn)
  rw [hid] at hst
  exact hst
end ASH
end
-- k6.x.lean.txt
section
theorem chN_vw {P : Nat → Nat → Nat → Nat → Nat → Nat → Nat → Prop} {f : Nat → Option Nat} {n p q b c v w : Nat} (h : chN P f n p q b c v w) (hP : ∀ x p q b c v w : Nat, P x p q b c v w → v ≤ w) : v ≤ w := by
  obtain ⟨ps, bs, vs, _, _, _, _, h5, h6, h7⟩ := h
  have : ∀ d : Nat, d ≤ n → vs 0 ≤ vs d := by
    intro d
    induction d with
    | zero => exact fun _ => Nat.le_refl _
    | succ d ih =>
      intro hd
      obtain ⟨x, _, g⟩ := h7 d (by omega)
      have := hP _ _ _ _ _ _ _ g
      have := ih (by omega)
      omega
  have := this n (Nat.le_refl _)
  omega
theorem isN_vw {L : List Nat} {F : Nat → va_E} {fk : Nat → Int32} {kE kI kS kB kA kV : ClassId} : ∀ {n t a p q b c v w : Nat}, isN L F fk kE kI kS kB kA kV n t a p q b c v w → v ≤ w
  | 0, _, _, _, _, _, _, _, _, h => h.elim
  | n + 1, 0, a, p, q, b, c, v, w, h => by
    rcases h.2.2 with ⟨nm, pm, mu, wr, ex, k1, k2, k3, k4, k5, k8, k6, k7⟩ | ⟨kd, x, p', q', k1, k2, k3, k4, k5, k6⟩ | ⟨x, y, q1, p2, q2, b1, k1, k2, k3, k4, k5, k6, k7⟩ | ⟨ca, ba, cap, mn, f, g, k1, k2, k3, k4, k5, k6, k7, k8, k9⟩ | ⟨x, y, q0, b1, k1, k2, k3⟩ | ⟨x, ar, cap, mn, p0, q0, b0, b1, mu, rf, f, k1, k2, k3, k4, k5, k6, k7, k8⟩ | ⟨ex, k1, k2, k3⟩ | ⟨y, k1, k2⟩
    · omega
    · omega
    · omega
    · obtain ⟨ps, bs, vs, z1, z2, z3, z4, z5, z6, z7⟩ := k9
      have : ∀ d : Nat, d ≤ mn → vs 0 ≤ vs d := by
        intro d
        induction d with
        | zero => exact fun _ => Nat.le_refl _
        | succ d ih =>
          intro hd
          obtain ⟨x, _, p0, b0, _, _, g⟩ := z7 d (by omega)
          have := isN_vw g
          have := ih (by omega)
          omega
      have := this mn (Nat.le_refl _)
      omega
    · exact isN_vw k3
    · exact chN_vw k8 (fun x p q b c v w z => isN_vw z)
    · omega
    · exact isN_vw k2
  | n + 1, 1, a, p, q, b, c, v, w, h => by
    obtain ⟨_, _, la, cap, mn, f, k1, k2, k3, k4, k5⟩ := h
    exact chN_vw k5 (fun x p q b c v w z => isN_vw z)
  | n + 1, t + 2, a, p, q, b, c, v, w, h => by
    obtain ⟨_, _, na, va, bk, mn, p', g, k1, k2, k3, k4, k5, k6, k7, k8, k9, l1⟩ := h
    have := isN_vw k9
    omega
/-- a row of nodes, its parts told by functions -/
theorem chJ_fn {P : Nat → Nat → Nat → Nat → Nat → Nat → Nat → Nat → Prop} {f : Nat → Option Nat} {n p q b c v w : Nat} (h : chJ P f n p q b c v w) (hlt : ∀ i x p q b c v w : Nat, P i x p q b c v w → p < q ∧ v ≤ w) : ∃ ps bs vs xs : Nat → Nat, ps 0 = p ∧ ps n = q ∧ bs 0 = b ∧ bs n = c ∧ vs 0 = v ∧ vs n = w ∧ (∀ i : Nat, i < n → f i = some (xs i) ∧ P i (xs i) (ps i) (ps (i + 1)) (bs i) (bs (i + 1)) (vs i) (vs (i + 1))) ∧ ∀ i j : Nat, i ≤ j → j ≤ n → ps i ≤ ps j ∧ vs i ≤ vs j := by
  obtain ⟨ps, bs, vs, h1, h2, h3, h4, h5, h6, h7⟩ := h
  have hk : ∀ i : Nat, ∃ y : Nat, i < n → f i = some y ∧ P i y (ps i) (ps (i + 1)) (bs i) (bs (i + 1)) (vs i) (vs (i + 1)) := fun i => by
    by_cases hi : i < n
    · obtain ⟨x, g1, g2⟩ := h7 i hi
      exact ⟨x, fun _ => ⟨g1, g2⟩⟩
    · exact ⟨0, fun w => absurd w hi⟩
  have hm : ∀ d i : Nat, i + d ≤ n → ps i ≤ ps (i + d) ∧ vs i ≤ vs (i + d) := by
    intro d
    induction d with
    | zero => exact fun i _ => ⟨Nat.le_refl _, Nat.le_refl _⟩
    | succ d ih =>
      intro i hi
      obtain ⟨x, _, g⟩ := h7 (i + d) (by omega)
      have := hlt _ _ _ _ _ _ _ _ g
      have := ih i (by omega)
      show ps i ≤ ps (i + d + 1) ∧ vs i ≤ vs (i + d + 1)
      omega
  refine ⟨ps, bs, vs, fun i => Classical.choose (hk i), h1, h2, h3, h4, h5, h6, fun i hi => Classical.choose_spec (hk i) hi, fun i j hij hj => ?_⟩
  have := hm (j - i) i (by omega)
  rw [show i + (j - i) = j by omega] at this
  exact this
theorem chN_J {P : Nat → Nat → Nat → Nat → Nat → Nat → Nat → Prop} {f : Nat → Option Nat} {n p q b c v w : Nat} (h : chN P f n p q b c v w) : chJ (fun _ => P) f n p q b c v w := h
/-- statements, blocks, arms as they were read -/
def isQ (R : yR) (n t a p q b c v w : Nat) : Prop := isN (ZL R.S) (ZF R.S) (Zr R.S 5) (R.K.1 9) (R.K.1 0) (R.K.1 11) (R.K.1 10) (R.K.1 7) (R.K.1 5) n t a p q b c v w
/-- behind a block -/
def BlP (R : yR) (c nv : Nat) (S : Sg) (Γ Λ : List Nat) (fi gv n a p q b b2 v w : Nat) (S2 : Sg) : Prop := ∃ c2 nv2 : Nat, c2 ≤ c + (q - p) ∧ nv2 ≤ nv + (w - v) ∧ TS R c2 nv2 S2 ∧ VX R (Xo R (p + 1) q) S S2 ∧ (Zi S2 3 = 0 → ∃ Λ2 : List Nat, YS R (c + (q - p)) (nv + (w - v)) S2 Γ Λ2 fi gv ∧ pfx Λ Λ2 ∧ Λ2.length = w ∧ (∀ k : Nat, k < Γ.length → Zq S2 22 k = Zq S 22 k) ∧ sN R S2 Λ2 gv n 1 a p q b b2 v w Γ Γ (0, 0, 0))
/-- typeBlock, for blocks of the depth n -/
def BH (R : yR) (fi gv n : Nat) (V : Sg → Option Nat → Option (Sg × Unit)) : Prop := ∀ (c nv : Nat) (S : Sg) (Γ Λ : List Nat) (a p q b b2 v w : Nat), YS R c nv S Γ Λ fi gv → Zi S 3 = 0 → Λ.length = v → w ≤ 40 → nv + (w - v) ≤ 10000 → c + (q - p) ≤ 1990 → isQ R n 1 a p q b b2 v w → Unt R S (p + 1) q → q ≤ R.T → Rt (V S (some a)) (fun S2 _ => BlP R c nv S Γ Λ fi gv n a p q b b2 v w S2)
section STU
variable {R : yR} {c nv : Nat} {S : Sg} {Γ Λ : List Nat} {fi gv : Nat}
/-- a condition -/
theorem cnd_ (hK : yRm R) (hv : nv ≤ 10000) (h : YS R c nv S Γ Λ fi gv) {x p' q' b b2 : Nat} (hc : c + (q' - p') ≤ 1990) (hE : isE (ZL R.S) (ZF R.S) (R.K.1 9) (R.K.1 0) 408 16 x p' q' b b2) (hU : Unt R S p' q') (hq : q' ≤ R.T) : Rt (f_condition R.K S (some x)) (fun S2 _ => YS R (c + (q' - p')) nv S2 Γ Λ fi gv ∧ VX R (Xo R p' q') S S2 ∧ VS S S2 ∧ (Zi S2 3 = 0 → ∃ t : Nat, xE R S2 Γ 408 16 x p' q' b b2 t ∧ isTy S2 t 1 0 none)) := by
  have hlt := (isE_mem hE).2
  unfold f_condition f_condition_30
  refine Rt.bn (vst_ hK hv h hc hE hU hq) (fun S2 r q2 => ?_)
  obtain ⟨t, rfl, y1, y2, y3, ⟨ky, iy, oy, u1⟩, y5⟩ := q2
  have u1' := u1
  obtain ⟨ti, e1, e2, e3, e4⟩ := u1
  refine Rt.ok (fun z => Rt.bd (oI_mk e3 e4 (v := ky) rfl) (Rt.it (fun w => Rt.rt ⟨y1, y2, y3, fun z => ⟨t, y5 z, ?_⟩⟩) (fun _ => ?_))) (fun z => Rt.rt ⟨y1, y2, y3, fun w => absurd w z⟩)
  · subst w
    obtain ⟨a1, a2⟩ := yOK_0 (y1.1.at (by omega) u1').1 (by decide)
    rw [a1, a2] at u1'; exact u1'
  · obtain ⟨vs, g1, g2⟩ := isE_tok hE
    obtain ⟨k1, gs, k2, k3, k4, k5⟩ := y1.1.ob (isE_mem hE).1 g1
    exact Rt.bd (oI_mk k1 k2 ((k4 1 rfl).trans g2)) (Rt.be (fai_ y1.1 (by omega)) (Rt.rt ⟨y1.fl, y2.n VX.fl, y3.tr VS.fl, fun w => absurd w (flS_n0 (by decide))⟩))
/-- a block as a statement -/
theorem tbl_ {V : Sg → Option Nat → Option (Sg × Unit)} {n : Nat} (hV : BH R fi gv n V) (h : YS R c nv S Γ Λ fi gv) {a p q b b2 v w y : Nat} (hz : Zi S 3 = 0) (hΛ : Λ.length = v) (hw : w ≤ 40) (hnv : nv + (w - v) ≤ 10000) (hc : c + (q - p) ≤ 1990) (ha : a ∈ ZL R.S) (hG : ZF R.S a = sxC 8 p 0 0 0 .null .null .null (.ref y) .null .null .null 0) (hF : ZF S a = ZF R.S a) (hpq : p < q) (hB : isQ R n 1 y p q b b2 v w) (hU : Unt R S p q) (hq : q ≤ R.T) : Rt ((oR S 19 (some a) 9).bind fun v32 => bnd (V S v32) fun S33 v34 => some (S33, ())) (fun S2 _ => StP R c nv S Γ Λ fi gv (n + 1) 0 a p q b b2 v w (0, 0, 0) S2) := by
  have hT := h.1.tb
  have ho : ownT (ZF R.S) a = some p := own_s hG (by omega)
  have c1 := hF.trans hG
  refine Rt.bd (oR_mk (h.1.L ha) c1 (v := some y) rfl) (Rt.bn (hV c nv S Γ Λ y p q b b2 v w h hz hΛ hw hnv hc hB (hU.su (by omega) (Nat.le_refl _)) hq) (fun S2 _ q2 => Rt.rt ?_))
  obtain ⟨c2, nv2, g1, g2, g3, g4, g5⟩ := q2
  refine ⟨c2, nv2, g1, g2, g3, g4.mo (fun a w => Xo_mo w (by omega) (Nat.le_refl _)), fun z => ?_⟩
  obtain ⟨Λ2, k1, k2, k3, k4, k5⟩ := g5 z
  have ca2 := (g4.2.1 a ha (fun x => Xo_dj (Or.inl ⟨p, ho, Nat.le_refl p, Nat.lt_succ_self p⟩) x (Or.inl (Nat.le_refl _)))).trans c1
  exact ⟨Γ, Λ2, k1, k2, k3, k4, ⟨ha, ho, hpq⟩, Or.inr (Or.inr (Or.inr (Or.inr (Or.inr (Or.inr (Or.inr ⟨y, ca2, k5, rfl⟩))))))⟩
/-- while -/
theorem twh_ (hK : yRm R) {V : Sg → Option Nat → Option (Sg × Unit)} {n : Nat} (hV : BH R fi gv n V) (h : YS R c nv S Γ Λ fi gv) {a p q b b1 b2 v w x y q0 : Nat} (hz : Zi S 3 = 0) (hΛ : Λ.length = v) (hw : w ≤ 40) (hnv : nv + (w - v) ≤ 10000) (hc : c + (q - p) ≤ 1990) (ha : a ∈ ZL R.S) (hG : ZF R.S a = sxC 4 p 0 0 0 .null (.ref x) .null (.ref y) .null .null .null 0) (hF : ZF S a = ZF R.S a) (hpq : p < q) (hE : isE (ZL R.S) (ZF R.S) (R.K.1 9) (R.K.1 0) 408 16 x (p + 1) q0 b b1) (hB : isQ R n 1 y q0 q b1 b2 v w) (hU : Unt R S p q) (hq : q ≤ R.T) : Rt ((oR S 19 (some a) 6).bind fun v9 => bnd (f_condition R.K S v9) fun S10 v11 => bnd (f_ok R.K S10) fun S12 v13 => if v13 = 0 then some (S12, ()) else ((oR S12 19 (some a) 9).bind fun v14 => bnd (V S12 v14) fun S15 v16 => some (S15, ()))) (fun S2 _ => StP R c nv S Γ Λ fi gv (n + 1) 0 a p q b b2 v w (0, 0, 0) S2) := by
  have hT := h.1.tb
  have ho : ownT (ZF R.S) a = some p := own_s hG (by omega)
  have c1 := hF.trans hG
  have hlt := (isE_mem hE).2
  have hlb := (isN_lt hB).2
  have hvw := isN_vw hB
  have he1 := h.1.L ha
  refine Rt.bd (oR_mk he1 c1 (v := some x) rfl) (Rt.bn (cnd_ hK (by omega) h (show c + (q0 - (p + 1)) ≤ 1990 by omega) hE (hU.su (by omega) (by omega)) (by omega)) (fun S2 _ q2 => ?_))
  obtain ⟨y1, y2, y3, y4⟩ := q2
  have c2 := y3.2.2.1.2 a 19 _ (Or.inr rfl) he1 c1
  have v2 : VX R (Xo R p q) S S2 := y2.mo (fun a w => Xo_mo w (by omega) (by omega))
  refine Rt.ok (fun z => ?_) (fun z => Rt.rt (StP.bad (c2 := c + (q0 - (p + 1))) (by omega) (by omega) y1.1 v2 z))
  obtain ⟨t, x1, x2⟩ := y4 z
  have hU2 : Unt R S2 (q0 + 1) q := fun a9 ha9 w9 => (y2.2.1 a9 ha9 (fun x9 => Xo_dj w9 x9 (Or.inr (by omega)))).trans (hU a9 ha9 (Xo_mo w9 (by omega) (Nat.le_refl _)))
  refine Rt.bd (oR_mk c2.1 c2.2 (v := some y) rfl) (Rt.bn (hV (c + (q0 - (p + 1))) nv S2 Γ Λ y q0 q b1 b2 v w y1 z hΛ hw hnv (by omega) hB hU2 hq) (fun S3 _ q3 => Rt.rt ?_))
  obtain ⟨c3, nv3, g1, g2, g3, g4, g5⟩ := q3
  have v3 : VX R (Xo R p q) S S3 := v2.tr g4 (fun a w => Xo_mo w (by omega) (Nat.le_refl _))
  refine ⟨c3, nv3, by omega, g2, g3, v3, fun z3 => ?_⟩
  obtain ⟨Λ2, k1, k2, k3, k4, k5⟩ := g5 z3
  have ca3 := (g4.2.1 a ha (fun x => Xo_dj (Or.inl ⟨p, ho, Nat.le_refl p, Nat.lt_succ_self p⟩) x (Or.inl (by omega)))).trans c2.2
  exact ⟨Γ, Λ2, k1.up (by omega), k2, k3, fun k hk => by rw [k4 k hk, y3.2.2.1.1], ⟨ha, ho, hpq⟩, Or.inr (Or.inr (Or.inr (Or.inr (Or.inl ⟨x, y, q0, b1, t, ca3, xE_vx g4 x1 (g4.fr (Or.inl (by omega))), g4.2.2.2.1 _ _ _ _ x2, k5, rfl⟩))))⟩
end STU
end
-- k6.y.lean.txt
section
theorem sub3 {A B C D : Nat} (h1 : C ≤ A) (h2 : A ≤ B) : D + (A - C) + (B - A) = D + (B - C) := by omega
theorem ROW.q {R : yR} {S : Sg} (hK : yRm R) (h : ROW R S) {a n j : Nat} {f : vRw} (ha : a ∈ ZL R.S) (hF : ZF R.S a = .inl (R.K.1 j, n, f)) (hj : j < 14) (h0 : j ≠ 0) (h4 : j ≠ 4) (h5 : j ≠ 5) : nXo R a ∧ ZF S a = .inl (R.K.1 j, n, f) := ⟨nXo.ro ha hF (Or.inl (hK.2.2 j 5 hj (by decide) h5)), (h a n _ f ha hF (hK.2.2 j 0 hj (by decide) h0) (hK.2.2 j 4 hj (by decide) h4) (hK.2.2 j 5 hj (by decide) h5)).trans hF⟩
section TIF
variable {R : yR} {c nv : Nat} {S : Sg} {Γ Λ : List Nat} {fi gv : Nat}
/-- if -/
theorem tif_ (hK : yRm R) {V : Sg → Option Nat → Option (Sg × Unit)} {n : Nat} (hV : BH R fi gv n V) (h : YS R c nv S Γ Λ fi gv) {a p q b b2 v w ca ba cap mn : Nat} {f g : Nat → Option Nat} (hz : Zi S 3 = 0) (hΛ : Λ.length = v) (hw : w ≤ 40) (hnv : nv + (w - v) ≤ 10000) (hc : c + (q - p) ≤ 1990) (ha : a ∈ ZL R.S) (hG : ZF R.S a = sxC 3 p 0 0 0 .null .null .null .null (.ref ca) (.ref ba) .null mn) (hF : ZF S a = ZF R.S a) (hpq : p < q) (hmn : 1 ≤ mn) (hcap : mn ≤ cap) (hca : ca ∈ ZL R.S) (hba : ba ∈ ZL R.S) (hfa : ZF R.S ca = .inl (R.K.1 9, cap, .inr (.inr (.inr (.inr f))))) (hga : ZF R.S ba = .inl (R.K.1 10, cap, .inr (.inr (.inr (.inr g))))) (hls : ∀ i : Nat, i < mn → f i = none → i + 1 = mn) (hJ : chJ (fun i y p1 q1 b1 c1 v1 w1 => ∃ p0 b0 : Nat, ((f i = none ∧ b0 = b1) ∨ ∃ x p' q0 : Nat, f i = some x ∧ p1 < p' ∧ q0 ≤ p0 ∧ isE (ZL R.S) (ZF R.S) (R.K.1 9) (R.K.1 0) 408 16 x p' q0 b1 b0) ∧ p1 ≤ p0 ∧ isQ R n 1 y p0 q1 b0 c1 v1 w1) g mn p q b b2 v w) (hU : Unt R S p q) (hq : q ≤ R.T) : Rt (f_typeStatement_82 R.K V bigN S (some a) 0) (fun S2 _ => StP R c nv S Γ Λ fi gv (n + 1) 0 a p q b b2 v w (0, 0, 0) S2) := by
  have hT := h.1.tb
  have ho : ownT (ZF R.S) a = some p := own_s hG (by omega)
  have c1 := hF.trans hG
  obtain ⟨nca, _⟩ := h.2.2.2.2.1.q hK hca hfa (by decide) (by decide) (by decide) (by decide)
  obtain ⟨nba, _⟩ := h.2.2.2.2.1.q hK hba hga (by decide) (by decide) (by decide) (by decide)
  obtain ⟨ps, bs, vs, xs, j1, j2, j3, j4, j5, j6, j7, j8⟩ := chJ_fn hJ (fun i x p q b c v w ⟨p0, b0, _, z2, z3⟩ => ⟨by have := (isN_lt z3).2; omega, isN_vw z3⟩)
  have hmq : mn ≤ 100000 := by
    have : ∀ d : Nat, d ≤ mn → d ≤ ps d := by
      intro d
      induction d with
      | zero => exact fun _ => Nat.zero_le _
      | succ d ih =>
        intro hd
        have := ih (by omega)
        obtain ⟨_, p0, b0, _, z2, z3⟩ := j7 d (by omega)
        have := (isN_lt z3).2
        omega
    have := this mn (Nat.le_refl _)
    omega
  have hcell : ∀ {S1 : Sg}, VX R (Xo R (p + 1) q) S S1 → ZF S1 a = sxC 3 p 0 0 0 .null .null .null .null (.ref ca) (.ref ba) .null mn := fun {S1} v1 => (v1.2.1 a ha (fun x => Xo_dj (Or.inl ⟨p, ho, Nat.le_refl p, Nat.lt_succ_self p⟩) x (Or.inl (Nat.le_refl _)))).trans c1
  have hloop : ∀ (m k : Nat) {S1 : Sg} {c9 nv9 : Nat}, mn < k + m → k ≤ mn → TS R c9 nv9 S1 → c9 ≤ c + (q - p) → nv9 ≤ nv + (w - v) → VX R (Xo R (p + 1) q) S S1 → (Zi S1 3 = 0 → VX R (Xo R (p + 1) (ps k)) S S1 ∧ ∃ Λ1 : List Nat, YS R (c + (ps k - p)) (nv + (vs k - v)) S1 Γ Λ1 fi gv ∧ pfx Λ Λ1 ∧ Λ1.length = vs k ∧ (∀ k9 : Nat, k9 < Γ.length → Zq S1 22 k9 = Zq S 22 k9) ∧ ∀ i : Nat, i < k → ∃ p0 b0 : Nat, ((f i = none ∧ b0 = bs i) ∨ ∃ x p' q0 t : Nat, f i = some x ∧ ps i < p' ∧ q0 ≤ p0 ∧ xE R S1 Γ 408 16 x p' q0 (bs i) b0 t ∧ isTy S1 t 1 0 none) ∧ ps i ≤ p0 ∧ sN R S1 Λ1 gv n 1 (xs i) p0 (ps (i + 1)) b0 (bs (i + 1)) (vs i) (vs (i + 1)) Γ Γ (0, 0, 0)) → Rt (f_typeStatement_82 R.K V m S1 (some a) (nI k)) (fun S2 _ => StP R c nv S Γ Λ fi gv (n + 1) 0 a p q b b2 v w (0, 0, 0) S2) := by
    intro m
    induction m with
    | zero => intro k S1 c9 nv9 a b; omega
    | succ m ih =>
      intro k S1 c9 nv9 hk1 hk2 t1 hc9 hn9 v1 g1
      have ce := hcell v1
      have he1 := t1.L ha
      have hend : (Zi S1 3 = 0 → k = mn) → Rt (f_typeStatement_139 R.K V S1) (fun S2 _ => StP R c nv S Γ Λ fi gv (n + 1) 0 a p q b b2 v w (0, 0, 0) S2) := fun hkk => by
        unfold f_typeStatement_139 f_typeStatement_238
        refine Rt.rt ⟨c9, nv9, hc9, hn9, t1, v1.mo (fun a w => Xo_mo w (by omega) (Nat.le_refl _)), fun z => ?_⟩
        obtain ⟨v2, Λ1, d1, d2, d3, d4, d5⟩ := g1 z
        have hk := hkk z
        subst hk
        rw [j2, j6] at d1
        exact ⟨Γ, Λ1, d1, d2, d3.trans j6, d4, ⟨ha, ho, hpq⟩, Or.inr (Or.inr (Or.inr (Or.inl ⟨ca, ba, cap, k, f, g, ce, hmn, hcap, nca, nba, (d1.2.2.2.2.1.q hK hca hfa (by decide) (by decide) (by decide) (by decide)).2, (d1.2.2.2.2.1.q hK hba hga (by decide) (by decide) (by decide) (by decide)).2, hls, rfl, ps, bs, vs, j1, j2, j3, j4, j5, j6, fun i hi => ⟨xs i, (j7 i hi).1, d5 i hi⟩⟩)))⟩
      unfold f_typeStatement_82
      refine Rt.bd (oI_mk he1 ce (v := nI mn) rfl) (Rt.it (fun w9 => hend (fun _ => ?_)) (fun w9 => ?_))
      · have := (nI_leI (a := mn) (b := k) (by omega) (by omega)).mp w9; omega
      have hlt : k < mn := by
        rcases Nat.lt_or_ge k mn with z | z
        · exact z
        · exact absurd (nI_le z (by omega)) w9
      refine Rt.ok (fun z1 => ?_) (fun z1 => hend (fun w => absurd w z1))
      obtain ⟨v2, Λ1, d1, d2, d3, d4, d5⟩ := g1 z1
      obtain ⟨_, p0, b0, k1, k3, k4⟩ := j7 k hlt
      have hl4 := (isN_lt k4).2
      have hm1 := j8 0 k (by omega) hk2; have hm2 := j8 (k + 1) mn (by omega) (Nat.le_refl _); have hm3 := j8 k (k + 1) (by omega) (by omega)
      rw [j1, j5] at hm1
      rw [j2, j6] at hm2
      -- the block
      have h116 : ∀ (S2 : Sg) (c2 : Nat), YS R c2 (nv + (vs k - v)) S2 Γ Λ1 fi gv → c2 ≤ c + (p0 - p) → VX R (Xo R (p + 1) p0) S S2 → Zq S2 22 = Zq S1 22 → (Zi S2 3 = 0 → ((f k = none ∧ b0 = bs k) ∨ ∃ x p' q0 t : Nat, f k = some x ∧ ps k < p' ∧ q0 ≤ p0 ∧ xE R S2 Γ 408 16 x p' q0 (bs k) b0 t ∧ isTy S2 t 1 0 none) ∧ ∀ i : Nat, i < k → ∃ p0 b0 : Nat, ((f i = none ∧ b0 = bs i) ∨ ∃ x p' q0 t : Nat, f i = some x ∧ ps i < p' ∧ q0 ≤ p0 ∧ xE R S2 Γ 408 16 x p' q0 (bs i) b0 t ∧ isTy S2 t 1 0 none) ∧ ps i ≤ p0 ∧ sN R S2 Λ1 gv n 1 (xs i) p0 (ps (i + 1)) b0 (bs (i + 1)) (vs i) (vs (i + 1)) Γ Γ (0, 0, 0)) → Rt (f_typeStatement_116 R.K V (f_typeStatement_82 R.K V m) S2 (some a) (nI k)) (fun S2 _ => StP R c nv S Γ Λ fi gv (n + 1) 0 a p q b b2 v w (0, 0, 0) S2) := fun S2 c2 y2 hc2 v02 hz2 g2 => by
        unfold f_typeStatement_116 f_typeStatement_133
        rw [nI_1]
        refine Rt.ok (fun z2 => ?_) (fun z2 => ih (k + 1) (by omega) (by omega) y2.1 (by omega) (by omega) (v02.mo (fun a w => Xo_mo w (Nat.le_refl _) (by omega))) (fun w => absurd w z2))
        have v02' : VX R (Xo R (p + 1) q) S S2 := v02.mo (fun a w => Xo_mo w (Nat.le_refl _) (by omega))
        have hbr := (y2.2.2.2.2.1.q hK hba hga (by decide) (by decide) (by decide) (by decide)).2
        refine Rt.bd (oR_mk (y2.1.L ha) (hcell v02') (v := some ba) rfl) (Rt.bd (aQ_j (y2.1.L hba) hbr (show k < cap by omega) (by omega)) ?_)
        rw [(j7 k hlt).1]
        have hU2 : Unt R S2 (p0 + 1) (ps (k + 1)) := fun a9 ha9 w9 => (v02.2.1 a9 ha9 (fun x9 => Xo_dj w9 x9 (Or.inr (by omega)))).trans (hU a9 ha9 (Xo_mo w9 (by omega) (by omega)))
        refine Rt.bn (hV c2 (nv + (vs k - v)) S2 Γ Λ1 (xs k) p0 (ps (k + 1)) b0 (bs (k + 1)) (vs k) (vs (k + 1)) y2 z2 d3 (by omega) (by omega) (by omega) k4 hU2 (by omega)) (fun S3 _ q3 => ?_)
        obtain ⟨c3, nv3, e1, e2, e3, e4, e5⟩ := q3
        have v03 : VX R (Xo R (p + 1) (ps (k + 1))) S S3 := (v02.mo (fun a w => Xo_mo w (Nat.le_refl _) (by omega))).tr e4 (fun a w => Xo_mo w (by omega) (Nat.le_refl _))
        refine ih (k + 1) (by omega) (by omega) e3 (by omega) (by omega) (v03.mo (fun a w => Xo_mo w (Nat.le_refl _) (by omega))) (fun z3 => ⟨v03, ?_⟩)
        obtain ⟨Λ2, l1, l2, l3, l4, l5⟩ := e5 z3
        obtain ⟨g3, g4⟩ := g2 z2
        have hcnd : ∀ i p9 b9 : Nat, p9 ≤ p0 → ((f i = none ∧ b9 = bs i) ∨ ∃ x p' q0 t : Nat, f i = some x ∧ ps i < p' ∧ q0 ≤ p9 ∧ xE R S2 Γ 408 16 x p' q0 (bs i) b9 t ∧ isTy S2 t 1 0 none) → ((f i = none ∧ b9 = bs i) ∨ ∃ x p' q0 t : Nat, f i = some x ∧ ps i < p' ∧ q0 ≤ p9 ∧ xE R S3 Γ 408 16 x p' q0 (bs i) b9 t ∧ isTy S3 t 1 0 none) := fun i p9 b9 hp9 z => z.imp id (fun ⟨x, p', q0, t, m1, m2, m3, m4, m5⟩ => ⟨x, p', q0, t, m1, m2, m3, xE_vx e4 m4 (e4.fr (Or.inl (by omega))), e4.2.2.2.1 _ _ _ _ m5⟩)
        refine ⟨Λ2, ?_, d2.tr l2, l3, fun k9 hk9 => by rw [l4 k9 hk9, hz2]; exact d4 k9 hk9, fun i hi => ?_⟩
        · have := l1.up (c2 := c + (ps (k + 1) - p)) (by omega)
          rw [sub3 hm1.2 hm3.2] at this
          exact this
        · by_cases e0 : i = k
          · subst e0
            exact ⟨p0, b0, hcnd i p0 b0 (Nat.le_refl _) g3, k3, l5⟩
          · obtain ⟨p9, b9, m1, m2, m3⟩ := g4 i (by omega)
            have hmi := j8 (i + 1) k (by omega) hk2
            have := sN_lt m3
            exact ⟨p9, b9, hcnd i p9 b9 (by omega) m1, m2, sN_vx e4 l2 m3 (Or.inl (by omega))⟩
      have hcr := (d1.2.2.2.2.1.q hK hca hfa (by decide) (by decide) (by decide) (by decide)).2
      refine Rt.bd (oR_mk he1 ce (v := some ca) rfl) (Rt.bd (aQ_j (t1.L hca) hcr (show k < cap by omega) (by omega)) ?_)
      rcases k1 with ⟨w1, w2⟩ | ⟨x, p', q0, w1, w2, w3, w4⟩
      · rw [w1]
        exact Rt.ip rfl (h116 S1 _ d1 (by omega) (v2.mo (fun a w => Xo_mo w (Nat.le_refl _) (by omega))) rfl (fun _ => ⟨Or.inl ⟨w1, w2⟩, d5⟩))
      · rw [w1]
        have hlx := (isE_mem w4).2
        have hU1 : Unt R S1 p' q0 := fun a9 ha9 w9 => (v2.2.1 a9 ha9 (fun x9 => Xo_dj w9 x9 (Or.inr (by omega)))).trans (hU a9 ha9 (Xo_mo w9 (by omega) (by omega)))
        refine Rt.iq (by simp) (Rt.bd (oR_mk he1 ce (v := some ca) rfl) (Rt.bd (aQ_j (t1.L hca) hcr (show k < cap by omega) (by omega)) ?_))
        rw [w1]
        refine Rt.bn (cnd_ hK (by omega) d1 (show c + (ps k - p) + (q0 - p') ≤ 1990 by omega) w4 hU1 (by omega)) (fun S2 _ q2 => ?_)
        obtain ⟨y1, y2, y3, y4⟩ := q2
        refine h116 S2 _ y1 (by omega) ((v2.mo (fun a w => Xo_mo w (Nat.le_refl _) (by omega))).tr y2 (fun a w => Xo_mo w (by omega) (by omega))) y3.2.2.1.1 (fun z2 => ⟨Or.inr ?_, fun i hi => ?_⟩)
        · obtain ⟨t, x1, x2⟩ := y4 z2
          exact ⟨x, p', q0, t, w1, w2, w3, x1, x2⟩
        · obtain ⟨p9, b9, m1, m2, m3⟩ := d5 i hi
          have hmi := j8 (i + 1) k (by omega) hk2
          have := sN_lt m3
          exact ⟨p9, b9, m1.imp id (fun ⟨x, p8, q8, t, n1, n2, n3, n4, n5⟩ => ⟨x, p8, q8, t, n1, n2, n3, xE_vx y2 n4 (y2.fr (Or.inl (by omega))), y2.2.2.2.1 _ _ _ _ n5⟩), m2, sN_vx y2 pfx.rf m3 (Or.inl (by omega))⟩
  have hst := hloop bigN 0 (S1 := S) (by show mn < 0 + 1000000000000; omega) (Nat.zero_le _) h.1 (by omega) (by omega) VX.rf (fun _ => ⟨VX.rf, Λ, by rw [j1, j5, Nat.sub_self, Nat.sub_self]; exact h, pfx.rf, hΛ.trans j5.symm, fun _ _ => rfl, fun i hi => absurd hi (by omega)⟩)
  exact hst
end TIF
end
-- k6.z.lean.txt
section
section BLK
variable {R : yR} {c nv : Nat} {S : Sg} {Γ Λ : List Nat} {fi gv : Nat}
theorem TS.u23 (h : TS R c nv S) {x : Int32} : TS R c nv (Ui S 23 x) := by
  obtain ⟨G, tm, Y, ad, h1, h2, h3, h4⟩ := h
  exact ⟨G, tm, Y, ad, ⟨h1.1, (Zi_n (by decide)).trans h1.2.1, (Zi_n (by decide)).trans h1.2.2.1, (Zi_n (by decide)).trans h1.2.2.2.1, h1.2.2.2.2.1, h1.2.2.2.2.2.1, h1.2.2.2.2.2.2⟩, h2, h3, fun j a b c d e f => (Zi_n e).trans (h4.1 j a b c d e f), h4.2⟩
theorem VX.u23 {X : Nat → Prop} {x : Int32} : VX R X S (Ui S 23 x) := ⟨⟨fun j _ _ _ d _ => Zi_n d, rfl, rfl, fun _ _ _ => rfl, rfl⟩, fun _ _ _ => rfl, fun _ q => q, fun x kd ix o ⟨t, q1, q2, q3, q4⟩ => ⟨t, by unfold tmS; rw [Zi_n (by decide)]; exact q1, q2, q3, q4⟩, fun v ix nm ty mu q => ⟨ty, q, Or.inr rfl⟩, fun q => by rwa [Zi_n (by decide)] at q⟩
/-- the scope is as it was -/
theorem YS.rs {Γ3 Λ3 : List Nat} (h : YS R c nv S Γ3 Λ3 fi gv) (hp : pfx Γ Γ3) (hl : Γ.length ≤ Γ3.length) : YS R c nv (Ui S 23 (nI Γ.length)) Γ Λ3 fi gv := by
  obtain ⟨h1, h2, h3, h4, h5, ⟨h6, h6'⟩, ⟨h7, h8, h9, h10⟩, h11, fs, h12, h13⟩ := h
  have hX : VX R (Xo R 0 0) S (Ui S 23 (nI Γ.length)) := VX.u23
  refine ⟨h1.u23, ⟨Zi_s, by have := h2.2.1; omega, fun k v hk => ?_⟩, ⟨(Zi_n (by decide)).trans h3.1, h3.2.1, fun k v hk => ?_⟩, h4.vx hX, h5.vx hX, ⟨fun v hv => h6 v (hp.mem hv), by omega⟩, ⟨h7, h8, h9, h10⟩, h11.im hX.2.2.2.1, fs, h12, h13⟩
  · obtain ⟨a1, ix, nm, mu, ty, a2, a3, a4, a5⟩ := h2.2.2 k v (hp k v hk)
    exact ⟨a1, ix, nm, mu, ty, a2, a3, a4, fun x q => (a5 x q).im hX.2.2.2.1⟩
  · obtain ⟨a0, nm, mu, ty, a2, a3, a4, a5⟩ := h3.2.2 k v hk
    exact ⟨a0, nm, mu, ty, a2, a3, a4, fun x q => (a5 x q).im hX.2.2.2.1⟩
theorem pfx_len {A B : List Nat} (h : pfx A B) : A.length ≤ B.length := by
  rcases Nat.lt_or_ge B.length A.length with z | z
  · have h1 : A[B.length]? = some A[B.length] := List.getElem?_eq_getElem z
    have h2 := h _ _ h1
    rw [List.getElem?_eq_none (Nat.le_refl _)] at h2; cases h2
  · exact z
/-- a statement's scope grows -/
theorem sN_sc {S : Sg} {n a p q b b2 v w : Nat} {Γ2 : List Nat} {κ : Nat × Nat × Nat} (h : sN R S Λ gv n 0 a p q b b2 v w Γ Γ2 κ) : pfx Γ Γ2 := by
  cases n with
  | zero => exact h.elim
  | succ n =>
    rcases h.2 with ⟨nm, y, mu, wr, ex, k1, k2, k3, k4, k5⟩ | ⟨kd, x, p', q', t, k1, k2, k3, k4, k5, k6, k7⟩ | ⟨x, y, q1, p3, q3, vv, t, mu, mv, π, k1, k2, k3, k4, k5, k6, k7, k8, k9⟩ | ⟨ca, ba, cap, mn, f, g, k1, k2, k3, k4, k5, k6, k7, k8, k9, l1⟩ | ⟨x, y, q0, b1, t, k1, k2, k3, k4, k5⟩ | ⟨x, ar, cap, mn, p0, q0, b1, i, t, bd, mu, rf, f, vf, k1, k2, k3, k4, k5, k6, k7, k8, k9, l1, l2, l3⟩ | ⟨ex, k1, k2, k3, k4⟩ | ⟨y, k1, k2, k3⟩
    · rw [k4.1]; exact pfx.add
    · rw [k7]; exact pfx.rf
    · rw [k9]; exact pfx.rf
    · rw [k9]; exact pfx.rf
    · rw [k5]; exact pfx.rf
    · rw [k9]; exact pfx.rf
    · rw [k4.1]; exact pfx.rf
    · rw [k3]; exact pfx.rf
/-- typeStatement, for statements of the depth n -/
def SH (R : yR) (fi gv n : Nat) (V : Sg → Option Nat → Option (Sg × Unit)) : Prop := ∀ (c nv : Nat) (S : Sg) (Γ Λ : List Nat) (a p q b b2 v w : Nat), YS R c nv S Γ Λ fi gv → Zi S 3 = 0 → Λ.length = v → w ≤ 40 → nv + (w - v) ≤ 10000 → c + (q - p) ≤ 1990 → isQ R n 0 a p q b b2 v w → Unt R S p q → q ≤ R.T → Rt (f_typeStatement R.K V S (some a)) (fun S2 _ => StP R c nv S Γ Λ fi gv n 0 a p q b b2 v w (0, 0, 0) S2)
/-- a block -/
theorem blk7 (hK : yRm R) {V : Sg → Option Nat → Option (Sg × Unit)} {n : Nat} (hV : SH R fi gv n V) (h : YS R c nv S Γ Λ fi gv) {a p q b b2 v w : Nat} (hz : Zi S 3 = 0) (hΛ : Λ.length = v) (hw : w ≤ 40) (hnv : nv + (w - v) ≤ 10000) (hc : c + (q - p) ≤ 1990) (hB : isQ R (n + 1) 1 a p q b b2 v w) (hU : Unt R S (p + 1) q) (hq : q ≤ R.T) : Rt (f_typeBlock_7 R.K V bigN S (some a) (Zi S 23) 0) (fun S2 _ => BlP R c nv S Γ Λ fi gv (n + 1) a p q b b2 v w S2) := by
  have hT := h.1.tb
  have hvw := isN_vw hB
  obtain ⟨ha, hpq, la, cap, mn, f, hG, hla, hfa, hcap, hJ⟩ := hB
  have nxa : nXo R a := nXo.ob ha hG (by decide)
  obtain ⟨nla, _⟩ := h.2.2.2.2.1.q hK hla hfa (by decide) (by decide) (by decide) (by decide)
  obtain ⟨ps, bs, vs, xs, j1, j2, j3, j4, j5, j6, j7, j8⟩ := chJ_fn (chN_J hJ) (fun i x p q b c v w z => ⟨(isN_lt z).2, isN_vw z⟩)
  have hca0 : ZF S a = .inr (14, [.int (nI p), .int (nI (q - 1)), .ref la, .int (nI mn)]) := by
    obtain ⟨g0, gs, g1, g2, g3, g4⟩ := h.1.ob ha hG
    rw [show gs = _ from List.ext_getElem? (fun k => g3 k rfl)] at g1
    exact g1
  have hmq : mn ≤ 100000 := by
    have : ∀ d : Nat, d ≤ mn → d ≤ ps d := by
      intro d
      induction d with
      | zero => exact fun _ => Nat.zero_le _
      | succ d ih =>
        intro hd
        have := ih (by omega)
        have := (isN_lt (j7 d (by omega)).2).2
        omega
    have := this mn (Nat.le_refl _)
    omega
  have hm0 := j8 0 mn (by omega) (Nat.le_refl _)
  rw [j1, j2, j5, j6] at hm0
  rw [h.2.1.1]
  have hloop : ∀ (m k : Nat) {S1 : Sg} {c9 nv9 : Nat}, mn < k + m → k ≤ mn → TS R c9 nv9 S1 → c9 ≤ c + (q - p) → nv9 ≤ nv + (w - v) → VX R (Xo R (p + 1) q) S S1 → (Zi S1 3 = 0 → VX R (Xo R (p + 1) (ps k)) S S1 ∧ ∃ (Λ1 : List Nat) (gs : Nat → List Nat), YS R (c + (ps k - p)) (nv + (vs k - v)) S1 (gs k) Λ1 fi gv ∧ pfx Λ Λ1 ∧ Λ1.length = vs k ∧ gs 0 = Γ ∧ pfx Γ (gs k) ∧ ∀ i : Nat, i < k → sN R S1 Λ1 gv n 0 (xs i) (ps i) (ps (i + 1)) (bs i) (bs (i + 1)) (vs i) (vs (i + 1)) (gs i) (gs (i + 1)) (0, 0, 0)) → Rt (f_typeBlock_7 R.K V m S1 (some a) (nI Γ.length) (nI k)) (fun S2 _ => BlP R c nv S Γ Λ fi gv (n + 1) a p q b b2 v w S2) := by
    intro m
    induction m with
    | zero => intro k S1 c9 nv9 a b; omega
    | succ m ih =>
      intro k S1 c9 nv9 hk1 hk2 t1 hc9 hn9 v1 g1
      have ce : ZF S1 a = .inr (14, [.int (nI p), .int (nI (q - 1)), .ref la, .int (nI mn)]) := (v1.nx nxa).trans hca0
      have hend : (Zi S1 3 = 0 → k = mn) → Rt (f_typeBlock_38 R.K V S1 (nI Γ.length)) (fun S2 _ => BlP R c nv S Γ Λ fi gv (n + 1) a p q b b2 v w S2) := fun hkk => by
        unfold f_typeBlock_38
        refine Rt.bd (v := Ui S1 23 (nI Γ.length)) rfl (Rt.rt ⟨c9, nv9, hc9, hn9, t1.u23, v1.tr (VX.u23 (X := nX)) (fun _ w => w.elim), fun z => ?_⟩)
        have z1 : Zi S1 3 = 0 := by rwa [Zi_n (by decide)] at z
        obtain ⟨v2, Λ1, gs, d1, d2, d3, d4, d5, d6⟩ := g1 z1
        have hk := hkk z1
        subst hk
        have d1' := d1.rs d5 (pfx_len d5)
        rw [j2, j6] at d1'
        refine ⟨Λ1, d1'.up (by omega), d2, d3.trans j6, fun k9 hk9 => ?_, nxa, hpq, rfl, la, cap, k, f, gs, ce, nla, (d1.2.2.2.2.1.q hK hla hfa (by decide) (by decide) (by decide) (by decide)).2, hcap, d4, ps, bs, vs, j1, j2, j3, j4, j5, j6, fun i hi => ⟨xs i, (j7 i hi).1, sN_vx (VX.u23 (X := Xo R 0 0)) pfx.rf (d6 i hi) (Or.inr (Nat.zero_le _))⟩⟩
        have e9 : Γ[k9]? = some Γ[k9] := List.getElem?_eq_getElem hk9
        show Zq S1 22 k9 = _
        rw [(d1.2.1.2.2 k9 _ (d5 _ _ e9)).1, (h.2.1.2.2 k9 _ e9).1]
      unfold f_typeBlock_7
      refine Rt.bd (oI_mk (t1.L ha) ce (v := nI mn) rfl) (Rt.it (fun w9 => hend (fun _ => ?_)) (fun w9 => ?_))
      · have := (nI_leI (a := mn) (b := k) (by omega) (by omega)).mp w9; omega
      have hlt : k < mn := by
        rcases Nat.lt_or_ge k mn with z | z
        · exact z
        · exact absurd (nI_le z (by omega)) w9
      refine Rt.ok (fun z1 => ?_) (fun z1 => hend (fun w => absurd w z1))
      obtain ⟨v2, Λ1, gs, d1, d2, d3, d4, d5, d6⟩ := g1 z1
      obtain ⟨k1, k4⟩ := j7 k hlt
      have hl4 := (isN_lt k4).2
      have hm1 := j8 0 k (by omega) hk2; have hm2 := j8 (k + 1) mn (by omega) (Nat.le_refl _); have hm3 := j8 k (k + 1) (by omega) (by omega)
      rw [j1, j5] at hm1
      rw [j2, j6] at hm2
      have hlr := (d1.2.2.2.2.1.q hK hla hfa (by decide) (by decide) (by decide) (by decide)).2
      refine Rt.bd (oR_mk (t1.L ha) ce (v := some la) rfl) (Rt.bd (aQ_j (t1.L hla) hlr (show k < cap by omega) (by omega)) ?_)
      rw [k1, nI_1]
      have hU2 : Unt R S1 (ps k) (ps (k + 1)) := fun a9 ha9 w9 => (v2.2.1 a9 ha9 (fun x9 => Xo_dj w9 x9 (Or.inr (Nat.le_refl _)))).trans (hU a9 ha9 (Xo_mo w9 (by omega) (by omega)))
      refine Rt.bn (hV (c + (ps k - p)) (nv + (vs k - v)) S1 (gs k) Λ1 (xs k) (ps k) (ps (k + 1)) (bs k) (bs (k + 1)) (vs k) (vs (k + 1)) d1 z1 d3 (by omega) (by omega) (by omega) k4 hU2 (by omega)) (fun S3 _ q3 => ?_)
      obtain ⟨c3, nv3, e1, e2, e3, e4, e5⟩ := q3
      have v03 : VX R (Xo R (p + 1) (ps (k + 1))) S S3 := (v2.mo (fun a w => Xo_mo w (Nat.le_refl _) (by omega))).tr e4 (fun a w => Xo_mo w (by omega) (Nat.le_refl _))
      refine ih (k + 1) (by omega) (by omega) e3 (by omega) (by omega) (v03.mo (fun a w => Xo_mo w (Nat.le_refl _) (by omega))) (fun z3 => ⟨v03, ?_⟩)
      obtain ⟨Γ2, Λ2, l1, l2, l3, l4, l5⟩ := e5 z3
      refine ⟨Λ2, fun i => if i = k + 1 then Γ2 else gs i, ?_, d2.tr l2, l3, (if_neg (by omega)).trans d4, ?_, fun i hi => ?_⟩
      · dsimp only
        rw [if_pos rfl]
        have := l1.up (c2 := c + (ps (k + 1) - p)) (by omega)
        rw [sub3 hm1.2 hm3.2] at this
        exact this
      · dsimp only
        rw [if_pos rfl]; exact d5.tr (sN_sc l5)
      · dsimp only
        by_cases e0 : i = k
        · subst e0
          rw [if_neg (show i ≠ i + 1 by omega), if_pos rfl]; exact l5
        · rw [if_neg (show i ≠ k + 1 by omega), if_neg (show i + 1 ≠ k + 1 by omega)]
          have hmi := j8 (i + 1) k (by omega) hk2
          exact sN_vx e4 l2 (d6 i (by omega)) (Or.inl (by omega))
  have hst := hloop bigN 0 (S1 := S) (by show mn < 0 + 1000000000000; omega) (Nat.zero_le _) h.1 (by omega) (by omega) VX.rf (fun _ => ⟨VX.rf, Λ, fun _ => Γ, by rw [j1, j5, Nat.sub_self]; exact h.up (by omega), pfx.rf, hΛ.trans j5.symm, rfl, pfx.rf, fun i hi => absurd hi (by omega)⟩)
  exact hst
end BLK
end
