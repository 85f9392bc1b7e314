/-- scope and variables stay -/
def VW (S S2 : Sg) : Prop := Zi S2 23 = Zi S 23 ∧ Zi S2 24 = Zi S 24 ∧ Zq S2 22 = Zq S 22 ∧ ∀ (v ix : Nat) (nm : Int32) (ty : Option Nat) (mu : Int32), isV S v ix nm ty mu → isV S2 v ix nm ty mu
theorem VS.w {S S2 : Sg} (h : VS S S2) : VW S S2 := ⟨h.1, h.2.1, h.2.2.1.1, h.2.2.2⟩
theorem VW.tr {S S1 S2 : Sg} (h : VW S S1) (g : VW S1 S2) : VW S S2 := ⟨g.1.trans h.1, g.2.1.trans h.2.1, g.2.2.1.trans h.2.2.1, fun v ix nm ty mu q => g.2.2.2 v ix nm ty mu (h.2.2.2 v ix nm ty mu q)⟩
section STT
variable {R : yR} {c nv : Nat} {S S2 : Sg} {Γ Λ : List Nat} {fi gv : Nat}
theorem YS.vw {c2 p q : Nat} (h : YS R c nv S Γ Λ fi gv) (t : TS R c2 nv S2) (v : VX R (Xo R p q) S S2) (s : VW S S2) : YS R c2 nv S2 Γ Λ fi gv := by
  obtain ⟨h1, h2, h3, h4, h5, h6, ⟨h7, h8, h9, h10⟩, h11, fs, h12, h13⟩ := h
  refine ⟨t, ⟨s.1.trans h2.1, h2.2.1, fun k u hk => ?_⟩, ⟨s.2.1.trans h3.1, h3.2.1, fun k u hk => ?_⟩, h4.vx v, h5.vx v, h6, ⟨v.1.2.2.2.2.trans h7, h8, h9, h10⟩, h11.im v.2.2.2.1, fs, (v.nx h10).trans h12, h13⟩
  · obtain ⟨a1, ix, nm, mu, ty, a2, a3, a4, a5⟩ := h2.2.2 k u hk
    exact ⟨by rw [s.2.2.1]; exact a1, ix, nm, mu, ty, s.2.2.2 _ _ _ _ _ a2, a3, a4, fun x q => (a5 x q).im v.2.2.2.1⟩
  · obtain ⟨a0, nm, mu, ty, a2, a3, a4, a5⟩ := h3.2.2 k u hk
    exact ⟨a0, nm, mu, ty, s.2.2.2 _ _ _ _ _ a2, a3, a4, fun x q => (a5 x q).im v.2.2.2.1⟩
theorem YS.up {c2 : Nat} (h : YS R c nv S Γ Λ fi gv) (hc : c ≤ c2) : YS R c2 nv S Γ Λ fi gv := ⟨h.1.up hc, h.2⟩
theorem YS.fl {wh x : Int32} (h : YS R c nv S Γ Λ fi gv) : YS R c nv (flS S wh x) Γ Λ fi gv := h.vx (p := 0) (q := 0) h.1.fl VX.fl VS.fl
/-- a statement's own token -/
theorem own_s {F : Nat → va_E} {a : Nat} {kd : Int32} {tk : Nat} {nm mu rf : Int32} {wr ex pl bl cs bs ar : Value} {mn : Nat} (hF : F a = sxC kd tk nm mu rf wr ex pl bl cs bs ar mn) (ht : tk ≤ 100000) : ownT F a = some tk := by
  unfold ownT
  rw [hF]
  show (if 19 = 15 then _ else if 19 = 19 then some (nI tk).toNatClampNeg else _) = _
  rw [if_neg (by decide), if_pos rfl, nI_clamp (by omega)]
/-- behind a statement -/
def StP (R : yR) (c nv : Nat) (S : Sg) (Γ Λ : List Nat) (fi gv n tg a p q b b2 v w : Nat) (κ : Nat × Nat × Nat) (S2 : Sg) : Prop := ∃ c2 nv2 : Nat, c2 ≤ c + (q - p) ∧ nv2 ≤ nv + (w - v) ∧ TS R c2 nv2 S2 ∧ VX R (Xo R p q) S S2 ∧ (Zi S2 3 = 0 → ∃ Γ2 Λ2 : List Nat, YS R (c + (q - p)) (nv + (w - v)) S2 Γ2 Λ2 fi gv ∧ pfx Λ Λ2 ∧ Λ2.length = w ∧ (∀ k : Nat, k < Γ.length → Zq S2 22 k = Zq S 22 k) ∧ sN R S2 Λ2 gv n tg a p q b b2 v w Γ Γ2 κ)
theorem StP.bad {n tg a p q b b2 v w c2 nv2 : Nat} {κ : Nat × Nat × Nat} (hc : c2 ≤ c + (q - p)) (hn : nv2 ≤ nv + (w - v)) (t : TS R c2 nv2 S2) (hv : VX R (Xo R p q) S S2) (hz : ¬ Zi S2 3 = 0) : StP R c nv S Γ Λ fi gv n tg a p q b b2 v w κ S2 := ⟨c2, nv2, hc, hn, t, hv, fun z => absurd z hz⟩
/-- an exp of a statement -/
theorem vst_ (hK : yRm R) (hv : nv ≤ 10000) (h : YS R c nv S Γ Λ fi gv) {x p' q' b b2 : Nat} (hc : c + (q' - p') ≤ 1990) (hE : isE (ZL R.S) (ZF R.S) (R.K.1 9) (R.K.1 0) 408 16 x p' q' b b2) (hU : Unt R S p' q') (hq : q' ≤ R.T) : Rt (f_value R.K 410 S (some x)) (fun S2 r => ∃ t : Nat, r = some t ∧ YS R (c + (q' - p')) nv S2 Γ Λ fi gv ∧ VX R (Xo R p' q') S S2 ∧ VS S S2 ∧ (∃ (kd ix : Int32) (o : Option Nat), isTy S2 t kd ix o) ∧ (Zi S2 3 = 0 → xE R S2 Γ 408 16 x p' q' b b2 t)) := by
  refine (val_ hK hv hc h.1 h.2.1 h.2.2.2.1 hE hU hq).mo (fun S2 r q => ?_)
  obtain ⟨t, rfl, y1, y2⟩ := q
  exact ⟨t, rfl, h.vx y1.1 y1.2.1 y1.2.2.1, y1.2.1, y1.2.2.1, y1.2.2.2, y2⟩
theorem xE_ty {n kk e p q b b2 t : Nat} (h : xE R S Γ n kk e p q b b2 t) : xTy S t := by
  cases n with
  | zero => exact h.elim
  | succ n => exact h.2.1
/-- an exp statement, a print -/
theorem tex_ (hK : yRm R) (hv : nv ≤ 10000) (h : YS R c nv S Γ Λ fi gv) {n a p q b b2 v x p' q' : Nat} {kd : Int32} (hz : Zi S 3 = 0) (hΛ : Λ.length = v) (hc : c + (q - p) ≤ 1990) (ha : a ∈ ZL R.S) (hG : ZF R.S a = sxC kd p 0 0 0 .null (.ref x) .null .null .null .null .null 0) (hF : ZF S a = ZF R.S a) (hpq : p < q) (hp : p ≤ p') (hq' : q' < q) (hE : isE (ZL R.S) (ZF R.S) (R.K.1 9) (R.K.1 0) 408 16 x p' q' b b2) (hU : Unt R S p q) (hq : q ≤ R.T) : (kd = 1 → Rt ((oR S 19 (some a) 6).bind fun v4 => bnd (f_value R.K 410 S v4) fun S5 v6 => some (S5, ())) (fun S2 _ => StP R c nv S Γ Λ fi gv (n + 1) 0 a p q b b2 v v (0, 0, 0) S2)) ∧ (kd = 7 → Rt ((oR S 19 (some a) 6).bind fun v21 => bnd (f_value R.K 410 S v21) fun S22 v23 => bnd (f_ok R.K S22) fun S24 v25 => if v25 = 0 then some (S24, ()) else ((oI S24 20 v23 0).bind fun v26 => if v26 = 0 then some (S24, ()) else ((oI S24 20 v23 0).bind fun v27 => if v27 = 1 then some (S24, ()) else ((oR S24 19 (some a) 6).bind fun v28 => (oI S24 15 v28 1).bind fun v29 => bnd (f_fail R.K S24 4 v29) fun S30 v31 => some (S30, ()))))) (fun S2 _ => StP R c nv S Γ Λ fi gv (n + 1) 0 a p q b b2 v v (0, 0, 0) S2)) := by
  have hT := h.1.tb
  have hlt := (isE_mem hE).2
  have ho : ownT (ZF R.S) a = some p := own_s hG (by omega)
  have c1 : ZF S a = sxC kd p 0 0 0 .null (.ref x) .null .null .null .null .null 0 := hF.trans hG
  have he1 := h.1.L ha
  have hval := vst_ hK hv h (show c + (q' - p') ≤ 1990 by omega) hE (hU.su hp (by omega)) (by omega)
  have hfin : ∀ (S2 : Sg) (t : Nat), YS R (c + (q' - p')) nv S2 Γ Λ fi gv → VX R (Xo R p' q') S S2 → VS S S2 → (Zi S2 3 = 0 → xE R S2 Γ 408 16 x p' q' b b2 t) → (Zi S2 3 = 0 → kd = 1 ∨ (kd = 7 ∧ (isTy S2 t 0 0 none ∨ isTy S2 t 1 0 none))) → StP R c nv S Γ Λ fi gv (n + 1) 0 a p q b b2 v v (0, 0, 0) S2 := fun S2 t y1 y2 y3 y4 y5 => by
    refine ⟨c + (q' - p'), nv, by omega, by omega, y1.1, y2.mo (fun a w => Xo_mo w hp (by omega)), fun z => ⟨Γ, Λ, by rw [Nat.sub_self, Nat.add_zero]; exact y1.up (by omega), pfx.rf, hΛ, fun k _ => by rw [y3.2.2.1.1], ⟨ha, ho, hpq⟩, Or.inr (Or.inl ⟨kd, x, p', q', t, y5 z, ?_, hp, hq', y4 z, rfl, rfl⟩)⟩⟩
    exact (y3.2.2.1.2 a 19 _ (Or.inr rfl) he1 c1).2
  refine ⟨fun hk => Rt.bd (oR_mk he1 c1 (v := some x) rfl) (Rt.bn hval (fun S2 r q2 => ?_)), fun hk => Rt.bd (oR_mk he1 c1 (v := some x) rfl) (Rt.bn hval (fun S2 r q2 => ?_))⟩
  · obtain ⟨t, rfl, y1, y2, y3, y4, y5⟩ := q2
    exact Rt.rt (hfin S2 t y1 y2 y3 y5 (fun _ => Or.inl hk))
  · obtain ⟨t, rfl, y1, y2, y3, ⟨ky, iy, oy, u1⟩, y5⟩ := q2
    have u1' := u1
    obtain ⟨ti, e1, e2, e3, e4⟩ := u1
    have c2 := (y3.2.2.1.2 a 19 _ (Or.inr rfl) he1 c1).2
    refine Rt.ok (fun z => ?_) (fun z => Rt.rt (hfin S2 t y1 y2 y3 y5 (fun w => absurd w z)))
    refine Rt.bd (oI_mk e3 e4 (v := ky) rfl) (Rt.it (fun w => Rt.rt (hfin S2 t y1 y2 y3 y5 (fun _ => Or.inr ⟨hk, Or.inl ?_⟩))) (fun _ => Rt.bd (oI_mk e3 e4 (v := ky) rfl) (Rt.it (fun w => Rt.rt (hfin S2 t y1 y2 y3 y5 (fun _ => Or.inr ⟨hk, Or.inr ?_⟩))) (fun _ => ?_))))
    · subst w
      obtain ⟨a1, a2⟩ := yOK_0 (y1.1.at (by omega) u1').1 (by decide)
      rw [a1, a2] at u1'; exact u1'
    · subst w
      obtain ⟨a1, a2⟩ := yOK_0 (y1.1.at (by omega) u1').1 (by decide)
      rw [a1, a2] at u1'; exact u1'
    · obtain ⟨vs, g1, g2⟩ := isE_tok hE
      obtain ⟨k1, gs, k2, k3, k4, k5⟩ := y1.1.ob (isE_mem hE).1 g1
      refine Rt.bd (oR_mk (y1.1.L ha) c2 (v := some x) rfl) (Rt.bd (oI_mk k1 k2 ((k4 1 rfl).trans g2)) (Rt.be (fai_ y1.1 (by omega)) (Rt.rt (StP.bad (c2 := c + (q' - p')) (by omega) (by omega) y1.1.fl ((y2.mo (fun a w => Xo_mo w hp (by omega))).n VX.fl) (flS_n0 (by decide))))))
/-- return -/
theorem trt_ (hK : yRm R) (hv : nv ≤ 10000) (h : YS R c nv S Γ Λ fi gv) {n a p q b b2 v : Nat} {ex : Value} (hz : Zi S 3 = 0) (hΛ : Λ.length = v) (hc : c + (q - p) ≤ 1990) (ha : a ∈ ZL R.S) (hG : ZF R.S a = sxC 6 p 0 0 0 .null ex .null .null .null .null .null 0) (hF : ZF S a = ZF R.S a) (hpq : p < q) (hE : oxE (isE (ZL R.S) (ZF R.S) (R.K.1 9) (R.K.1 0) 408 16) ex p q b b2) (h19 : Zr R.S 5 p = 19) (hU : Unt R S p q) (hq : q ≤ R.T) : Rt (f_typeReturn R.K S (some a)) (fun S2 _ => StP R c nv S Γ Λ fi gv (n + 1) 0 a p q b b2 v v (0, 0, 0) S2) := by
  have hT := h.1.tb
  have ho : ownT (ZF R.S) a = some p := own_s hG (by omega)
  have c1 : ZF S a = sxC 6 p 0 0 0 .null ex .null .null .null .null .null 0 := hF.trans hG
  have he1 := h.1.L ha
  have hh := h
  obtain ⟨h1, h2, h3, h4, h5, h6, ⟨h7, h8, h9, h10⟩, h11, fs, h12, h13⟩ := h
  unfold f_typeReturn
  rcases hE with ⟨w1, w2⟩ | ⟨x, p', q', w1, w2, w3, w4⟩
  · subst w1
    obtain ⟨kg, ig, og, u1⟩ := h11.ty
    have u1' := u1
    obtain ⟨ti, e1, e2, e3, e4⟩ := u1
    rw [h7]
    unfold f_typeReturn_31
    refine Rt.bd (oR_mk he1 c1 (v := none) rfl) (Rt.ip rfl (Rt.bd (oR_mk (v := some gv) (h1.L h10.1) h12 h13) (Rt.bd (oI_mk e3 e4 (v := kg) rfl) (Rt.it (fun w => Rt.rt ?_) (fun w => ?_)))))
    · subst w
      obtain ⟨a1, a2⟩ := yOK_0 (h1.at (by omega) u1').1 (by decide)
      rw [a1, a2] at u1'
      exact ⟨c, nv, by omega, by omega, h1, VX.rf, fun z => ⟨Γ, Λ, by rw [Nat.sub_self, Nat.add_zero]; exact hh.up (by omega), pfx.rf, hΛ, fun _ _ => rfl, ⟨ha, ho, hpq⟩, Or.inr (Or.inr (Or.inr (Or.inr (Or.inr (Or.inr (Or.inl ⟨.null, c1, Or.inl ⟨rfl, w2, u1'⟩, rfl, rfl, h19⟩))))))⟩⟩
    · exact Rt.bd (oI_mk he1 c1 (v := nI p) rfl) (Rt.be (fai_ h1 (by omega)) (Rt.rt (StP.bad (c2 := c) (by omega) (by omega) h1.fl VX.fl (flS_n0 (by decide)))))
  · subst w1
    have hlt := (isE_mem w4).2
    unfold f_typeReturn_80
    refine Rt.bd (oR_mk he1 c1 (v := some x) rfl) (Rt.iq (by simp) (Rt.bd (oR_mk he1 c1 (v := some x) rfl) (Rt.bn (vst_ hK hv hh (show c + (q' - p') ≤ 1990 by omega) w4 (hU.su (by omega) (by omega)) (by omega)) (fun S2 r q2 => ?_))))
    obtain ⟨t, rfl, y1, y2, y3, ⟨ky, iy, oy, u1⟩, y5⟩ := q2
    have c2 := (y3.2.2.1.2 a 19 _ (Or.inr rfl) he1 c1).2
    have v2 : VX R (Xo R p q) S S2 := y2.mo (fun a w => Xo_mo w (by omega) (by omega))
    refine Rt.ok (fun z => ?_) (fun z => Rt.rt (StP.bad (c2 := c + (q' - p')) (by omega) (by omega) y1.1 v2 z))
    obtain ⟨g1, g2, g3, g4, g5, g6, ⟨g7, g8, g9, g10⟩, g11, fs2, g12, g13⟩ := y1
    have h68 : Rt (f_typeReturn_68 R.K S2 (some a)) (fun S2 _ => StP R c nv S Γ Λ fi gv (n + 1) 0 a p q b b2 v v (0, 0, 0) S2) := by
      obtain ⟨vs, k1, k2⟩ := isE_tok w4
      obtain ⟨m1, gs, m2, m3, m4, m5⟩ := g1.ob (isE_mem w4).1 k1
      unfold f_typeReturn_68 f_typeReturn_80
      exact Rt.bd (oR_mk (g1.L ha) c2 (v := some x) rfl) (Rt.bd (oI_mk m1 m2 ((m4 1 rfl).trans k2)) (Rt.be (fai_ g1 (by omega)) (Rt.rt (StP.bad (c2 := c + (q' - p')) (by omega) (by omega) g1.fl (v2.n VX.fl) (flS_n0 (by decide))))))
    have u1' := u1
    obtain ⟨ti, e1, e2, e3, e4⟩ := u1
    rw [g7]
    refine Rt.bd (oR_mk (v := some gv) (g1.L g10.1) g12 g13) (Rt.it (fun w => ?_) (fun _ => h68))
    refine Rt.bd (oI_mk e3 e4 (v := ky) rfl) (Rt.it (fun _ => h68) (fun w8 => Rt.rt ?_))
    have htg : t = gv := Option.some.inj w
    subst htg
    have hx := y5 z
    exact ⟨c + (q' - p'), nv, by omega, by omega, g1, v2, fun _ => ⟨Γ, Λ, by rw [Nat.sub_self, Nat.add_zero]; exact YS.up (c := c + (q' - p')) ⟨g1, g2, g3, g4, g5, g6, ⟨g7, g8, g9, g10⟩, g11, fs2, g12, g13⟩ (by omega), pfx.rf, hΛ, fun k _ => by rw [y3.2.2.1.1], ⟨ha, ho, hpq⟩, Or.inr (Or.inr (Or.inr (Or.inr (Or.inr (Or.inr (Or.inl ⟨.ref x, c2, Or.inr ⟨x, p', q', rfl, w2, w3, hx, (xE_ty hx).r u1' w8⟩, rfl, rfl, h19⟩))))))⟩⟩
end STT
