section TLT
variable {R : yR} {c nv : Nat} {S S2 : Sg} {Γ Λ : List Nat} {fi gv : Nat}
/-- a written type is as it was read -/
theorem TS.w22 (h : TS R c nv S) {a : Nat} {fs : List Value} (ha : a ∈ ZL R.S) (hG : ZF R.S a = .inr (22, fs)) : a ∈ ZL S ∧ ZF S a = .inr (22, fs) := by
  obtain ⟨g0, gs, g1, g2, g3, g4⟩ := h.ob ha hG
  rw [show gs = fs from List.ext_getElem? (fun k => g3 k rfl)] at g1
  exact ⟨g0, g1⟩
/-- noLife -/
theorem nol_ (h : TS R c nv S) {n t p' q' : Nat} (hw : isT (ZL R.S) (ZF R.S) (Zr R.S 5) n t p' q') (hq : q' ≤ R.T) : Rt (f_noLife R.K S (some t)) (fun S2 _ => S2 = S ∨ ∃ x : Int32, S2 = flS S 4 x) := by
  cases n with
  | zero => exact hw.elim
  | succ n =>
  have hlt := isT_lt hw
  unfold f_noLife f_noLife_32
  refine Rt.ok (fun z => ?_) (fun z => Rt.rt (Or.inl rfl))
  rcases hw.2 with ⟨k1, k2, k3⟩ | ⟨k0, o, k1, k2⟩ | ⟨k0, o, p2, mu, lf, k1, k2, k3, k4, k5⟩
  · obtain ⟨g1, g2⟩ := h.w22 hw.1 k1
    refine Rt.bd (oI_mk g1 g2 rfl) (Rt.iq (fun w => ?_) (Rt.rt (Or.inl rfl)))
    rw [w] at k2
    exact absurd k2 (by decide)
  · obtain ⟨g1, g2⟩ := h.w22 hw.1 k1
    refine Rt.bd (oI_mk g1 g2 rfl) (Rt.iq (fun w => ?_) (Rt.rt (Or.inl rfl)))
    rw [w] at k0
    exact absurd k0 (by decide)
  · obtain ⟨g1, g2⟩ := h.w22 hw.1 k1
    have hl2 := isT_lt k5
    refine Rt.bd (oI_mk g1 g2 rfl) (Rt.ip k0 (Rt.bd (oI_mk g1 g2 (v := lf) rfl) (Rt.it (fun _ => Rt.rt (Or.inl rfl)) (fun w => Rt.bd (oI_mk g1 g2 (v := lf) rfl) ?_))))
    rcases k4 with e | e
    · subst e; exact absurd (show (-1 : Int32) < 0 by decide) w
    · subst e
      exact Rt.be (fai_ h (show p' + 1 < R.T by omega)) (Rt.rt (Or.inr ⟨_, rfl⟩))
/-- a let -/
theorem tlt_ (hK : yRm R) (h : YS R c nv S Γ Λ fi gv) {n a p q b b2 v nm pm : Nat} {mu : Int32} {wr ex : Value} (hz : Zi S 3 = 0) (hΛ : Λ.length = v) (hv40 : v < 40) (hnv : nv < 10000) (hc : c + (q - p) ≤ 1990) (ha : a ∈ ZL R.S) (hG : ZF R.S a = sxC 0 p (nI nm) mu 0 wr ex .null .null .null .null .null 0) (hF : ZF S a = ZF R.S a) (hpq : p < q) (hn1 : p < nm) (hn2 : nm < q) (hmu : mu = 0 ∨ mu = 1) (hpm : p ≤ pm ∧ pm < q) (hw : wr = .null ∨ ∃ t p' q' : Nat, wr = .ref t ∧ p < p' ∧ q' ≤ pm ∧ isT (ZL R.S) (ZF R.S) (Zr R.S 5) 17 t p' q') (hE : oxE (isE (ZL R.S) (ZF R.S) (R.K.1 9) (R.K.1 0) 408 16) ex pm q b b2) (hU : Unt R S p q) (hq : q ≤ R.T) : Rt (f_typeLet R.K S (some a)) (fun S2 _ => StP R c nv S Γ Λ fi gv (n + 1) 0 a p q b b2 v (v + 1) (0, 0, 0) S2) := by
  have hT := h.1.tb
  have ho : ownT (ZF R.S) a = some p := own_s hG (by omega)
  have c1 : ZF S a = sxC 0 p (nI nm) mu 0 wr ex .null .null .null .null .null 0 := hF.trans hG
  have he1 := h.1.L ha
  obtain ⟨mun, hm1, hm2⟩ : ∃ m : Nat, mu = nI m ∧ m ≤ 1 := by
    rcases hmu with e | e <;> subst e
    · exact ⟨0, rfl, by omega⟩
    · exact ⟨1, rfl, by omega⟩
  -- the end
  have h101 : ∀ (S3 : Sg) (c3 : Nat) (ty : Option Nat), c3 ≤ c + (q - p) → YS R c3 nv S3 Γ Λ fi gv → VX R (Xo R p q) S S3 → VS S S3 → (Zi S3 3 = 0 → (∀ x : Nat, ty = some x → rTy S3 x) ∧ ((ex = .null ∧ b = b2) ∨ ∃ x p' q' t : Nat, ex = .ref x ∧ pm < p' ∧ q' < q ∧ ty = some t ∧ xE R S3 Γ 408 16 x p' q' b b2 t)) → Rt (f_typeLet_101 R.K S3 (some a) ty) (fun S2 _ => StP R c nv S Γ Λ fi gv (n + 1) 0 a p q b b2 v (v + 1) (0, 0, 0) S2) := fun S3 c3 ty hc3 y3 v3 s3 g3 => by
    have c3' := (s3.2.2.1.2 a 19 _ (Or.inr rfl) he1 c1)
    unfold f_typeLet_101 f_typeLet_125
    refine Rt.ok (fun z3 => ?_) (fun z3 => Rt.rt (StP.bad hc3 (by omega) y3.1 v3 z3))
    obtain ⟨g4, g5⟩ := g3 z3
    refine Rt.bd (oI_mk c3'.1 c3'.2 (v := nI nm) rfl) (Rt.bd (oI_mk c3'.1 c3'.2 (v := mu) rfl) ?_)
    rw [hm1]
    refine Rt.bn (dcl_ hK (by omega) hnv y3 (show nm < R.T by omega) hm2 g4 (by omega)) (fun S4 r4 q4 => ?_)
    obtain ⟨y, rfl, y4, v4, z4, w4, i4⟩ := q4
    have c4 : ZF S4 a = sxC 0 p (nI nm) mu 0 wr ex .null .null .null .null .null 0 := (v4.2.1 a ha (fun w => w)).trans c3'.2
    have hobj := y4.1.ob ha hG
    obtain ⟨o1, gs, o2, o3, o4, o5⟩ := hobj
    rw [c4] at o2; cases o2
    refine Rt.bd (pV_mk (v := va_rf (some y)) o1 c4 (Nat.le_of_ble_eq_true rfl)) (Rt.rt ?_)
    have t5 := y4.1.uf ha (cs_put (k := 8) (v := va_rf (some y)) o5 rfl)
    have hne : ∀ (k : Nat) (vs : List Value), k ≠ 19 → ¬ ZF S4 a = .inr (k, vs) := fun k vs hk w => by rw [c4] at w; cases w; exact hk rfl
    have v5 : VX R (Xo R p q) S4 (UF S4 a (.inr (19, ([.int 0, .int (nI p), .int (nI nm), .int mu, .int 0, wr, ex, .null, .null, .null, .null, .null, .null, .int (nI 0)] : List Value).set 8 (va_rf (some y))))) := VX.uf (Or.inl ⟨p, ho, Nat.le_refl _, hpq⟩) (fun vs => hne _ _ (by decide)) (fun vs => hne _ _ (by decide))
    have s5 : VW S4 (UF S4 a (.inr (19, ([.int 0, .int (nI p), .int (nI nm), .int mu, .int 0, wr, ex, .null, .null, .null, .null, .null, .null, .int (nI 0)] : List Value).set 8 (va_rf (some y))))) := ⟨rfl, rfl, rfl, fun u ix nm ty mu q => ⟨q.1, (ZF_n (fun e => hne 21 _ (by decide) (e ▸ q.2))).trans q.2⟩⟩
    have f5 : ∀ b9 : Nat, b9 ≠ a → ZF (UF S4 a (.inr (19, ([.int 0, .int (nI p), .int (nI nm), .int mu, .int 0, wr, ex, .null, .null, .null, .null, .null, .null, .int (nI 0)] : List Value).set 8 (va_rf (some y))))) b9 = ZF S4 b9 := fun _ hb => ZF_n hb
    have e5 : ZF (UF S4 a (.inr (19, ([.int 0, .int (nI p), .int (nI nm), .int mu, .int 0, wr, ex, .null, .null, .null, .null, .null, .null, .int (nI 0)] : List Value).set 8 (va_rf (some y))))) a = stC 0 p (nI nm) mu 0 wr ex .null (.ref y) .null .null .null .null 0 := ZF_s
    have z5 : Zq (UF S4 a (.inr (19, ([.int 0, .int (nI p), .int (nI nm), .int mu, .int 0, wr, ex, .null, .null, .null, .null, .null, .null, .int (nI 0)] : List Value).set 8 (va_rf (some y))))) 22 = Zq S4 22 := rfl
    have v35 := v4.b v5
    refine ⟨c3, nv + 1, hc3, by omega, t5, v3.tr v35 (fun _ w => w), fun _ => ⟨Γ ++ [y], Λ ++ [y], ?_, pfx.add, by rw [List.length_append, hΛ]; rfl, fun k hk => ?_, ⟨ha, ho, hpq⟩, Or.inl ⟨nm, y, mu, wr, ex, e5, ?_, rfl, ⟨rfl, hn1, hn2⟩, ?_⟩⟩⟩
    · rw [show nv + (v + 1 - v) = nv + 1 by omega]
      exact (y4.vw (y4.1.uf ha (cs_put (k := 8) (v := va_rf (some y)) o5 rfl)) v5 s5).up hc3
    · rw [z5, w4 k hk, s3.2.2.1.1]
    · rw [List.getElem?_append_right (by omega), hΛ, Nat.sub_self]; rfl
    · rcases g5 with g5 | ⟨x, p', q', t, d1, d2, d3, d4, d5⟩
      · exact Or.inl g5
      · refine Or.inr ⟨x, p', q', t, nI mun, d1, by omega, d3, xE_vx v35 d5 (fun b9 b1 ⟨t9, b2, b3, b4⟩ b5 => ?_), (g4 t d4).im v35.2.2.2.1, ?_⟩
        · have hba : b9 ≠ a := fun w => by rw [w, ho] at b2; cases b2; omega
          exact (f5 b9 hba).trans (v4.2.1 b9 b1 (fun w => w))
        · rw [d4, hΛ] at i4
          exact s5.2.2.2 _ _ _ _ _ i4
  have h36 : ∀ (S3 : Sg) (c3 : Nat) (ty : Option Nat), c3 ≤ c + (pm - p) → YS R c3 nv S3 Γ Λ fi gv → VX R nX S S3 → VS S S3 → (Zi S3 3 = 0 → ∀ x : Nat, ty = some x → rTy S3 x) → Rt (f_typeLet_36 R.K S3 (some a) ty) (fun S2 _ => StP R c nv S Γ Λ fi gv (n + 1) 0 a p q b b2 v (v + 1) (0, 0, 0) S2) := fun S3 c3 ty hc3 y3 v3 s3 g3 => by
    have c3' := (s3.2.2.1.2 a 19 _ (Or.inr rfl) he1 c1)
    unfold f_typeLet_36
    refine Rt.ok (fun z3 => ?_) (fun z3 => h101 S3 c3 ty (by omega) y3 v3.x s3 (fun w => absurd w z3))
    rcases hE with ⟨w1, w2⟩ | ⟨x, p', q', w1, w2, w3, w4⟩
    · subst w1
      exact Rt.bd (oR_mk c3'.1 c3'.2 (v := none) rfl) (Rt.ip rfl (h101 S3 c3 ty (by omega) y3 v3.x s3 (fun z => ⟨g3 z, Or.inl ⟨rfl, w2⟩⟩)))
    · subst w1
      have hlt := (isE_mem w4).2
      have hU3 : Unt R S3 p' q' := fun a9 ha9 w9 => (v3.2.1 a9 ha9 (fun w => w)).trans (hU a9 ha9 (Xo_mo w9 (by omega) (by omega)))
      refine Rt.bd (oR_mk c3'.1 c3'.2 (v := some x) rfl) (Rt.iq (by simp) (Rt.bd (oR_mk c3'.1 c3'.2 (v := some x) rfl) (Rt.bn (vst_ hK (by omega) y3 (show c3 + (q' - p') ≤ 1990 by omega) w4 hU3 (by omega)) (fun S4 r4 q4 => ?_))))
      obtain ⟨t, rfl, y4, v4, s4, ⟨ky, iy, oy, u1⟩, x4⟩ := q4
      have v4' : VX R (Xo R p q) S S4 := v3.b (v4.mo (fun a w => Xo_mo w (by omega) (by omega)))
      have s34 := s3.tr s4
      unfold f_typeLet_87 f_typeLet_99
      have hbad : ∀ S5 : Sg, ¬ Zi S5 3 = 0 → YS R (c3 + (q' - p')) nv S5 Γ Λ fi gv → VX R (Xo R p q) S S5 → VS S S5 → Rt (f_typeLet_101 R.K S5 (some a) (some t)) (fun S2 _ => StP R c nv S Γ Λ fi gv (n + 1) 0 a p q b b2 v (v + 1) (0, 0, 0) S2) := fun S5 z5 y5 v5 s5 => h101 S5 _ _ (by omega) y5 v5 s5 (fun w => absurd w z5)
      have hgood : Zi S4 3 = 0 → ky ≠ 8 → Rt (f_typeLet_101 R.K S4 (some a) (some t)) (fun S2 _ => StP R c nv S Γ Λ fi gv (n + 1) 0 a p q b b2 v (v + 1) (0, 0, 0) S2) := fun z4 h8 => h101 S4 _ _ (by omega) y4 v4' s34 (fun z => ⟨fun x9 e9 => by cases e9; exact (xE_ty (x4 z)).r u1 h8, Or.inr ⟨x, p', q', t, rfl, w2, w3, rfl, x4 z⟩⟩)
      have hfail : Rt ((oR S4 19 (some a) 6).bind fun v18 => (oI S4 15 v18 1).bind fun v19 => bnd (f_fail R.K S4 4 v19) fun S20 v21 => f_typeLet_101 R.K S20 (some a) (some t)) (fun S2 _ => StP R c nv S Γ Λ fi gv (n + 1) 0 a p q b b2 v (v + 1) (0, 0, 0) S2) := by
        have c4' := (s34.2.2.1.2 a 19 _ (Or.inr rfl) he1 c1)
        obtain ⟨vs, k1, k2⟩ := isE_tok w4
        obtain ⟨m1, gs, m2, m3, m4, m5⟩ := y4.1.ob (isE_mem w4).1 k1
        exact Rt.bd (oR_mk c4'.1 c4'.2 (v := some x) rfl) (Rt.bd (oI_mk m1 m2 ((m4 1 rfl).trans k2)) (Rt.be (fai_ y4.1 (by omega)) (hbad _ (flS_n0 (by decide)) y4.fl (v4'.n VX.fl) (s34.tr VS.fl))))
      refine Rt.ok (fun z4 => ?_) (fun z4 => hbad S4 z4 y4 v4' s34)
      obtain ⟨ti, e1, e2, e3, e4⟩ := u1
      cases ty with
      | none => exact Rt.ip rfl (Rt.bd (oI_mk e3 e4 (v := ky) rfl) (Rt.it (fun _ => hfail) (fun w => hgood z4 w)))
      | some ty =>
        refine Rt.iq (by simp) (Rt.it (fun w => hgood z4 ?_) (fun _ => hfail))
        cases w
        obtain ⟨k9, i9, o9, r1, r2⟩ := (g3 z3 t rfl).ty
        have r3 := v4.2.2.2.1 _ _ _ _ r1
        rw [(isTy_fn ⟨ti, e1, e2, e3, e4⟩ r3).1]; exact r2
  unfold f_typeLet f_typeLet_20
  rcases hw with hw | ⟨t, p', q', w1, w2, w3, w4⟩
  · subst hw
    refine Rt.bd (oR_mk he1 c1 (v := none) rfl) (Rt.ip rfl (Rt.bd (oR_mk he1 c1 (v := none) rfl) (Rt.ip rfl (h36 S c none (by omega) h VX.rf VS.rf (fun _ x e => by cases e)))))
  · subst w1
    have hlt := isT_lt w4
    refine Rt.bd (oR_mk he1 c1 (v := some t) rfl) (Rt.iq (by simp) (Rt.bd (oR_mk he1 c1 (v := some t) rfl) (Rt.bn (rsv_ hK (by omega) h.1 (show 17 ≤ 20 by decide) w4 (by omega) (by omega)) (fun S3 r3 q3 => ?_))))
    obtain ⟨x, rfl, t3, v3, s3, y3, g3⟩ := q3
    have c3' := (s3.2.2.1.2 a 19 _ (Or.inr rfl) he1 c1)
    have hy3 : YS R (c + (q' - p')) nv S3 Γ Λ fi gv := h.vx (p := 0) (q := 0) t3 v3.x s3
    refine Rt.bd (oR_mk c3'.1 c3'.2 (v := some t) rfl) (Rt.iq (by simp) (Rt.bd (oR_mk c3'.1 c3'.2 (v := some t) rfl) (Rt.bn (nol_ t3 w4 (by omega)) (fun S4 r4 q4 => ?_))))
    rcases q4 with q4 | ⟨x4, q4⟩
    · subst q4
      exact h36 S4 _ (some x) (by omega) hy3 v3 s3 (fun z x9 e9 => by cases e9; exact (g3 z).1)
    · subst q4
      exact h36 _ _ (some x) (by omega) hy3.fl (v3.n VX.fl) (s3.tr VS.fl) (fun z => absurd z (flS_n0 (by decide)))
end TLT
