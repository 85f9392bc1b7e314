theorem yOK_0 {im : Nat} {ik : Nat → Int32} {kd ix : Int32} {o : Option Nat} (h : yOK im ik (kd, ix, o)) (hk : kd = 0 ∨ kd = 1 ∨ kd = 2 ∨ kd = 8) : ix = 0 ∧ o = none := by
  rcases h with ⟨_, w1, w2⟩ | ⟨w, _⟩ | ⟨w, _⟩ | ⟨w, _⟩
  · exact ⟨w1, w2⟩
  · have w : kd = 3 := w
    rcases hk with e | e | e | e <;> subst e <;> exact absurd w (by decide)
  · have w : kd = 4 := w
    rcases hk with e | e | e | e <;> subst e <;> exact absurd w (by decide)
  · have w : kd = 5 ∨ kd = 6 ∨ kd = 7 := w
    rcases hk with e | e | e | e <;> subst e <;> exact absurd w (by decide)
/-- what value gives -/
def VaP (R : yR) (Γ : List Nat) (c nv : Nat) (S : Sg) (n kk e p q b b2 : Nat) (S2 : Sg) (r : Option Nat) : Prop := ∃ x : Nat, r = some x ∧ yXP R (c + (q - p)) nv S p q S2 x ∧ (Zi S2 3 = 0 → xE R S2 Γ n kk e p q b b2 x)
/-- value, for exps of the depth n -/
def VH (R : yR) (Γ : List Nat) (nv n : Nat) (V : Sg → Option Nat → Option (Sg × Option Nat)) : Prop := ∀ {c : Nat} {S : Sg} {kk e p q b b2 : Nat}, c + (q - p) ≤ 1990 → TS R c nv S → SCO R S Γ → ITA R S → isE (ZL R.S) (ZF R.S) (R.K.1 9) (R.K.1 0) n kk e p q b b2 → Unt R S p q → q ≤ R.T → Rt (V S (some e)) (VaP R Γ c nv S n kk e p q b b2)
section VAL
variable {R : yR} {Γ : List Nat} {c nv : Nat}
theorem yXP.up {S S2 : Sg} {p q x c2 : Nat} (h : yXP R c nv S p q S2 x) (hc : c ≤ c2) : yXP R c2 nv S p q S2 x := ⟨h.1.up hc, h.2⟩
theorem VaP.bad {S S2 : Sg} {n kk e p q b b2 x c1 : Nat} (h : yXP R c1 nv S p q S2 x) (hc : c1 ≤ c + (q - p)) (hz : ¬ Zi S2 3 = 0) : VaP R Γ c nv S n kk e p q b b2 S2 (some x) := ⟨x, rfl, h.up hc, fun w => absurd w hz⟩
/-- its type is told -/
theorem ftl_ {S S1 : Sg} {n kk e p q b b2 t x c1 : Nat} {fs gs : List Value} (h : TS R c1 nv S1) (hc : c1 ≤ c + (q - p)) (hv : VX R (Xo R p q) S S1) (hs : VS S S1) (hx : ∃ (kd ix : Int32) (o : Option Nat), isTy S1 x kd ix o) (he : e ∈ ZL R.S) (hG : ZF R.S e = .inr (15, fs)) (hl : fs.length = 14) (ho : ownT (ZF R.S) e = some t) (h1 : p ≤ t) (h2 : t < q) (hF : ZF S1 e = .inr (15, gs)) (k : ∀ S2 : Sg, VX R (Xo R p q) S1 S2 → (∀ a : Nat, a ≠ e → ZF S2 a = ZF S1 a) → ZF S2 e = .inr (15, gs.set 12 (.ref x)) → Zi S1 3 = 0 → xE R S2 Γ n kk e p q b b2 x) : Rt (bnd (f_told R.K S1 (some e) (some x)) fun S3 v => some (S3, v)) (VaP R Γ c nv S n kk e p q b b2) := by
  obtain ⟨gs2, g1, g2, g3⟩ := tol_ (K := R.K) h he hG hl ho h1 h2 hx
  rw [hF] at g1; cases g1
  exact Rt.be g2 (Rt.rt ⟨x, rfl, yXP.up ⟨g3.1, hv.tr g3.2.1 (fun _ w => w), hs.tr g3.2.2.1, g3.2.2.2⟩ hc, fun z => k _ g3.2.1 (fun a ha => ZF_n ha) ZF_s z⟩)
/-- not, minus, token -/
theorem opd_ (hK : yRm R) (hv : nv ≤ 10000) {V : Sg → Option Nat → Option (Sg × Option Nat)} {n : Nat} (hV : VH R Γ nv n V) {S : Sg} {kk e p q b b2 o p' q' : Nat} {kd ask giv : Int32} (hk : (kd = 4 ∧ ask = 0 ∧ giv = 2) ∨ (kd = 9 ∧ ask = 1 ∧ giv = 1) ∨ (kd = 10 ∧ ask = 0 ∧ giv = 0)) (hc : c + (q - p) ≤ 1990) (h : TS R c nv S) (hS : SCO R S Γ) (hI : ITA R S) (he : e ∈ ZL R.S) (hG : ZF R.S e = xpC kd p 0 0 0 0 (.ref o) .null .null 0) (hF : ZF S e = ZF R.S e) (hp : p < p') (hq' : q' ≤ q) (hpq : p < q) (hE : isE (ZL R.S) (ZF R.S) (R.K.1 9) (R.K.1 0) n kk o p' q' b b2) (hU : Unt R S p q) (hq : q ≤ R.T) : Rt (f_operand R.K V S (some e) ask giv) (VaP R Γ c nv S (n + 1) kk e p q b b2) := by
  have hT := h.tb
  have ho : ownT (ZF R.S) e = some p := own_a hG (by rcases hk with ⟨w, _⟩ | ⟨w, _⟩ | ⟨w, _⟩ <;> subst w <;> decide) (by rcases hk with ⟨w, _⟩ | ⟨w, _⟩ | ⟨w, _⟩ <;> subst w <;> decide) (by omega)
  have c1 : ZF S e = xpC kd p 0 0 0 0 (.ref o) .null .null 0 := hF.trans hG
  have hne : ¬ Xo R p' q' e := own_n ho ⟨_, hG⟩ (Nat.le_refl p) (Nat.lt_succ_self p) (Or.inl (by omega))
  have hgv : giv = 0 ∨ giv = 1 ∨ giv = 2 ∨ giv = 8 := by rcases hk with ⟨_, _, w⟩ | ⟨_, _, w⟩ | ⟨_, _, w⟩ <;> subst w <;> decide
  have hpl := (isE_mem hE).2
  unfold f_operand
  refine Rt.bd (oR_mk (h.L he) c1 (v := some o) rfl) (Rt.bn (hV (show c + (q' - p') ≤ 1990 by omega) h hS hI hE (hU.su (by omega) hq') (by omega)) (fun S2 r2 q2 => ?_))
  obtain ⟨y, rfl, y1, y2⟩ := q2
  have c2 : ZF S2 e = xpC kd p 0 0 0 0 (.ref o) .null .null 0 := (y1.2.1.2.1 e he hne).trans c1
  have v2 : VX R (Xo R p q) S S2 := y1.2.1.mo (fun a w => Xo_mo w (by omega) hq')
  -- the end
  have h35 : ∀ S4 : Sg, TS R (c + (q' - p')) nv S4 → VX R nX S2 S4 → VS S2 S4 → (Zi S4 3 = 0 → S4 = S2 ∧ isTy S2 y ask 0 none) → Rt (f_operand_35 R.K V S4 (some e) giv) (VaP R Γ c nv S (n + 1) kk e p q b b2) := fun S4 t4 v4 s4 g4 => by
    unfold f_operand_35
    refine Rt.bn (plt_ hK hv t4 hgv (by omega)) (fun S5 r5 q5 => ?_)
    obtain ⟨x, rfl, t5, x5, v5, s5, z5⟩ := q5
    have v25 := v4.n v5
    have c5 : ZF S5 e = xpC kd p 0 0 0 0 (.ref o) .null .null 0 := (v25.2.1 e he (fun w => w)).trans c2
    refine ftl_ t5 (by omega) (v2.n v25) (y1.2.2.1.tr (s4.tr s5)) ⟨_, _, _, x5⟩ he hG rfl ho (Nat.le_refl p) hpq c5 (fun S6 v6 f6 e6 z6 => ?_)
    obtain ⟨g1, g2⟩ := g4 (by rw [← z5]; exact z6)
    have hz2 : Zi S2 3 = 0 := v25.2.2.2.2.2 z6
    have x6 := v6.2.2.2.1 _ _ _ _ x5
    have v26 := v25.b v6
    have hch := xE_vx v26 (y2 hz2) (fun a a1 ⟨t, a2, a3, a4⟩ a5 => by
      have hae : a ≠ e := fun w => by rw [w, ho] at a2; cases a2; omega
      exact (f6 a hae).trans (v25.2.1 a a1 (fun w => w)))
    refine ⟨⟨he, ⟨p, ho, Nat.le_refl _, hpq⟩, hpq⟩, Or.inl (Or.inl (vTy.pl x6 (by rcases hk with ⟨_, _, w⟩ | ⟨_, _, w⟩ | ⟨_, _, w⟩ <;> subst w <;> decide))), Or.inr (Or.inr (Or.inl ⟨kd, o, p', q', y, e6, hp, hq', hch, ?_⟩))⟩
    have hy := v26.2.2.2.1 _ _ _ _ g2
    rcases hk with ⟨w1, w2, w3⟩ | ⟨w1, w2, w3⟩ | ⟨w1, w2, w3⟩ <;> subst w1 w2 w3
    · exact Or.inl ⟨rfl, hy, x6⟩
    · exact Or.inr (Or.inr (Or.inl ⟨rfl, hy, x6⟩))
    · exact Or.inr (Or.inr (Or.inr (Or.inl ⟨rfl, hy, x6⟩)))
  refine Rt.ok (fun z => ?_) (fun z => h35 S2 y1.1 VX.rf VS.rf (fun w => absurd w z))
  obtain ⟨ky, iy, oy, u1⟩ := y1.2.2.2
  have u1' := u1
  obtain ⟨ty, e1, e2, e3, e4⟩ := u1
  refine Rt.bd (oI_mk e3 e4 (v := ky) rfl) (Rt.it (fun w => h35 S2 y1.1 VX.rf VS.rf (fun _ => ⟨rfl, ?_⟩)) (fun w => ?_))
  · subst w
    obtain ⟨a1, a2⟩ := yOK_0 (y1.1.at (by omega) u1').1 (by rcases hk with ⟨_, w, _⟩ | ⟨_, w, _⟩ | ⟨_, w, _⟩ <;> subst w <;> decide)
    rw [a1, a2] at u1'
    exact u1'
  · refine Rt.bd (oI_mk (y1.1.L he) c2 rfl) (Rt.be (fai_ y1.1 (by omega)) (h35 _ y1.1.fl VX.fl VS.fl (fun w => absurd w (flS_n0 (by decide)))))
/-- box -/
theorem box_ (hK : yRm R) (hv : nv ≤ 10000) {V : Sg → Option Nat → Option (Sg × Option Nat)} {n : Nat} (hV : VH R Γ nv n V) {S : Sg} {kk e p q b b2 o p' q' : Nat} (hc : c + (q - p) ≤ 1990) (h : TS R c nv S) (hS : SCO R S Γ) (hI : ITA R S) (he : e ∈ ZL R.S) (hG : ZF R.S e = xpC 13 p 0 0 0 0 (.ref o) .null .null 0) (hF : ZF S e = ZF R.S e) (hp : p < p') (hq' : q' ≤ q) (hpq : p < q) (hE : isE (ZL R.S) (ZF R.S) (R.K.1 9) (R.K.1 0) n kk o p' q' b b2) (hU : Unt R S p q) (hq : q ≤ R.T) : Rt (f_box R.K V S (some e)) (VaP R Γ c nv S (n + 1) kk e p q b b2) := by
  have hT := h.tb
  have ho : ownT (ZF R.S) e = some p := own_a hG (by decide) (by decide) (by omega)
  have c1 : ZF S e = xpC 13 p 0 0 0 0 (.ref o) .null .null 0 := hF.trans hG
  have hne : ¬ Xo R p' q' e := own_n ho ⟨_, hG⟩ (Nat.le_refl p) (Nat.lt_succ_self p) (Or.inl (by omega))
  have hpl := (isE_mem hE).2
  unfold f_box
  refine Rt.bd (oR_mk (h.L he) c1 (v := some o) rfl) (Rt.bn (hV (show c + (q' - p') ≤ 1990 by omega) h hS hI hE (hU.su (by omega) hq') (by omega)) (fun S2 r2 q2 => ?_))
  obtain ⟨y, rfl, y1, y2⟩ := q2
  have c2 : ZF S2 e = xpC 13 p 0 0 0 0 (.ref o) .null .null 0 := (y1.2.1.2.1 e he hne).trans c1
  have v2 : VX R (Xo R p q) S S2 := y1.2.1.mo (fun a w => Xo_mo w (by omega) hq')
  have h41 : ∀ S4 : Sg, TS R (c + (q' - p')) nv S4 → VX R nX S2 S4 → VS S2 S4 → (Zi S4 3 = 0 → S4 = S2 ∧ vTy S2 y) → Rt (f_box_41 R.K V S4 (some e) (some y)) (VaP R Γ c nv S (n + 1) kk e p q b b2) := fun S4 t4 v4 s4 g4 => by
    obtain ⟨ky, iy, oy, u1⟩ := y1.2.2.2
    unfold f_box_41
    refine Rt.bn (typ_ hK hv t4 (Or.inr (Or.inr (Or.inr ⟨Or.inl rfl, rfl, y, rfl⟩))) (Or.inr ⟨y, ky, iy, oy, rfl, v4.2.2.2.1 _ _ _ _ u1⟩) (by omega)) (fun S5 r5 q5 => ?_)
    obtain ⟨x, rfl, t5, x5, v5, s5, z5⟩ := q5
    have v25 := v4.n v5
    have c5 : ZF S5 e = xpC 13 p 0 0 0 0 (.ref o) .null .null 0 := (v25.2.1 e he (fun w => w)).trans c2
    refine ftl_ t5 (by omega) (v2.n v25) (y1.2.2.1.tr (s4.tr s5)) ⟨_, _, _, x5⟩ he hG rfl ho (Nat.le_refl p) hpq c5 (fun S6 v6 f6 e6 z6 => ?_)
    obtain ⟨g1, g2⟩ := g4 (by rw [← z5]; exact z6)
    have hz2 : Zi S2 3 = 0 := v25.2.2.2.2.2 z6
    have x6 := v6.2.2.2.1 _ _ _ _ x5
    have v26 := v25.b v6
    have hch := xE_vx v26 (y2 hz2) (fun a a1 ⟨t, a2, a3, a4⟩ a5 => by
      have hae : a ≠ e := fun w => by rw [w, ho] at a2; cases a2; omega
      exact (f6 a hae).trans (v25.2.1 a a1 (fun w => w)))
    have hvy := g2.im v26.2.2.2.1
    exact ⟨⟨he, ⟨p, ho, Nat.le_refl _, hpq⟩, hpq⟩, Or.inl (Or.inl (vTy.bx x6 hvy)), Or.inr (Or.inr (Or.inl ⟨13, o, p', q', y, e6, hp, hq', hch, Or.inr (Or.inr (Or.inr (Or.inr ⟨rfl, hvy, x6⟩)))⟩))⟩
  have h32 : Rt (f_box_32 R.K V S2 (some e) (some y)) (VaP R Γ c nv S (n + 1) kk e p q b b2) := by
    unfold f_box_32
    exact Rt.bd (oI_mk (y1.1.L he) c2 rfl) (Rt.be (fai_ y1.1 (by omega)) (h41 _ y1.1.fl VX.fl VS.fl (fun w => absurd w (flS_n0 (by decide)))))
  refine Rt.ok (fun z => ?_) (fun z => h41 S2 y1.1 VX.rf VS.rf (fun w => absurd w z))
  obtain ⟨ky, iy, oy, u1⟩ := y1.2.2.2
  have u1' := u1
  obtain ⟨ty, e1, e2, e3, e4⟩ := u1
  refine Rt.bd (oI_mk e3 e4 (v := ky) rfl) (Rt.it (fun _ => h32) (fun w8 => Rt.be (ref_ u1') (Rt.it (fun w => h41 S2 y1.1 VX.rf VS.rf (fun z2 => ⟨rfl, ?_⟩)) (fun _ => h32))))
  have hx : xTy S2 y := by
    have := y2 z2
    cases n with
    | zero => exact this.elim
    | succ n => exact this.2.1
  exact hx.v u1' (fun e => by rw [if_pos (Or.inl e)] at w; cases w) (fun e => by rw [if_pos (Or.inr e)] at w; cases w) w8
end VAL
