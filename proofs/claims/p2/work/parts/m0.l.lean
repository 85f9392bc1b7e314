section LY11
variable {R : yR} {S0 Sb S S1 : Sg} {P h L Lb z n : Nat} {Γ : List Nat} {x : pRc} {α : Type}
theorem SEq.kx (a : SEq S S1) : LX S S1 := a.1
/-- a row of one number -/
theorem rAr_1 {a u : Nat} {f : Nat → Int32} (hu : u < 24000) (h1 : a ∈ ZL S) (h2 : ZF S a = .inl (R.K.1 0, 1, .inl f)) (h3 : f 0 = nI u) : rAr R S (some a) [u] := Or.inr ⟨a, f, rfl, h1, h2, List.cons_ne_nil _ _, fun j y e => by
  cases j with
  | zero => cases e; exact ⟨h3, hu⟩
  | succ j => cases e⟩
/-- what a path's use writes -/
def thX (R : yR) (S0 S1 : Sg) (x x2 : pRc) (w ix tv xt : Nat) : Prop := x2.1 = x.1 ∧ x2.2.1 = x.2.1 ∧ x2.2.2 38 = some w ∧ x2.2.2 39 = some xt ∧ (∀ r : Nat, r ≠ 36 → r ≠ 37 → r ≠ 38 → r ≠ 39 → x2.2.2 r = x.2.2 r) ∧ (isRf (abT S0 tv) → rAr R S1 (x2.2.2 37) [ix] ∧ rAr R S1 (x2.2.2 36) [ix]) ∧ (¬ isRf (abT S0 tv) → x2.2.2 37 = x.2.2 37 ∧ x2.2.2 36 = x.2.2 36)
/-- through -/
theorem thr_ {w va ix tv xt : Nat} {ρ : List (Nat × Nat)} (hP : P < 24000) (p : LPt R S0 Sb S P h Γ L Lb x z n) (hY : YK R S0) (q : isPw R S0 S w va ix tv ρ xt) (hl : ρ.length ≤ 5) (hix : ix < 256) (hPN : PN S0 Sb S w) (h1 : Zz Sb + z + 2 ≤ R.K.2.1) (h2 : Zn Sb + n + 2 ≤ R.K.2.2) : Rt (f_through R.K S (nI P) (some w)) (fun S1 _ => ∃ x2 : pRc, LPt R S0 Sb S1 P h Γ L Lb x2 (z + 2) (n + 2) ∧ LX S S1 ∧ thX R S0 S1 x x2 w ix tv xt) := by
  have hx0 : LX S0 S := p.1.1
  obtain ⟨sa, ta, f, g, q1, q2, q3, q4, q5, q6, nm, mt, q7⟩ := q
  have hrt : rTy S0 tv := q5.2.1 0 tv (Nat.zero_le _) q6
  have hrx : rTy S0 xt := q5.2.1 _ xt (Nat.le_refl _) q5.2.2
  obtain ⟨kd, i2, o2, qt, _⟩ := hrt.ty
  obtain ⟨kd3, i3, o3, qx, _⟩ := hrx.ty
  unfold f_through
  refine p.wO hP (by decide) (okO_mk q1 q2) (Or.inr ⟨rfl, fun y e => by cases e; exact ⟨q1, hPN⟩⟩) (fun S1 p1 e1 => ?_)
  obtain ⟨a1, a2⟩ := e1.1.ob q1 q2 (by decide) (by decide)
  refine Rt.bd (oB_mk a1 a2) ?_
  have hty : f_X18_type R.K S1 w = some (S1, some xt) := by
    unfold f_X18_type
    obtain ⟨b1, b2⟩ := e1.1.ro q4.1 q4.2
    rw [oR_mk a1 a2 (v := some ta) rfl, Option.bind_some, oI_mk a1 a2 (v := nI ρ.length) rfl, Option.bind_some, aQ_n b1 b2 (Nat.lt_succ_self _) (by omega), Option.bind_some, q5.2.2]
  refine Rt.be hty ?_
  refine p1.wO hP (by decide) ((hx0.tr e1.1).okT ⟨_, _, _, qx⟩) (Or.inl (by decide)) (fun S2 p2 e2 => ?_)
  have e12 := e1.tr e2
  obtain ⟨b1, b2⟩ := e12.1.ob q1 q2 (by decide) (by decide)
  obtain ⟨c1, c2⟩ := e12.1.ro q4.1 q4.2
  refine Rt.bd (oR_mk b1 b2 (v := some ta) rfl) (Rt.bd (aQ_n (j := 0) c1 c2 (by omega) (by omega)) ?_)
  rw [q6]
  refine Rt.be (ref_ ((hx0.tr e12.1).ty qt)) ?_
  have hz2 : Zz S2 ≤ Zz Sb + z := p2.2.2.2.1
  have hn2 : Zn S2 ≤ Zn Sb + n := p2.2.2.2.2.1
  by_cases hr : kd = 6 ∨ kd = 7
  · rw [if_pos hr]
    have hrf : isRf (abT S0 tv) := (hrt.rf hY qt).mpr hr
    refine Rt.iq (by decide) (Rt.bd (oR_mk b1 b2 (v := some va) rfl) ?_)
    obtain ⟨wh, v1, v2, v3⟩ := p2.1.2.2.2.2.2.2.1 va ix nm (some tv) mt q7
    refine Rt.bd (oI_mk v1 v2 (v := nI ix) rfl) (Rt.bn (jst_ p2.1 hix (by omega) (by omega)) (fun S3 r t => ?_))
    obtain ⟨a, f1, t1, t2, t3, t4, t5, t6, t7, t8, t9, t10⟩ := t
    subst t1
    have p3 := p2.kx t2 t3 t10 (z2 := z + 1) (n2 := n + 1) (by omega) (by omega)
    refine p3.wA hP (by decide) (okA_mk t4 t5) ⟨by decide, fun y e hy => by cases e; exact p3.2.2.2.2.2.2.1 a hy (Or.inl ⟨ix, hix, t9⟩)⟩ (fun S4 p4 e4 => ?_)
    have hx4 : LX S S4 := (e12.1.tr t3.lx).tr e4.1
    obtain ⟨d1, d2⟩ := hx4.ob q1 q2 (by decide) (by decide)
    refine Rt.bd (oR_mk d1 d2 (v := some va) rfl) ?_
    obtain ⟨wh4, v1, v2, v3⟩ := p4.1.2.2.2.2.2.2.1 va ix nm (some tv) mt q7
    have z4 := p4.2.2.2.1
    have n4 := p4.2.2.2.2.1
    refine Rt.bd (oI_mk v1 v2 (v := nI ix) rfl) (Rt.bn (jst_ p4.1 hix (by omega) (by omega)) (fun S5 r t => ?_))
    obtain ⟨a', f2, u1, u2, u3, u4, u5, u6, u7, u8, u9, u10⟩ := t
    subst u1
    have p5 := p4.kx u2 u3 u10 (z2 := z + 2) (n2 := n + 2) (by omega) (by omega)
    refine p5.wA hP (by decide) (okA_mk u4 u5) ⟨by decide, fun y e hy => by cases e; exact p5.2.2.2.2.2.2.1 a' hy (Or.inl ⟨ix, hix, u9⟩)⟩ (fun S6 p6 e6 => Rt.rt ⟨_, p6, (hx4.tr u3.lx).tr e6.1, rfl, rfl, rfl, rfl, fun r h1 h2 h3 h4 => ?_, fun _ => ⟨?_, ?_⟩, fun w => absurd hrf w⟩)
    · exact (va_up_ne _ _ h1).trans ((va_up_ne _ _ h2).trans ((va_up_ne _ _ h4).trans (va_up_ne _ _ h3)))
    · obtain ⟨g1, g2⟩ := ((e4.1.tr u3.lx).tr e6.1).ro t4 t5
      exact rAr_1 (by omega) g1 g2 t6
    · obtain ⟨g1, g2⟩ := e6.1.ro u4 u5
      exact rAr_1 (by omega) g1 g2 u6
  · rw [if_neg hr]
    have hrf : ¬ isRf (abT S0 tv) := fun w => hr ((hrt.rf hY qt).mp w)
    refine Rt.ip rfl (Rt.rt ⟨_, ⟨p2.1, p2.2.1, p2.2.2.1, by omega, by omega, p2.2.2.2.2.2⟩, e12.1, rfl, rfl, rfl, rfl, fun r h1 h2 h3 h4 => ?_, fun w => absurd w hrf, fun _ => ⟨rfl, rfl⟩⟩)
    exact (va_up_ne _ _ h4).trans (va_up_ne _ _ h3)
end LY11
