section LY13
variable {R : yR} {S0 Sb S S1 S2 : Sg} {P h L Lb z n : Nat} {Γ Γ2 : List Nat} {x : pRc} {E : eV} {s : List tE}
/-- by whether t is a reference's number -/
def ifR {α : Type} (t : Nat) (a b : α) : α := if 10000 ≤ t ∧ t < 30000 then a else b
theorem ifR_p {α : Type} {t : Nat} {a b : α} (h : isRf t) : ifR t a b = a := if_pos h
theorem ifR_n {α : Type} {t : Nat} {a b : α} (h : ¬ isRf t) : ifR t a b = b := if_neg h
/-- rooms -/
def RMl (R : yR) (S : Sg) (z n : Nat) : Prop := Zz S + z ≤ R.K.2.1 ∧ Zn S + n ≤ R.K.2.2
theorem ptRc_n {kd tk : Int32} {r : Nat} (h1 : r ≠ 27) (h2 : r ≠ 32) (h3 : ¬ (r = 30 ∨ r = 34 ∨ r = 35)) : (ptRc kd tk).1 r = 0 := by
  show (if r = 27 then kd else if r = 32 then tk else if r = 30 ∨ r = 34 ∨ r = 35 then -1 else 0) = 0
  rw [if_neg h1, if_neg h2, if_neg h3]
/-- givesHolder -/
theorem gho_ {xt : Nat} {kd ix : Int32} {o : Option Nat} (hP : P < 24000) (hh : h ≤ 177) (p : LPt R S0 Sb S P h Γ L Lb x z n) (q : isTy S0 xt kd ix o) : Rt (f_givesHolder R.K S (nI P) (some xt)) (fun S1 _ => ∃ x2 : pRc, LPt R S0 Sb S1 P h Γ L Lb x2 z n ∧ SEq S S1 ∧ x2.2 = x.2 ∧ (∀ r : Nat, r ≠ 34 → x2.1 r = x.1 r) ∧ ((kd = 6 ∨ kd = 7) → x2.1 34 = nI (40 + h)) ∧ (¬ (kd = 6 ∨ kd = 7) → x2.1 34 = x.1 34)) := by
  unfold f_givesHolder f_givesHolder_20 f_temporary
  refine Rt.be (ref_ (p.1.1.ty q)) ?_
  by_cases hr : kd = 6 ∨ kd = 7
  · rw [if_pos hr]
    refine Rt.iq (by decide) (Rt.be rfl ?_)
    have e : 40 + Zi S 48 = nI (40 + h) := by rw [p.1.2.2.1]; exact nI_add 40 h
    rw [e]
    refine p.wI hP (by decide) (fun S1 p1 e1 => Rt.rt ⟨_, p1, e1, rfl, fun r hr => if_neg hr, fun _ => upd_s (f := x.1) (k := 34), fun w => absurd hr w⟩)
  · rw [if_neg hr]
    exact Rt.ip rfl (Rt.rt ⟨x, p, ⟨LX.rf, rfl, rfl, rfl, rfl, rfl⟩, rfl, fun _ _ => rfl, fun w => absurd w hr, fun _ => rfl⟩)
/-- the last step of a way -/
theorem lst_w {f : Nat → Int32} {g : Nat → Option Nat} {ρ σ : lLc} {st : Nat × Nat} {xt : Nat} (h : wyT R S0 f g ρ xt) (e : ρ = σ ++ [st]) (hq : qMs ρ) : f σ.length = sCo st ∧ ((st = (1, 0) ∧ sCo st = -1) ∨ (st.1 = 0 ∧ sCo st ≠ -1)) := by
  have h0 : ρ[σ.length]? = some st := by rw [e, List.getElem?_append_right (Nat.le_refl _), Nat.sub_self]; rfl
  obtain ⟨h1, a, b, h2, h3, h4⟩ := h.1 _ _ h0
  refine ⟨h1, ?_⟩
  rcases h4 with ⟨e1, _⟩ | ⟨i, k, e1, _, h5⟩ | ⟨i, g, k, mk, tx, e1, _⟩
  · left; subst e1; exact ⟨rfl, rfl⟩
  · right; subst e1
    refine ⟨rfl, ?_⟩
    obtain ⟨_, mn, _, _, _, _, _, _, _, g6, g7, _⟩ := h5
    exact nI_ne1 (by omega)
  · exfalso
    have := hq st (by rw [e]; exact List.mem_append_right _ (List.mem_singleton.mpr rfl))
    subst e1
    rcases this with w | w
    · exact absurd w (Nat.succ_ne_zero _)
    · exact absurd w (by show g + 2 ≠ 1; omega)
/-- read -/
theorem rea_ {e pp q v xt mu mv nn : Nat} {π : List (Nat × Nat)} {kd ix : Int32} {o : Option Nat} (hL : RIn R S0) (hY : YK R S0) (hE : E.y = yT R S0) (hA : ALv S0 E Γ s) (hs : wl s = h) (hh : h ≤ 177) (c : LC R S0 S P h Γ2 L) (hx : xPl R S0 Γ nn e pp q v π xt mu mv) (hn : nn ≤ 1000) (hπ : π.length ≤ 4) (hq : q ≤ R.T) (hty : isTy S0 xt kd ix o) (hm : kd = 0 ∨ kd = 1 ∨ kd = 6 ∨ mv ≠ 0) (hP : P < 24000) (hr : RMl R S 5 20) : Rt (f_read R.K S (some e)) (fun S2 _ => GV R S0 S S2 E P (P + 1) h (h + 1) Γ2 Γ2 L L s (eT (abT S0 xt) :: s) False 5 20) := by
  obtain ⟨r1, r2⟩ := hr
  obtain ⟨tv, vi, nm, mt, i0, i2, i3, i4, i5, i6, i7, i8, i9, i10⟩ := xPl_in hY hx
  obtain ⟨ix2, i1, ⟨a1, a4⟩, a2, a3⟩ := hA.2 v i2 vi nm tv mt i0
  obtain ⟨x1, x2, x3, ⟨x4, x5⟩, kx, fs, x6, x7, x8, x9, x10⟩ := xPl_c hx
  unfold f_read
  refine Rt.bn (pth_ c hL hx hn hπ (by omega) (by omega)) (fun S1 r t => ?_)
  obtain ⟨w, ix3, tv2, rfl, t2, t3, t4, t5, t6, t7, t8, t9⟩ := t
  have hsame : tv2 = tv ∧ isPw R S0 S1 w v ix2 tv2 π xt := by
    obtain ⟨sa, ta, f9, g9, j1, j2, j3, j4, j5, j6, nm2, mt2, u⟩ := t4
    have e2 := u.2.symm.trans i1.2
    obtain ⟨_, e4⟩ := Prod.mk.inj (Sum.inr.inj e2)
    injection e4 with b1 e4
    injection e4 with b2 e4
    injection e4 with b3 e4
    injection b1 with b1
    exact ⟨Option.some.inj (va_rf_inj b3), sa, ta, f9, g9, j1, j2, j3, j4, j5, j6, nm2, mt2, u.1, by rw [u.2]; unfold vrC; rw [b1]⟩
  replace t4 := hsame.2
  obtain rfl := hsame.1
  refine Rt.bd ((c.1.tr t3.lx).vi (by decide) (by decide) (oI_mk (hL e x1) x6 x8)) ?_
  refine pnt_ (Lb := L) (Sb := S) (z := 3) (n := 13) hP t2 (t3.1 P L) (Nat.le_refl _) t6 t7 t8 (fun S2 p2 e2 => ?_)
  have hwm : w ∈ ZL S1 := by obtain ⟨_, _, _, _, h, _⟩ := t4; exact h
  have w2 := t4.st e2.1
  obtain ⟨sa, ta, f, g, q1, q2, q3, q4, q5, q6, nm3, mt3, q7⟩ := id w2
  refine Rt.bd (oB_mk q1 q2) ?_
  have hty2 : f_X18_type R.K S2 w = some (S2, some xt) := by
    unfold f_X18_type
    rw [oR_mk q1 q2 (v := some ta) rfl, Option.bind_some, oI_mk q1 q2 (v := nI π.length) rfl, Option.bind_some, aQ_n q4.1 q4.2 (Nat.lt_succ_self _) (by omega), Option.bind_some, q5.2.2]
  refine Rt.be hty2 (Rt.bd (oI_mk q1 q2 (v := nI π.length) rfl) ?_)
  -- the point, with its access
  have h78 : ∀ ac : Nat, ((ac = 1 ∧ cpT (abT S0 xt)) ∨ (ac = 4 ∧ ¬ cpT (abT S0 xt) ∧ qM π) ∨ (ac = 5 ∧ ¬ cpT (abT S0 xt) ∧ ¬ isRf (E.vt ix2) ∧ ∃ σ : lLc, π = σ ++ [(1, 0)] ∧ qM σ)) → Rt (f_read_78 R.K S2 (some w) (nI P) (some xt) (nI ac) (nI P)) (fun S2 _ => GV R S0 S S2 E P (P + 1) h (h + 1) Γ2 Γ2 L L s (eT (abT S0 xt) :: s) False 5 20) := fun ac hac => by
    have hac8 : ac < 8 := by rcases hac with w | w | w <;> omega
    unfold f_read_78
    refine p2.wI hP (by decide) (fun S3 p3 e3 => ?_)
    refine Rt.bn (thr_ hP p3 hY (w2.st e3.1) (by omega) (by omega) ((t9.st e2.1 hwm).st e3.1 q1) (by omega) (by omega)) (fun S4 _ t => ?_)
    obtain ⟨y4, p4, l4, v1, v2, v3, v4, v5, v6, v7⟩ := t
    refine Rt.bn (gho_ hP hh p4 hty) (fun S5 _ t => ?_)
    obtain ⟨y5, p5, e5, u1, u2, u3, u4⟩ := t
    have e48 : Zi S5 48 + 1 = nI (h + 1) := by rw [p5.1.2.2.1]; exact nI_1 h
    refine p5.hh e48 (fun S6 p6 e6 => Rt.rt ?_)
    have l6 : LX S2 S6 := ((e3.1.tr l4).tr e5.1).tr e6.1
    have l46 : LX S4 S6 := e5.1.tr e6.1
    have w6 := w2.st l6
    have hpt := w6.pt p6.1 (by omega)
    have hrf : isRf (abT S0 xt) ↔ (kd = 6 ∨ kd = 7) := i4.rf hY hty
    let i : iR := (2, ac, some (ix2, π, abT S0 xt), (ifR (abT S0 xt) (some (40 + h)) none, none), (ifR (E.vt ix2) [ix2] [], ifR (E.vt ix2) [ix2] []), [P + 1], (0, v, 0), [])
    have g1 : ∀ r : Nat, r ≠ 34 → r ≠ 33 → y5.1 r = (ptRc 2 (nI pp)).1 r := fun r h1 h2 => by rw [u2 r h1, v1]; exact if_neg h2
    have hus : ∀ r : Nat, (r = 36 ∨ r = 37) → rAr R S6 (y5.2.2 r) (ifR (E.vt ix2) [ix2] []) := fun r hr => by
      rw [u1]
      by_cases q : isRf (E.vt ix2)
      · rw [ifR_p q]
        rw [a2] at q
        obtain ⟨z1, z2⟩ := v6 q
        rcases hr with e | e <;> subst e
        · exact z2.st l46
        · exact z1.st l46
      · rw [ifR_n q]
        rw [a2] at q
        obtain ⟨z1, z2⟩ := v7 q
        rcases hr with e | e <;> subst e
        · exact Or.inl ⟨z2, rfl⟩
        · exact Or.inl ⟨z1, rfl⟩
    have hz : rz R S0 S6 P i := by
      refine rz_g (i := i) (K := 2) rfl p6.2.2.1 (by decide) (by decide) ?_ ?_ hac8 ?_ ?_ (hus 37 (Or.inr rfl)) (hus 36 (Or.inl rfl)) ⟨pp, ?_, by omega⟩ (Or.inr ⟨w, ix2, abT S0 xt, π, ?_, rfl, hpt, w6.va⟩) (fun l e => by cases e) ?_ rfl (fun w => absurd w (by decide)) (fun w => absurd w (by decide)) (fun w => absurd w (by decide)) (fun w => absurd w (by decide)) (fun w => absurd w (by decide)) (fun w => absurd w (by decide))
      · rw [g1 27 (by decide) (by decide)]; rfl
      · rw [u2 33 (by decide), v1]; exact upd_s (f := (ptRc 2 (nI pp)).1) (k := 33)
      · show y5.1 34 = oNm (ifR (abT S0 xt) (some (40 + h)) none)
        by_cases q : isRf (abT S0 xt)
        · rw [ifR_p q, u3 (hrf.mp q)]; rfl
        · rw [ifR_n q, u4 (fun z => q (hrf.mpr z)), v1]; rfl
      · rw [g1 35 (by decide) (by decide)]; rfl
      · rw [g1 32 (by decide) (by decide)]; rfl
      · rw [u1]; exact v3
      · rw [g1 30 (by decide) (by decide)]; rfl
    refine ⟨p6.1, p6.2.1, tsg.one (i := i) hz (fun l e => by cases e) (fun j hj => List.mem_singleton.mp hj) (by omega) (tP_2 rfl ⟨rfl, ix2, π, abT S0 xt, ⟨rfl, ⟨a1, a4⟩, a3, ?_, i5, i4.n0 hY, hπ, hA.1⟩, ⟨fun q => ?_, fun q => ?_⟩, fun q => ?_, fun q => ?_, hac, rfl, wkS.rf⟩) (fun w => w.elim), p6.2.2.2.1, Nat.le_trans p6.2.2.2.2.1 (by omega), Nat.le_succ _, Nat.le_refl _, p6.2.2.2.2.2.2⟩
    · rw [hE, a2]; exact q5.ty hY q6
    · exact ⟨ifR_p q, ifR_p q⟩
    · exact ⟨ifR_n q, ifR_n q⟩
    · rw [hs]; exact ifR_p q
    · exact ifR_n q
  have hcp := i4.cp hY hty
  have h49 : ∀ y0 : Int32, (y0 = 0 ∨ y0 = 1) → (y0 = 0 → ¬ cpT (abT S0 xt) → qM π) → (y0 = 1 → ¬ cpT (abT S0 xt) → ¬ isRf (E.vt ix2) ∧ ∃ σ : lLc, π = σ ++ [(1, 0)] ∧ qM σ) → Rt (f_read_49 R.K S2 (some w) (nI P) (some xt) y0) (fun S2 _ => GV R S0 S S2 E P (P + 1) h (h + 1) Γ2 Γ2 L L s (eT (abT S0 xt) :: s) False 5 20) := fun y0 y1 y2 y3 => by
    unfold f_read_49
    refine Rt.be (cop_ (p2.1.1.ty hty)) ?_
    by_cases hc : kd = 0 ∨ kd = 1 ∨ kd = 6
    · rw [if_pos hc]
      exact Rt.iq (by decide) (h78 1 (Or.inl ⟨rfl, hcp.mpr hc⟩))
    · rw [if_neg hc]
      have nc : ¬ cpT (abT S0 xt) := fun z => hc (hcp.mp z)
      refine Rt.ip rfl (Rt.it (fun e0 => h78 4 (Or.inr (Or.inl ⟨rfl, nc, y2 e0 nc⟩))) (fun e0 => ?_))
      have e1 := y1.resolve_left e0
      exact h78 5 (Or.inr (Or.inr ⟨rfl, nc, y3 e1 nc⟩))
  have hmv : ¬ cpT (abT S0 xt) → mv = 1 ∨ mv = 2 := fun nc => by
    have : mv ≠ 0 := by
      rcases hm with e | e | e | e
      · exact absurd (hcp.mpr (Or.inl e)) nc
      · exact absurd (hcp.mpr (Or.inr (Or.inl e))) nc
      · exact absurd (hcp.mpr (Or.inr (Or.inr e))) nc
      · exact e
    omega
  rcases List.eq_nil_or_concat π with e0 | ⟨σ, st, e0⟩
  · refine Rt.ip (by rw [e0]; decide) ?_
    unfold f_read_48
    exact h49 0 (Or.inl rfl) (fun _ _ => by rw [e0]; exact qM_nil) (fun w => absurd w (by decide))
  · rw [List.concat_eq_append] at e0
    have hl : π.length = σ.length + 1 := by rw [e0, List.length_append]; rfl
    obtain ⟨l1, l2⟩ := lst_w q5 e0 i5
    refine Rt.iq (fun q => absurd (nI_le0 (by omega) q) (by omega)) (Rt.bd (oR_mk q1 q2 (v := some sa) rfl) (Rt.bd (oI_mk q1 q2 (v := nI π.length) rfl) ?_))
    have es : nI π.length - 1 = nI σ.length := by rw [hl, nI_sb1 (by omega)]; rfl
    rw [es]
    refine Rt.bd (aI_n q3.1 q3.2 (by omega) (by omega)) ?_
    rw [l1]
    rcases l2 with ⟨l2, l3⟩ | ⟨l2, l3⟩
    · refine Rt.ip l3 (h49 1 (Or.inr rfl) (fun w => absurd w (by decide)) (fun _ nc => ?_))
      rcases hmv nc with w | w
      · exfalso
        have := i6 w st (by rw [e0]; exact List.mem_append_right _ (List.mem_singleton.mpr rfl))
        rw [l2] at this; cases this
      · refine ⟨fun z => ?_, i7 w⟩
        rw [a2] at z
        have := (i10 z (fun e => by rw [e] at hl; cases hl)).1
        omega
    · refine Rt.iq l3 ?_
      unfold f_read_48
      refine h49 0 (Or.inl rfl) (fun _ nc => ?_) (fun w => absurd w (by decide))
      rcases hmv nc with w | w
      · exact i6 w
      · exfalso
        obtain ⟨σ2, z1, z2⟩ := i7 w
        rw [e0] at z1
        have := (List.append_inj' z1 rfl).2
        injection this with z3
        rw [z3] at l2; cases l2
end LY13
