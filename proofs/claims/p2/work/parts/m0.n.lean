-- m0.n.lean.txt
section
section LY13
variable {R : yR} {S0 Sb S S1 S2 : Sg} {P h L Lb z n : Nat} {Γ Γ2 : List Nat} {x : pRc} {E : eV} {s : List tE}
/-- by whether t is a reference's number -/
def ifR {α : Type} (t : Nat) (a b : α) : α := if 10000 ≤ t ∧ t < 30000 then a else b
theorem ifR_p {α : Type} {t : Nat} {a b : α} (h : isRf t) : ifR t a b = a := if_pos h
theorem ifR_n {α : Type} {t : Nat} {a b : α} (h : ¬ isRf t) : ifR t a b = b := if_neg h
/-- rooms -/
def RMl (R : yR) (S : Sg) (z n : Nat) : Prop := Zz S + z ≤ R.K.2.1 ∧ Zn S + n ≤ R.K.2.2
theorem ptRc_n {kd tk : Int32} {r : Nat} (h1 : r ≠ 27) (h2 : r ≠ 32) (h3 : ¬ (r = 30 ∨ r = 34 ∨ r = 35)) : (ptRc kd tk).1 r = 0 := by
  show (if r = 27 then kd else if r = 32 then tk else if r = 30 ∨ r = 34 ∨ r = 35 then -1 else 0) = 0
  rw [if_neg h1, if_neg h2, if_neg h3]
/-- givesHolder -/
theorem gho_ {xt : Nat} {kd ix : Int32} {o : Option Nat} (hP : P < 24000) (hh : h ≤ 177) (p : LPt R S0 Sb S P h Γ L Lb x z n) (q : isTy S0 xt kd ix o) : Rt (f_givesHolder R.K S (nI P) (some xt)) (fun S1 _ => ∃ x2 : pRc, LPt R S0 Sb S1 P h Γ L Lb x2 z n ∧ SEq S S1 ∧ x2.2 = x.2 ∧ (∀ r : Nat, r ≠ 34 → x2.1 r = x.1 r) ∧ ((kd = 6 ∨ kd = 7) → x2.1 34 = nI (40 + h)) ∧ (¬ (kd = 6 ∨ kd = 7) → x2.1 34 = x.1 34)) := by
  unfold f_givesHolder f_givesHolder_20 f_temporary
  refine Rt.be (ref_ (p.1.1.ty q)) ?_
  by_cases hr : kd = 6 ∨ kd = 7
  · rw [if_pos hr]
    refine Rt.iq (by decide) (Rt.be rfl ?_)
    have e : 40 + Zi S 48 = nI (40 + h) := by rw [p.1.2.2.1]; exact nI_add 40 h
    rw [e]
    refine p.wI hP (by decide) (fun S1 p1 e1 => Rt.rt ⟨_, p1, e1, rfl, fun r hr => if_neg hr, fun _ => upd_s (f := x.1) (k := 34), fun w => absurd hr w⟩)
  · rw [if_neg hr]
    exact Rt.ip rfl (Rt.rt ⟨x, p, ⟨LX.rf, rfl, rfl, rfl, rfl, rfl⟩, rfl, fun _ _ => rfl, fun w => absurd w hr, fun _ => rfl⟩)
/-- the last step of a way -/
theorem lst_w {f : Nat → Int32} {g : Nat → Option Nat} {ρ σ : lLc} {st : Nat × Nat} {xt : Nat} (h : wyT R S0 f g ρ xt) (e : ρ = σ ++ [st]) (hq : qMs ρ) : f σ.length = sCo st ∧ ((st = (1, 0) ∧ sCo st = -1) ∨ (st.1 = 0 ∧ sCo st ≠ -1)) := by
  have h0 : ρ[σ.length]? = some st := by rw [e, List.getElem?_append_right (Nat.le_refl _), Nat.sub_self]; rfl
  obtain ⟨h1, a, b, h2, h3, h4⟩ := h.1 _ _ h0
  refine ⟨h1, ?_⟩
  rcases h4 with ⟨e1, _⟩ | ⟨i, k, e1, _, h5⟩ | ⟨i, g, k, mk, tx, e1, _⟩
  · left; subst e1; exact ⟨rfl, rfl⟩
  · right; subst e1
    refine ⟨rfl, ?_⟩
    obtain ⟨_, mn, _, _, _, _, _, _, _, g6, g7, _⟩ := h5
    exact nI_ne1 (by omega)
  · exfalso
    have := hq st (by rw [e]; exact List.mem_append_right _ (List.mem_singleton.mpr rfl))
    subst e1
    rcases this with w | w
    · exact absurd w (Nat.succ_ne_zero _)
    · exact absurd w (by show g + 2 ≠ 1; omega)
/-- read -/
theorem rea_ {e pp q v xt mu mv nn : Nat} {π : List (Nat × Nat)} {kd ix : Int32} {o : Option Nat} (hL : RIn R S0) (hY : YK R S0) (hE : E.y = yT R S0) (hA : ALv S0 E Γ s) (hs : wl s = h) (hh : h ≤ 177) (c : LC R S0 S P h Γ2 L) (hx : xPl R S0 Γ nn e pp q v π xt mu mv) (hn : nn ≤ 1000) (hπ : π.length ≤ 4) (hq : q ≤ R.T) (hty : isTy S0 xt kd ix o) (hm : kd = 0 ∨ kd = 1 ∨ kd = 6 ∨ mv ≠ 0) (hP : P < 24000) (hr : RMl R S 5 20) : Rt (f_read R.K S (some e)) (fun S2 _ => GV R S0 S S2 E P (P + 1) h (h + 1) Γ2 Γ2 L L s (eT (abT S0 xt) :: s) False 5 20) := by
  obtain ⟨r1, r2⟩ := hr
  obtain ⟨tv, vi, nm, mt, i0, i2, i3, i4, i5, i6, i7, i8, i9, i10⟩ := xPl_in hY hx
  obtain ⟨ix2, i1, ⟨a1, a4⟩, a2, a3⟩ := hA.2 v i2 vi nm tv mt i0
  obtain ⟨x1, x2, x3, ⟨x4, x5⟩, kx, fs, x6, x7, x8, x9, x10⟩ := xPl_c hx
  unfold f_read
  refine Rt.bn (pth_ c hL hx hn hπ (by omega) (by omega)) (fun S1 r t => ?_)
  obtain ⟨w, ix3, tv2, rfl, t2, t3, t4, t5, t6, t7, t8, t9⟩ := t
  have hsame : tv2 = tv ∧ isPw R S0 S1 w v ix2 tv2 π xt := by
    obtain ⟨sa, ta, f9, g9, j1, j2, j3, j4, j5, j6, nm2, mt2, u⟩ := t4
    have e2 := u.2.symm.trans i1.2
    obtain ⟨_, e4⟩ := Prod.mk.inj (Sum.inr.inj e2)
    injection e4 with b1 e4
    injection e4 with b2 e4
    injection e4 with b3 e4
    injection b1 with b1
    exact ⟨Option.some.inj (va_rf_inj b3), sa, ta, f9, g9, j1, j2, j3, j4, j5, j6, nm2, mt2, u.1, by rw [u.2]; unfold vrC; rw [b1]⟩
  replace t4 := hsame.2
  obtain rfl := hsame.1
  refine Rt.bd ((c.1.tr t3.lx).vi (by decide) (by decide) (oI_mk (hL e x1) x6 x8)) ?_
  refine pnt_ (Lb := L) (Sb := S) (z := 3) (n := 13) hP t2 (t3.1 P L) (Nat.le_refl _) t6 t7 t8 (fun S2 p2 e2 => ?_)
  have hwm : w ∈ ZL S1 := by obtain ⟨_, _, _, _, h, _⟩ := t4; exact h
  have w2 := t4.st e2.1
  obtain ⟨sa, ta, f, g, q1, q2, q3, q4, q5, q6, nm3, mt3, q7⟩ := id w2
  refine Rt.bd (oB_mk q1 q2) ?_
  have hty2 : f_X18_type R.K S2 w = some (S2, some xt) := by
    unfold f_X18_type
    rw [oR_mk q1 q2 (v := some ta) rfl, Option.bind_some, oI_mk q1 q2 (v := nI π.length) rfl, Option.bind_some, aQ_n q4.1 q4.2 (Nat.lt_succ_self _) (by omega), Option.bind_some, q5.2.2]
  refine Rt.be hty2 (Rt.bd (oI_mk q1 q2 (v := nI π.length) rfl) ?_)
  -- the point, with its access
  have h78 : ∀ ac : Nat, ((ac = 1 ∧ cpT (abT S0 xt)) ∨ (ac = 4 ∧ ¬ cpT (abT S0 xt) ∧ qM π) ∨ (ac = 5 ∧ ¬ cpT (abT S0 xt) ∧ ¬ isRf (E.vt ix2) ∧ ∃ σ : lLc, π = σ ++ [(1, 0)] ∧ qM σ)) → Rt (f_read_78 R.K S2 (some w) (nI P) (some xt) (nI ac) (nI P)) (fun S2 _ => GV R S0 S S2 E P (P + 1) h (h + 1) Γ2 Γ2 L L s (eT (abT S0 xt) :: s) False 5 20) := fun ac hac => by
    have hac8 : ac < 8 := by rcases hac with w | w | w <;> omega
    unfold f_read_78
    refine p2.wI hP (by decide) (fun S3 p3 e3 => ?_)
    refine Rt.bn (thr_ hP p3 hY (w2.st e3.1) (by omega) (by omega) ((t9.st e2.1 hwm).st e3.1 q1) (by omega) (by omega)) (fun S4 _ t => ?_)
    obtain ⟨y4, p4, l4, v1, v2, v3, v4, v5, v6, v7⟩ := t
    refine Rt.bn (gho_ hP hh p4 hty) (fun S5 _ t => ?_)
    obtain ⟨y5, p5, e5, u1, u2, u3, u4⟩ := t
    have e48 : Zi S5 48 + 1 = nI (h + 1) := by rw [p5.1.2.2.1]; exact nI_1 h
    refine p5.hh e48 (fun S6 p6 e6 => Rt.rt ?_)
    have l6 : LX S2 S6 := ((e3.1.tr l4).tr e5.1).tr e6.1
    have l46 : LX S4 S6 := e5.1.tr e6.1
    have w6 := w2.st l6
    have hpt := w6.pt p6.1 (by omega)
    have hrf : isRf (abT S0 xt) ↔ (kd = 6 ∨ kd = 7) := i4.rf hY hty
    let i : iR := (2, ac, some (ix2, π, abT S0 xt), (ifR (abT S0 xt) (some (40 + h)) none, none), (ifR (E.vt ix2) [ix2] [], ifR (E.vt ix2) [ix2] []), [P + 1], (0, v, 0), [])
    have g1 : ∀ r : Nat, r ≠ 34 → r ≠ 33 → y5.1 r = (ptRc 2 (nI pp)).1 r := fun r h1 h2 => by rw [u2 r h1, v1]; exact if_neg h2
    have hus : ∀ r : Nat, (r = 36 ∨ r = 37) → rAr R S6 (y5.2.2 r) (ifR (E.vt ix2) [ix2] []) := fun r hr => by
      rw [u1]
      by_cases q : isRf (E.vt ix2)
      · rw [ifR_p q]
        rw [a2] at q
        obtain ⟨z1, z2⟩ := v6 q
        rcases hr with e | e <;> subst e
        · exact z2.st l46
        · exact z1.st l46
      · rw [ifR_n q]
        rw [a2] at q
        obtain ⟨z1, z2⟩ := v7 q
        rcases hr with e | e <;> subst e
        · exact Or.inl ⟨z2, rfl⟩
        · exact Or.inl ⟨z1, rfl⟩
    have hz : rz R S0 S6 P i := by
      refine rz_g (i := i) (K := 2) rfl p6.2.2.1 (by decide) (by decide) ?_ ?_ hac8 ?_ ?_ (hus 37 (Or.inr rfl)) (hus 36 (Or.inl rfl)) ⟨pp, ?_, by omega⟩ (Or.inr ⟨w, ix2, abT S0 xt, π, ?_, rfl, hpt, w6.va⟩) (fun l e => by cases e) ?_ rfl (fun w => absurd w (by decide)) (fun w => absurd w (by decide)) (fun w => absurd w (by decide)) (fun w => absurd w (by decide)) (fun w => absurd w (by decide)) (fun w => absurd w (by decide))
      · rw [g1 27 (by decide) (by decide)]; rfl
      · rw [u2 33 (by decide), v1]; exact upd_s (f := (ptRc 2 (nI pp)).1) (k := 33)
      · show y5.1 34 = oNm (ifR (abT S0 xt) (some (40 + h)) none)
        by_cases q : isRf (abT S0 xt)
        · rw [ifR_p q, u3 (hrf.mp q)]; rfl
        · rw [ifR_n q, u4 (fun z => q (hrf.mpr z)), v1]; rfl
      · rw [g1 35 (by decide) (by decide)]; rfl
      · rw [g1 32 (by decide) (by decide)]; rfl
      · rw [u1]; exact v3
      · rw [g1 30 (by decide) (by decide)]; rfl
    refine ⟨p6.1, p6.2.1, tsg.one (i := i) hz (fun l e => by cases e) (fun j hj => List.mem_singleton.mp hj) (by omega) (tP_2 rfl ⟨rfl, ix2, π, abT S0 xt, ⟨rfl, ⟨a1, a4⟩, a3, ?_, i5, i4.n0 hY, hπ, hA.1⟩, ⟨fun q => ?_, fun q => ?_⟩, fun q => ?_, fun q => ?_, hac, rfl, wkS.rf⟩) (fun w => w.elim), p6.2.2.2.1, Nat.le_trans p6.2.2.2.2.1 (by omega), Nat.le_succ _, Nat.le_refl _, p6.2.2.2.2.2.2⟩
    · rw [hE, a2]; exact q5.ty hY q6
    · exact ⟨ifR_p q, ifR_p q⟩
    · exact ⟨ifR_n q, ifR_n q⟩
    · rw [hs]; exact ifR_p q
    · exact ifR_n q
  have hcp := i4.cp hY hty
  have h49 : ∀ y0 : Int32, (y0 = 0 ∨ y0 = 1) → (y0 = 0 → ¬ cpT (abT S0 xt) → qM π) → (y0 = 1 → ¬ cpT (abT S0 xt) → ¬ isRf (E.vt ix2) ∧ ∃ σ : lLc, π = σ ++ [(1, 0)] ∧ qM σ) → Rt (f_read_49 R.K S2 (some w) (nI P) (some xt) y0) (fun S2 _ => GV R S0 S S2 E P (P + 1) h (h + 1) Γ2 Γ2 L L s (eT (abT S0 xt) :: s) False 5 20) := fun y0 y1 y2 y3 => by
    unfold f_read_49
    refine Rt.be (cop_ (p2.1.1.ty hty)) ?_
    by_cases hc : kd = 0 ∨ kd = 1 ∨ kd = 6
    · rw [if_pos hc]
      exact Rt.iq (by decide) (h78 1 (Or.inl ⟨rfl, hcp.mpr hc⟩))
    · rw [if_neg hc]
      have nc : ¬ cpT (abT S0 xt) := fun z => hc (hcp.mp z)
      refine Rt.ip rfl (Rt.it (fun e0 => h78 4 (Or.inr (Or.inl ⟨rfl, nc, y2 e0 nc⟩))) (fun e0 => ?_))
      have e1 := y1.resolve_left e0
      exact h78 5 (Or.inr (Or.inr ⟨rfl, nc, y3 e1 nc⟩))
  have hmv : ¬ cpT (abT S0 xt) → mv = 1 ∨ mv = 2 := fun nc => by
    have : mv ≠ 0 := by
      rcases hm with e | e | e | e
      · exact absurd (hcp.mpr (Or.inl e)) nc
      · exact absurd (hcp.mpr (Or.inr (Or.inl e))) nc
      · exact absurd (hcp.mpr (Or.inr (Or.inr e))) nc
      · exact e
    omega
  rcases List.eq_nil_or_concat π with e0 | ⟨σ, st, e0⟩
  · refine Rt.ip (by rw [e0]; decide) ?_
    unfold f_read_48
    exact h49 0 (Or.inl rfl) (fun _ _ => by rw [e0]; exact qM_nil) (fun w => absurd w (by decide))
  · rw [List.concat_eq_append] at e0
    have hl : π.length = σ.length + 1 := by rw [e0, List.length_append]; rfl
    obtain ⟨l1, l2⟩ := lst_w q5 e0 i5
    refine Rt.iq (fun q => absurd (nI_le0 (by omega) q) (by omega)) (Rt.bd (oR_mk q1 q2 (v := some sa) rfl) (Rt.bd (oI_mk q1 q2 (v := nI π.length) rfl) ?_))
    have es : nI π.length - 1 = nI σ.length := by rw [hl, nI_sb1 (by omega)]; rfl
    rw [es]
    refine Rt.bd (aI_n q3.1 q3.2 (by omega) (by omega)) ?_
    rw [l1]
    rcases l2 with ⟨l2, l3⟩ | ⟨l2, l3⟩
    · refine Rt.ip l3 (h49 1 (Or.inr rfl) (fun w => absurd w (by decide)) (fun _ nc => ?_))
      rcases hmv nc with w | w
      · exfalso
        have := i6 w st (by rw [e0]; exact List.mem_append_right _ (List.mem_singleton.mpr rfl))
        rw [l2] at this; cases this
      · refine ⟨fun z => ?_, i7 w⟩
        rw [a2] at z
        have := (i10 z (fun e => by rw [e] at hl; cases hl)).1
        omega
    · refine Rt.iq l3 ?_
      unfold f_read_48
      refine h49 0 (Or.inl rfl) (fun _ nc => ?_) (fun w => absurd w (by decide))
      rcases hmv nc with w | w
      · exact i6 w
      · exfalso
        obtain ⟨σ2, z1, z2⟩ := i7 w
        rw [e0] at z1
        have := (List.append_inj' z1 rfl).2
        injection this with z3
        rw [z3] at l2; cases l2
end LY13
end
-- m0.o.lean.txt
section
section LY14
variable {R : yR} {S0 Sb S S1 S2 : Sg} {P h L Lb z n : Nat} {Γ Γ2 : List Nat} {x : pRc} {E : eV} {s : List tE} {α : Type}
theorem AT.lq {v : Option Nat} {j : Nat} (a : AT S P x) : AT (Uq S 43 (va_up (Zq S 43) j v)) P x := ⟨a.1, a.2.1, fun r h1 h2 => (congrFun (Zq_un (by omega)) P).trans (a.2.2 r h1 h2)⟩
theorem AT.lr {v : Int32} {r j : Nat} (hr : 44 ≤ r) (a : AT S P x) : AT (Ur S r (upd (Zr S r) j v)) P x := ⟨fun r2 h1 h2 h3 => (congrFun (show va_up (Zr S) r _ r2 = Zr S r2 from va_up_ne _ _ (by omega)) P).trans (a.1 r2 h1 h2 h3), a.2⟩
theorem Zr_us {r : Nat} {f : Nat → Int32} : Zr (Ur S r f) r = f := va_up_self _ _ _
theorem Zr_un {r r2 : Nat} {f : Nat → Int32} (h : r2 ≠ r) : Zr (Ur S r f) r2 = Zr S r2 := va_up_ne _ _ h
/-- the loans' rows are as they were -/
def SLn (S S1 : Sg) : Prop := Zq S1 43 = Zq S 43 ∧ Zr S1 44 = Zr S 44 ∧ Zr S1 45 = Zr S 45
theorem SLn.tr (a : SLn S S1) (b : SLn S1 S2) : SLn S S2 := ⟨b.1.trans a.1, b.2.1.trans a.2.1, b.2.2.trans a.2.2⟩
theorem LPt.wIl {r : Nat} {v : Int32} {g : Sg → Option (Sg × α)} {Q : Sg → α → Prop} (hP : P < 24000) (hr : 27 ≤ r ∧ r ≤ 35 ∧ r ≠ 31) (p : LPt R S0 Sb S P h Γ L Lb x z n) (k : ∀ S1 : Sg, LPt R S0 Sb S1 P h Γ L Lb (upd x.1 r v, x.2) z n → SEq S S1 → SLn S S1 → Rt (g S1) Q) : Rt ((wRI S r (nI P) v).bind g) Q := by
  have hl : rlen r = 24000 := by
    obtain ⟨a, b, c⟩ := hr
    have : r = 27 ∨ r = 28 ∨ r = 29 ∨ r = 30 ∨ r = 32 ∨ r = 33 ∨ r = 34 ∨ r = 35 := by omega
    rcases this with e | e | e | e | e | e | e | e <;> subst e <;> rfl
  exact Rt.bd (wRI_n (by rw [hl]; exact hP) (by rw [hl]; decide)) (k _ ⟨p.1.ur (Or.inl ⟨hr.1, hr.2.1⟩), p.2.1.tr (LZ.ur ⟨hr.1, hr.2.1⟩ (Nat.le_refl _)) (Nat.le_refl _) (Nat.le_refl _), p.2.2.1.ur, p.2.2.2⟩ ⟨(LZ.ur (P := 0) (L := 0) ⟨hr.1, hr.2.1⟩ (Nat.zero_le _)).1, rfl, rfl, rfl, rfl, rfl⟩ ⟨rfl, Zr_un (by omega), Zr_un (by omega)⟩)
theorem LPt.hhl {h2 : Nat} {w : Int32} {g : Sg → Option (Sg × α)} {Q : Sg → α → Prop} (hw : w = nI h2) (p : LPt R S0 Sb S P h Γ L Lb x z n) (k : ∀ S1 : Sg, LPt R S0 Sb S1 P h2 Γ L Lb x z n → SEq S S1 → SLn S S1 → Rt (g S1) Q) : Rt ((pM S 48 w).bind g) Q := by
  subst hw
  exact Rt.bd rfl (k (Ui S 48 (nI h2)) ⟨p.1.hh, p.2.1.tr (LZ.ui (Or.inr (Or.inr (Or.inl rfl)))) (Nat.le_refl _) (Nat.le_refl _), p.2.2.1.sm rfl rfl rfl, p.2.2.2⟩ ⟨(LZ.ui (P := 0) (L := 0) (Or.inr (Or.inr (Or.inl rfl)))).1, rfl, rfl, rfl, rfl, rfl⟩ ⟨rfl, rfl, rfl⟩)
theorem isPw.po {w va ix tv xt : Nat} {ρ : List (Nat × Nat)} (q : isPw R S0 S w va ix tv ρ xt) (hl : ρ.length ≤ 5) : pOb R S w := by
  obtain ⟨sa, ta, f, g, q1, q2, q3, q4, _⟩ := q
  exact ⟨va, ρ.length, sa, ta, f, g, q1, q2, q3, q4, hl⟩
/-- newLoan -/
theorem nln_ {w : Nat} {y0 : Int32} {g : Sg → Int32 → Option (Sg × α)} {Q : Sg → α → Prop} (hl : L < 160) (p : LPt R S0 Sb S P h Γ L Lb x z n) (hok : okO S 18 (some w) = true) (hpo : pOb R S w) (hy : y0 = 0 ∨ y0 = 1) (k : ∀ S1 : Sg, LPt R S0 Sb S1 P h Γ (L + 1) Lb x z n → SEq S S1 → Zq S1 43 L = some w → Zr S1 44 L = y0 → Zr S1 45 L = -1 → Rt (g S1 (nI L)) Q) : Rt (bnd (f_newLoan R.K S (some w) y0) g) Q := by
  have h47 : Zi S 47 = nI L := p.1.2.2.2.2.1
  refine Rt.bn (Q := fun S1 r => r = nI L ∧ LPt R S0 Sb S1 P h Γ (L + 1) Lb x z n ∧ SEq S S1 ∧ Zq S1 43 L = some w ∧ Zr S1 44 L = y0 ∧ Zr S1 45 L = -1) ?_ (fun S1 r q => by rw [q.1]; exact k S1 q.2.1 q.2.2.1 q.2.2.2.1 q.2.2.2.2.1 q.2.2.2.2.2)
  unfold f_newLoan
  rw [h47]
  refine Rt.bd (wQ_n (show L < rlen 43 from hl) (by decide) hok) ?_
  have p1 : LPt R S0 Sb (Uq S 43 (va_up (Zq S 43) L (some w))) P h Γ L Lb x z n := ⟨p.1.uq (Or.inr ⟨rfl, Nat.le_refl _⟩), p.2.1.tr (LZ.lq (P := P) (L := Lb) p.2.2.2.2.2.1) (Nat.le_refl _) (Nat.le_refl _), p.2.2.1.lq, p.2.2.2.1, p.2.2.2.2.1, p.2.2.2.2.2.1, p.2.2.2.2.2.2.kq (S1 := Uq S 43 (va_up (Zq S 43) L (some w))) (fun y _ hU => by unfold Us at hU ⊢; rw [Zq_un (by decide)] at hU; exact hU) (LZ.lq (P := 0) (L := 0) (Nat.zero_le _)) p.2.1.1 (fun k => ⟨congrFun (Zq_un (by decide)) k, congrFun (Zq_un (by decide)) k, congrFun (Zq_un (by decide)) k, congrFun (Zq_un (by decide)) k⟩)⟩
  have e1 : SEq S (Uq S 43 (va_up (Zq S 43) L (some w))) := ⟨(LZ.lq (P := 0) (L := 0) (Nat.zero_le _)).1, rfl, rfl, rfl, rfl, Zq_un (by decide)⟩
  have q1 : Zq (Uq S 43 (va_up (Zq S 43) L (some w))) 43 L = some w := (congrFun Zq_us L).trans (va_up_self _ _ _)
  generalize Uq S 43 (va_up (Zq S 43) L (some w)) = A at p1 e1 q1
  rw [show Zi A 47 = nI L from p1.1.2.2.2.2.1]
  refine Rt.bd (wZ_n (show L < rlen 44 from hl) (by decide) hy) ?_
  have p2 : LPt R S0 Sb (Ur A 44 (upd (Zr A 44) L y0)) P h Γ L Lb x z n := ⟨p1.1.ur (Or.inr ⟨by decide, fun e => absurd e (by decide)⟩), p1.2.1.tr (LZ.lr (P := P) (L := Lb) (by decide) p.2.2.2.2.2.1) (Nat.le_refl _) (Nat.le_refl _), p1.2.2.1.lr (by decide), p1.2.2.2⟩
  have e2 : SEq S (Ur A 44 (upd (Zr A 44) L y0)) := e1.tr ⟨(LZ.lr (P := 0) (L := 0) (by decide) (Nat.zero_le _)).1, rfl, rfl, rfl, rfl, rfl⟩
  have q2 : Zq (Ur A 44 (upd (Zr A 44) L y0)) 43 L = some w := q1
  have r2 : Zr (Ur A 44 (upd (Zr A 44) L y0)) 44 L = y0 := (congrFun Zr_us L).trans upd_s
  generalize Ur A 44 (upd (Zr A 44) L y0) = B at p2 e2 q2 r2
  rw [show Zi B 47 = nI L from p2.1.2.2.2.2.1]
  refine Rt.bd (wRI_n (show L < rlen 45 from hl) (by decide)) ?_
  have p3 : LPt R S0 Sb (Ur B 45 (upd (Zr B 45) L (-1))) P h Γ L Lb x z n := ⟨p2.1.ur (Or.inr ⟨by decide, fun _ => Or.inl (Nat.le_refl _)⟩), p2.2.1.tr (LZ.lr (P := P) (L := Lb) (by decide) p.2.2.2.2.2.1) (Nat.le_refl _) (Nat.le_refl _), p2.2.2.1.lr (by decide), p2.2.2.2⟩
  have e3 : SEq S (Ur B 45 (upd (Zr B 45) L (-1))) := e2.tr ⟨(LZ.lr (P := 0) (L := 0) (by decide) (Nat.zero_le _)).1, rfl, rfl, rfl, rfl, rfl⟩
  have q3 : Zq (Ur B 45 (upd (Zr B 45) L (-1))) 43 L = some w := q2
  have r3 : Zr (Ur B 45 (upd (Zr B 45) L (-1))) 44 L = y0 := (congrFun (Zr_un (by decide)) L).trans r2
  have s3 : Zr (Ur B 45 (upd (Zr B 45) L (-1))) 45 L = -1 := (congrFun Zr_us L).trans upd_s
  generalize Ur B 45 (upd (Zr B 45) L (-1)) = C at p3 e3 q3 r3 s3
  have hC : Zi C 47 = nI L := p3.1.2.2.2.2.1
  have eC : Zi C 47 + 1 = nI (L + 1) := by rw [hC]; exact nI_1 L
  rw [eC]
  refine Rt.bd (v := Ui C 47 (nI (L + 1))) rfl (Rt.rt ⟨?_, ⟨p3.1.l1 hl (Or.inr ⟨w, q3, hpo.st e3.1⟩) s3, p3.2.1.tr (LZ.ui (P := P) (L := Lb) (by decide)) (Nat.le_refl _) (Nat.le_refl _), p3.2.2.1.sm rfl rfl rfl, p3.2.2.2.1, p3.2.2.2.2.1, Nat.le_succ_of_le p3.2.2.2.2.2.1, p3.2.2.2.2.2.2⟩, e3.tr ⟨(LZ.ui (P := 0) (L := 0) (by decide)).1, rfl, rfl, rfl, rfl, rfl⟩, q3, r3, s3⟩)
  rw [show Zi (Ui C 47 (nI (L + 1))) 47 = nI (L + 1) from Zi_s, nI_sb1 (by omega)]; rfl
/-- lend -/
theorem len_ {e o pp q v y m2 w2 nn t p0 : Nat} {mu : Int32} {π : List (Nat × Nat)} (hL : RIn R S0) (hY : YK R S0) (hE : E.y = yT R S0) (hA : ALv S0 E Γ s) (hs : wl s = h) (hh : h ≤ 177) (c : LC R S0 S P h Γ2 L) (he : e ∈ ZL R.S) (hF : ZF S0 e = xtC 12 p0 0 0 0 0 0 mu (.ref o) .null .null 0 (.ref t) .null) (hx : xPl R S0 Γ nn o pp q v π y m2 w2) (hn : nn ≤ 1000) (hπ : π.length ≤ 4) (hv : vTy S0 y) (hq : q ≤ R.T) (hm : mu = 0 ∨ (mu = 1 ∧ m2 = 1)) (hP : P < 24000) (hl : L < 160) (hr : RMl R S 5 20) : Rt (f_lend R.K S (some e)) (fun S2 _ => GV R S0 S S2 E P (P + 1) h (h + 1) Γ2 Γ2 L (L + 1) s ((if mu = 0 then 1 else 2, abV S0 y, 0) :: s) False 5 20) := by
  obtain ⟨r1, r2⟩ := hr
  obtain ⟨tv, vi, nm, mt, i0, i2, i3, i4, i5, i6, i7, i8, i9, i10⟩ := xPl_in hY hx
  obtain ⟨ix2, i1, ⟨a1, a4⟩, a2, a3⟩ := hA.2 v i2 vi nm tv mt i0
  obtain ⟨x1, x2, x3, ⟨x4, x5⟩, kx, fs, x6, x7, x8, x9, x10⟩ := xPl_c hx
  have hmu : mu = 0 ∨ mu = 1 := hm.imp id (fun w => w.1)
  have hrd : ∀ {S1 : Sg}, LX S0 S1 → oR S1 15 (some e) 8 = some (some o) ∧ oI S1 15 (some e) 7 = some mu := fun hx => ⟨hx.vr (by decide) (by decide) (oR_mk (hL e he) hF (v := some o) rfl), hx.vi (by decide) (by decide) (oI_mk (hL e he) hF rfl)⟩
  unfold f_lend
  refine Rt.bd (hrd c.1).1 (Rt.bn (pth_ c hL hx hn hπ (by omega) (by omega)) (fun S1 r t => ?_))
  obtain ⟨w, ix3, tv2, rfl, t2, t3, t4, t5, t6, t7, t8, t9⟩ := t
  have hsame : tv2 = tv ∧ isPw R S0 S1 w v ix2 tv2 π y := by
    obtain ⟨sa, ta, f9, g9, j1, j2, j3, j4, j5, j6, nm2, mt2, u⟩ := t4
    have e2 := u.2.symm.trans i1.2
    obtain ⟨_, e4⟩ := Prod.mk.inj (Sum.inr.inj e2)
    injection e4 with b1 e4
    injection e4 with b2 e4
    injection e4 with b3 e4
    injection b1 with b1
    exact ⟨Option.some.inj (va_rf_inj b3), sa, ta, f9, g9, j1, j2, j3, j4, j5, j6, nm2, mt2, u.1, by rw [u.2]; unfold vrC; rw [b1]⟩
  replace t4 := hsame.2
  obtain rfl := hsame.1
  refine Rt.bd (hrd t2.1).1 (Rt.bd ((c.1.tr t3.lx).vi (by decide) (by decide) (oI_mk (hL o x1) x6 x8)) ?_)
  refine pnt_ (Lb := L) (Sb := S) (z := 3) (n := 13) hP t2 (t3.1 P L) (Nat.le_refl _) t6 t7 t8 (fun S2 p2 e2 => ?_)
  have hwm : w ∈ ZL S1 := by obtain ⟨_, _, _, _, h, _⟩ := t4; exact h
  have w2' := t4.st e2.1
  have hwm2 : w ∈ ZL S2 := by obtain ⟨_, _, _, _, h, _⟩ := w2'; exact h
  refine Rt.bd (hrd p2.1.1).2 ?_
  have h39 : ∀ ac n3 : Nat, ((ac = 2 ∧ n3 = 1 ∧ mu = 0) ∨ (ac = 3 ∧ n3 = 0 ∧ mu = 1)) → Rt (f_lend_39 R.K S2 (some e) (some w) (nI P) (nI ac) (nI P)) (fun S2 _ => GV R S0 S S2 E P (P + 1) h (h + 1) Γ2 Γ2 L (L + 1) s ((if mu = 0 then 1 else 2, abV S0 y, 0) :: s) False 5 20) := fun ac n3 hac => by
    have hac8 : ac < 8 := by rcases hac with w | w <;> omega
    have hn3 : n3 ≤ 1 := by rcases hac with w | w <;> omega
    unfold f_lend_39
    refine p2.wI hP (by decide) (fun S3 p3 e3 => ?_)
    refine Rt.bn (thr_ hP p3 hY (w2'.st e3.1) (by omega) (by omega) ((t9.st e2.1 hwm).st e3.1 hwm2) (by omega) (by omega)) (fun S4 _ t => ?_)
    obtain ⟨y4, p4, l4, v1, v2, v3, v4, v5, v6, v7⟩ := t
    refine Rt.bd (hrd p4.1.1).2 ?_
    have w4 := (w2'.st e3.1).st l4
    have hok : okO S4 18 (some w) = true := by
      obtain ⟨_, _, _, _, q1, q2, _⟩ := w4
      exact okO_mk q1 q2
    have h65 : Rt (f_lend_65 R.K S4 (nI P) (nI n3) (some w) (nI P)) (fun S2 _ => GV R S0 S S2 E P (P + 1) h (h + 1) Γ2 Γ2 L (L + 1) s ((if mu = 0 then 1 else 2, abV S0 y, 0) :: s) False 5 20) := by
      unfold f_lend_65 f_temporary
      refine nln_ hl p4 hok (w4.po (by omega)) (by rcases hac with w | w <;> rw [w.2.1] <;> decide) (fun S5 p5 e5 o1 o2 o3 => ?_)
      refine p5.wIl hP (by decide) (fun S6 p6 e6 n6 => Rt.be rfl ?_)
      have e48 : 40 + Zi S6 48 = nI (40 + h) := by rw [p6.1.2.2.1]; exact nI_add 40 h
      rw [e48]
      refine p6.wIl hP (by decide) (fun S7 p7 e7 n7 => ?_)
      have e48 : Zi S7 48 + 1 = nI (h + 1) := by rw [p7.1.2.2.1]; exact nI_1 h
      refine p7.hhl e48 (fun S8 p8 e8 n8 => Rt.rt ?_)
      have n58 := (n6.tr n7).tr n8
      have l48 : LX S4 S8 := ((e5.1.tr e6.1).tr e7.1).tr e8.1
      have hpt := (w4.st l48).pt p8.1 (by omega)
      let i : iR := (3, ac, some (ix2, π, abT S0 y), (some (40 + h), some L), (ifR (E.vt ix2) [ix2] [], ifR (E.vt ix2) [ix2] []), [P + 1], (0, v, n3), [])
      have hus : ∀ r : Nat, (r = 36 ∨ r = 37) → rAr R S8 (y4.2.2 r) (ifR (E.vt ix2) [ix2] []) := fun r hr => by
        by_cases q : isRf (E.vt ix2)
        · rw [ifR_p q]
          rw [a2] at q
          obtain ⟨z1, z2⟩ := v6 q
          rcases hr with e | e <;> subst e
          · exact z2.st l48
          · exact z1.st l48
        · rw [ifR_n q]
          rw [a2] at q
          obtain ⟨z1, z2⟩ := v7 q
          rcases hr with e | e <;> subst e
          · exact Or.inl ⟨z2, rfl⟩
          · exact Or.inl ⟨z1, rfl⟩
      have g1 : ∀ r : Nat, r ≠ 34 → r ≠ 35 → r ≠ 33 → upd (upd y4.1 35 (nI L)) 34 (nI (40 + h)) r = (ptRc 3 (nI pp)).1 r := fun r h1 h2 h3 => by rw [upd_n h1, upd_n h2, v1]; exact upd_n (f := (ptRc 3 (nI pp)).1) h3
      have hz : rz R S0 S8 P i := by
        refine rz_g (i := i) (K := 3) rfl p8.2.2.1 (by decide) (by decide) ?_ ?_ hac8 ?_ ?_ (hus 37 (Or.inr rfl)) (hus 36 (Or.inl rfl)) ⟨pp, ?_, by omega⟩ (Or.inr ⟨w, ix2, abT S0 y, π, v3, rfl, hpt, (w4.st l48).va⟩) (fun l e => ?_) ?_ rfl (fun w => absurd w (by decide)) (fun w => absurd w (by decide)) (fun w => absurd w (by decide)) (fun w => absurd w (by decide)) (fun w => absurd w (by decide)) (fun w => absurd w (by decide))
        · exact (g1 27 (by decide) (by decide) (by decide)).trans rfl
        · show upd (upd y4.1 35 (nI L)) 34 (nI (40 + h)) 33 = nI ac
          rw [upd_n (by decide), upd_n (by decide), v1]; exact upd_s (f := (ptRc 3 (nI pp)).1) (k := 33)
        · exact upd_s (f := upd y4.1 35 (nI L)) (k := 34)
        · exact (upd_n (f := upd y4.1 35 (nI L)) (k := 34) (j := 35) (v := nI (40 + h)) (by decide)).trans (upd_s (f := y4.1) (k := 35))
        · exact (g1 32 (by decide) (by decide) (by decide)).trans rfl
        · cases e
          refine ⟨?_, ?_, hn3, ?_⟩
          · rw [n58.1, o1]; exact v3.symm
          · rw [n58.2.1]; exact o2
          · rw [n58.2.2]; exact o3
        · exact (g1 30 (by decide) (by decide) (by decide)).trans rfl
      obtain ⟨_, _, f, g, _, _, _, _, q5, q6, _⟩ := w4
      refine ⟨p8.1, p8.2.1, tsg.one (i := i) hz (fun l e => by cases e; exact Nat.lt_succ_self _) (fun j hj => List.mem_singleton.mp hj) (by omega) (tP_3 rfl ⟨ix2, π, abT S0 y, ⟨rfl, ⟨a1, a4⟩, a3, ?_, i5, i4.n0 hY, hπ, hA.1⟩, ⟨fun q => ⟨ifR_p q, ifR_p q⟩, fun q => ⟨ifR_n q, ifR_n q⟩⟩, by rw [hs]; rfl, ⟨L, rfl⟩, ?_, ?_⟩) (fun w => w.elim), p8.2.2.2.1, Nat.le_trans p8.2.2.2.2.1 (by omega), Nat.le_succ _, Nat.le_succ _, p8.2.2.2.2.2.2⟩
      · rw [hE, a2]; exact q5.ty hY q6
      · rw [(hv.nm hY).2.2]; exact (hv.nm hY).2.1
      · rcases hac with ⟨z1, z2, z3⟩ | ⟨z1, z2, z3⟩
        · refine Or.inl ⟨z1, z2, rfl, ?_⟩
          rw [if_pos z3, (hv.nm hY).2.2]; exact wkS.rf
        · refine Or.inr ⟨z1, z2, fun q => ?_, rfl, ?_⟩
          · rw [a2] at q ⊢
            have hm2 : m2 = 1 := by
              rcases hm with w | w
              · exact absurd (w.symm.trans z3) (by decide)
              · exact w.2
            refine (i10 q (fun e => ?_)).2 hm2
            obtain ⟨b1, _⟩ := i9 e
            rw [← b1, (hv.nm hY).2.2] at q
            exact absurd q.1 (by have := (hv.nm hY).2.1; omega)
          · rw [if_neg (by rw [z3]; decide), (hv.nm hY).2.2]; exact wkS.rf
    refine Rt.it (fun w => ?_) (fun w => ?_)
    · rcases hac with z | z
      · rw [z.2.1] at h65; exact h65
      · exact absurd (w.symm.trans z.2.2) (by decide)
    · rcases hac with z | z
      · exact absurd z.2.2 w
      · rw [z.2.1] at h65; exact h65
  refine Rt.it (fun w => h39 2 1 (Or.inl ⟨rfl, rfl, w⟩)) (fun w => h39 3 0 (Or.inr ⟨rfl, rfl, hmu.resolve_left w⟩))
end LY14
end
-- m0.p.lean.txt
section
/-- exps of the typing are where they were read -/
def KEq (R : yR) (S0 : Sg) : Prop := ∀ a ∈ ZL R.S, ∀ gs : List Value, ZF S0 a = .inr (15, gs) → ∃ fs : List Value, ZF R.S a = .inr (15, fs) ∧ gs[0]? = fs[0]? ∧ gs[8]? = fs[8]?
theorem TS.keq {R : yR} {c nv : Nat} {S0 : Sg} (h : TS R c nv S0) : KEq R S0 := fun a ha gs e => by
  obtain ⟨G, tm, Y, ad, h1, h2, h3, h4⟩ := h
  obtain ⟨g1, g2⟩ := h2 a ha
  have hc := h1.1.2.1 a g1
  rw [g2, e] at hc
  cases q : ZF R.S a with
  | inl r => rw [q] at hc; exact hc.elim
  | inr r =>
    obtain ⟨k, fs⟩ := r
    rw [q] at hc
    obtain ⟨c1, c2, c3⟩ := hc
    subst c1
    exact ⟨fs, rfl, c3 0 rfl, c3 8 rfl⟩
section LY15
variable {R : yR} {S0 S : Sg} {Γ : List Nat} {K : Ky}
theorem xPl_pw : ∀ {n e p q v : Nat} {π : List (Nat × Nat)} {x mu mv : Nat}, xPl R S0 Γ n e p q v π x mu mv → pwE (ZL R.S) (ZF S0) n e ∧ plE (ZF S0) n e
  | 0, _, _, _, _, _, _, _, _, h => h.elim
  | n + 1, e, p, q, v, π, x, mu, mv, h => by
    obtain ⟨⟨h1, h2, h3⟩, h4, h5⟩ := h
    rcases h5 with ⟨ix, nm, k1, k2, k3, k4, k5, k6⟩ | ⟨o, p', q', k1, k2, k3, k4⟩ | ⟨o, p', q', y, m2, w2, kd, π2, k1, k2, k3, k4, k5, k6, k7⟩ | ⟨o, nm, q', y, i, k, w2, π2, k1, k2, k3, k4, k5, k6, k7, k8⟩
    · exact ⟨⟨h1, 2, .null, _, k1, rfl, rfl, fun w => absurd w (by decide)⟩, 2, .null, _, k1, rfl, rfl, Or.inl rfl⟩
    · obtain ⟨r1, r2⟩ := xPl_pw k4
      exact ⟨⟨h1, 7, .ref o, _, k1, rfl, rfl, fun _ => ⟨o, rfl, r1⟩⟩, 7, .ref o, _, k1, rfl, rfl, Or.inr ⟨by decide, o, rfl, r2⟩⟩
    · obtain ⟨r1, r2⟩ := xPl_pw k4
      exact ⟨⟨h1, 11, .ref o, _, k1, rfl, rfl, fun _ => ⟨o, rfl, r1⟩⟩, 11, .ref o, _, k1, rfl, rfl, Or.inr ⟨by decide, o, rfl, r2⟩⟩
    · obtain ⟨r1, r2⟩ := xPl_pw k4
      exact ⟨⟨h1, 14, .ref o, _, k1, rfl, rfl, fun _ => ⟨o, rfl, r1⟩⟩, 14, .ref o, _, k1, rfl, rfl, Or.inr ⟨by decide, o, rfl, r2⟩⟩
theorem plE_bk (hK : KEq R S0) : ∀ {n a : Nat}, pwE (ZL R.S) (ZF S0) n a → plE (ZF S0) n a → plE (ZF R.S) n a
  | 0, _, h, _ => h.elim
  | n + 1, a, h, g => by
    obtain ⟨h1, kd, vo, fs, h2, h3, h4, h5⟩ := h
    obtain ⟨kd2, vo2, fs2, g2, g3, g4, g5⟩ := g
    have e : fs2 = fs := by rw [h2] at g2; cases g2; rfl
    subst e
    obtain ⟨f0, f1, f2, f3⟩ := hK a h1 _ h2
    refine ⟨kd2, vo2, f0, f1, f2.symm.trans g3, f3.symm.trans g4, g5.imp id (fun ⟨w, o, w2, w3⟩ => ⟨w, o, w2, ?_⟩)⟩
    have ek : kd2 = kd := by rw [h3] at g3; cases g3; rfl
    have ev : vo2 = vo := by rw [h4] at g4; cases g4; rfl
    obtain ⟨o', e1, e2⟩ := h5 (by rw [← ek]; exact w)
    rw [← ev, w2] at e1; cases e1
    exact plE_bk hK e2 w3
/-- an exp that is no place -/
def xNp (R : yR) (S : Sg) (Γ : List Nat) (n kk e p q b c x : Nat) : Prop :=
     (∃ (kd : Int32) (num : Int64), (kd = 0 ∨ kd = 1 ∨ kd = 15) ∧ ZF S e = xtC kd p 0 0 0 0 num 0 .null .null .null 0 (.ref x) .null ∧ b = c ∧ (isTy S x 0 0 none ∨ isTy S x 1 0 none)) ∨
     (∃ (kd : Int32) (o p' q' y : Nat), ZF S e = xtC kd p 0 0 0 0 0 0 (.ref o) .null .null 0 (.ref x) .null ∧ p < p' ∧ q' ≤ q ∧ xE R S Γ n kk o p' q' b c y ∧ ((kd = 4 ∧ isTy S y 0 0 none ∧ isTy S x 2 0 none) ∨ (kd = 7 ∧ y = x ∧ ¬ plE (ZF R.S) n o) ∨ (kd = 9 ∧ isTy S y 1 0 none ∧ isTy S x 1 0 none) ∨ (kd = 10 ∧ isTy S y 0 0 none ∧ isTy S x 0 0 none) ∨ (kd = 13 ∧ vTy S y ∧ isTy S x 5 0 (some y)))) ∨
     (∃ (mu : Int32) (o p' v y m2 w2 : Nat) (π : List (Nat × Nat)), ZF S e = xtC 12 p 0 0 0 0 0 mu (.ref o) .null .null 0 (.ref x) .null ∧ p < p' ∧ xPl R S Γ n o p' q v π y m2 w2 ∧ π.length ≤ 4 ∧ vTy S y ∧ c = b + 1 ∧ ((mu = 0 ∧ isTy S x 6 0 (some y)) ∨ (mu = 1 ∧ isTy S x 7 0 (some y) ∧ m2 = 1))) ∨
     (∃ (o q1 b1 mn : Nat) (li si : Value) (f : Nat → Option Nat) (g : Nat → Int32) (tx tt : Nat → Nat), ZF S e = xtC 8 p 0 0 0 0 0 0 (.ref o) li si mn (.ref x) .null ∧ 1 ≤ mn ∧ xE R S Γ n kk o p q1 b b1 (tt 0) ∧ lsK R S kk (xE R S Γ n) 1 li si mn q1 q b1 c tx f g ∧ tt mn = x ∧ ∀ i : Nat, i < mn → (isTy S (tt i) 0 0 none ∨ isTy S (tt i) 1 0 none) ∧ (isTy S (tx i) 0 0 none ∨ isTy S (tx i) 1 0 none) ∧ (isTy S (tt (i + 1)) 0 0 none ∨ isTy S (tt (i + 1)) 1 0 none)) ∨
     (∃ (i mn p' z : Nat) (li si : Value) (f : Nat → Option Nat) (g : Nat → Int32) (tx : Nat → Nat), ZF S e = xtC 3 p 0 (nI p) (nI i) 0 0 0 .null li si mn (.ref x) .null ∧ p < p' ∧ fnY R S i mn tx x ∧ lsK R S kk (xE R S Γ n) z li si mn p' q b c tx f g) ∨
     (∃ (i mn p' : Nat) (li si : Value) (f : Nat → Option Nat) (g : Nat → Int32) (tx fo : Nat → Nat), ZF S e = xtC 5 p 0 (nI (p + 1)) (nI i) 0 0 0 .null li si mn (.ref x) .null ∧ p < p' ∧ stY R S i mn ∧ isTy S x 3 (nI i) none ∧ lsK R S kk (xE R S Γ n) 1 li si mn p' q b c tx f g ∧ (∀ k : Nat, k < mn → fo k < mn ∧ fld R S i (fo k) (tx k) ∧ fnm R S i (fo k) (g k)) ∧ ∀ k j : Nat, k < mn → j < mn → fo k = fo j → k = j) ∨
     (∃ (i v mn p' z : Nat) (li si : Value) (f : Nat → Option Nat) (g : Nat → Int32) (tx : Nat → Nat), ZF S e = xtC 6 p (nI (p + 2)) (nI p) (nI i) (nI v) 0 0 .null li si mn (.ref x) .null ∧ p < p' ∧ enY R S i v mn tx ∧ isTy S x 4 (nI i) none ∧ lsK R S kk (xE R S Γ n) z li si mn p' q b c tx f g)
/-- .. its kind -/
theorem xNp_k {n kk e p q b c x : Nat} (h : xNp R S Γ n kk e p q b c x) : ∃ (kd : Int32) (vo : Value) (fs : List Value), ZF S e = .inr (15, fs) ∧ fs[0]? = some (.int kd) ∧ fs[1]? = some (.int (nI p)) ∧ fs[8]? = some vo ∧ ((kd = 7 ∧ ∃ o p' q' : Nat, vo = .ref o ∧ xE R S Γ n kk o p' q' b c x ∧ ¬ plE (ZF R.S) n o) ∨ (kd ≠ 7 ∧ kd ≠ 14 ∧ kd ≠ 11 ∧ kd ≠ 2)) := by
  rcases h with ⟨kd, num, k1, k2, _⟩ | ⟨kd, o, p', q', y, k1, k2, k3, k4, k5⟩ | ⟨mu, o, p', v, y, m2, w2, π, k1, _⟩ | ⟨o, q1, b1, mn, li, si, f, g, tx, tt, k1, _⟩ | ⟨i, mn, p', z, li, si, f, g, tx, k1, _⟩ | ⟨i, mn, p', li, si, f, g, tx, fo, k1, _⟩ | ⟨i, v, mn, p', z, li, si, f, g, tx, k1, _⟩
  · exact ⟨kd, _, _, k2, rfl, rfl, rfl, Or.inr (by rcases k1 with e | e | e <;> subst e <;> decide)⟩
  · refine ⟨kd, _, _, k1, rfl, rfl, rfl, ?_⟩
    rcases k5 with ⟨e, _⟩ | ⟨e, e2, e3⟩ | ⟨e, _⟩ | ⟨e, _⟩ | ⟨e, _⟩
    · subst e; exact Or.inr (by decide)
    · subst e e2; exact Or.inl ⟨rfl, o, p', q', rfl, k4, e3⟩
    · subst e; exact Or.inr (by decide)
    · subst e; exact Or.inr (by decide)
    · subst e; exact Or.inr (by decide)
  · exact ⟨_, _, _, k1, rfl, rfl, rfl, Or.inr (by decide)⟩
  · exact ⟨_, _, _, k1, rfl, rfl, rfl, Or.inr (by decide)⟩
  · exact ⟨_, _, _, k1, rfl, rfl, rfl, Or.inr (by decide)⟩
  · exact ⟨_, _, _, k1, rfl, rfl, rfl, Or.inr (by decide)⟩
  · exact ⟨_, _, _, k1, rfl, rfl, rfl, Or.inr (by decide)⟩
theorem xE_pw : ∀ {n kk e p q b c x : Nat}, xE R S0 Γ n kk e p q b c x → pwE (ZL R.S) (ZF S0) n e
  | 0, _, _, _, _, _, _, _, h => h.elim
  | n + 1, kk, e, p, q, b, c, x, h => by
    obtain ⟨⟨h1, h2, h3⟩, h4, ⟨v, π, mu, mv, kd, ix, o, k1, _⟩ | h5⟩ := h
    · exact (xPl_pw k1).1
    · obtain ⟨kd, vo, fs, g1, g2, g3, g4, g5⟩ := xNp_k (show xNp R S0 Γ n kk e p q b c x from h5)
      refine ⟨h1, kd, vo, fs, g1, g2, g4, fun w => ?_⟩
      rcases g5 with ⟨_, o, p', q', e1, e2, _⟩ | ⟨a1, a2, a3, _⟩
      · exact ⟨o, e1, xE_pw e2⟩
      · rcases w with w | w | w
        · exact absurd w a1
        · exact absurd w a2
        · exact absurd w a3
/-- isPlace of a typed exp, in the laying -/
theorem xE_isp (hK : KEq R S0) (hL : RIn R S0) (hx : LX S0 S) {n kk e p q b c x : Nat} (h : xE R S0 Γ (n + 1) kk e p q b c x) (hn : n + 1 ≤ 1000) : (f_isPlace K S (some e) = some (S, 1) ∧ ∃ (v : Nat) (π : List (Nat × Nat)) (mu mv : Nat) (kd ix : Int32) (o : Option Nat), xPl R S0 Γ (n + 1) e p q v π x mu mv ∧ π.length ≤ 4 ∧ b = c ∧ isTy S0 x kd ix o ∧ (kd = 0 ∨ kd = 1 ∨ kd = 6 ∨ mv ≠ 0)) ∨ (f_isPlace K S (some e) = some (S, 0) ∧ xNp R S0 Γ n kk e p q b c x) := by
  have hw := xE_pw h
  obtain ⟨S9, r, q1, rfl, q2⟩ := isp_ (K := K) hL hw hn
  have q3 := hx.isp2 (K := K) (m := bigN) q1
  have q3 : f_isPlace K S (some e) = some (S, r) := q3
  obtain ⟨h0, h4, h5 | h5⟩ := h
  · left
    obtain ⟨v, π, mu, mv, kd, ix, o, k1, k2⟩ := h5
    rcases q2 with ⟨e1, _⟩ | ⟨_, e2⟩
    · rw [e1] at q3; exact ⟨q3, v, π, mu, mv, kd, ix, o, k1, k2⟩
    · exact absurd (xPl_pw k1).2 e2
  · right
    have h5 : xNp R S9 Γ n kk e p q b c x := h5
    rcases q2 with ⟨_, e2⟩ | ⟨e1, _⟩
    · exfalso
      obtain ⟨kd, vo, fs, g1, g2, _, g4, g5⟩ := xNp_k h5
      obtain ⟨kd2, vo2, fs2, f1, f2, f3, f4⟩ := e2
      have e : fs2 = fs := by rw [g1] at f1; cases f1; rfl
      subst e
      have ek : kd2 = kd := by rw [g2] at f2; cases f2; rfl
      have ev : vo2 = vo := by rw [g4] at f3; cases f3; rfl
      subst ek ev
      rcases g5 with ⟨a1, o, p', q', a2, a3, a4⟩ | ⟨a1, a2, a3, a4⟩
      · rcases f4 with w | ⟨w, o2, w2, w3⟩
        · exact absurd (a1.symm.trans w) (by decide)
        · rw [a2] at w2; cases w2
          exact a4 (plE_bk hK (xE_pw a3) w3)
      · rcases f4 with w | ⟨w | w | w, _⟩
        · exact a4 w
        · exact a1 w
        · exact a2 w
        · exact a3 w
    · rw [e1] at q3; exact ⟨q3, h5⟩
/-- borrows: no fewer behind than before -/
theorem chX_bc {z : Nat} {P : Nat → Nat → Nat → Nat → Nat → Nat → Prop} {f : Nat → Option Nat} {g : Nat → Int32} {n p q b c : Nat} {tx : Nat → Nat} (h : chX z P f g n p q b c tx) (hP : ∀ x p1 q1 b1 c1 t : Nat, P x p1 q1 b1 c1 t → b1 ≤ c1) : b ≤ c := by
  obtain ⟨ps, bs, h1, h2, h3, h4, h5⟩ := h
  have : ∀ i : Nat, i ≤ n → b ≤ bs i := by
    intro i
    induction i with
    | zero => intro _; rw [h3]; exact Nat.le_refl _
    | succ i ih =>
      intro hi
      obtain ⟨x, p', s, _, _, g3, _⟩ := h5 i (by omega)
      exact Nat.le_trans (ih (by omega)) (hP _ _ _ _ _ _ g3)
  rw [← h4]; exact this n (Nat.le_refl _)
theorem lsK_bc {P : Nat → Nat → Nat → Nat → Nat → Nat → Nat → Prop} {k z mn p q b c : Nat} {li si : Value} {tx : Nat → Nat} {f : Nat → Option Nat} {g : Nat → Int32} (h : lsK R S k P z li si mn p q b c tx f g) (hP : ∀ k x p1 q1 b1 c1 t : Nat, P k x p1 q1 b1 c1 t → b1 ≤ c1) : b ≤ c := by
  obtain ⟨k2, _, h | ⟨_, _, _, _, _, _, _, _, _, _, _, _, _, h⟩⟩ := h
  · exact Nat.le_of_eq h.2.1
  · exact chX_bc h (hP k2)
theorem xE_bc : ∀ {n kk e p q b c x : Nat}, xE R S Γ n kk e p q b c x → b ≤ c
  | 0, _, _, _, _, _, _, _, h => h.elim
  | n + 1, kk, e, p, q, b, c, x, h => by
    obtain ⟨_, _, ⟨_, _, _, _, _, _, _, _, _, h, _⟩ | ⟨_, _, _, _, h, _⟩ | ⟨_, _, _, _, _, _, _, _, h, _⟩ | ⟨_, _, _, _, _, _, _, _, _, _, _, _, _, h, _⟩ | ⟨_, _, _, _, _, _, _, _, _, _, _, _, h, h2, _⟩ | ⟨_, _, _, _, _, _, _, _, _, _, _, _, h⟩ | ⟨_, _, _, _, _, _, _, _, _, _, _, _, _, h, _⟩ | ⟨_, _, _, _, _, _, _, _, _, _, _, _, _, _, h⟩⟩ := h
    · omega
    · omega
    · exact xE_bc h
    · omega
    · exact Nat.le_trans (xE_bc h) (lsK_bc h2 (fun _ _ _ _ _ _ _ => xE_bc))
    · exact lsK_bc h (fun _ _ _ _ _ _ _ => xE_bc)
    · exact lsK_bc h (fun _ _ _ _ _ _ _ => xE_bc)
    · exact lsK_bc h (fun _ _ _ _ _ _ _ => xE_bc)
end LY15
end
-- m0.q.lean.txt
section
/-- the heads of functions, from the store -/
def hdS (R : yR) (S : Sg) (i : Nat) : Nat × (Nat → Nat) × Nat := (fN (obF S (R.ws i)) 3, fun k => (match rN (obF S (R.ws i)) 10 with
  | some ta => abU S (roQ S ta k)
  | none => 0), abU S (rN (obF S (R.ws i)) 15))
def iN (fs : List Value) (k : Nat) : Int32 := match fs[k]? with
  | some (.int v) => v
  | _ => 0
def roI (S : Sg) (a k : Nat) : Int32 := match ZF S a with
  | .inl (_, _, .inl f) => f k
  | _ => 0
/-- .. their lives -/
def lfS (R : yR) (S : Sg) (i q : Nat) : Int32 := match rN (obF S (R.ws i)) 13 with
  | some a => roI S a q
  | none => 0
def rlS (R : yR) (S : Sg) (i : Nat) : Int32 := iN (obF S (R.ws i)) 7
/-- structs and enums have one field or variant at least -/
def MN1 (R : yR) (S : Sg) : Prop := ∀ (i mn : Nat) (fs : List Value), i < R.im → R.ik i ≠ 12 → ZF S (R.ws i) = .inr (16, fs) → fs[3]? = some (.int (nI mn)) → mn ≤ 12 → 1 ≤ mn
/-- the texts of tokens -/
def SNH (R : yR) (S : Sg) : Prop := R.T ≤ 3001 ∧ (Zr S 0 = Zr R.S 0 ∧ Zr S 6 = Zr R.S 6 ∧ Zr S 7 = Zr R.S 7) ∧ ∀ t : Nat, t < R.T → ∃ a b : Nat, Zr S 6 t = nI a ∧ Zr S 7 t = nI b ∧ a ≤ b ∧ b ≤ 3000
/-- what is known where a function is laid -/
def EN (R : yR) (S0 : Sg) (E : eV) : Prop := RIn R S0 ∧ YK R S0 ∧ KEq R S0 ∧ ITA R S0 ∧ E.y = yT R S0 ∧ E.hd = hdS R S0 ∧ E.lf = lfS R S0 ∧ E.rl = rlS R S0 ∧ (Zq S0 11 = Zq R.S 11 ∧ Zr S0 5 = Zr R.S 5) ∧ R.T ≤ 3001 ∧ MN1 R S0 ∧ SNH R S0
/-- what an exp leaves on the stack -/
def resE (S0 : Sg) (x : Nat) : List tE := if abT S0 x = 0 then [] else [eT (abT S0 x)]
section LY16
variable {R : yR} {S0 Sb S S1 S2 : Sg} {P P2 h h0 L Lb z n : Nat} {Γ Γ0 Γ2 : List Nat} {x : pRc} {E : eV} {s s2 : List tE} {α : Type}
theorem fnY.hd {i mn gv : Nat} {tx : Nat → Nat} (h : fnY R S i mn tx gv) : i < R.im ∧ mn ≤ 12 ∧ (hdS R S i).1 = mn ∧ (∀ k : Nat, k < mn → (hdS R S i).2.1 k = abT S (tx k) ∧ rTy S (tx k)) ∧ (hdS R S i).2.2 = abT S gv := by
  obtain ⟨fs, ta, f, h1, h2, h3, h4, h5, h6, h7, h8, h9, h10⟩ := h
  refine ⟨h1, h6, ?_, fun k hk => ⟨?_, ?_⟩, ?_⟩
  · show fN (obF S (R.ws i)) 3 = mn
    rw [obF_o h4, fN_i h5 (by omega)]
  · show (match rN (obF S (R.ws i)) 10 with
      | some ta => abU S (roQ S ta k)
      | none => 0) = _
    rw [obF_o h4, rN_r h7]
    show abU S (roQ S ta k) = _
    rw [roQ_o h8.2.1, h9 k hk]; rfl
  · obtain ⟨y, y1, y2⟩ := h8.2.2 k hk
    rw [h9 k hk] at y1; cases y1; exact y2
  · show abU S (rN (obF S (R.ws i)) 15) = _
    rw [obF_o h4, rN_r h10]; rfl
theorem resE_r (hY : YK R S0) {y : Nat} (h : rTy S0 y) : resE S0 y = [eT (abT S0 y)] := if_neg (h.n0 hY)
theorem eT_n (t : Nat) : (eT t).1 ≠ 8 ∧ (eT t).1 ≠ 4 ∧ (eT t).1 ≠ 5 ∧ (eT t).1 ≠ 6 := by
  unfold eT
  by_cases h : 10000 ≤ t
  · rw [if_pos h]
    by_cases g : t % 2 = 0
    · rw [if_pos g]; exact (by decide : (1 : Nat) ≠ 8 ∧ (1 : Nat) ≠ 4 ∧ (1 : Nat) ≠ 5 ∧ (1 : Nat) ≠ 6)
    · rw [if_neg g]; exact (by decide : (2 : Nat) ≠ 8 ∧ (2 : Nat) ≠ 4 ∧ (2 : Nat) ≠ 5 ∧ (2 : Nat) ≠ 6)
  · rw [if_neg h]; exact (by decide : (0 : Nat) ≠ 8 ∧ (0 : Nat) ≠ 4 ∧ (0 : Nat) ≠ 5 ∧ (0 : Nat) ≠ 6)
theorem wl_eT {t : Nat} : wl (eT t :: s) = wl s + 1 := wl_n (fun w => by
  have := eT_n t
  rcases w with w | w | w | w
  · exact this.1 w
  · exact this.2.1 w
  · exact this.2.2.1 w
  · exact this.2.2.2 w)
theorem resE_8 (hY : YK R S0) {y : Nat} (h : isTy S0 y 8 0 none) : resE S0 y = [] := by
  obtain ⟨t, _, _, _, a, b⟩ := abV_is hY h
  refine if_pos ?_
  rw [b, if_neg (by decide), if_neg (by decide), a]; rfl
/-- the type of ints, of bools, of tokens on the stack -/
theorem resE_i (hY : YK R S0) {y : Nat} (h : isTy S0 y 0 0 none) : resE S0 y = [(0, 1, 0)] := by
  obtain ⟨t, _, _, _, a, b⟩ := abV_is hY h
  have e : abT S0 y = 1 := by rw [b, if_neg (by decide), if_neg (by decide), a]; rfl
  unfold resE; rw [e]; rfl
theorem resE_b (hY : YK R S0) {y : Nat} (h : isTy S0 y 1 0 none) : resE S0 y = [(0, 2, 0)] := by
  obtain ⟨t, _, _, _, a, b⟩ := abV_is hY h
  have e : abT S0 y = 2 := by rw [b, if_neg (by decide), if_neg (by decide), a]; rfl
  unfold resE; rw [e]; rfl
theorem resE_t (hY : YK R S0) {y : Nat} (h : isTy S0 y 2 0 none) : resE S0 y = [(0, 3, 0)] := by
  obtain ⟨t, _, _, _, a, b⟩ := abV_is hY h
  have e : abT S0 y = 3 := by rw [b, if_neg (by decide), if_neg (by decide), a]; rfl
  unfold resE; rw [e]; rfl
theorem resE_ib (hY : YK R S0) {y : Nat} (h : isTy S0 y 0 0 none ∨ isTy S0 y 1 0 none) : ∃ t : Nat, (t = 1 ∨ t = 2) ∧ resE S0 y = [(0, t, 0)] := h.elim (fun h => ⟨1, Or.inl rfl, resE_i hY h⟩) (fun h => ⟨2, Or.inr rfl, resE_b hY h⟩)
/-- the rows of a point that looks at nothing -/
def pl0 (x : pRc) (K pp : Nat) : Prop := x.1 27 = nI K ∧ x.1 30 = -1 ∧ x.1 32 = nI pp ∧ x.1 33 = 0 ∧ x.1 34 = -1 ∧ x.1 35 = -1 ∧ x.2.2 36 = none ∧ x.2.2 37 = none ∧ x.2.2 38 = none
theorem pl0_o {K pp : Nat} : pl0 (ptRc (nI K) (nI pp)) K pp := ⟨rfl, rfl, rfl, rfl, rfl, rfl, rfl, rfl, rfl⟩
theorem gv0 {K pp n1 n2 n3 : Nat} {vs : List Nat} (hk : K < 28) (hj : K ≠ 26 ∧ K ≠ 16 ∧ K ≠ 17 ∧ K ≠ 18 ∧ K ≠ 19 ∧ K ≠ 20 ∧ K ≠ 21) (p : LPt R S0 Sb S P h Γ L L x z n) (hx : pl0 x K pp) (hpp : pp < R.T)
  (c39 : (K = 7 ∨ K = 11 ∨ K = 15) → ∃ y : Nat, x.2.2 39 = some y ∧ rTy S0 y ∧ abT S0 y = n1)
  (c28 : (K = 8 ∨ K = 9 ∨ K = 10) → x.1 28 = nI n1 ∧ x.1 29 = nI n2 ∧ x.2.1 = Int32.toInt64 (nI n3))
  (c42 : K = 8 → rAr R S (x.2.2 42) vs)
  (c40 : (K = 12 ∨ K = 13 ∨ K = 23 ∨ K = 24) → ∃ (va v : Nat) (ty : Option Nat) (mu : Int32), x.2.2 40 = some va ∧ vs = [v] ∧ isU S va v ty mu ∧ abU S0 ty = n1 ∧ ∀ y : Nat, ty = some y → rTy S0 y)
  (c41 : K = 22 → rAm R S0 S (x.2.2 41) n1 n2 vs) (c25 : K = 25 → x.1 28 = nI n1) (hw : wl s ≤ 177)
  (ht : tPt E P True ((K, 0, none, (none, none), ([], []), [P + 1], (n1, n2, n3), vs) : iR) s (fun j t => j = P + 1 ∧ wkS t s2)) (c10 : K ≠ 10 := by decide) : GV R S0 Sb S E P (P + 1) h0 h Γ0 Γ L L s s2 False z n := by
  obtain ⟨x1, x2, x3, x4, x5, x6, x7, x8, x9⟩ := hx
  refine ⟨p.1, p.2.1, tsg.one (i := (K, 0, none, (none, none), ([], []), [P + 1], (n1, n2, n3), vs)) (rz_g (K := K) rfl p.2.2.1 hk hj x1 x4 (Nat.zero_lt_succ _) x5 x6 (Or.inl ⟨x8, rfl⟩) (Or.inl ⟨x7, rfl⟩) ⟨pp, x3, hpp⟩ (Or.inl ⟨x9, rfl⟩) (fun l e => by cases e) x2 rfl c39 c28 c42 c40 c41 c25 (fun w => absurd w c10)) (fun l e => by cases e) (fun j hj => List.mem_singleton.mp hj) hw ht (fun w => w.elim), p.2.2.2.1, p.2.2.2.2.1, Nat.le_succ _, Nat.le_refl _, p.2.2.2.2.2.2⟩
/-- nothing of what is asked of an instruction's kind, for a plain one -/
theorem gvp {K pp : Nat} (hk : K = 0 ∨ K = 1 ∨ K = 4 ∨ K = 5 ∨ K = 6 ∨ K = 27) (p : LPt R S0 Sb S P h Γ L L x z n) (hx : pl0 x K pp) (hpp : pp < R.T) (hw : wl s ≤ 177)
  (ht : tPt E P True ((K, 0, none, (none, none), ([], []), [P + 1], (0, 0, 0), []) : iR) s (fun j t => j = P + 1 ∧ wkS t s2)) : GV R S0 Sb S E P (P + 1) h0 h Γ0 Γ L L s s2 False z n :=
  gv0 (n1 := 0) (n2 := 0) (n3 := 0) (vs := []) (by omega) (by omega) p hx hpp (fun w => by omega) (fun w => by omega) (fun w => by omega) (fun w => by omega) (fun w => by omega) (fun w => by omega) hw ht (by omega)
theorem iD0_0 {K n1 n2 n3 : Nat} {sc vs : List Nat} : iD0 ((K, 0, none, (none, none), ([], []), sc, (n1, n2, n3), vs) : iR) := ⟨rfl, rfl, rfl, rfl, rfl, rfl⟩
/-- a number, a bool; an input -/
theorem num_ {V : Sg → Option Nat → Option (Sg × Unit)} {e p q t : Nat} {kd : Int32} {num : Int64} {y : Nat} (hN : EN R S0 E) (hT : nT s) (hs : wl s = h) (hh : h + 1 ≤ 177) (c : LC R S0 S P h Γ2 L) (he : e ∈ ZL R.S) (hF : ZF S0 e = xtC kd p 0 0 0 0 num 0 .null .null .null 0 (.ref y) .null) (hp : p < R.T) (ht : t = 1 ∨ t = 2) (hP : P < 24000) : Rt (f_give_96 R.K V S (some e)) (fun S2 _ => GV R S0 S S2 E P (P + 1) h (h + 1) Γ2 Γ2 L L s ((0, t, 0) :: s) False 0 0) := by
  have hL := hN.1
  unfold f_give_96 f_give_251
  refine Rt.bd (c.1.vi (by decide) (by decide) (oI_mk (hL e he) hF (v := nI p) rfl)) ?_
  refine pnt_ (Lb := L) (Sb := S) (z := 0) (n := 0) hP c LZ.rf (Nat.le_refl _) (by omega) (by omega) UsK.rf (fun S2 p2 e2 => ?_)
  have hJ : oJ S2 15 (some e) 6 = some num := by
    obtain ⟨g1, g2⟩ := p2.1.1.ob (hL e he) hF (by decide) (by decide)
    exact oJ_mk g1 g2 rfl
  refine Rt.bd hJ (p2.wL hP (fun S3 p3 e3 => ?_))
  have e48 : Zi S3 48 + 1 = nI (h + 1) := by rw [p3.1.2.2.1]; exact nI_1 h
  refine p3.hh e48 (fun S4 p4 e4 => Rt.rt ?_)
  exact gvp (K := 1) (by decide) p4 (pl0_o (K := 1) (pp := p)) hp (by omega) (tP_1 rfl ⟨⟨iD0_0, hT⟩, t, ht, rfl, wkS.rf⟩)
theorem inp_ {V : Sg → Option Nat → Option (Sg × Unit)} {e p t : Nat} (hT : nT s) (hs : wl s = h) (hh : h + 1 ≤ 177) (c : LC R S0 S P h Γ2 L) (hp : p < R.T) (ht : t = 1 ∨ t = 2) (hP : P < 24000) : Rt (bnd (f_point R.K S 27 (nI p)) fun S18 v19 => (pM S18 48 ((Zi S18 48) + 1)).bind fun S20 => f_give_251 R.K V S20) (fun S2 _ => GV R S0 S S2 E P (P + 1) h (h + 1) Γ2 Γ2 L L s ((0, t, 0) :: s) False 0 0) := by
  unfold f_give_251
  refine pnt_ (Lb := L) (Sb := S) (z := 0) (n := 0) hP c LZ.rf (Nat.le_refl _) (by omega) (by omega) UsK.rf (fun S2 p2 e2 => ?_)
  have e48 : Zi S2 48 + 1 = nI (h + 1) := by rw [p2.1.2.2.1]; exact nI_1 h
  refine p2.hh e48 (fun S4 p4 e4 => Rt.rt ?_)
  exact gvp (K := 27) (by decide) p4 (pl0_o (K := 27) (pp := p)) hp (by omega) (tP_27 rfl ⟨⟨iD0_0, hT⟩, t, ht, rfl, wkS.rf⟩)
end LY16
end
-- m0.r.lean.txt
section
/-- behind an exp's code -/
def GvQ (R : yR) (S0 S : Sg) (E : eV) (P h : Nat) (Γ2 : List Nat) (L : Nat) (s : List tE) (x p q b c : Nat) (S2 : Sg) : Prop := ∃ P2 L2 : Nat, GV R S0 S S2 E P P2 h (wl (resE S0 x ++ s)) Γ2 Γ2 L L2 s (resE S0 x ++ s) False (5 * (q - p)) (40 * (q - p)) ∧ P < P2 ∧ P2 ≤ P + (q - p) ∧ L2 + b ≤ L + c
/-- the first point is no jump of a chain -/
def K0 (S : Sg) (P : Nat) : Prop := 1 ≤ P ∧ Zr S 27 0 ≠ 18 ∧ Zr S 27 0 ≠ 19
theorem K0.st {S S2 : Sg} {P P2 L : Nat} (k : K0 S P) (hz : LZ P L S S2) (hp : P ≤ P2) : K0 S2 P2 := by
  have e : Zr S2 27 0 = Zr S 27 0 := (hz.2.1 0 k.1).1 27 (by decide) (by decide)
  exact ⟨Nat.le_trans k.1 hp, by rw [e]; exact k.2.1, by rw [e]; exact k.2.2⟩
/-- V lays exps -/
def GvV (R : yR) (S0 : Sg) (E : eV) (Γ : List Nat) (V : Sg → Option Nat → Option (Sg × Unit)) (n : Nat) : Prop := ∀ (kk e p q b c x : Nat), xE R S0 Γ n kk e p q b c x → ∀ (S : Sg) (P h : Nat) (Γ2 : List Nat) (L : Nat) (s : List tE), LC R S0 S P h Γ2 L → K0 S P → ALv S0 E Γ s → wl s = h → h + 11 * kk + 1 ≤ 177 → q ≤ R.T → P + (q - p) < 24000 → L + c ≤ 160 + b → RMl R S (5 * (q - p)) (40 * (q - p)) → Rt (V S (some e)) (fun S2 _ => GvQ R S0 S E P h Γ2 L s x p q b c S2)
section LY17
variable {R : yR} {S0 Sb S S1 S2 : Sg} {P P2 h h0 L Lb z n : Nat} {Γ Γ0 Γ2 : List Nat} {x : pRc} {E : eV} {s s2 : List tE} {α : Type} {V : Sg → Option Nat → Option (Sg × Unit)}
theorem wl_rs (hY : YK R S0) {y : Nat} (h : rTy S0 y) : wl (resE S0 y ++ s) = wl s + 1 := by
  rw [resE_r hY h]; exact wl_eT
theorem RMl.le {z2 n2 : Nat} (h : RMl R S z n) (h1 : z2 ≤ z) (h2 : n2 ≤ n) : RMl R S z2 n2 := ⟨by have := h.1; omega, by have := h.2; omega⟩
theorem GV.rm {h1 L2 z1 n1 z2 n2 : Nat} {Γ1 : List Nat} {cl : Prop} (g : GV R S0 S S1 E P P2 h h1 Γ Γ1 L L2 s s2 cl z1 n1) (r : RMl R S z n) (hz : z1 + z2 ≤ z) (hn : n1 + n2 ≤ n) : RMl R S1 z2 n2 := ⟨by have := g.2.2.2.1; have := r.1; omega, by have := g.2.2.2.2.1; have := r.2; omega⟩
theorem GV.lx {h1 L2 : Nat} {Γ1 : List Nat} {cl : Prop} (g : GV R S0 S S1 E P P2 h h1 Γ Γ1 L L2 s s2 cl z n) : LX S S1 := g.2.1.1
/-- a value that is asked again: !, - -/
theorem gun_ {kk e o p q p' q' b c y xt : Nat} {kd : Int32} (hN : EN R S0 E) (hV : GvV R S0 E Γ V n) (he : e ∈ ZL R.S) (hF : ZF S0 e = xtC kd p 0 0 0 0 0 0 (.ref o) .null .null 0 (.ref xt) .null) (h3 : p < p') (h4 : q' ≤ q) (hx : xE R S0 Γ n kk o p' q' b c y) (hk : (kd = 9 ∧ isTy S0 y 1 0 none ∧ isTy S0 xt 1 0 none) ∨ (kd = 10 ∧ isTy S0 y 0 0 none ∧ isTy S0 xt 0 0 none)) (cc : LC R S0 S P h Γ2 L) (k0 : K0 S P) (hA : ALv S0 E Γ s) (hs : wl s = h) (hh : h + 11 * kk + 1 ≤ 177) (hq : q ≤ R.T) (hP : P + (q - p) < 24000) (hl : L + c ≤ 160 + b) (hr : RMl R S (5 * (q - p)) (40 * (q - p))) : Rt (f_give_162 R.K V S (some e)) (fun S2 _ => GvQ R S0 S E P h Γ2 L s xt p q b c S2) := by
  have hL := hN.1
  have hY := hN.2.1
  have hlt := xE_lt hx
  have hre : ∃ t : Nat, (t = 1 ∨ t = 2) ∧ resE S0 y = [(0, t, 0)] ∧ resE S0 xt = [(0, t, 0)] := by
    rcases hk with ⟨_, k1, k2⟩ | ⟨_, k1, k2⟩
    · exact ⟨2, Or.inr rfl, resE_b hY k1, resE_b hY k2⟩
    · exact ⟨1, Or.inl rfl, resE_i hY k1, resE_i hY k2⟩
  obtain ⟨t, t0, t1, t2⟩ := hre
  unfold f_give_162
  refine Rt.bd (cc.1.vr (by decide) (by decide) (oR_mk (hL e he) hF (v := some o) rfl)) ?_
  refine Rt.bn (hV kk o p' q' b c y hx S P h Γ2 L s cc k0 hA hs hh (by omega) (by omega) hl (hr.le (by omega) (by omega))) (fun S1 _ t => ?_)
  obtain ⟨P1, L1, g, g1, g2, g3⟩ := t
  rw [t1] at g
  refine Rt.bd (g.1.1.vi (by decide) (by decide) (oI_mk (hL e he) hF (v := kd) rfl)) ?_
  have h186 : ∀ K : Nat, (K = 5 ∨ K = 6) → Rt (f_give_186 R.K V S1 (some e) (nI K)) (fun S2 _ => GvQ R S0 S E P h Γ2 L s xt p q b c S2) := fun K hK => by
    unfold f_give_186 f_give_251
    refine Rt.bd (g.1.1.vi (by decide) (by decide) (oI_mk (hL e he) hF (v := nI p) rfl)) ?_
    refine pnt_ (Lb := L1) (Sb := S1) (z := 0) (n := 0) (by omega) g.1 LZ.rf (Nat.le_refl _) (by omega) (by omega) UsK.rf (fun S2 p2 e2 => Rt.rt ?_)
    have hw : wl ((0, t, 0) :: s) = wl s + 1 := wl_n (by show ¬ ((0 : Nat) = 8 ∨ (0 : Nat) = 4 ∨ (0 : Nat) = 5 ∨ (0 : Nat) = 6); decide)
    have g4 : GV R S0 S1 S2 E P1 (P1 + 1) (wl ((0, t, 0) :: s)) (wl ((0, t, 0) :: s)) Γ2 Γ2 L1 L1 ((0, t, 0) :: s) ((0, t, 0) :: s) False 0 0 := by
      refine gvp (K := K) (pp := p) (by omega) p2 pl0_o (by omega) (by omega) ?_
      rcases hK with e | e <;> subst e
      · exact tP_5 rfl ⟨iD0_0, t, s, t0, rfl, rfl, wkS.rf⟩
      · exact tP_6 rfl ⟨iD0_0, t, s, t0, rfl, rfl, wkS.rf⟩
    refine ⟨P1 + 1, L1, ?_, by omega, by omega, g3⟩
    rw [t2]
    exact g.tr g4 (fun w => w.elim) (by omega) (by omega)
  exact Rt.it (fun _ => h186 5 (Or.inl rfl)) (fun _ => h186 6 (Or.inr rfl))
/-- what stands in brackets; a token of a number -/
theorem inn151 {kk e o p q p' q' b c y xt : Nat} {kd : Int32} (hN : EN R S0 E) (hV : GvV R S0 E Γ V n) (he : e ∈ ZL R.S) (hF : ZF S0 e = xtC kd p 0 0 0 0 0 0 (.ref o) .null .null 0 (.ref xt) .null) (h3 : p < p') (h4 : q' ≤ q) (hx : xE R S0 Γ n kk o p' q' b c y) (hk : (isTy S0 y 0 0 none ∧ isTy S0 xt 2 0 none) ∨ y = xt) (cc : LC R S0 S P h Γ2 L) (k0 : K0 S P) (hA : ALv S0 E Γ s) (hs : wl s = h) (hh : h + 11 * kk + 1 ≤ 177) (hq : q ≤ R.T) (hP : P + (q - p) < 24000) (hl : L + c ≤ 160 + b) (hr : RMl R S (5 * (q - p)) (40 * (q - p))) : Rt (f_give_151 R.K V S (some e)) (fun S2 _ => GvQ R S0 S E P h Γ2 L s xt p q b c S2) := by
  have hL := hN.1
  have hY := hN.2.1
  have hlt := xE_lt hx
  unfold f_give_151 f_give_251
  refine Rt.bd (cc.1.vr (by decide) (by decide) (oR_mk (hL e he) hF (v := some o) rfl)) ?_
  refine Rt.bn (hV kk o p' q' b c y hx S P h Γ2 L s cc k0 hA hs hh (by omega) (by omega) hl (hr.le (by omega) (by omega))) (fun S1 _ t => Rt.rt ?_)
  obtain ⟨P1, L1, g, g1, g2, g3⟩ := t
  obtain ⟨a1, a2, a3, a4, a5, a6⟩ := g
  rcases hk with ⟨k1, k2⟩ | rfl
  · rw [resE_i hY k1] at a1 a3
    refine ⟨P1, L1, ⟨?_, a2, ?_, by omega, by omega, a6⟩, g1, by omega, g3⟩
    · rw [resE_t hY k2]; exact a1
    · rw [resE_t hY k2]
      exact a3.wk wkS.rf ⟨Or.inr ⟨3, Or.inr (Or.inr rfl), rfl, Or.inl ⟨1, Or.inl rfl, rfl⟩⟩, wkS.rf⟩ (fun w => w) (by omega)
  · exact ⟨P1, L1, ⟨a1, a2, a3, by omega, by omega, a6⟩, g1, by omega, g3⟩
/-- a box -/
theorem gbx_ {kk e o p q p' q' b c y xt : Nat} (hN : EN R S0 E) (hV : GvV R S0 E Γ V n) (he : e ∈ ZL R.S) (hF : ZF S0 e = xtC 13 p 0 0 0 0 0 0 (.ref o) .null .null 0 (.ref xt) .null) (ho : ∃ gs : List Value, o ∈ ZL R.S ∧ ZF S0 o = .inr (15, gs) ∧ gs[12]? = some (.ref y)) (h3 : p < p') (h4 : q' ≤ q) (hx : xE R S0 Γ n kk o p' q' b c y) (hv : vTy S0 y) (ht : isTy S0 xt 5 0 (some y)) (cc : LC R S0 S P h Γ2 L) (k0 : K0 S P) (hA : ALv S0 E Γ s) (hs : wl s = h) (hh : h + 11 * kk + 1 ≤ 177) (hq : q ≤ R.T) (hP : P + (q - p) < 24000) (hl : L + c ≤ 160 + b) (hr : RMl R S (5 * (q - p)) (40 * (q - p))) : Rt ((oR S 15 (some e) 8).bind fun v8 =>
    bnd (V S v8) fun S9 _ =>
    (oI S9 15 (some e) 1).bind fun v11 =>
    bnd (f_point R.K S9 7 v11) fun S12 v13 =>
    (oR S12 15 (some e) 8).bind fun v14 =>
    (oR S12 15 v14 12).bind fun v15 =>
    (wQ S12 20 39 v13 v15).bind fun S16 =>
    f_give_251 R.K V S16) (fun S2 _ => GvQ R S0 S E P h Γ2 L s xt p q b c S2) := by
  have hL := hN.1
  have hY := hN.2.1
  have hlt := xE_lt hx
  obtain ⟨gs, o1, o2, o3⟩ := ho
  refine Rt.bd (cc.1.vr (by decide) (by decide) (oR_mk (hL e he) hF (v := some o) rfl)) ?_
  refine Rt.bn (hV kk o p' q' b c y hx S P h Γ2 L s cc k0 hA hs hh (by omega) (by omega) hl (hr.le (by omega) (by omega))) (fun S1 _ t => ?_)
  obtain ⟨P1, L1, g, g1, g2, g3⟩ := t
  have hvx : rTy S0 y := Or.inl hv
  have er : resE S0 y = [(0, abV S0 y, 0)] := by
    rw [resE_r hY hvx]
    rcases hvx.nm hY with ⟨_, _, _, w⟩ | ⟨kd, u, w1, w2, w3, w4⟩
    · rw [w]
    · exact absurd w3.1 (by have := (hv.nm hY); omega)
  have hvb : vTy S0 xt := vTy.bx ht hv
  have hvb2 : rTy S0 xt := Or.inl hvb
  have er2 : resE S0 xt = [(0, abV S0 xt, 0)] := by
    rw [resE_r hY hvb2]
    rcases hvb2.nm hY with ⟨_, _, _, w⟩ | ⟨kd, u, w1, w2, w3, w4⟩
    · rw [w]
    · exact absurd w3.1 (by have := (hvb.nm hY); omega)
  rw [er] at g
  obtain ⟨b1, b2, b3, b4⟩ := bx_y hY ht
  refine Rt.bd (g.1.1.vi (by decide) (by decide) (oI_mk (hL e he) hF (v := nI p) rfl)) ?_
  refine pnt_ (Lb := L1) (Sb := S1) (z := 0) (n := 0) (by omega) g.1 LZ.rf (Nat.le_refl _) (by omega) (by omega) UsK.rf (fun S2 p2 e2 => ?_)
  refine Rt.bd (p2.1.1.vr (by decide) (by decide) (oR_mk (hL e he) hF (v := some o) rfl)) (Rt.bd (p2.1.1.vr (by decide) (by decide) (oR_mk (hL o o1) o2 (v := some y) o3)) ?_)
  obtain ⟨ykd, yix, yo, yt, _⟩ := hv.ty
  refine p2.wO (by omega) (by decide) (p2.1.1.okT ⟨_, _, _, yt⟩) (Or.inl (by decide)) (fun S3 p3 e3 => Rt.rt ?_)
  have hw : wl ((0, abV S0 y, 0) :: s) = wl s + 1 := wl_n (by show ¬ ((0 : Nat) = 8 ∨ (0 : Nat) = 4 ∨ (0 : Nat) = 5 ∨ (0 : Nat) = 6); decide)
  have hw2 : wl ((0, abV S0 xt, 0) :: s) = wl s + 1 := wl_n (by show ¬ ((0 : Nat) = 8 ∨ (0 : Nat) = 4 ∨ (0 : Nat) = 5 ∨ (0 : Nat) = 6); decide)
  have g4 : GV R S0 S1 S3 E P1 (P1 + 1) (wl ((0, abV S0 y, 0) :: s)) (wl ((0, abV S0 xt, 0) :: s)) Γ2 Γ2 L1 L1 ((0, abV S0 y, 0) :: s) ((0, abV S0 xt, 0) :: s) False 0 0 := by
    rw [show wl ([(0, abV S0 y, 0)] ++ s) = wl ((0, abV S0 xt, 0) :: s) from hw.trans hw2.symm] at p3
    refine gv0 (K := 7) (pp := p) (n1 := abT S0 y) (n2 := 0) (n3 := 0) (vs := []) (by decide) (by decide) p3 ⟨rfl, rfl, rfl, rfl, rfl, rfl, rfl, rfl, rfl⟩ (by omega) (fun _ => ⟨y, va_up_self (ptRc 7 (nI p)).2.2 39 (some y), hvx, rfl⟩) (fun w => absurd w (by decide)) (fun w => absurd w (by decide)) (fun w => absurd w (by decide)) (fun w => absurd w (by decide)) (fun w => absurd w (by decide)) (by omega) (tP_7 rfl ⟨iD0_0, abV S0 xt, s, ?_, ?_, ?_, ?_, ?_, b3, b4, rfl, wkS.rf⟩)
    · show _ = (0, abT S0 y, 0) :: s
      rw [(hv.nm hY).2.2]
    · exact hvx.n0 hY
    · show abT S0 y < 10000
      rw [(hv.nm hY).2.2]; exact (hv.nm hY).2.1
    · rw [hN.2.2.2.2.1]; exact b1
    · rw [hN.2.2.2.2.1]
      show yO S0 (abV S0 xt) = abT S0 y
      rw [b2, (hv.nm hY).2.2]
  refine ⟨P1 + 1, L1, ?_, by omega, by omega, g3⟩
  rw [er2]
  exact g.tr g4 (fun w => w.elim) (by omega) (by omega)
end LY17
end
-- m0.s.lean.txt
section
/-- a segment with jumps D that are still to be set: where they lead, the stack is yD; cD: none of them is reached -/
def tsgo (R : yR) (S0 S : Sg) (E : eV) (L a b : Nat) (x y : List tE) (D : Nat → Prop) (yD : List tE) (cl cD : Prop) : Prop := ∃ (st : Nat → List tE) (W : Nat → Prop), wkS x (st a) ∧ st b = y ∧ W a ∧ (cl → ¬ W b) ∧ a ≤ b ∧ (∀ k : Nat, D k → a ≤ k ∧ k < b) ∧ (cD → ∀ k : Nat, D k → ¬ W k) ∧ ∀ k : Nat, a ≤ k → k < b → wl (st k) ≤ 177 ∧
  (¬ D k → ∃ i : iR, rz R S0 S k i ∧ (∀ l : Nat, i.ln = some l → l < L) ∧ (∀ j ∈ i.sc, a ≤ j ∧ j ≤ b ∧ (W k → W j) ∧ bkO S k j) ∧ tPt E k (W k) i (st k) (fun j s => a ≤ j ∧ j ≤ b ∧ wkS s (st j))) ∧
  (D k → ∀ T : Nat, k < T → T < 24000 → ∃ i : iR, rz R S0 (Ur S 30 (upd (Zr S 30) k (nI T))) k i ∧ i.ln = none ∧ (∀ j ∈ i.sc, j = T ∨ (j = k + 1 ∧ (W k → W j))) ∧ tPt E k (W k) i (st k) (fun j s => (j = T ∧ wkS s yD) ∨ (j = k + 1 ∧ wkS s (st j))))
section LY18
variable {R : yR} {S0 S S2 : Sg} {E : eV} {L L2 a b c : Nat} {x y z yD : List tE} {cl cl2 cl3 cD cD2 : Prop} {D D2 : Nat → Prop}
/-- rows of a state where a jump is set -/
theorem RK_j {k T : Nat} (h : RK S S2 k) : RK (Ur S 30 (upd (Zr S 30) k (nI T))) (Ur S2 30 (upd (Zr S2 30) k (nI T))) k := ⟨fun r h1 h2 => by
  by_cases e : r = 30
  · subst e; rw [Zr_us, Zr_us, upd_s, upd_s]
  · rw [Zr_un e, Zr_un e]; exact h.1 r h1 h2, h.2.1, h.2.2⟩
theorem LX_j {k : Nat} {v w : Int32} (h : LX S S2) : LX (Ur S 30 (upd (Zr S 30) k v)) (Ur S2 30 (upd (Zr S2 30) k w)) := ⟨h.1, h.2.1, fun r hr => by
  have e : r ≠ 30 := fun e => hr (Or.inl (by omega))
  rw [Zr_un e, Zr_un e]; exact h.2.2.1 r hr, h.2.2.2⟩
theorem tsgo.of (h : tsg R S0 S E L a b x y cl) : tsgo R S0 S E L a b x y (fun _ => False) yD cl cD := by
  obtain ⟨st, W, h1, h2, h3, h4, h5, h6⟩ := h
  refine ⟨st, W, h1, h2, h3, h4, h5, fun _ w => w.elim, fun _ _ w => w.elim, fun k hk hb => ?_⟩
  obtain ⟨i, q1, q2, q3, q4, q5⟩ := h6 k hk hb
  exact ⟨q4, fun _ => ⟨i, q1, q2, q3, q5⟩, fun w => w.elim⟩
theorem tsgo.st (h : tsgo R S0 S E L a b x y D yD cl cD) (hz : LZ b L S S2) : tsgo R S0 S2 E L a b x y D yD cl cD := by
  obtain ⟨st, W, h1, h2, h3, h4, h5, h6, h7, h8⟩ := h
  refine ⟨st, W, h1, h2, h3, h4, h5, h6, h7, fun k hk hb => ?_⟩
  obtain ⟨q0, q1, q2⟩ := h8 k hk hb
  refine ⟨q0, fun hd => ?_, fun hd T hT hT2 => ?_⟩
  · obtain ⟨i, p1, p2, p3, p4⟩ := q1 hd
    exact ⟨i, p1.st hz.1 (hz.2.1 k hb) (fun l e => hz.2.2.1 l (p2 l e)), p2, fun j hj => ⟨(p3 j hj).1, (p3 j hj).2.1, (p3 j hj).2.2.1, (p3 j hj).2.2.2.st hz hb⟩, p4⟩
  · obtain ⟨i, p1, p2, p3⟩ := q2 hd T hT hT2
    exact ⟨i, p1.st (LX_j hz.1) (RK_j (hz.2.1 k hb)) (fun l e => by rw [p2] at e; cases e), p2, p3⟩
theorem tsgo.up (h : tsgo R S0 S E L a b x y D yD cl cD) (hl : L ≤ L2) : tsgo R S0 S E L2 a b x y D yD cl cD := by
  obtain ⟨st, W, h1, h2, h3, h4, h5, h6, h7, h8⟩ := h
  refine ⟨st, W, h1, h2, h3, h4, h5, h6, h7, fun k hk hb => ?_⟩
  obtain ⟨q0, q1, q2⟩ := h8 k hk hb
  exact ⟨q0, fun hd => by obtain ⟨i, p1, p2, p3⟩ := q1 hd; exact ⟨i, p1, fun l e => Nat.lt_of_lt_of_le (p2 l e) hl, p3⟩, q2⟩
theorem tsgo.fl (h : tsgo R S0 S E L a b x y D yD cl cD) (hc : cl2 → cl) (hd : cD2 → cD) : tsgo R S0 S E L a b x y D yD cl2 cD2 := by
  obtain ⟨st, W, h1, h2, h3, h4, h5, h6, h7, h8⟩ := h
  exact ⟨st, W, h1, h2, h3, fun w => h4 (hc w), h5, h6, fun w => h7 (hd w), h8⟩
theorem tsgo.wk {x2 y2 : List tE} (h : tsgo R S0 S E L a b x y D yD cl cD) (hx : wkS x2 x) (hy : wkS y y2) (hab : a < b) : tsgo R S0 S E L a b x2 y2 D yD cl cD := by
  obtain ⟨st, W, h1, h2, h3, h4, h5, h6, h7, h8⟩ := h
  have hj : ∀ {j : Nat} {s : List tE}, wkS s (st j) → wkS s (pcE b y2 st j) := fun {j s} j3 => by
    by_cases e : j = b
    · subst e; rw [pcE_s]; rw [h2] at j3; exact j3.tr hy
    · rw [pcE_n e]; exact j3
  refine ⟨pcE b y2 st, W, by rw [pcE_n (by omega)]; exact hx.tr h1, pcE_s, h3, h4, h5, h6, h7, fun k hk hb => ?_⟩
  obtain ⟨q0, q1, q2⟩ := h8 k hk hb
  rw [pcE_n (show k ≠ b by omega)]
  refine ⟨q0, fun hd => ?_, fun hd T hT hT2 => ?_⟩
  · obtain ⟨i, p1, p2, p3, p4⟩ := q1 hd
    exact ⟨i, p1, p2, p3, p4.im (fun w => w) (fun j s ⟨j1, j2, j3⟩ => ⟨j1, j2, hj j3⟩)⟩
  · obtain ⟨i, p1, p2, p3, p4⟩ := q2 hd T hT hT2
    exact ⟨i, p1, p2, p3, p4.im (fun w => w) (fun j s w => w.imp id (fun ⟨j1, j3⟩ => ⟨j1, hj j3⟩))⟩
/-- one behind the other -/
theorem tsgo.app (h : tsgo R S0 S E L a b x y D yD cl cD) (g : tsgo R S0 S E L b c y z D2 yD cl2 cD2) : tsgo R S0 S E L a c x z (fun k => D k ∨ D2 k) yD (cl ∨ cl2) (cD ∧ (cl ∨ cD2)) := by
  obtain ⟨st, W, h1, h2, h3, h4, h5, h6, h7, h8⟩ := h
  obtain ⟨st2, W2, g1, g2, g3, g4, g5, g6, g7, g8⟩ := g
  have eD : ∀ k : Nat, k < b → ¬ D2 k := fun k hk w => by have := g6 k w; omega
  have eD2 : ∀ k : Nat, b ≤ k → ¬ D k := fun k hk w => by have := h6 k w; omega
  have hj : ∀ {j : Nat} {s : List tE}, j ≤ b → wkS s (st j) → wkS s (pwL b st st2 j) := fun {j s} hjb j3 => by
    by_cases e2 : j < b
    · rw [pwL_l e2]; exact j3
    · obtain rfl : j = b := by omega
      rw [pwL_r e2]; rw [h2] at j3; exact j3.tr g1
  refine ⟨pwL b st st2, pwL b W (fun k => W b ∧ W2 k), ?_, ?_, ?_, fun w => ?_, by omega, fun k hk => ?_, fun w k hk => ?_, fun k hk hb => ?_⟩
  · by_cases e : a < b
    · rw [pwL_l e]; exact h1
    · obtain rfl : a = b := by omega
      rw [pwL_r e]
      rw [h2] at h1
      exact h1.tr g1
  · rw [pwL_r (by omega)]; exact g2
  · by_cases e : a < b
    · rw [pwL_l e]; exact h3
    · obtain rfl : a = b := by omega
      rw [pwL_r e]; exact ⟨h3, g3⟩
  · rw [pwL_r (by omega)]
    rcases w with w | w
    · exact fun q => h4 w q.1
    · exact fun q => g4 w q.2
  · rcases hk with w | w
    · have := h6 k w; omega
    · have := g6 k w; omega
  · rcases hk with q | q
    · rw [pwL_l (h6 k q).2]; exact h7 w.1 k q
    · rw [pwL_r (by have := g6 k q; omega)]
      rcases w.2 with z | z
      · exact fun r => h4 z r.1
      · exact fun r => g7 z k q r.2
  · by_cases e : k < b
    · obtain ⟨q0, q1, q2⟩ := h8 k hk e
      rw [pwL_l e, pwL_l e]
      refine ⟨q0, fun hd => ?_, fun hd T hT hT2 => ?_⟩
      · obtain ⟨i, p1, p2, p3, p4⟩ := q1 (fun w => hd (Or.inl w))
        refine ⟨i, p1, p2, fun j hj2 => ?_, p4.im (fun w => w) (fun j s ⟨j1, j2, j3⟩ => ⟨j1, by omega, hj j2 j3⟩)⟩
        obtain ⟨j1, j2, j3, j4⟩ := p3 j hj2
        refine ⟨j1, by omega, ?_, j4⟩
        by_cases e2 : j < b
        · rw [pwL_l e2]; exact j3
        · obtain rfl : j = b := by omega
          rw [pwL_r e2]; exact fun w => ⟨j3 w, g3⟩
      · obtain ⟨i, p1, p2, p3, p4⟩ := q2 (hd.resolve_right (eD k e)) T hT hT2
        refine ⟨i, p1, p2, fun j hj2 => ?_, p4.im (fun w => w) (fun j s w => w.imp id (fun ⟨j1, j3⟩ => ⟨j1, hj (by omega) j3⟩))⟩
        rcases p3 j hj2 with w | ⟨w1, w2⟩
        · exact Or.inl w
        · refine Or.inr ⟨w1, ?_⟩
          by_cases e2 : j < b
          · rw [pwL_l e2]; exact w2
          · obtain rfl : j = b := by omega
            rw [pwL_r e2]; exact fun w => ⟨w2 w, g3⟩
    · obtain ⟨q0, q1, q2⟩ := g8 k (by omega) hb
      rw [pwL_r e, pwL_r e]
      refine ⟨q0, fun hd => ?_, fun hd T hT hT2 => ?_⟩
      · obtain ⟨i, p1, p2, p3, p4⟩ := q1 (fun w => hd (Or.inr w))
        refine ⟨i, p1, p2, fun j hj2 => ?_, p4.im (fun w => w.2) (fun j s ⟨j1, j2, j3⟩ => ⟨by omega, j2, by rw [pwL_r (by omega)]; exact j3⟩)⟩
        obtain ⟨j1, j2, j3, j4⟩ := p3 j hj2
        refine ⟨by omega, j2, ?_, j4⟩
        rw [pwL_r (by omega)]; exact fun w => ⟨w.1, j3 w.2⟩
      · obtain ⟨i, p1, p2, p3, p4⟩ := q2 (hd.resolve_left (eD2 k (by omega))) T hT hT2
        refine ⟨i, p1, p2, fun j hj2 => ?_, p4.im (fun w => w.2) (fun j s w => w.imp id (fun ⟨j1, j3⟩ => ⟨j1, by rw [pwL_r (by omega)]; exact j3⟩))⟩
        rcases p3 j hj2 with w | ⟨w1, w2⟩
        · exact Or.inl w
        · refine Or.inr ⟨w1, ?_⟩
          rw [pwL_r (by omega)]; exact fun w => ⟨w.1, w2 w.2⟩
/-- the jump at n is set to the end -/
theorem tsgo.pj {n : Nat} (h : tsgo R S0 S E L a b x y D yD cl cD) (hn : D n) (hy : wkS yD y) (hb4 : b < 24000) : tsgo R S0 (Ur S 30 (upd (Zr S 30) n (nI b))) E L a b x y (fun k => D k ∧ k ≠ n) yD (cl ∧ cD) cD := by
  obtain ⟨st, W, h1, h2, h3, h4, h5, h6, h7, h8⟩ := h
  have hnb := h6 n hn
  refine ⟨st, fun k => W k ∨ (k = b ∧ W n), h1, h2, Or.inl h3, fun w q => ?_, h5, fun k hk => h6 k hk.1, fun w k hk q => ?_, fun k hk hb => ?_⟩
  · rcases q with q | q
    · exact h4 w.1 q
    · exact h7 w.2 n hn q.2
  · rcases q with q | q
    · exact h7 w k hk.1 q
    · have := h6 k hk.1; omega
  · obtain ⟨q0, q1, q2⟩ := h8 k hk hb
    have eW : (W k ∨ (k = b ∧ W n)) → W k := fun w => w.elim id (fun w => absurd w.1 (by omega))
    refine ⟨q0, fun hd => ?_, fun hd T hT hT2 => ?_⟩
    · by_cases e : k = n
      · subst e
        obtain ⟨i, p1, p2, p3, p4⟩ := q2 hn b hnb.2 hb4
        refine ⟨i, p1, (fun l e => by rw [p2] at e; cases e), fun j hj => ?_, p4.im eW (fun j s w => ?_)⟩
        · rcases p3 j hj with w | ⟨w1, w2⟩
          · exact ⟨by omega, by omega, fun z => Or.inr ⟨w, eW z⟩, Or.inl (by omega)⟩
          · exact ⟨by omega, by omega, fun z => Or.inl (w2 (eW z)), Or.inl (by omega)⟩
        · rcases w with ⟨w1, w2⟩ | ⟨w1, w2⟩
          · refine ⟨by omega, by omega, ?_⟩
            rw [w1, h2]; exact w2.tr hy
          · exact ⟨by omega, by omega, w2⟩
      · obtain ⟨i, p1, p2, p3, p4⟩ := q1 (fun w => hd ⟨w, e⟩)
        refine ⟨i, p1.st (LZ.ur (P := 0) (L := 0) (by decide) (Nat.zero_le _)).1 ⟨fun r h1 h2 => ?_, rfl, fun _ _ _ => rfl⟩ (fun l e => ⟨rfl, fun r h1 h2 => congrFun (Zr_un (by omega)) l⟩), p2, fun j hj => ?_, p4.im eW (fun j s w => w)⟩
        · by_cases e2 : r = 30
          · subst e2; rw [Zr_us, upd_n e]
          · rw [Zr_un e2]
        · obtain ⟨j1, j2, j3, j4⟩ := p3 j hj
          exact ⟨j1, j2, fun w => Or.inl (j3 (eW w)), j4.ur⟩
    · obtain ⟨i, p1, p2, p3, p4⟩ := q2 hd.1 T hT hT2
      refine ⟨i, p1.st (LX_j (LZ.ur (P := 0) (L := 0) (by decide) (Nat.zero_le _)).1) (RK_j ⟨fun r h1 h2 => ?_, rfl, fun _ _ _ => rfl⟩) (fun l e => by rw [p2] at e; cases e), p2, fun j hj => ?_, p4.im eW (fun j s w => w)⟩
      · by_cases e2 : r = 30
        · subst e2; rw [Zr_us, upd_n hd.2]
        · rw [Zr_un e2]
      · exact (p3 j hj).imp id (fun ⟨w1, w2⟩ => ⟨w1, fun w => Or.inl (w2 (eW w))⟩)
/-- nothing more is to be set -/
theorem tsgo.cls (h : tsgo R S0 S E L a b x y D yD cl cD) (hD : ∀ k : Nat, ¬ D k) : tsg R S0 S E L a b x y cl := by
  obtain ⟨st, W, h1, h2, h3, h4, h5, h6, h7, h8⟩ := h
  refine ⟨st, W, h1, h2, h3, h4, h5, fun k hk hb => ?_⟩
  obtain ⟨q0, q1, q2⟩ := h8 k hk hb
  obtain ⟨i, p1, p2, p3, p4⟩ := q1 (hD k)
  exact ⟨i, p1, p2, p3, q0, p4⟩
/-- one point whose jump is still to be set -/
theorem tsgo.one (hw : wl x ≤ 177) (hi : ∀ T : Nat, a < T → T < 24000 → ∃ i : iR, rz R S0 (Ur S 30 (upd (Zr S 30) a (nI T))) a i ∧ i.ln = none ∧ (∀ j ∈ i.sc, j = T ∨ (j = a + 1 ∧ ¬ cl)) ∧ tPt E a True i x (fun j s => (j = T ∧ wkS s yD) ∨ (j = a + 1 ∧ wkS s y))) : tsgo R S0 S E L a (a + 1) x y (fun k => k = a) yD cl False := by
  refine ⟨pcE a x (fun _ => y), fun k => k = a ∨ ¬ cl, by rw [pcE_s]; exact wkS.rf, pcE_n (by omega), Or.inl rfl, fun w q => ?_, by omega, fun k hk => by omega, fun w => w.elim, fun k hk hb => ?_⟩
  · rcases q with q | q
    · omega
    · exact q w
  · obtain rfl : k = a := by omega
    refine ⟨by rw [pcE_s]; exact hw, fun w => absurd rfl w, fun _ T hT hT2 => ?_⟩
    obtain ⟨i, p1, p2, p3, p4⟩ := hi T hT hT2
    refine ⟨i, p1, p2, fun j hj => (p3 j hj).imp id (fun w => ⟨w.1, fun _ => Or.inr w.2⟩), ?_⟩
    rw [pcE_s]
    exact p4.im (fun _ => trivial) (fun j s w => w.imp id (fun w => ⟨w.1, by rw [pcE_n (by omega)]; exact w.2⟩))
end LY18
end
-- m0.t.lean.txt
section
/-- the row a of m ints is its maker's alone: nobody else looks at it, no point from P to P2 does -/
def PVc (R : yR) (S0 S : Sg) (P P2 a m : Nat) (f : Nat → Int32) : Prop := a ∈ ZL S ∧ ZF S a = .inl (R.K.1 0, m, .inl f) ∧ a ∉ ZL S0 ∧ ¬ Us S0 S a ∧ ∀ k : Nat, P ≤ k → k < P2 → ¬ Up S k a ∧ ∀ w : Nat, Zq S 38 k = some w → w ∈ ZL S
/-- a piece with open jumps was laid -/
def GVo (R : yR) (S0 S S2 : Sg) (E : eV) (P P2 h2 : Nat) (Γ2 : List Nat) (L L2 : Nat) (s s2 : List tE) (D : Nat → Prop) (yD : List tE) (cl cD : Prop) (z n : Nat) : Prop := LC R S0 S2 P2 h2 Γ2 L2 ∧ LZ P L S S2 ∧ tsgo R S0 S2 E L2 P P2 s s2 D yD cl cD ∧ Zz S2 ≤ Zz S + z ∧ Zn S2 ≤ Zn S + n ∧ P ≤ P2 ∧ L ≤ L2 ∧ RFx S0 S P S2 P2
section LY19
variable {R : yR} {S0 Sb S S1 S2 : Sg} {P P1 P2 h h0 h1 h2 L L1 L2 Lb z n z2 n2 : Nat} {Γ Γ0 Γ1 Γ2 : List Nat} {x : pRc} {E : eV} {s s1 s2 yD : List tE} {α : Type} {D D2 : Nat → Prop} {cl cl2 cD cD2 : Prop} {a m : Nat} {f f2 : Nat → Int32}
theorem ne_il {b : Nat} {r : ClassId × vp_A} {y : Nat × List Value} (h : ZF S a = .inl r) (g : ZF S b = .inr y) : b ≠ a := fun e => by rw [e, h] at g; cases g
theorem ne_ia {b n : Nat} {c1 c2 : ClassId} {f : Nat → Int32} {y : _} (h : ZF S a = .inl (c1, m, .inl f)) (g : ZF S b = .inl (c2, n, .inr y)) : b ≠ a := fun e => by
  rw [e, h] at g
  exact nomatch (Prod.mk.inj (Prod.mk.inj (Sum.inl.inj g)).2).2
theorem rAr.uF {o : Option Nat} {l : List Nat} {c : va_E} (q : rAr R S o l) (h : o ≠ some a) : rAr R (UF S a c) o l := by
  rcases q with q | ⟨b, g, q1, q2, q3, q4⟩
  · exact Or.inl q
  · exact Or.inr ⟨b, g, q1, q2, (ZF_n (fun e => h (by rw [q1, e]))).trans q3, q4⟩
theorem isU.uF {r : ClassId × vp_A} {c : va_E} (hF : ZF S a = .inl r) {va v : Nat} {ty : Option Nat} {mu : Int32} (q : isU S va v ty mu) : isU (UF S a c) va v ty mu := by
  obtain ⟨q1, nm, wh, q2⟩ := q
  exact ⟨q1, nm, wh, (ZF_n (ne_il hF q2)).trans q2⟩
theorem isPt.uF {c : va_E} (hF : ZF S a = .inl (R.K.1 0, m, .inl f)) {w v T : Nat} {ρ : lLc} (q : isPt R S0 S w v ρ T) (hu : ∀ gs : List Value, ZF S w = .inr (18, gs) → gs[2]? ≠ some (.ref a)) : isPt R S0 (UF S a c) w v ρ T := by
  obtain ⟨va, sa, ta, f1, g, mu, q1, q2, q3, q4, q5, q6⟩ := q
  refine ⟨va, sa, ta, f1, g, mu, q1, (ZF_n (ne_il hF q2)).trans q2, q3.uF hF, ⟨q4.1, (ZF_n (fun e => ?_)).trans q4.2⟩, ⟨q5.1, (ZF_n (ne_ia hF q5.2)).trans q5.2⟩, q6⟩
  · exact hu _ q2 (by rw [e]; rfl)
theorem rAm.uF {c : va_E} (hF : ZF S a = .inl (R.K.1 0, m, .inl f)) {o : Option Nat} {n1 n2 : Nat} {l : List Nat} (q : rAm R S0 S o n1 n2 l) : rAm R S0 (UF S a c) o n1 n2 l := by
  obtain ⟨b, na, aw, bk, tk, vn, fv, q1, q2, q3, q4, q5, q6, q7⟩ := q
  refine ⟨b, na, aw, bk, tk, vn, fv, q1, q2, (ZF_n (ne_il hF q3)).trans q3, q4, (ZF_n (ne_ia hF q5)).trans q5, q6, fun j v e => ?_⟩
  · obtain ⟨va, y, mu, r1, r2, r3⟩ := q7 j v e
    exact ⟨va, y, mu, r1, r2.uF hF, r3⟩
/-- what lies at a point that doesn't look at the row a -/
theorem rz.uF {k : Nat} {c : va_E} {i : iR} (q : rz R S0 S k i) (hF : ZF S a = .inl (R.K.1 0, m, .inl f)) (hu : ¬ Up S k a) : rz R S0 (UF S a c) k i := by
  obtain ⟨q1, q2, q3, q4, q5, q6, q7, q8, q9, q10, q11, q12, q13, q14, q15, q16, q17, q18⟩ := q
  have u36 : Zq S 36 k ≠ some a := fun e => hu (Or.inl e)
  have u37 : Zq S 37 k ≠ some a := fun e => hu (Or.inr (Or.inl e))
  have u42 : Zq S 42 k ≠ some a := fun e => hu (Or.inr (Or.inr (Or.inl e)))
  refine ⟨q1, q2, q3, q4, q5, q6, q7.uF u37, q8.uF u36, q9, ?_, q11, ?_, q13, q14, fun e => (q15 e).uF u42, ?_, fun e => (q17 e).uF hF, q18⟩
  · refine q10.imp id (fun ⟨w, v, T, ρ, a1, a2, a3, gs9, a4, a5⟩ => ⟨w, v, T, ρ, a1, a2, a3.uF hF (fun gs e1 e2 => hu (Or.inr (Or.inr (Or.inr ⟨w, gs, a1, e1, e2⟩)))), gs9, (ZF_n (ne_il hF a4)).trans a4, a5⟩)
  · exact q12.imp id (fun z => z.imp id (fun z => z.imp id (fun z => z.imp (fun ⟨a1, b, c⟩ => ⟨a1, b.uF u42, c⟩) id)))
  · intro e
    obtain ⟨va, v, ty, mu, a1, b, c1, d⟩ := q16 e
    exact ⟨va, v, ty, mu, a1, b, c1.uF hF, d⟩
theorem tsgo.uF {c : va_E} {x y : List tE} (q : tsgo R S0 S E L P P2 x y D yD cl cD) (hF : ZF S a = .inl (R.K.1 0, m, .inl f)) (hu : ∀ k : Nat, P ≤ k → k < P2 → ¬ Up S k a) : tsgo R S0 (UF S a c) E L P P2 x y D yD cl cD := by
  obtain ⟨st, W, h1, h2, h3, h4, h5, h6, h7, h8⟩ := q
  refine ⟨st, W, h1, h2, h3, h4, h5, h6, h7, fun k hk hb => ?_⟩
  obtain ⟨q0, q1, q2⟩ := h8 k hk hb
  refine ⟨q0, fun hd => ?_, fun hd T hT hT2 => ?_⟩
  · obtain ⟨i, p1, p2⟩ := q1 hd
    exact ⟨i, p1.uF hF (hu k hk hb), p2⟩
  · obtain ⟨i, p1, p2⟩ := q2 hd T hT hT2
    exact ⟨i, rz.uF (S := Ur S 30 (upd (Zr S 30) k (nI T))) p1 hF (hu k hk hb), p2⟩
theorem tsgo.dc {x y : List tE} (q : tsgo R S0 S E L P P2 x y D yD cl cD) (hD : ∀ k : Nat, D2 k ↔ D k) : tsgo R S0 S E L P P2 x y D2 yD cl cD := by
  have e : D2 = D := funext (fun k => propext (hD k))
  rw [e]; exact q
/-- what all look at lies in the store -/
theorem LC.usm (c : LC R S0 S P h Γ L) (q : Us S0 S a) : a ∈ ZL S := by
  rcases q with ⟨u, h1, h2⟩ | ⟨v, ix, nm, ty, mu, w, fs, gs, h1, h2, h3, h4, h5⟩
  · rcases c.2.2.2.2.2.1.1 u h1 with q | ⟨b, g, q1, q2, _⟩
    · rw [q] at h2; cases h2
    · rw [q1] at h2; cases h2; exact q2
  · obtain ⟨wh, w1, w2, w3⟩ := c.2.2.2.2.2.2.1 v ix nm ty mu h1
    have e : fs[4]? = some wh := by rw [w2] at h2; cases h2; rfl
    rw [e] at h3; cases h3
    rcases w3 with w3 | ⟨w', w4, sa, ta, f1, g1, k1, k2, k3, k4, k5⟩
    · cases w3
    · cases w4
      rw [k2] at h4; cases h4; cases h5
      exact k3.1
theorem NW.us2 (c : LC R S0 S P h Γ L) (b : NW S S1) (q : Us S0 S1 a) : Us S0 S a := by
  rcases q with ⟨u, h1, h2⟩ | ⟨v, ix, nm, ty, mu, w, fs, gs, h1, h2, h3, h4, h5⟩
  · rw [b.2.2.2.2.1] at h2; exact Or.inl ⟨u, h1, h2⟩
  · obtain ⟨wh, w1, w2, w3⟩ := c.2.2.2.2.2.2.1 v ix nm ty mu h1
    rw [(b.1 v w1).2] at h2
    have e : fs[4]? = some wh := by rw [w2] at h2; cases h2; rfl
    rw [e] at h3; cases h3
    rcases w3 with w3 | ⟨w', w4, w5⟩
    · cases w3
    · cases w4
      obtain ⟨_, _, _, _, w6, _⟩ := w5
      rw [(b.1 w w6).2] at h4
      exact Or.inr ⟨v, ix, nm, ty, mu, w, fs, gs, h1, h2, e, h4, h5⟩
theorem pOb.uF {w : Nat} (hF : ZF S a = .inl (R.K.1 0, m, .inl f)) (q : pOb R S w) : pOb R (UF S a (.inl (R.K.1 0, m, .inl f2))) w := by
  obtain ⟨va, n, sa, ta, f1, g, q1, q2, q3, q4, q5⟩ := q
  by_cases e : sa = a
  · subst e
    have e2 : n = m := by have := q3.2.symm.trans hF; cases this; rfl
    subst e2
    exact ⟨va, n, sa, ta, f2, g, q1, (ZF_n (ne_il hF q2)).trans q2, ⟨q3.1, ZF_s⟩, ⟨q4.1, (ZF_n (ne_ia hF q4.2)).trans q4.2⟩, q5⟩
  · exact ⟨va, n, sa, ta, f1, g, q1, (ZF_n (ne_il hF q2)).trans q2, ⟨q3.1, (ZF_n e).trans q3.2⟩, ⟨q4.1, (ZF_n (ne_ia hF q4.2)).trans q4.2⟩, q5⟩
theorem LC.uF (q : LC R S0 S P h Γ L) (hF : ZF S a = .inl (R.K.1 0, m, .inl f)) (ha : a ∉ ZL S0) (hu : ¬ Us S0 S a) : LC R S0 (UF S a (.inl (R.K.1 0, m, .inl f2))) P h Γ L := by
  refine ⟨⟨fun b hb => ⟨(q.1.1 b hb).1, by rw [show ZF (UF S a (.inl (R.K.1 0, m, .inl f2))) b = ZF S b from ZF_n (fun e => ha (by rw [← e]; exact hb))]; exact (q.1.1 b hb).2⟩, q.1.2⟩, q.2.1, q.2.2.1, q.2.2.2.1, q.2.2.2.2.1, ⟨fun u hu2 => ?_, fun l h1 h2 => ⟨(q.2.2.2.2.2.1.2 l h1 h2).1.imp id (fun ⟨w, a1, a2⟩ => ⟨w, a1, a2.uF hF⟩), (q.2.2.2.2.2.1.2 l h1 h2).2⟩⟩, fun v ix nm ty mu hV => ?_, q.2.2.2.2.2.2.2⟩
  · rcases q.2.2.2.2.2.1.1 u hu2 with w | ⟨b, g, q1, q2, q3, q4⟩
    · exact Or.inl w
    · exact Or.inr ⟨b, g, q1, q2, (ZF_n (fun e => hu (Or.inl ⟨u, hu2, by rw [← e]; exact q1⟩))).trans q3, q4⟩
  · obtain ⟨wh, w1, w2, w3⟩ := q.2.2.2.2.2.2.1 v ix nm ty mu hV
    refine ⟨wh, w1, (ZF_n (ne_il hF w2)).trans w2, w3.imp id (fun ⟨w, e, sa, ta, f1, g1, k1, k2, k3, k4, k5⟩ => ?_)⟩
    subst e
    refine ⟨w, rfl, sa, ta, f1, g1, k1, (ZF_n (ne_il hF k2)).trans k2, ⟨k3.1, (ZF_n (fun e2 => ?_)).trans k3.2⟩, ⟨k4.1, (ZF_n (ne_ia hF k4.2)).trans k4.2⟩, k5⟩
    · exact hu (Or.inr ⟨v, ix, nm, ty, mu, w, _, _, hV, w2, rfl, k2, by rw [← e2]; rfl⟩)
theorem UF_inr {c : ClassId × vp_A} {b : Nat} {y : Nat × List Value} (e : ZF (UF S a (.inl c)) b = .inr y) : ZF S b = .inr y := by
  by_cases q : b = a
  · rw [q, ZF_s] at e; cases e
  · rw [ZF_n q] at e; exact e
theorem Us.uF {c : ClassId × vp_A} {b : Nat} (q : Us S0 (UF S a (.inl c)) b) : Us S0 S b := by
  rcases q with q | ⟨v, ix, nm, ty, mu, w, fs, gs, h1, h2, h3, h4, h5⟩
  · exact Or.inl q
  · exact Or.inr ⟨v, ix, nm, ty, mu, w, fs, gs, h1, UF_inr h2, h3, UF_inr h4, h5⟩
theorem Up.uF {c : ClassId × vp_A} {b k : Nat} (q : Up (UF S a (.inl c)) k b) : Up S k b := by
  rcases q with q | q | q | ⟨w, gs, h3, h4, h5⟩
  · exact Or.inl q
  · exact Or.inr (Or.inl q)
  · exact Or.inr (Or.inr (Or.inl q))
  · exact Or.inr (Or.inr (Or.inr ⟨w, gs, h3, UF_inr h4, h5⟩))
theorem RFx.uF {c : ClassId × vp_A} (q : RFx S0 S P S2 P2) : RFx S0 S P (UF S2 a (.inl c)) P2 := ⟨fun b hb w => q.1 b hb w.uF, fun k h1 h2 => ⟨fun b hb w => (q.2 k h1 h2).1 b hb w.uF, (q.2 k h1 h2).2⟩⟩
theorem PVc.uF (v : PVc R S0 S P P2 a m f) : PVc R S0 (UF S a (.inl (R.K.1 0, m, .inl f2))) P P2 a m f2 := ⟨v.1, ZF_s, v.2.2.1, fun w => v.2.2.2.1 w.uF, fun k h1 h2 => ⟨fun w => (v.2.2.2.2 k h1 h2).1 w.uF, (v.2.2.2.2 k h1 h2).2⟩⟩
/-- the row's maker writes into it -/
theorem GVo.uF (g : GVo R S0 S S2 E P P2 h2 Γ2 L L2 s s2 D yD cl cD z n) (v : PVc R S0 S2 P P2 a m f) (hn : a ∉ ZL S) : GVo R S0 S (UF S2 a (.inl (R.K.1 0, m, .inl f2))) E P P2 h2 Γ2 L L2 s s2 D yD cl cD z n :=
  ⟨g.1.uF v.2.1 v.2.2.1 v.2.2.2.1, LZ.uF g.2.1 hn, g.2.2.1.uF v.2.1 (fun k h1 h2 => (v.2.2.2.2 k h1 h2).1), g.2.2.2.1, g.2.2.2.2.1, g.2.2.2.2.2.1, g.2.2.2.2.2.2.1, g.2.2.2.2.2.2.2.uF⟩
theorem GVo.of (g : GV R S0 S S2 E P P2 h h2 Γ Γ2 L L2 s s2 cl z n) : GVo R S0 S S2 E P P2 h2 Γ2 L L2 s s2 (fun _ => False) yD cl cD z n := ⟨g.1, g.2.1, tsgo.of g.2.2.1, g.2.2.2⟩
theorem GVo.cls (g : GVo R S0 S S2 E P P2 h2 Γ2 L L2 s s2 D yD cl cD z n) (hD : ∀ k : Nat, ¬ D k) : GV R S0 S S2 E P P2 h h2 Γ Γ2 L L2 s s2 cl z n := ⟨g.1, g.2.1, g.2.2.1.cls hD, g.2.2.2⟩
theorem GVo.tr (g : GVo R S0 S S1 E P P1 h1 Γ1 L L1 s s1 D yD cl cD z n) (b : GVo R S0 S1 S2 E P1 P2 h2 Γ2 L1 L2 s1 s2 D2 yD cl2 cD2 z2 n2) : GVo R S0 S S2 E P P2 h2 Γ2 L L2 s s2 (fun k => D k ∨ D2 k) yD (cl ∨ cl2) (cD ∧ (cl ∨ cD2)) (z + z2) (n + n2) := by
  obtain ⟨a1, a2, a3, a4, a5, a6, a7, a8⟩ := g
  obtain ⟨b1, b2, b3, b4, b5, b6, b7, b8⟩ := b
  exact ⟨b1, a2.tr b2 a6 a7, ((a3.st b2).up b7).app b3, by omega, by omega, by omega, by omega, a8.tr b8 a2.1 b2⟩
theorem GVo.mo (g : GVo R S0 S S2 E P P2 h2 Γ2 L L2 s s2 D yD cl cD z n) (hD : ∀ k : Nat, D2 k ↔ D k) (hc : cl2 → cl) (hd : cD2 → cD) (hz : z ≤ z2) (hn : n ≤ n2) : GVo R S0 S S2 E P P2 h2 Γ2 L L2 s s2 D2 yD cl2 cD2 z2 n2 := ⟨g.1, g.2.1, (g.2.2.1.fl hc hd).dc hD, Nat.le_trans g.2.2.2.1 (by omega), Nat.le_trans g.2.2.2.2.1 (by omega), g.2.2.2.2.2⟩
theorem GVo.wk {s0 s3 : List tE} (g : GVo R S0 S S2 E P P2 h2 Γ2 L L2 s s2 D yD cl cD z n) (hx : wkS s0 s) (hy : wkS s2 s3) (hp : P < P2) : GVo R S0 S S2 E P P2 h2 Γ2 L L2 s0 s3 D yD cl cD z n := ⟨g.1, g.2.1, g.2.2.1.wk hx hy hp, g.2.2.2⟩
/-- a jump is set to the end -/
theorem GVo.pj {k : Nat} (g : GVo R S0 S S2 E P P2 h2 Γ2 L L2 s s2 D yD cl cD z n) (hk : D k) (hy : wkS yD s2) (hb : P2 < 24000) : GVo R S0 S (Ur S2 30 (upd (Zr S2 30) k (nI P2))) E P P2 h2 Γ2 L L2 s s2 (fun j => D j ∧ j ≠ k) yD (cl ∧ cD) cD z n := by
  obtain ⟨a1, a2, a3, a4, a5, a6, a7, a8⟩ := g
  have hkP : P ≤ k := by obtain ⟨_, _, _, _, _, _, _, q, _⟩ := a3; exact (q k hk).1
  exact ⟨a1.ur (Or.inl (by decide)), a2.tr (LZ.ur (by decide) hkP) (Nat.le_refl _) (Nat.le_refl _), a3.pj hk hy hb, a4, a5, a6, a7, a8⟩
/-- a row of the maker's stays his -/
theorem PVc.gv (v : PVc R S0 S P P1 a m f) (g : GVo R S0 S S2 E P1 P2 h2 Γ2 L L2 s s2 D yD cl cD z n) : PVc R S0 S2 P P2 a m f := by
  obtain ⟨v1, v2, v3, v4, v5⟩ := v
  have hx : LX S S2 := g.2.1.1
  obtain ⟨r1, r2⟩ := hx.ro v1 v2
  refine ⟨r1, r2, v3, fun w => v4 (g.2.2.2.2.2.2.2.1 a v1 w), fun k h1 h2 => ?_⟩
  by_cases e : k < P1
  · obtain ⟨q1, q2⟩ := v5 k h1 e
    have hq : ∀ r : Nat, 36 ≤ r → r ≤ 42 → Zq S2 r k = Zq S r k := (g.2.1.2.1 k e).2.2
    refine ⟨fun h => q1 ?_, fun w hw => ?_⟩
    · rcases h with h | h | h | ⟨w, gs, h3, h4, h5⟩
      · exact Or.inl (by rw [← hq 36 (by decide) (by decide)]; exact h)
      · exact Or.inr (Or.inl (by rw [← hq 37 (by decide) (by decide)]; exact h))
      · exact Or.inr (Or.inr (Or.inl (by rw [← hq 42 (by decide) (by decide)]; exact h)))
      · rw [hq 38 (by decide) (by decide)] at h3
        exact Or.inr (Or.inr (Or.inr ⟨w, gs, h3, (hx.1 w (q2 w h3)).2.back h4 (by decide) (by decide), h5⟩))
    · rw [hq 38 (by decide) (by decide)] at hw
      exact (hx.1 w (q2 w hw)).1
  · obtain ⟨q1, q2⟩ := g.2.2.2.2.2.2.2.2 k (by omega) h2
    exact ⟨fun w => v4 (q1 a v1 w), q2⟩
/-- a new row of n ints -/
theorem new_pv {g : Sg → Nat → Option (Sg × α)} {Q : Sg → α → Prop} (c : LC R S0 S P h Γ L) (hm : m ≤ 100000) (h1 : Zz S + 1 ≤ R.K.2.1) (h2 : Zn S + m ≤ R.K.2.2) (k : ∀ S1 : Sg, LC R S0 S1 P h Γ L → GVo R S0 S S1 E P P h Γ L L s s (fun _ => False) yD False cD 1 m → PVc R S0 S1 P P (Zz S) m (fun _ => 0) → Zr S1 = Zr S → Rt (g S1 (Zz S)) Q) : Rt (bnd (nA R.K S (nI m)) g) Q := by
  refine Rt.be (nA_ok hm ⟨h1, h2⟩) ?_
  have w0 : NW S (Un S (.inl (R.K.1 0, m, .inl (fun _ => 0))) m) := (NW.rf c.hz).un
  have hno : Zz S ∉ ZL S := fun w => Nat.lt_irrefl _ (c.hz _ w)
  refine k _ (c.nw w0) ⟨c.nw w0, w0.lz, tsgo.of (tsg.nil wkS.rf), Nat.le_refl _, Nat.le_refl _, Nat.le_refl _, Nat.le_refl _, NW.us c w0, fun k h1 h2 => by omega⟩ ⟨List.mem_cons_self, ZF_uz, fun w => hno (c.1.1 _ w).1, fun w => hno (c.usm (NW.us2 c w0 w)), fun k h1 h2 => by omega⟩ rfl
/-- what lies at a point that jumps, its jump being set -/
theorem rz_j {K pp T : Nat} {sc : List Nat} (hK : K = 16 ∧ sc = [T] ∨ (K = 17 ∨ K = 18 ∨ K = 19) ∧ sc = [P + 1, T]) (q : AT S P x) (hx : pl0 x K pp) (hpp : pp < R.T) (hT : T < 24000) : rz R S0 (Ur S 30 (upd (Zr S 30) P (nI T))) P ((K, 0, none, (none, none), ([], []), sc, (0, 0, 0), []) : iR) := by
  obtain ⟨x1, x2, x3, x4, x5, x6, x7, x8, x9⟩ := hx
  have e : ∀ r : Nat, 27 ≤ r → r ≤ 35 → r ≠ 31 → r ≠ 30 → Zr (Ur S 30 (upd (Zr S 30) P (nI T))) r P = x.1 r := fun r h1 h2 h3 h4 => by rw [Zr_un h4]; exact q.1 r h1 h2 h3
  have e30 : Zr (Ur S 30 (upd (Zr S 30) P (nI T))) 30 P = nI T := by rw [Zr_us, upd_s]
  have eq : ∀ r : Nat, 36 ≤ r → r ≤ 42 → Zq (Ur S 30 (upd (Zr S 30) P (nI T))) r P = x.2.2 r := q.2.2
  refine ⟨(e 27 (by decide) (by decide) (by decide) (by decide)).trans x1, ?_, (e 33 (by decide) (by decide) (by decide) (by decide)).trans x4, by show (0 : Nat) < 8; decide, (e 34 (by decide) (by decide) (by decide) (by decide)).trans x5, (e 35 (by decide) (by decide) (by decide) (by decide)).trans x6, Or.inl ⟨(eq 37 (by decide) (by decide)).trans x8, rfl⟩, Or.inl ⟨(eq 36 (by decide) (by decide)).trans x7, rfl⟩, ⟨pp, (e 32 (by decide) (by decide) (by decide) (by decide)).trans x3, hpp⟩, Or.inl ⟨(eq 38 (by decide) (by decide)).trans x9, rfl⟩, (fun l e => by cases e), ?_, fun w => ?_, fun w => ?_, fun w => ?_, fun w => ?_, fun w => ?_, fun w => ?_, fun w => ?_⟩
  · show K < 28; omega
  · rcases hK with ⟨h1, h2⟩ | ⟨h1, h2⟩
    · exact Or.inr (Or.inl ⟨h1, T, e30, h2, hT⟩)
    · exact Or.inr (Or.inr (Or.inl ⟨h1, T, e30, h2, hT⟩))
  · have w : K = 7 ∨ K = 11 ∨ K = 15 := w; omega
  · have w : K = 8 ∨ K = 9 ∨ K = 10 := w; omega
  · have w : K = 8 := w; omega
  · have w : K = 12 ∨ K = 13 ∨ K = 23 ∨ K = 24 := w; omega
  · have w : K = 22 := w; omega
  · have w : K = 25 := w; omega
  · have w : K = 10 := w; omega
/-- a point with an open jump was laid -/
theorem gvj {K pp : Nat} (hK : K = 16 ∨ (K = 17 ∨ K = 18 ∨ K = 19) ∧ ¬ cl) (p : LPt R S0 Sb S P h Γ L L x z n) (hx : pl0 x K pp) (hpp : pp < R.T) (hw : wl s ≤ 177)
  (ht : ∀ T : Nat, P < T → T < 24000 → tPt E P True ((K, 0, none, (none, none), ([], []), (if K = 16 then [T] else [P + 1, T]), (0, 0, 0), []) : iR) s (fun j t => (j = T ∧ wkS t yD) ∨ (j = P + 1 ∧ wkS t s2))) : GVo R S0 Sb S E P (P + 1) h Γ L L s s2 (fun k => k = P) yD cl False z n := by
  refine ⟨p.1, p.2.1, tsgo.one hw (fun T h1 h2 => ⟨_, rz_j (sc := if K = 16 then [T] else [P + 1, T]) ?_ p.2.2.1 hx hpp h2, rfl, fun j hj => ?_, ht T h1 h2⟩), p.2.2.2.1, p.2.2.2.2.1, Nat.le_succ _, Nat.le_refl _, p.2.2.2.2.2.2⟩
  · rcases hK with e | ⟨e, _⟩
    · exact Or.inl ⟨e, if_pos e⟩
    · exact Or.inr ⟨e, if_neg (by omega)⟩
  · have hj : j ∈ (if K = 16 then [T] else [P + 1, T]) := hj
    rcases hK with e | ⟨e, e2⟩
    · rw [if_pos e] at hj
      exact Or.inl (List.mem_singleton.mp hj)
    · rw [if_neg (by omega)] at hj
      rcases List.mem_cons.mp hj with w | w
      · exact Or.inr ⟨w, e2⟩
      · exact Or.inl (List.mem_singleton.mp w)
end LY19
end
