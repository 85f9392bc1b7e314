section LY14
variable {R : yR} {S0 Sb S S1 S2 : Sg} {P h L Lb z n : Nat} {Γ Γ2 : List Nat} {x : pRc} {E : eV} {s : List tE} {α : Type}
theorem AT.lq {v : Option Nat} {j : Nat} (a : AT S P x) : AT (Uq S 43 (va_up (Zq S 43) j v)) P x := ⟨a.1, a.2.1, fun r h1 h2 => (congrFun (Zq_un (by omega)) P).trans (a.2.2 r h1 h2)⟩
theorem AT.lr {v : Int32} {r j : Nat} (hr : 44 ≤ r) (a : AT S P x) : AT (Ur S r (upd (Zr S r) j v)) P x := ⟨fun r2 h1 h2 h3 => (congrFun (show va_up (Zr S) r _ r2 = Zr S r2 from va_up_ne _ _ (by omega)) P).trans (a.1 r2 h1 h2 h3), a.2⟩
theorem Zr_us {r : Nat} {f : Nat → Int32} : Zr (Ur S r f) r = f := va_up_self _ _ _
theorem Zr_un {r r2 : Nat} {f : Nat → Int32} (h : r2 ≠ r) : Zr (Ur S r f) r2 = Zr S r2 := va_up_ne _ _ h
/-- the loans' rows are as they were -/
def SLn (S S1 : Sg) : Prop := Zq S1 43 = Zq S 43 ∧ Zr S1 44 = Zr S 44 ∧ Zr S1 45 = Zr S 45
theorem SLn.tr (a : SLn S S1) (b : SLn S1 S2) : SLn S S2 := ⟨b.1.trans a.1, b.2.1.trans a.2.1, b.2.2.trans a.2.2⟩
theorem LPt.wIl {r : Nat} {v : Int32} {g : Sg → Option (Sg × α)} {Q : Sg → α → Prop} (hP : P < 24000) (hr : 27 ≤ r ∧ r ≤ 35 ∧ r ≠ 31) (p : LPt R S0 Sb S P h Γ L Lb x z n) (k : ∀ S1 : Sg, LPt R S0 Sb S1 P h Γ L Lb (upd x.1 r v, x.2) z n → SEq S S1 → SLn S S1 → Rt (g S1) Q) : Rt ((wRI S r (nI P) v).bind g) Q := by
  have hl : rlen r = 24000 := by
    obtain ⟨a, b, c⟩ := hr
    have : r = 27 ∨ r = 28 ∨ r = 29 ∨ r = 30 ∨ r = 32 ∨ r = 33 ∨ r = 34 ∨ r = 35 := by omega
    rcases this with e | e | e | e | e | e | e | e <;> subst e <;> rfl
  exact Rt.bd (wRI_n (by rw [hl]; exact hP) (by rw [hl]; decide)) (k _ ⟨p.1.ur (Or.inl ⟨hr.1, hr.2.1⟩), p.2.1.tr (LZ.ur ⟨hr.1, hr.2.1⟩ (Nat.le_refl _)) (Nat.le_refl _) (Nat.le_refl _), p.2.2.1.ur, p.2.2.2⟩ ⟨(LZ.ur (P := 0) (L := 0) ⟨hr.1, hr.2.1⟩ (Nat.zero_le _)).1, rfl, rfl, rfl, rfl, rfl⟩ ⟨rfl, Zr_un (by omega), Zr_un (by omega)⟩)
theorem LPt.hhl {h2 : Nat} {w : Int32} {g : Sg → Option (Sg × α)} {Q : Sg → α → Prop} (hw : w = nI h2) (p : LPt R S0 Sb S P h Γ L Lb x z n) (k : ∀ S1 : Sg, LPt R S0 Sb S1 P h2 Γ L Lb x z n → SEq S S1 → SLn S S1 → Rt (g S1) Q) : Rt ((pM S 48 w).bind g) Q := by
  subst hw
  exact Rt.bd rfl (k (Ui S 48 (nI h2)) ⟨p.1.hh, p.2.1.tr (LZ.ui (Or.inr (Or.inr (Or.inl rfl)))) (Nat.le_refl _) (Nat.le_refl _), p.2.2.1.sm rfl rfl rfl, p.2.2.2⟩ ⟨(LZ.ui (P := 0) (L := 0) (Or.inr (Or.inr (Or.inl rfl)))).1, rfl, rfl, rfl, rfl, rfl⟩ ⟨rfl, rfl, rfl⟩)
theorem isPw.po {w va ix tv xt : Nat} {ρ : List (Nat × Nat)} (q : isPw R S0 S w va ix tv ρ xt) (hl : ρ.length ≤ 5) : pOb R S w := by
  obtain ⟨sa, ta, f, g, q1, q2, q3, q4, _⟩ := q
  exact ⟨va, ρ.length, sa, ta, f, g, q1, q2, q3, q4, hl⟩
/-- newLoan -/
theorem nln_ {w : Nat} {y0 : Int32} {g : Sg → Int32 → Option (Sg × α)} {Q : Sg → α → Prop} (hl : L < 160) (p : LPt R S0 Sb S P h Γ L Lb x z n) (hok : okO S 18 (some w) = true) (hpo : pOb R S w) (hy : y0 = 0 ∨ y0 = 1) (k : ∀ S1 : Sg, LPt R S0 Sb S1 P h Γ (L + 1) Lb x z n → SEq S S1 → Zq S1 43 L = some w → Zr S1 44 L = y0 → Zr S1 45 L = -1 → Rt (g S1 (nI L)) Q) : Rt (bnd (f_newLoan R.K S (some w) y0) g) Q := by
  have h47 : Zi S 47 = nI L := p.1.2.2.2.2.1
  refine Rt.bn (Q := fun S1 r => r = nI L ∧ LPt R S0 Sb S1 P h Γ (L + 1) Lb x z n ∧ SEq S S1 ∧ Zq S1 43 L = some w ∧ Zr S1 44 L = y0 ∧ Zr S1 45 L = -1) ?_ (fun S1 r q => by rw [q.1]; exact k S1 q.2.1 q.2.2.1 q.2.2.2.1 q.2.2.2.2.1 q.2.2.2.2.2)
  unfold f_newLoan
  rw [h47]
  refine Rt.bd (wQ_n (show L < rlen 43 from hl) (by decide) hok) ?_
  have p1 : LPt R S0 Sb (Uq S 43 (va_up (Zq S 43) L (some w))) P h Γ L Lb x z n := ⟨p.1.uq (Or.inr ⟨rfl, Nat.le_refl _⟩), p.2.1.tr (LZ.lq (P := P) (L := Lb) p.2.2.2.2.2.1) (Nat.le_refl _) (Nat.le_refl _), p.2.2.1.lq, p.2.2.2.1, p.2.2.2.2.1, p.2.2.2.2.2.1, p.2.2.2.2.2.2.kq (S1 := Uq S 43 (va_up (Zq S 43) L (some w))) (fun y _ hU => by unfold Us at hU ⊢; rw [Zq_un (by decide)] at hU; exact hU) (LZ.lq (P := 0) (L := 0) (Nat.zero_le _)) p.2.1.1 (fun k => ⟨congrFun (Zq_un (by decide)) k, congrFun (Zq_un (by decide)) k, congrFun (Zq_un (by decide)) k, congrFun (Zq_un (by decide)) k⟩)⟩
  have e1 : SEq S (Uq S 43 (va_up (Zq S 43) L (some w))) := ⟨(LZ.lq (P := 0) (L := 0) (Nat.zero_le _)).1, rfl, rfl, rfl, rfl, Zq_un (by decide)⟩
  have q1 : Zq (Uq S 43 (va_up (Zq S 43) L (some w))) 43 L = some w := (congrFun Zq_us L).trans (va_up_self _ _ _)
  generalize Uq S 43 (va_up (Zq S 43) L (some w)) = A at p1 e1 q1
  rw [show Zi A 47 = nI L from p1.1.2.2.2.2.1]
  refine Rt.bd (wZ_n (show L < rlen 44 from hl) (by decide) hy) ?_
  have p2 : LPt R S0 Sb (Ur A 44 (upd (Zr A 44) L y0)) P h Γ L Lb x z n := ⟨p1.1.ur (Or.inr ⟨by decide, fun e => absurd e (by decide)⟩), p1.2.1.tr (LZ.lr (P := P) (L := Lb) (by decide) p.2.2.2.2.2.1) (Nat.le_refl _) (Nat.le_refl _), p1.2.2.1.lr (by decide), p1.2.2.2⟩
  have e2 : SEq S (Ur A 44 (upd (Zr A 44) L y0)) := e1.tr ⟨(LZ.lr (P := 0) (L := 0) (by decide) (Nat.zero_le _)).1, rfl, rfl, rfl, rfl, rfl⟩
  have q2 : Zq (Ur A 44 (upd (Zr A 44) L y0)) 43 L = some w := q1
  have r2 : Zr (Ur A 44 (upd (Zr A 44) L y0)) 44 L = y0 := (congrFun Zr_us L).trans upd_s
  generalize Ur A 44 (upd (Zr A 44) L y0) = B at p2 e2 q2 r2
  rw [show Zi B 47 = nI L from p2.1.2.2.2.2.1]
  refine Rt.bd (wRI_n (show L < rlen 45 from hl) (by decide)) ?_
  have p3 : LPt R S0 Sb (Ur B 45 (upd (Zr B 45) L (-1))) P h Γ L Lb x z n := ⟨p2.1.ur (Or.inr ⟨by decide, fun _ => Or.inl (Nat.le_refl _)⟩), p2.2.1.tr (LZ.lr (P := P) (L := Lb) (by decide) p.2.2.2.2.2.1) (Nat.le_refl _) (Nat.le_refl _), p2.2.2.1.lr (by decide), p2.2.2.2⟩
  have e3 : SEq S (Ur B 45 (upd (Zr B 45) L (-1))) := e2.tr ⟨(LZ.lr (P := 0) (L := 0) (by decide) (Nat.zero_le _)).1, rfl, rfl, rfl, rfl, rfl⟩
  have q3 : Zq (Ur B 45 (upd (Zr B 45) L (-1))) 43 L = some w := q2
  have r3 : Zr (Ur B 45 (upd (Zr B 45) L (-1))) 44 L = y0 := (congrFun (Zr_un (by decide)) L).trans r2
  have s3 : Zr (Ur B 45 (upd (Zr B 45) L (-1))) 45 L = -1 := (congrFun Zr_us L).trans upd_s
  generalize Ur B 45 (upd (Zr B 45) L (-1)) = C at p3 e3 q3 r3 s3
  have hC : Zi C 47 = nI L := p3.1.2.2.2.2.1
  have eC : Zi C 47 + 1 = nI (L + 1) := by rw [hC]; exact nI_1 L
  rw [eC]
  refine Rt.bd (v := Ui C 47 (nI (L + 1))) rfl (Rt.rt ⟨?_, ⟨p3.1.l1 hl (Or.inr ⟨w, q3, hpo.st e3.1⟩) s3, p3.2.1.tr (LZ.ui (P := P) (L := Lb) (by decide)) (Nat.le_refl _) (Nat.le_refl _), p3.2.2.1.sm rfl rfl rfl, p3.2.2.2.1, p3.2.2.2.2.1, Nat.le_succ_of_le p3.2.2.2.2.2.1, p3.2.2.2.2.2.2⟩, e3.tr ⟨(LZ.ui (P := 0) (L := 0) (by decide)).1, rfl, rfl, rfl, rfl, rfl⟩, q3, r3, s3⟩)
  rw [show Zi (Ui C 47 (nI (L + 1))) 47 = nI (L + 1) from Zi_s, nI_sb1 (by omega)]; rfl
/-- lend -/
theorem len_ {e o pp q v y m2 w2 nn t p0 : Nat} {mu : Int32} {π : List (Nat × Nat)} (hL : RIn R S0) (hY : YK R S0) (hE : E.y = yT R S0) (hA : ALv S0 E Γ s) (hs : wl s = h) (hh : h ≤ 177) (c : LC R S0 S P h Γ2 L) (he : e ∈ ZL R.S) (hF : ZF S0 e = xtC 12 p0 0 0 0 0 0 mu (.ref o) .null .null 0 (.ref t) .null) (hx : xPl R S0 Γ nn o pp q v π y m2 w2) (hn : nn ≤ 1000) (hπ : π.length ≤ 4) (hv : vTy S0 y) (hq : q ≤ R.T) (hm : mu = 0 ∨ (mu = 1 ∧ m2 = 1)) (hP : P < 24000) (hl : L < 160) (hr : RMl R S 5 20) : Rt (f_lend R.K S (some e)) (fun S2 _ => GV R S0 S S2 E P (P + 1) h (h + 1) Γ2 Γ2 L (L + 1) s ((if mu = 0 then 1 else 2, abV S0 y, 0) :: s) False 5 20) := by
  obtain ⟨r1, r2⟩ := hr
  obtain ⟨tv, vi, nm, mt, i0, i2, i3, i4, i5, i6, i7, i8, i9, i10⟩ := xPl_in hY hx
  obtain ⟨ix2, i1, ⟨a1, a4⟩, a2, a3⟩ := hA.2 v i2 vi nm tv mt i0
  obtain ⟨x1, x2, x3, ⟨x4, x5⟩, kx, fs, x6, x7, x8, x9, x10⟩ := xPl_c hx
  have hmu : mu = 0 ∨ mu = 1 := hm.imp id (fun w => w.1)
  have hrd : ∀ {S1 : Sg}, LX S0 S1 → oR S1 15 (some e) 8 = some (some o) ∧ oI S1 15 (some e) 7 = some mu := fun hx => ⟨hx.vr (by decide) (by decide) (oR_mk (hL e he) hF (v := some o) rfl), hx.vi (by decide) (by decide) (oI_mk (hL e he) hF rfl)⟩
  unfold f_lend
  refine Rt.bd (hrd c.1).1 (Rt.bn (pth_ c hL hx hn hπ (by omega) (by omega)) (fun S1 r t => ?_))
  obtain ⟨w, ix3, tv2, rfl, t2, t3, t4, t5, t6, t7, t8, t9⟩ := t
  have hsame : tv2 = tv ∧ isPw R S0 S1 w v ix2 tv2 π y := by
    obtain ⟨sa, ta, f9, g9, j1, j2, j3, j4, j5, j6, nm2, mt2, u⟩ := t4
    have e2 := u.2.symm.trans i1.2
    obtain ⟨_, e4⟩ := Prod.mk.inj (Sum.inr.inj e2)
    injection e4 with b1 e4
    injection e4 with b2 e4
    injection e4 with b3 e4
    injection b1 with b1
    exact ⟨Option.some.inj (va_rf_inj b3), sa, ta, f9, g9, j1, j2, j3, j4, j5, j6, nm2, mt2, u.1, by rw [u.2]; unfold vrC; rw [b1]⟩
  replace t4 := hsame.2
  obtain rfl := hsame.1
  refine Rt.bd (hrd t2.1).1 (Rt.bd ((c.1.tr t3.lx).vi (by decide) (by decide) (oI_mk (hL o x1) x6 x8)) ?_)
  refine pnt_ (Lb := L) (Sb := S) (z := 3) (n := 13) hP t2 (t3.1 P L) (Nat.le_refl _) t6 t7 t8 (fun S2 p2 e2 => ?_)
  have hwm : w ∈ ZL S1 := by obtain ⟨_, _, _, _, h, _⟩ := t4; exact h
  have w2' := t4.st e2.1
  have hwm2 : w ∈ ZL S2 := by obtain ⟨_, _, _, _, h, _⟩ := w2'; exact h
  refine Rt.bd (hrd p2.1.1).2 ?_
  have h39 : ∀ ac n3 : Nat, ((ac = 2 ∧ n3 = 1 ∧ mu = 0) ∨ (ac = 3 ∧ n3 = 0 ∧ mu = 1)) → Rt (f_lend_39 R.K S2 (some e) (some w) (nI P) (nI ac) (nI P)) (fun S2 _ => GV R S0 S S2 E P (P + 1) h (h + 1) Γ2 Γ2 L (L + 1) s ((if mu = 0 then 1 else 2, abV S0 y, 0) :: s) False 5 20) := fun ac n3 hac => by
    have hac8 : ac < 8 := by rcases hac with w | w <;> omega
    have hn3 : n3 ≤ 1 := by rcases hac with w | w <;> omega
    unfold f_lend_39
    refine p2.wI hP (by decide) (fun S3 p3 e3 => ?_)
    refine Rt.bn (thr_ hP p3 hY (w2'.st e3.1) (by omega) (by omega) ((t9.st e2.1 hwm).st e3.1 hwm2) (by omega) (by omega)) (fun S4 _ t => ?_)
    obtain ⟨y4, p4, l4, v1, v2, v3, v4, v5, v6, v7⟩ := t
    refine Rt.bd (hrd p4.1.1).2 ?_
    have w4 := (w2'.st e3.1).st l4
    have hok : okO S4 18 (some w) = true := by
      obtain ⟨_, _, _, _, q1, q2, _⟩ := w4
      exact okO_mk q1 q2
    have h65 : Rt (f_lend_65 R.K S4 (nI P) (nI n3) (some w) (nI P)) (fun S2 _ => GV R S0 S S2 E P (P + 1) h (h + 1) Γ2 Γ2 L (L + 1) s ((if mu = 0 then 1 else 2, abV S0 y, 0) :: s) False 5 20) := by
      unfold f_lend_65 f_temporary
      refine nln_ hl p4 hok (w4.po (by omega)) (by rcases hac with w | w <;> rw [w.2.1] <;> decide) (fun S5 p5 e5 o1 o2 o3 => ?_)
      refine p5.wIl hP (by decide) (fun S6 p6 e6 n6 => Rt.be rfl ?_)
      have e48 : 40 + Zi S6 48 = nI (40 + h) := by rw [p6.1.2.2.1]; exact nI_add 40 h
      rw [e48]
      refine p6.wIl hP (by decide) (fun S7 p7 e7 n7 => ?_)
      have e48 : Zi S7 48 + 1 = nI (h + 1) := by rw [p7.1.2.2.1]; exact nI_1 h
      refine p7.hhl e48 (fun S8 p8 e8 n8 => Rt.rt ?_)
      have n58 := (n6.tr n7).tr n8
      have l48 : LX S4 S8 := ((e5.1.tr e6.1).tr e7.1).tr e8.1
      have hpt := (w4.st l48).pt p8.1 (by omega)
      let i : iR := (3, ac, some (ix2, π, abT S0 y), (some (40 + h), some L), (ifR (E.vt ix2) [ix2] [], ifR (E.vt ix2) [ix2] []), [P + 1], (0, v, n3), [])
      have hus : ∀ r : Nat, (r = 36 ∨ r = 37) → rAr R S8 (y4.2.2 r) (ifR (E.vt ix2) [ix2] []) := fun r hr => by
        by_cases q : isRf (E.vt ix2)
        · rw [ifR_p q]
          rw [a2] at q
          obtain ⟨z1, z2⟩ := v6 q
          rcases hr with e | e <;> subst e
          · exact z2.st l48
          · exact z1.st l48
        · rw [ifR_n q]
          rw [a2] at q
          obtain ⟨z1, z2⟩ := v7 q
          rcases hr with e | e <;> subst e
          · exact Or.inl ⟨z2, rfl⟩
          · exact Or.inl ⟨z1, rfl⟩
      have g1 : ∀ r : Nat, r ≠ 34 → r ≠ 35 → r ≠ 33 → upd (upd y4.1 35 (nI L)) 34 (nI (40 + h)) r = (ptRc 3 (nI pp)).1 r := fun r h1 h2 h3 => by rw [upd_n h1, upd_n h2, v1]; exact upd_n (f := (ptRc 3 (nI pp)).1) h3
      have hz : rz R S0 S8 P i := by
        refine rz_g (i := i) (K := 3) rfl p8.2.2.1 (by decide) (by decide) ?_ ?_ hac8 ?_ ?_ (hus 37 (Or.inr rfl)) (hus 36 (Or.inl rfl)) ⟨pp, ?_, by omega⟩ (Or.inr ⟨w, ix2, abT S0 y, π, v3, rfl, hpt, (w4.st l48).va⟩) (fun l e => ?_) ?_ rfl (fun w => absurd w (by decide)) (fun w => absurd w (by decide)) (fun w => absurd w (by decide)) (fun w => absurd w (by decide)) (fun w => absurd w (by decide)) (fun w => absurd w (by decide))
        · exact (g1 27 (by decide) (by decide) (by decide)).trans rfl
        · show upd (upd y4.1 35 (nI L)) 34 (nI (40 + h)) 33 = nI ac
          rw [upd_n (by decide), upd_n (by decide), v1]; exact upd_s (f := (ptRc 3 (nI pp)).1) (k := 33)
        · exact upd_s (f := upd y4.1 35 (nI L)) (k := 34)
        · exact (upd_n (f := upd y4.1 35 (nI L)) (k := 34) (j := 35) (v := nI (40 + h)) (by decide)).trans (upd_s (f := y4.1) (k := 35))
        · exact (g1 32 (by decide) (by decide) (by decide)).trans rfl
        · cases e
          refine ⟨?_, ?_, hn3, ?_⟩
          · rw [n58.1, o1]; exact v3.symm
          · rw [n58.2.1]; exact o2
          · rw [n58.2.2]; exact o3
        · exact (g1 30 (by decide) (by decide) (by decide)).trans rfl
      obtain ⟨_, _, f, g, _, _, _, _, q5, q6, _⟩ := w4
      refine ⟨p8.1, p8.2.1, tsg.one (i := i) hz (fun l e => by cases e; exact Nat.lt_succ_self _) (fun j hj => List.mem_singleton.mp hj) (by omega) (tP_3 rfl ⟨ix2, π, abT S0 y, ⟨rfl, ⟨a1, a4⟩, a3, ?_, i5, i4.n0 hY, hπ, hA.1⟩, ⟨fun q => ⟨ifR_p q, ifR_p q⟩, fun q => ⟨ifR_n q, ifR_n q⟩⟩, by rw [hs]; rfl, ⟨L, rfl⟩, ?_, ?_⟩) (fun w => w.elim), p8.2.2.2.1, Nat.le_trans p8.2.2.2.2.1 (by omega), Nat.le_succ _, Nat.le_succ _, p8.2.2.2.2.2.2⟩
      · rw [hE, a2]; exact q5.ty hY q6
      · rw [(hv.nm hY).2.2]; exact (hv.nm hY).2.1
      · rcases hac with ⟨z1, z2, z3⟩ | ⟨z1, z2, z3⟩
        · refine Or.inl ⟨z1, z2, rfl, ?_⟩
          rw [if_pos z3, (hv.nm hY).2.2]; exact wkS.rf
        · refine Or.inr ⟨z1, z2, fun q => ?_, rfl, ?_⟩
          · rw [a2] at q ⊢
            have hm2 : m2 = 1 := by
              rcases hm with w | w
              · exact absurd (w.symm.trans z3) (by decide)
              · exact w.2
            refine (i10 q (fun e => ?_)).2 hm2
            obtain ⟨b1, _⟩ := i9 e
            rw [← b1, (hv.nm hY).2.2] at q
            exact absurd q.1 (by have := (hv.nm hY).2.1; omega)
          · rw [if_neg (by rw [z3]; decide), (hv.nm hY).2.2]; exact wkS.rf
    refine Rt.it (fun w => ?_) (fun w => ?_)
    · rcases hac with z | z
      · rw [z.2.1] at h65; exact h65
      · exact absurd (w.symm.trans z.2.2) (by decide)
    · rcases hac with z | z
      · exact absurd z.2.2 w
      · rw [z.2.1] at h65; exact h65
  refine Rt.it (fun w => h39 2 1 (Or.inl ⟨rfl, rfl, w⟩)) (fun w => h39 3 0 (Or.inr ⟨rfl, rfl, hmu.resolve_left w⟩))
end LY14
