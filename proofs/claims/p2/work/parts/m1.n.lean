/-- the place that a match looks at: an enum -/
def PlF (bd : Nat) (R : yR) (S0 S : Sg) (E : eV) (js : List Nat) (w va ix tv xt i : Nat) (ρ : List (Nat × Nat)) : Prop := isPw R S0 S w va ix tv ρ xt ∧ isTy S0 xt 4 (nI i) none ∧ (ix < 40 ∧ E.ad ix = va) ∧ E.vt ix = abT S0 tv ∧ (8, ix, 0) ∈ mkV js ∧ qMs ρ ∧ ρ.length ≤ 4 ∧ i < R.im ∧ (bd ≠ 1 → isRf (E.vt ix) → E.vt ix % 2 = 1)
/-- the stack ahead of part j of an arm -/
def pSk (cd bd i g mk v j : Nat) (js : List Nat) : List tE := if j = mk then mkV (ksV v j ++ js) else (if bd = 1 then 5 else 6, i * 12 + g, 64 * cd + j) :: mkV (ksV v j ++ js)
section LY39
variable {R : yR} {S0 Sb S S1 S2 S3 : Sg} {P P1 P2 P3 h h0 h1 h2 hc L L1 L2 Lb z n z2 n2 : Nat} {Γ Γ0 Γ1 Γ2 Λ : List Nat} {E : eV} {s s1 s2 : List tE} {gv : Nat} {js ks : List Nat}
theorem mkV_ap {a b : List Nat} : mkV (a ++ b) = mkV a ++ mkV b := List.map_append
theorem PlF.st {bd w va ix tv xt i : Nat} {ρ : List (Nat × Nat)} (hx : LX S S1) (q : PlF bd R S0 S E js w va ix tv xt i ρ) : PlF bd R S0 S1 E js w va ix tv xt i ρ := ⟨q.1.st hx, q.2⟩
theorem ksj {v j : Nat} (hv : ∀ i ∈ js, i < v) : ∀ i ∈ ksV v j ++ js, i < v + j := fun i hi => by
  rcases List.mem_append.mp hi with e | e
  · exact (ksV_lt e).2
  · have := hv i e; omega
theorem wl_56 {k : Nat} {a b : Nat} (h : k = 5 ∨ k = 6) : wl ((k, a, b) :: s) = wl s := wl_00 (by rcases h with e | e; exact Or.inr (Or.inr (Or.inl e)); exact Or.inr (Or.inr (Or.inr e)))
/-- a part of an arm -/
theorem lpt_ {w va ix tv xt a y xe p1 px i g mk j u ty v bd : Nat} {mu : Int32} {tx : Nat → Nat} {ρ : List (Nat × Nat)} (hF : FEn R S0 E Λ gv) (c : LC R S0 S P 0 Γ L) (hp : PlF bd R S0 S E js w va ix tv xt i ρ) (hA : PaA R S0 Λ a y xe p1 px i g mk j u ty v mu tx) (hbd : (mu = 0 ∧ bd = 1) ∨ (mu = 1 ∧ bd = 2)) (hv : ∀ i ∈ js, i < v) (hv40 : v + j < 40) (hP : P < 24000) (hl : L < 160) (hr : RMl R S 5 17) : Rt (f_layPart R.K S (some a) (some y) (nI j) (some w)) (fun S2 _ => GV R S0 S S2 E P (P + 1) 0 0 Γ Γ L (L + 1) (pSk (cdP ix ρ) bd i g mk v j js) (pSk (cdP ix ρ) bd i g mk v (j + 1) js) False 5 17) := by
  obtain ⟨r1, r2⟩ := hr
  have hL := hF.1.1
  have hY := hF.1.2.1
  have hEy := hF.1.2.2.2.2.1
  obtain ⟨pw, hx4, ⟨ix40, iad⟩, evt, hin, hqm, hρ, him, hmut⟩ := hp
  have hA2 := hA
  obtain ⟨⟨ha, fs, a1, a2, a3⟩, ⟨he, gs, e1, e2, e3⟩, ⟨hy, ys, y1, y2, y3⟩, ⟨hy2, fv, v1, v2⟩, hen, hj, hΛ, ⟨nmu, hV⟩, hty⟩ := hA2
  obtain ⟨f1, f2, f3, f4, f5, f6⟩ := hen.y hY
  obtain ⟨f7, hvt⟩ := f6 j hj
  have hg12 : g < 12 := by omega
  have hi70 : i < 70 := by have := hY.2.1; omega
  obtain ⟨_, nm2, mu2, ty2, hV2, hvt2, hty2⟩ := hF.2.1 (v + j) u hΛ
  have ety : ty2 = some ty := by obtain ⟨_, _, w, _⟩ := isV_u hV2 hV (by omega) (by omega); exact w
  subst ety
  have hevt : E.vt (v + j) = abT S0 ty := hvt2
  have habt : abT S0 ty = (if mu = 0 then 10000 else 10001) + 2 * abV S0 (tx j) := by
    rcases hty with ⟨w1, w⟩ | ⟨w1, w⟩
    · obtain ⟨_, _, _, _, _, q⟩ := abV_is hY w
      rw [q, if_pos rfl, if_pos w1]; rfl
    · obtain ⟨_, _, _, _, _, q⟩ := abV_is hY w
      rw [q, if_neg (by decide), if_pos rfl, if_neg (by rw [w1]; decide)]; rfl
  have hvx : vTy S0 xt := vTy.pl hx4 (by decide)
  have habx : abT S0 xt = 4 + i := by rw [(hvx.nm hY).2.2, abV_it hY (Or.inr rfl) him hx4]
  have hrx : rTy S0 ty := hty2 ty rfl
  unfold f_layPart
  refine npp_ (k9 := 0) c pw hρ (by omega) (by omega) (fun A b0 => ?_)
  refine lp29 pw hρ rfl b0.2.1.1 (fun A f sa ta fp gp b eq1 eq2 hf => ?_) bigN 0 A _ (by unfold bigN; omega) (Nat.zero_le _) b0 (fun _ _ _ _ _ i hi => by omega)
  refine lp64 c hL pw hρ hx4 hA f5 hg12 hvt (fun A nw pw2 hn hz hn2 => ?_) bigN 0 A f _ (by unfold bigN; omega) (Nat.zero_le _) b (fun sa' ta' fp' gp' q1 q2 q3 => ⟨fun l hl => ?_, fun l hl => by omega⟩)
  · obtain ⟨hn1, hn3, hn4⟩ := hn
    have cA := c.nw nw
    have rE : ∀ {S' : Sg}, LX S0 S' → oR S' 19 (some a) 6 = some (some xe) := fun hx => hx.vr (by decide) (by decide) (oR_mk (hL a ha) a1 (v := some xe) a3)
    have r4 : ∀ {S' : Sg}, LX S0 S' → oR S' 13 (some y) 4 = some (some (y + 2)) := fun hx => hx.vr (by decide) (by decide) (oR_mk (hL y hy) y1 (v := some (y + 2)) y3)
    have r5 : ∀ {S' : Sg}, LX S0 S' → aQ R.K 5 S' (some (y + 2)) (nI j) = some (some u) := fun hx => by
      obtain ⟨q1, q2⟩ := hx.ro (hL _ hy2) v1
      rw [aQ_n q1 q2 (show j < 12 by omega) (by decide), v2]
    have rv : ∀ {S' : Sg} {P' h' L' : Nat} {Γ' : List Nat}, LC R S0 S' P' h' Γ' L' → okO S' 21 (some u) = true ∧ oI S' 21 (some u) 0 = some (nI (v + j)) ∧ isU S' u (v + j) (some ty) 0 := fun c' => by
      obtain ⟨wh, w1, w2, _⟩ := c'.2.2.2.2.2.2.1 u (v + j) nmu (some ty) 0 hV
      exact ⟨okO_mk w1 w2, oI_mk w1 w2 rfl, w1, nmu, wh, w2⟩
    refine Rt.bd (rE cA.1) (Rt.bd (cA.1.vi (by decide) (by decide) (oI_mk (hL xe he) e1 e2)) ?_)
    refine pnt_ (Lb := L) (Sb := S) (z := 3) (n := 15) hP cA nw.lz (Nat.le_refl _) (by omega) (by omega) (NW.us c nw) (fun S1 p1 e1' => ?_)
    have hPN : PN S0 S S1 (Zz S) := fun gs9 a9 q1 q2 q3 => by
      rw [e1'.2.2.1, hn3] at q1
      cases q1; cases q2
      exact absurd q3 hn4
    refine Rt.bn (thr_ hP p1 hY (pw2.st e1'.1) (by rw [List.length_append]; show ρ.length + 1 ≤ 5; omega) (by omega) hPN (by omega) (by omega)) (fun S3 _ t3 => ?_)
    obtain ⟨x3, p3, l3, u1, u2, u3, u4, u5, u6, u7⟩ := t3
    refine Rt.bd (r4 p3.1.1) (Rt.bd (r5 p3.1.1) (p3.wO hP (by decide) (rv p3.1).1 (Or.inl (by decide)) (fun S4 p4 e4 => ?_)))
    refine Rt.bd (p4.1.1.vi (by decide) (by decide) (oI_mk (hL a ha) a1 a2)) ?_
    have pw4 := (pw2.st e1'.1).st (l3.tr e4.1)
    have hfin : ∀ n3 : Nat, ((n3 = 1 ∧ mu = 0) ∨ (n3 = 0 ∧ mu = 1)) → Rt (f_layPart_202 R.K S4 (some y) (nI j) (nI P) (nI n3) (some (Zz S)) (nI P)) (fun S2 _ => GV R S0 S S2 E P (P + 1) 0 0 Γ Γ L (L + 1) (pSk (cdP ix ρ) bd i g mk v j js) (pSk (cdP ix ρ) bd i g mk v (j + 1) js) False 5 17) := fun n3 hn3 => by
      have hn31 : n3 ≤ 1 := by rcases hn3 with w | w <;> omega
      have hok : okO S4 18 (some (Zz S)) = true := by
        obtain ⟨_, _, _, _, q1, q2, _⟩ := pw4
        exact okO_mk q1 q2
      unfold f_layPart_202
      refine nln_ hl p4 hok (pw4.po (by rw [List.length_append]; show ρ.length + 1 ≤ 5; omega)) (by rcases hn3 with w | w <;> rw [w.1] <;> decide) (fun S5 p5 e5 o1 o2 o3 => ?_)
      refine p5.wIl hP (by decide) (fun S6 p6 e6 n6 => ?_)
      refine Rt.bd (r4 p6.1.1) (Rt.bd (r5 p6.1.1) (Rt.bd (rv p6.1).2.1 (p6.wIl hP (by decide) (fun S7 p7 e7 n7 => Rt.rt ?_))))
      have l47 : LX S4 S7 := (e5.1.tr e6.1).tr e7.1
      have n67 := n6.tr n7
      have hpt := (pw4.st l47).pt p7.1 (by rw [List.length_append]; show ρ.length + 1 ≤ 5; omega)
      have hab : abT S0 (tx j) = abV S0 (tx j) := (hvt.nm hY).2.2
      rw [hab] at hpt
      have hEq : E.y.2.2.2.2 (4 + i) g j = abV S0 (tx j) := by rw [hEy]; exact f7
      have hus : ∀ r : Nat, (r = 36 ∨ r = 37) → rAr R S7 (va_up x3.2.2 40 (some u) r) (ifR (E.vt ix) [ix] []) := fun r hr => by
        rw [va_up_ne _ _ (by omega)]
        by_cases q : isRf (E.vt ix)
        · rw [ifR_p q]
          rw [evt] at q
          rcases hr with e | e <;> subst e
          · exact ((u6 q).2.st e4.1).st l47
          · exact ((u6 q).1.st e4.1).st l47
        · rw [ifR_n q]
          rw [evt] at q
          rcases hr with e | e <;> subst e
          · exact Or.inl ⟨(u7 q).2, rfl⟩
          · exact Or.inl ⟨(u7 q).1, rfl⟩
      have g1 : ∀ r : Nat, r ≠ 34 → r ≠ 35 → upd (upd x3.1 35 (nI L)) 34 (nI (v + j)) r = (ptRc 23 (nI px)).1 r := fun r h1 h2 => by rw [upd_n h1, upd_n h2, u1]
      have hrf : mkV (ksV v (j + 1) ++ js) = (8, v + j, 0) :: mkV (ksV v j ++ js) := rfl
      have hw0 : wl (pSk (cdP ix ρ) bd i g mk v j js) = 0 := by
        unfold pSk
        rw [if_neg (by omega), wl_56 (by by_cases q : bd = 1; rw [if_pos q]; exact Or.inl rfl; rw [if_neg q]; exact Or.inr rfl), wl_mk]
      have htag : (if n3 = 1 then 5 else 6) = (if bd = 1 then (5 : Nat) else 6) := by
        rcases hn3 with ⟨w1, w2⟩ | ⟨w1, w2⟩
        · rcases hbd with w | w
          · rw [if_pos w1, if_pos w.2]
          · exact absurd (w2.symm.trans w.1) (by decide)
        · rcases hbd with w | w
          · exact absurd (w2.symm.trans w.1) (by decide)
          · rw [if_neg (by omega), if_neg (by omega)]
      refine gv1 p7 (i := (23, 0, some (ix, ρ ++ [(g + 2, j)], abV S0 (tx j)), (some (v + j), some L), (ifR (E.vt ix) [ix] [], ifR (E.vt ix) [ix] []), [P + 1], (abT S0 ty, va, n3), [v + j])) (rz_g (K := 23) rfl p7.2.2.1 (by decide) (by decide) ?_ ?_ (by show (0 : Nat) < 8; decide) ?_ ?_ (hus 37 (Or.inr rfl)) (hus 36 (Or.inl rfl)) ⟨px, ?_, e3⟩ (Or.inr ⟨Zz S, ix, abV S0 (tx j), ρ ++ [(g + 2, j)], ?_, rfl, hpt, (pw4.st l47).va⟩) (fun l e => ?_) ?_ rfl (fun w => absurd w (by decide)) (fun w => absurd w (by decide)) (fun w => absurd w (by decide)) (fun _ => ⟨u, v + j, some ty, 0, ?_, rfl, (rv p7.1).2.2, rfl, hty2⟩) (fun w => absurd w (by decide)) (fun w => absurd w (by decide))) rfl (fun l e => by cases e; exact Nat.lt_succ_self _) (by rw [hw0]; omega) (tP_23 rfl ⟨rfl, ix, ρ, v + j, i, g, j, mkV (ksV v j ++ js), rfl, hv40, rfl, ⟨L, rfl⟩, ?_, ⟨wl_mk, nT_mk, fun w1 => hmut (fun w2 => w1 (by rcases hn3 with ⟨w3, _⟩ | ⟨w3, w4⟩; exact w3; exact absurd w4 (by rcases hbd with ⟨z, _⟩ | ⟨_, z⟩; rw [z]; decide; omega)))⟩, not8 (ksj hv), hi70, hg12, ?_, ?_, ?_, ?_, ⟨ix40, iad⟩, ?_, ?_, hqm, hρ, ⟨fun q => ⟨ifR_p q, ifR_p q⟩, fun q => ⟨ifR_n q, ifR_n q⟩⟩, ?_, ?_, ?_⟩)
      · exact (g1 27 (by decide) (by decide)).trans rfl
      · exact (g1 33 (by decide) (by decide)).trans rfl
      · exact upd_s (f := upd x3.1 35 (nI L)) (k := 34)
      · exact (upd_n (f := upd x3.1 35 (nI L)) (k := 34) (j := 35) (v := nI (v + j)) (by decide)).trans (upd_s (f := x3.1) (k := 35))
      · exact (g1 32 (by decide) (by decide)).trans rfl
      · exact (va_up_ne x3.2.2 (some u) (show (38 : Nat) ≠ 40 by decide)).trans u3
      · cases e
        refine ⟨?_, ?_, hn31, ?_⟩
        · rw [n67.1, o1]; exact ((va_up_ne x3.2.2 (some u) (show (38 : Nat) ≠ 40 by decide)).trans u3).symm
        · rw [n67.2.1]; exact o2
        · rw [n67.2.2]; exact o3
      · exact (g1 30 (by decide) (by decide)).trans rfl
      · exact va_up_self x3.2.2 40 (some u)
      · show pSk (cdP ix ρ) bd i g mk v j js = (if n3 = 1 then 5 else 6, i * 12 + g, 64 * cdP ix ρ + j) :: _
        rw [htag]; unfold pSk; rw [if_neg (by omega)]
      · rw [hEy]; exact f1
      · rw [hEy]; show g < fN (obF S0 (R.ws (4 + i - 4))) 3; rw [show 4 + i - 4 = i by omega]; exact f2
      · rw [hEy]; show j < yP R S0 (4 + i) g; rw [f4]; exact hj
      · rw [hEq]; rfl
      · rw [mkV_ap]; exact List.mem_append_right _ hin
      · obtain ⟨_, _, _, _, _, _, _, _, q5, q6, _⟩ := pw
        rw [hEy, evt, ← habx]; exact q5.ty hY q6
      · show E.vt (v + j) = (if n3 = 1 then 10000 else 10001) + _
        rw [hEq, hevt, habt]
        rcases hn3 with ⟨w1, w2⟩ | ⟨w1, w2⟩
        · rw [if_pos w1, if_pos w2]
        · rw [if_neg (show ¬ n3 = 1 by omega), if_neg (show ¬ mu = 0 by rw [w2]; decide)]
      · rw [hEq]; exact (hvt.nm hY).2.1
      · have ey : E.y.2.2.2.1 (4 + i) g = mk := by rw [hEy]; exact f4
        rw [ey]
        by_cases q : j + 1 = mk
        · refine Or.inl ⟨q, rfl, ?_⟩
          unfold pSk; rw [if_pos q, hrf]; exact wkS.rf
        · refine Or.inr ⟨by omega, rfl, ?_⟩
          show wkS ((if n3 = 1 then 5 else 6, i * 12 + g, 64 * cdP ix ρ + (j + 1)) :: _) _
          rw [htag]
          unfold pSk; rw [if_neg q, hrf]; exact wkS.rf
    refine Rt.it (fun w => ?_) (fun w => ?_)
    · exact hfin 1 (Or.inl ⟨rfl, w⟩)
    · refine hfin 0 (Or.inr ⟨rfl, ?_⟩)
      rcases hbd with q | q
      · exact absurd q.1 w
      · exact q.1
  · obtain ⟨rfl, rfl⟩ : sa' = sa ∧ ta' = ta := by rw [eq1] at q1; cases q1; exact ⟨rfl, rfl⟩
    obtain rfl : fp' = fp := by rw [eq2] at q2; cases q2; rfl
    exact hf l hl
end LY39
