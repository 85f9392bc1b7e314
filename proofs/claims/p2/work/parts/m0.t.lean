/-- the row a of m ints is its maker's alone: nobody else looks at it, no point from P to P2 does -/
def PVc (R : yR) (S0 S : Sg) (P P2 a m : Nat) (f : Nat → Int32) : Prop := a ∈ ZL S ∧ ZF S a = .inl (R.K.1 0, m, .inl f) ∧ a ∉ ZL S0 ∧ ¬ Us S0 S a ∧ ∀ k : Nat, P ≤ k → k < P2 → ¬ Up S k a ∧ ∀ w : Nat, Zq S 38 k = some w → w ∈ ZL S
/-- a piece with open jumps was laid -/
def GVo (R : yR) (S0 S S2 : Sg) (E : eV) (P P2 h2 : Nat) (Γ2 : List Nat) (L L2 : Nat) (s s2 : List tE) (D : Nat → Prop) (yD : List tE) (cl cD : Prop) (z n : Nat) : Prop := LC R S0 S2 P2 h2 Γ2 L2 ∧ LZ P L S S2 ∧ tsgo R S0 S2 E L2 P P2 s s2 D yD cl cD ∧ Zz S2 ≤ Zz S + z ∧ Zn S2 ≤ Zn S + n ∧ P ≤ P2 ∧ L ≤ L2 ∧ RFx S0 S P S2 P2
section LY19
variable {R : yR} {S0 Sb S S1 S2 : Sg} {P P1 P2 h h0 h1 h2 L L1 L2 Lb z n z2 n2 : Nat} {Γ Γ0 Γ1 Γ2 : List Nat} {x : pRc} {E : eV} {s s1 s2 yD : List tE} {α : Type} {D D2 : Nat → Prop} {cl cl2 cD cD2 : Prop} {a m : Nat} {f f2 : Nat → Int32}
theorem ne_il {b : Nat} {r : ClassId × vp_A} {y : Nat × List Value} (h : ZF S a = .inl r) (g : ZF S b = .inr y) : b ≠ a := fun e => by rw [e, h] at g; cases g
theorem ne_ia {b n : Nat} {c1 c2 : ClassId} {f : Nat → Int32} {y : _} (h : ZF S a = .inl (c1, m, .inl f)) (g : ZF S b = .inl (c2, n, .inr y)) : b ≠ a := fun e => by
  rw [e, h] at g
  exact nomatch (Prod.mk.inj (Prod.mk.inj (Sum.inl.inj g)).2).2
theorem rAr.uF {o : Option Nat} {l : List Nat} {c : va_E} (q : rAr R S o l) (h : o ≠ some a) : rAr R (UF S a c) o l := by
  rcases q with q | ⟨b, g, q1, q2, q3, q4⟩
  · exact Or.inl q
  · exact Or.inr ⟨b, g, q1, q2, (ZF_n (fun e => h (by rw [q1, e]))).trans q3, q4⟩
theorem isU.uF {r : ClassId × vp_A} {c : va_E} (hF : ZF S a = .inl r) {va v : Nat} {ty : Option Nat} {mu : Int32} (q : isU S va v ty mu) : isU (UF S a c) va v ty mu := by
  obtain ⟨q1, nm, wh, q2⟩ := q
  exact ⟨q1, nm, wh, (ZF_n (ne_il hF q2)).trans q2⟩
theorem isPt.uF {c : va_E} (hF : ZF S a = .inl (R.K.1 0, m, .inl f)) {w v T : Nat} {ρ : lLc} (q : isPt R S0 S w v ρ T) (hu : ∀ gs : List Value, ZF S w = .inr (18, gs) → gs[2]? ≠ some (.ref a)) : isPt R S0 (UF S a c) w v ρ T := by
  obtain ⟨va, sa, ta, f1, g, mu, q1, q2, q3, q4, q5, q6⟩ := q
  refine ⟨va, sa, ta, f1, g, mu, q1, (ZF_n (ne_il hF q2)).trans q2, q3.uF hF, ⟨q4.1, (ZF_n (fun e => ?_)).trans q4.2⟩, ⟨q5.1, (ZF_n (ne_ia hF q5.2)).trans q5.2⟩, q6⟩
  · exact hu _ q2 (by rw [e]; rfl)
theorem rAm.uF {c : va_E} (hF : ZF S a = .inl (R.K.1 0, m, .inl f)) {o : Option Nat} {n1 n2 : Nat} {l : List Nat} (q : rAm R S0 S o n1 n2 l) : rAm R S0 (UF S a c) o n1 n2 l := by
  obtain ⟨b, na, aw, bk, tk, vn, fv, q1, q2, q3, q4, q5, q6, q7⟩ := q
  refine ⟨b, na, aw, bk, tk, vn, fv, q1, q2, (ZF_n (ne_il hF q3)).trans q3, q4, (ZF_n (ne_ia hF q5)).trans q5, q6, fun j v e => ?_⟩
  · obtain ⟨va, y, mu, r1, r2, r3⟩ := q7 j v e
    exact ⟨va, y, mu, r1, r2.uF hF, r3⟩
/-- what lies at a point that doesn't look at the row a -/
theorem rz.uF {k : Nat} {c : va_E} {i : iR} (q : rz R S0 S k i) (hF : ZF S a = .inl (R.K.1 0, m, .inl f)) (hu : ¬ Up S k a) : rz R S0 (UF S a c) k i := by
  obtain ⟨q1, q2, q3, q4, q5, q6, q7, q8, q9, q10, q11, q12, q13, q14, q15, q16, q17, q18⟩ := q
  have u36 : Zq S 36 k ≠ some a := fun e => hu (Or.inl e)
  have u37 : Zq S 37 k ≠ some a := fun e => hu (Or.inr (Or.inl e))
  have u42 : Zq S 42 k ≠ some a := fun e => hu (Or.inr (Or.inr (Or.inl e)))
  refine ⟨q1, q2, q3, q4, q5, q6, q7.uF u37, q8.uF u36, q9, ?_, q11, ?_, q13, q14, fun e => (q15 e).uF u42, ?_, fun e => (q17 e).uF hF, q18⟩
  · refine q10.imp id (fun ⟨w, v, T, ρ, a1, a2, a3, gs9, a4, a5⟩ => ⟨w, v, T, ρ, a1, a2, a3.uF hF (fun gs e1 e2 => hu (Or.inr (Or.inr (Or.inr ⟨w, gs, a1, e1, e2⟩)))), gs9, (ZF_n (ne_il hF a4)).trans a4, a5⟩)
  · exact q12.imp id (fun z => z.imp id (fun z => z.imp id (fun z => z.imp (fun ⟨a1, b, c⟩ => ⟨a1, b.uF u42, c⟩) id)))
  · intro e
    obtain ⟨va, v, ty, mu, a1, b, c1, d⟩ := q16 e
    exact ⟨va, v, ty, mu, a1, b, c1.uF hF, d⟩
theorem tsgo.uF {c : va_E} {x y : List tE} (q : tsgo R S0 S E L P P2 x y D yD cl cD) (hF : ZF S a = .inl (R.K.1 0, m, .inl f)) (hu : ∀ k : Nat, P ≤ k → k < P2 → ¬ Up S k a) : tsgo R S0 (UF S a c) E L P P2 x y D yD cl cD := by
  obtain ⟨st, W, h1, h2, h3, h4, h5, h6, h7, h8⟩ := q
  refine ⟨st, W, h1, h2, h3, h4, h5, h6, h7, fun k hk hb => ?_⟩
  obtain ⟨q0, q1, q2⟩ := h8 k hk hb
  refine ⟨q0, fun hd => ?_, fun hd T hT hT2 => ?_⟩
  · obtain ⟨i, p1, p2⟩ := q1 hd
    exact ⟨i, p1.uF hF (hu k hk hb), p2⟩
  · obtain ⟨i, p1, p2⟩ := q2 hd T hT hT2
    exact ⟨i, rz.uF (S := Ur S 30 (upd (Zr S 30) k (nI T))) p1 hF (hu k hk hb), p2⟩
theorem tsgo.dc {x y : List tE} (q : tsgo R S0 S E L P P2 x y D yD cl cD) (hD : ∀ k : Nat, D2 k ↔ D k) : tsgo R S0 S E L P P2 x y D2 yD cl cD := by
  have e : D2 = D := funext (fun k => propext (hD k))
  rw [e]; exact q
/-- what all look at lies in the store -/
theorem LC.usm (c : LC R S0 S P h Γ L) (q : Us S0 S a) : a ∈ ZL S := by
  rcases q with ⟨u, h1, h2⟩ | ⟨v, ix, nm, ty, mu, w, fs, gs, h1, h2, h3, h4, h5⟩
  · rcases c.2.2.2.2.2.1.1 u h1 with q | ⟨b, g, q1, q2, _⟩
    · rw [q] at h2; cases h2
    · rw [q1] at h2; cases h2; exact q2
  · obtain ⟨wh, w1, w2, w3⟩ := c.2.2.2.2.2.2.1 v ix nm ty mu h1
    have e : fs[4]? = some wh := by rw [w2] at h2; cases h2; rfl
    rw [e] at h3; cases h3
    rcases w3 with w3 | ⟨w', w4, sa, ta, f1, g1, k1, k2, k3, k4, k5⟩
    · cases w3
    · cases w4
      rw [k2] at h4; cases h4; cases h5
      exact k3.1
theorem NW.us2 (c : LC R S0 S P h Γ L) (b : NW S S1) (q : Us S0 S1 a) : Us S0 S a := by
  rcases q with ⟨u, h1, h2⟩ | ⟨v, ix, nm, ty, mu, w, fs, gs, h1, h2, h3, h4, h5⟩
  · rw [b.2.2.2.2.1] at h2; exact Or.inl ⟨u, h1, h2⟩
  · obtain ⟨wh, w1, w2, w3⟩ := c.2.2.2.2.2.2.1 v ix nm ty mu h1
    rw [(b.1 v w1).2] at h2
    have e : fs[4]? = some wh := by rw [w2] at h2; cases h2; rfl
    rw [e] at h3; cases h3
    rcases w3 with w3 | ⟨w', w4, w5⟩
    · cases w3
    · cases w4
      obtain ⟨_, _, _, _, w6, _⟩ := w5
      rw [(b.1 w w6).2] at h4
      exact Or.inr ⟨v, ix, nm, ty, mu, w, fs, gs, h1, h2, e, h4, h5⟩
theorem pOb.uF {w : Nat} (hF : ZF S a = .inl (R.K.1 0, m, .inl f)) (q : pOb R S w) : pOb R (UF S a (.inl (R.K.1 0, m, .inl f2))) w := by
  obtain ⟨va, n, sa, ta, f1, g, q1, q2, q3, q4, q5⟩ := q
  by_cases e : sa = a
  · subst e
    have e2 : n = m := by have := q3.2.symm.trans hF; cases this; rfl
    subst e2
    exact ⟨va, n, sa, ta, f2, g, q1, (ZF_n (ne_il hF q2)).trans q2, ⟨q3.1, ZF_s⟩, ⟨q4.1, (ZF_n (ne_ia hF q4.2)).trans q4.2⟩, q5⟩
  · exact ⟨va, n, sa, ta, f1, g, q1, (ZF_n (ne_il hF q2)).trans q2, ⟨q3.1, (ZF_n e).trans q3.2⟩, ⟨q4.1, (ZF_n (ne_ia hF q4.2)).trans q4.2⟩, q5⟩
theorem LC.uF (q : LC R S0 S P h Γ L) (hF : ZF S a = .inl (R.K.1 0, m, .inl f)) (ha : a ∉ ZL S0) (hu : ¬ Us S0 S a) : LC R S0 (UF S a (.inl (R.K.1 0, m, .inl f2))) P h Γ L := by
  refine ⟨⟨fun b hb => ⟨(q.1.1 b hb).1, by rw [show ZF (UF S a (.inl (R.K.1 0, m, .inl f2))) b = ZF S b from ZF_n (fun e => ha (by rw [← e]; exact hb))]; exact (q.1.1 b hb).2⟩, q.1.2⟩, q.2.1, q.2.2.1, q.2.2.2.1, q.2.2.2.2.1, ⟨fun u hu2 => ?_, fun l h1 h2 => ⟨(q.2.2.2.2.2.1.2 l h1 h2).1.imp id (fun ⟨w, a1, a2⟩ => ⟨w, a1, a2.uF hF⟩), (q.2.2.2.2.2.1.2 l h1 h2).2⟩⟩, fun v ix nm ty mu hV => ?_, q.2.2.2.2.2.2.2⟩
  · rcases q.2.2.2.2.2.1.1 u hu2 with w | ⟨b, g, q1, q2, q3, q4⟩
    · exact Or.inl w
    · exact Or.inr ⟨b, g, q1, q2, (ZF_n (fun e => hu (Or.inl ⟨u, hu2, by rw [← e]; exact q1⟩))).trans q3, q4⟩
  · obtain ⟨wh, w1, w2, w3⟩ := q.2.2.2.2.2.2.1 v ix nm ty mu hV
    refine ⟨wh, w1, (ZF_n (ne_il hF w2)).trans w2, w3.imp id (fun ⟨w, e, sa, ta, f1, g1, k1, k2, k3, k4, k5⟩ => ?_)⟩
    subst e
    refine ⟨w, rfl, sa, ta, f1, g1, k1, (ZF_n (ne_il hF k2)).trans k2, ⟨k3.1, (ZF_n (fun e2 => ?_)).trans k3.2⟩, ⟨k4.1, (ZF_n (ne_ia hF k4.2)).trans k4.2⟩, k5⟩
    · exact hu (Or.inr ⟨v, ix, nm, ty, mu, w, _, _, hV, w2, rfl, k2, by rw [← e2]; rfl⟩)
theorem UF_inr {c : ClassId × vp_A} {b : Nat} {y : Nat × List Value} (e : ZF (UF S a (.inl c)) b = .inr y) : ZF S b = .inr y := by
  by_cases q : b = a
  · rw [q, ZF_s] at e; cases e
  · rw [ZF_n q] at e; exact e
theorem Us.uF {c : ClassId × vp_A} {b : Nat} (q : Us S0 (UF S a (.inl c)) b) : Us S0 S b := by
  rcases q with q | ⟨v, ix, nm, ty, mu, w, fs, gs, h1, h2, h3, h4, h5⟩
  · exact Or.inl q
  · exact Or.inr ⟨v, ix, nm, ty, mu, w, fs, gs, h1, UF_inr h2, h3, UF_inr h4, h5⟩
theorem Up.uF {c : ClassId × vp_A} {b k : Nat} (q : Up (UF S a (.inl c)) k b) : Up S k b := by
  rcases q with q | q | q | ⟨w, gs, h3, h4, h5⟩
  · exact Or.inl q
  · exact Or.inr (Or.inl q)
  · exact Or.inr (Or.inr (Or.inl q))
  · exact Or.inr (Or.inr (Or.inr ⟨w, gs, h3, UF_inr h4, h5⟩))
theorem RFx.uF {c : ClassId × vp_A} (q : RFx S0 S P S2 P2) : RFx S0 S P (UF S2 a (.inl c)) P2 := ⟨fun b hb w => q.1 b hb w.uF, fun k h1 h2 => ⟨fun b hb w => (q.2 k h1 h2).1 b hb w.uF, (q.2 k h1 h2).2⟩⟩
theorem PVc.uF (v : PVc R S0 S P P2 a m f) : PVc R S0 (UF S a (.inl (R.K.1 0, m, .inl f2))) P P2 a m f2 := ⟨v.1, ZF_s, v.2.2.1, fun w => v.2.2.2.1 w.uF, fun k h1 h2 => ⟨fun w => (v.2.2.2.2 k h1 h2).1 w.uF, (v.2.2.2.2 k h1 h2).2⟩⟩
/-- the row's maker writes into it -/
theorem GVo.uF (g : GVo R S0 S S2 E P P2 h2 Γ2 L L2 s s2 D yD cl cD z n) (v : PVc R S0 S2 P P2 a m f) (hn : a ∉ ZL S) : GVo R S0 S (UF S2 a (.inl (R.K.1 0, m, .inl f2))) E P P2 h2 Γ2 L L2 s s2 D yD cl cD z n :=
  ⟨g.1.uF v.2.1 v.2.2.1 v.2.2.2.1, LZ.uF g.2.1 hn, g.2.2.1.uF v.2.1 (fun k h1 h2 => (v.2.2.2.2 k h1 h2).1), g.2.2.2.1, g.2.2.2.2.1, g.2.2.2.2.2.1, g.2.2.2.2.2.2.1, g.2.2.2.2.2.2.2.uF⟩
theorem GVo.of (g : GV R S0 S S2 E P P2 h h2 Γ Γ2 L L2 s s2 cl z n) : GVo R S0 S S2 E P P2 h2 Γ2 L L2 s s2 (fun _ => False) yD cl cD z n := ⟨g.1, g.2.1, tsgo.of g.2.2.1, g.2.2.2⟩
theorem GVo.cls (g : GVo R S0 S S2 E P P2 h2 Γ2 L L2 s s2 D yD cl cD z n) (hD : ∀ k : Nat, ¬ D k) : GV R S0 S S2 E P P2 h h2 Γ Γ2 L L2 s s2 cl z n := ⟨g.1, g.2.1, g.2.2.1.cls hD, g.2.2.2⟩
theorem GVo.tr (g : GVo R S0 S S1 E P P1 h1 Γ1 L L1 s s1 D yD cl cD z n) (b : GVo R S0 S1 S2 E P1 P2 h2 Γ2 L1 L2 s1 s2 D2 yD cl2 cD2 z2 n2) : GVo R S0 S S2 E P P2 h2 Γ2 L L2 s s2 (fun k => D k ∨ D2 k) yD (cl ∨ cl2) (cD ∧ (cl ∨ cD2)) (z + z2) (n + n2) := by
  obtain ⟨a1, a2, a3, a4, a5, a6, a7, a8⟩ := g
  obtain ⟨b1, b2, b3, b4, b5, b6, b7, b8⟩ := b
  exact ⟨b1, a2.tr b2 a6 a7, ((a3.st b2).up b7).app b3, by omega, by omega, by omega, by omega, a8.tr b8 a2.1 b2⟩
theorem GVo.mo (g : GVo R S0 S S2 E P P2 h2 Γ2 L L2 s s2 D yD cl cD z n) (hD : ∀ k : Nat, D2 k ↔ D k) (hc : cl2 → cl) (hd : cD2 → cD) (hz : z ≤ z2) (hn : n ≤ n2) : GVo R S0 S S2 E P P2 h2 Γ2 L L2 s s2 D2 yD cl2 cD2 z2 n2 := ⟨g.1, g.2.1, (g.2.2.1.fl hc hd).dc hD, Nat.le_trans g.2.2.2.1 (by omega), Nat.le_trans g.2.2.2.2.1 (by omega), g.2.2.2.2.2⟩
theorem GVo.wk {s0 s3 : List tE} (g : GVo R S0 S S2 E P P2 h2 Γ2 L L2 s s2 D yD cl cD z n) (hx : wkS s0 s) (hy : wkS s2 s3) (hp : P < P2) : GVo R S0 S S2 E P P2 h2 Γ2 L L2 s0 s3 D yD cl cD z n := ⟨g.1, g.2.1, g.2.2.1.wk hx hy hp, g.2.2.2⟩
/-- a jump is set to the end -/
theorem GVo.pj {k : Nat} (g : GVo R S0 S S2 E P P2 h2 Γ2 L L2 s s2 D yD cl cD z n) (hk : D k) (hy : wkS yD s2) (hb : P2 < 24000) : GVo R S0 S (Ur S2 30 (upd (Zr S2 30) k (nI P2))) E P P2 h2 Γ2 L L2 s s2 (fun j => D j ∧ j ≠ k) yD (cl ∧ cD) cD z n := by
  obtain ⟨a1, a2, a3, a4, a5, a6, a7, a8⟩ := g
  have hkP : P ≤ k := by obtain ⟨_, _, _, _, _, _, _, q, _⟩ := a3; exact (q k hk).1
  exact ⟨a1.ur (Or.inl (by decide)), a2.tr (LZ.ur (by decide) hkP) (Nat.le_refl _) (Nat.le_refl _), a3.pj hk hy hb, a4, a5, a6, a7, a8⟩
/-- a row of the maker's stays his -/
theorem PVc.gv (v : PVc R S0 S P P1 a m f) (g : GVo R S0 S S2 E P1 P2 h2 Γ2 L L2 s s2 D yD cl cD z n) : PVc R S0 S2 P P2 a m f := by
  obtain ⟨v1, v2, v3, v4, v5⟩ := v
  have hx : LX S S2 := g.2.1.1
  obtain ⟨r1, r2⟩ := hx.ro v1 v2
  refine ⟨r1, r2, v3, fun w => v4 (g.2.2.2.2.2.2.2.1 a v1 w), fun k h1 h2 => ?_⟩
  by_cases e : k < P1
  · obtain ⟨q1, q2⟩ := v5 k h1 e
    have hq : ∀ r : Nat, 36 ≤ r → r ≤ 42 → Zq S2 r k = Zq S r k := (g.2.1.2.1 k e).2.2
    refine ⟨fun h => q1 ?_, fun w hw => ?_⟩
    · rcases h with h | h | h | ⟨w, gs, h3, h4, h5⟩
      · exact Or.inl (by rw [← hq 36 (by decide) (by decide)]; exact h)
      · exact Or.inr (Or.inl (by rw [← hq 37 (by decide) (by decide)]; exact h))
      · exact Or.inr (Or.inr (Or.inl (by rw [← hq 42 (by decide) (by decide)]; exact h)))
      · rw [hq 38 (by decide) (by decide)] at h3
        exact Or.inr (Or.inr (Or.inr ⟨w, gs, h3, (hx.1 w (q2 w h3)).2.back h4 (by decide) (by decide), h5⟩))
    · rw [hq 38 (by decide) (by decide)] at hw
      exact (hx.1 w (q2 w hw)).1
  · obtain ⟨q1, q2⟩ := g.2.2.2.2.2.2.2.2 k (by omega) h2
    exact ⟨fun w => v4 (q1 a v1 w), q2⟩
/-- a new row of n ints -/
theorem new_pv {g : Sg → Nat → Option (Sg × α)} {Q : Sg → α → Prop} (c : LC R S0 S P h Γ L) (hm : m ≤ 100000) (h1 : Zz S + 1 ≤ R.K.2.1) (h2 : Zn S + m ≤ R.K.2.2) (k : ∀ S1 : Sg, LC R S0 S1 P h Γ L → GVo R S0 S S1 E P P h Γ L L s s (fun _ => False) yD False cD 1 m → PVc R S0 S1 P P (Zz S) m (fun _ => 0) → Zr S1 = Zr S → Rt (g S1 (Zz S)) Q) : Rt (bnd (nA R.K S (nI m)) g) Q := by
  refine Rt.be (nA_ok hm ⟨h1, h2⟩) ?_
  have w0 : NW S (Un S (.inl (R.K.1 0, m, .inl (fun _ => 0))) m) := (NW.rf c.hz).un
  have hno : Zz S ∉ ZL S := fun w => Nat.lt_irrefl _ (c.hz _ w)
  refine k _ (c.nw w0) ⟨c.nw w0, w0.lz, tsgo.of (tsg.nil wkS.rf), Nat.le_refl _, Nat.le_refl _, Nat.le_refl _, Nat.le_refl _, NW.us c w0, fun k h1 h2 => by omega⟩ ⟨List.mem_cons_self, ZF_uz, fun w => hno (c.1.1 _ w).1, fun w => hno (c.usm (NW.us2 c w0 w)), fun k h1 h2 => by omega⟩ rfl
/-- what lies at a point that jumps, its jump being set -/
theorem rz_j {K pp T : Nat} {sc : List Nat} (hK : K = 16 ∧ sc = [T] ∨ (K = 17 ∨ K = 18 ∨ K = 19) ∧ sc = [P + 1, T]) (q : AT S P x) (hx : pl0 x K pp) (hpp : pp < R.T) (hT : T < 24000) : rz R S0 (Ur S 30 (upd (Zr S 30) P (nI T))) P ((K, 0, none, (none, none), ([], []), sc, (0, 0, 0), []) : iR) := by
  obtain ⟨x1, x2, x3, x4, x5, x6, x7, x8, x9⟩ := hx
  have e : ∀ r : Nat, 27 ≤ r → r ≤ 35 → r ≠ 31 → r ≠ 30 → Zr (Ur S 30 (upd (Zr S 30) P (nI T))) r P = x.1 r := fun r h1 h2 h3 h4 => by rw [Zr_un h4]; exact q.1 r h1 h2 h3
  have e30 : Zr (Ur S 30 (upd (Zr S 30) P (nI T))) 30 P = nI T := by rw [Zr_us, upd_s]
  have eq : ∀ r : Nat, 36 ≤ r → r ≤ 42 → Zq (Ur S 30 (upd (Zr S 30) P (nI T))) r P = x.2.2 r := q.2.2
  refine ⟨(e 27 (by decide) (by decide) (by decide) (by decide)).trans x1, ?_, (e 33 (by decide) (by decide) (by decide) (by decide)).trans x4, by show (0 : Nat) < 8; decide, (e 34 (by decide) (by decide) (by decide) (by decide)).trans x5, (e 35 (by decide) (by decide) (by decide) (by decide)).trans x6, Or.inl ⟨(eq 37 (by decide) (by decide)).trans x8, rfl⟩, Or.inl ⟨(eq 36 (by decide) (by decide)).trans x7, rfl⟩, ⟨pp, (e 32 (by decide) (by decide) (by decide) (by decide)).trans x3, hpp⟩, Or.inl ⟨(eq 38 (by decide) (by decide)).trans x9, rfl⟩, (fun l e => by cases e), ?_, fun w => ?_, fun w => ?_, fun w => ?_, fun w => ?_, fun w => ?_, fun w => ?_, fun w => ?_⟩
  · show K < 28; omega
  · rcases hK with ⟨h1, h2⟩ | ⟨h1, h2⟩
    · exact Or.inr (Or.inl ⟨h1, T, e30, h2, hT⟩)
    · exact Or.inr (Or.inr (Or.inl ⟨h1, T, e30, h2, hT⟩))
  · have w : K = 7 ∨ K = 11 ∨ K = 15 := w; omega
  · have w : K = 8 ∨ K = 9 ∨ K = 10 := w; omega
  · have w : K = 8 := w; omega
  · have w : K = 12 ∨ K = 13 ∨ K = 23 ∨ K = 24 := w; omega
  · have w : K = 22 := w; omega
  · have w : K = 25 := w; omega
  · have w : K = 10 := w; omega
/-- a point with an open jump was laid -/
theorem gvj {K pp : Nat} (hK : K = 16 ∨ (K = 17 ∨ K = 18 ∨ K = 19) ∧ ¬ cl) (p : LPt R S0 Sb S P h Γ L L x z n) (hx : pl0 x K pp) (hpp : pp < R.T) (hw : wl s ≤ 177)
  (ht : ∀ T : Nat, P < T → T < 24000 → tPt E P True ((K, 0, none, (none, none), ([], []), (if K = 16 then [T] else [P + 1, T]), (0, 0, 0), []) : iR) s (fun j t => (j = T ∧ wkS t yD) ∨ (j = P + 1 ∧ wkS t s2))) : GVo R S0 Sb S E P (P + 1) h Γ L L s s2 (fun k => k = P) yD cl False z n := by
  refine ⟨p.1, p.2.1, tsgo.one hw (fun T h1 h2 => ⟨_, rz_j (sc := if K = 16 then [T] else [P + 1, T]) ?_ p.2.2.1 hx hpp h2, rfl, fun j hj => ?_, ht T h1 h2⟩), p.2.2.2.1, p.2.2.2.2.1, Nat.le_succ _, Nat.le_refl _, p.2.2.2.2.2.2⟩
  · rcases hK with e | ⟨e, _⟩
    · exact Or.inl ⟨e, if_pos e⟩
    · exact Or.inr ⟨e, if_neg (by omega)⟩
  · have hj : j ∈ (if K = 16 then [T] else [P + 1, T]) := hj
    rcases hK with e | ⟨e, e2⟩
    · rw [if_pos e] at hj
      exact Or.inl (List.mem_singleton.mp hj)
    · rw [if_neg (by omega)] at hj
      rcases List.mem_cons.mp hj with w | w
      · exact Or.inr ⟨w, e2⟩
      · exact Or.inl (List.mem_singleton.mp w)
end LY19
