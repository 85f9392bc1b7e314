/-- behind an exp's code -/
def GvQ (R : yR) (S0 S : Sg) (E : eV) (P h : Nat) (Γ2 : List Nat) (L : Nat) (s : List tE) (x p q b c : Nat) (S2 : Sg) : Prop := ∃ P2 L2 : Nat, GV R S0 S S2 E P P2 h (wl (resE S0 x ++ s)) Γ2 Γ2 L L2 s (resE S0 x ++ s) False (5 * (q - p)) (40 * (q - p)) ∧ P < P2 ∧ P2 ≤ P + (q - p) ∧ L2 + b ≤ L + c
/-- the first point is no jump of a chain -/
def K0 (S : Sg) (P : Nat) : Prop := 1 ≤ P ∧ Zr S 27 0 ≠ 18 ∧ Zr S 27 0 ≠ 19
theorem K0.st {S S2 : Sg} {P P2 L : Nat} (k : K0 S P) (hz : LZ P L S S2) (hp : P ≤ P2) : K0 S2 P2 := by
  have e : Zr S2 27 0 = Zr S 27 0 := (hz.2.1 0 k.1).1 27 (by decide) (by decide)
  exact ⟨Nat.le_trans k.1 hp, by rw [e]; exact k.2.1, by rw [e]; exact k.2.2⟩
/-- V lays exps -/
def GvV (R : yR) (S0 : Sg) (E : eV) (Γ : List Nat) (V : Sg → Option Nat → Option (Sg × Unit)) (n : Nat) : Prop := ∀ (kk e p q b c x : Nat), xE R S0 Γ n kk e p q b c x → ∀ (S : Sg) (P h : Nat) (Γ2 : List Nat) (L : Nat) (s : List tE), LC R S0 S P h Γ2 L → K0 S P → ALv S0 E Γ s → wl s = h → h + 11 * kk + 1 ≤ 177 → q ≤ R.T → P + (q - p) < 24000 → L + c ≤ 160 + b → RMl R S (5 * (q - p)) (40 * (q - p)) → Rt (V S (some e)) (fun S2 _ => GvQ R S0 S E P h Γ2 L s x p q b c S2)
section LY17
variable {R : yR} {S0 Sb S S1 S2 : Sg} {P P2 h h0 L Lb z n : Nat} {Γ Γ0 Γ2 : List Nat} {x : pRc} {E : eV} {s s2 : List tE} {α : Type} {V : Sg → Option Nat → Option (Sg × Unit)}
theorem wl_rs (hY : YK R S0) {y : Nat} (h : rTy S0 y) : wl (resE S0 y ++ s) = wl s + 1 := by
  rw [resE_r hY h]; exact wl_eT
theorem RMl.le {z2 n2 : Nat} (h : RMl R S z n) (h1 : z2 ≤ z) (h2 : n2 ≤ n) : RMl R S z2 n2 := ⟨by have := h.1; omega, by have := h.2; omega⟩
theorem GV.rm {h1 L2 z1 n1 z2 n2 : Nat} {Γ1 : List Nat} {cl : Prop} (g : GV R S0 S S1 E P P2 h h1 Γ Γ1 L L2 s s2 cl z1 n1) (r : RMl R S z n) (hz : z1 + z2 ≤ z) (hn : n1 + n2 ≤ n) : RMl R S1 z2 n2 := ⟨by have := g.2.2.2.1; have := r.1; omega, by have := g.2.2.2.2.1; have := r.2; omega⟩
theorem GV.lx {h1 L2 : Nat} {Γ1 : List Nat} {cl : Prop} (g : GV R S0 S S1 E P P2 h h1 Γ Γ1 L L2 s s2 cl z n) : LX S S1 := g.2.1.1
/-- a value that is asked again: !, - -/
theorem gun_ {kk e o p q p' q' b c y xt : Nat} {kd : Int32} (hN : EN R S0 E) (hV : GvV R S0 E Γ V n) (he : e ∈ ZL R.S) (hF : ZF S0 e = xtC kd p 0 0 0 0 0 0 (.ref o) .null .null 0 (.ref xt) .null) (h3 : p < p') (h4 : q' ≤ q) (hx : xE R S0 Γ n kk o p' q' b c y) (hk : (kd = 9 ∧ isTy S0 y 1 0 none ∧ isTy S0 xt 1 0 none) ∨ (kd = 10 ∧ isTy S0 y 0 0 none ∧ isTy S0 xt 0 0 none)) (cc : LC R S0 S P h Γ2 L) (k0 : K0 S P) (hA : ALv S0 E Γ s) (hs : wl s = h) (hh : h + 11 * kk + 1 ≤ 177) (hq : q ≤ R.T) (hP : P + (q - p) < 24000) (hl : L + c ≤ 160 + b) (hr : RMl R S (5 * (q - p)) (40 * (q - p))) : Rt (f_give_162 R.K V S (some e)) (fun S2 _ => GvQ R S0 S E P h Γ2 L s xt p q b c S2) := by
  have hL := hN.1
  have hY := hN.2.1
  have hlt := xE_lt hx
  have hre : ∃ t : Nat, (t = 1 ∨ t = 2) ∧ resE S0 y = [(0, t, 0)] ∧ resE S0 xt = [(0, t, 0)] := by
    rcases hk with ⟨_, k1, k2⟩ | ⟨_, k1, k2⟩
    · exact ⟨2, Or.inr rfl, resE_b hY k1, resE_b hY k2⟩
    · exact ⟨1, Or.inl rfl, resE_i hY k1, resE_i hY k2⟩
  obtain ⟨t, t0, t1, t2⟩ := hre
  unfold f_give_162
  refine Rt.bd (cc.1.vr (by decide) (by decide) (oR_mk (hL e he) hF (v := some o) rfl)) ?_
  refine Rt.bn (hV kk o p' q' b c y hx S P h Γ2 L s cc k0 hA hs hh (by omega) (by omega) hl (hr.le (by omega) (by omega))) (fun S1 _ t => ?_)
  obtain ⟨P1, L1, g, g1, g2, g3⟩ := t
  rw [t1] at g
  refine Rt.bd (g.1.1.vi (by decide) (by decide) (oI_mk (hL e he) hF (v := kd) rfl)) ?_
  have h186 : ∀ K : Nat, (K = 5 ∨ K = 6) → Rt (f_give_186 R.K V S1 (some e) (nI K)) (fun S2 _ => GvQ R S0 S E P h Γ2 L s xt p q b c S2) := fun K hK => by
    unfold f_give_186 f_give_251
    refine Rt.bd (g.1.1.vi (by decide) (by decide) (oI_mk (hL e he) hF (v := nI p) rfl)) ?_
    refine pnt_ (Lb := L1) (Sb := S1) (z := 0) (n := 0) (by omega) g.1 LZ.rf (Nat.le_refl _) (by omega) (by omega) UsK.rf (fun S2 p2 e2 => Rt.rt ?_)
    have hw : wl ((0, t, 0) :: s) = wl s + 1 := wl_n (by show ¬ ((0 : Nat) = 8 ∨ (0 : Nat) = 4 ∨ (0 : Nat) = 5 ∨ (0 : Nat) = 6); decide)
    have g4 : GV R S0 S1 S2 E P1 (P1 + 1) (wl ((0, t, 0) :: s)) (wl ((0, t, 0) :: s)) Γ2 Γ2 L1 L1 ((0, t, 0) :: s) ((0, t, 0) :: s) False 0 0 := by
      refine gvp (K := K) (pp := p) (by omega) p2 pl0_o (by omega) (by omega) ?_
      rcases hK with e | e <;> subst e
      · exact tP_5 rfl ⟨iD0_0, t, s, t0, rfl, rfl, wkS.rf⟩
      · exact tP_6 rfl ⟨iD0_0, t, s, t0, rfl, rfl, wkS.rf⟩
    refine ⟨P1 + 1, L1, ?_, by omega, by omega, g3⟩
    rw [t2]
    exact g.tr g4 (fun w => w.elim) (by omega) (by omega)
  exact Rt.it (fun _ => h186 5 (Or.inl rfl)) (fun _ => h186 6 (Or.inr rfl))
/-- what stands in brackets; a token of a number -/
theorem inn151 {kk e o p q p' q' b c y xt : Nat} {kd : Int32} (hN : EN R S0 E) (hV : GvV R S0 E Γ V n) (he : e ∈ ZL R.S) (hF : ZF S0 e = xtC kd p 0 0 0 0 0 0 (.ref o) .null .null 0 (.ref xt) .null) (h3 : p < p') (h4 : q' ≤ q) (hx : xE R S0 Γ n kk o p' q' b c y) (hk : (isTy S0 y 0 0 none ∧ isTy S0 xt 2 0 none) ∨ y = xt) (cc : LC R S0 S P h Γ2 L) (k0 : K0 S P) (hA : ALv S0 E Γ s) (hs : wl s = h) (hh : h + 11 * kk + 1 ≤ 177) (hq : q ≤ R.T) (hP : P + (q - p) < 24000) (hl : L + c ≤ 160 + b) (hr : RMl R S (5 * (q - p)) (40 * (q - p))) : Rt (f_give_151 R.K V S (some e)) (fun S2 _ => GvQ R S0 S E P h Γ2 L s xt p q b c S2) := by
  have hL := hN.1
  have hY := hN.2.1
  have hlt := xE_lt hx
  unfold f_give_151 f_give_251
  refine Rt.bd (cc.1.vr (by decide) (by decide) (oR_mk (hL e he) hF (v := some o) rfl)) ?_
  refine Rt.bn (hV kk o p' q' b c y hx S P h Γ2 L s cc k0 hA hs hh (by omega) (by omega) hl (hr.le (by omega) (by omega))) (fun S1 _ t => Rt.rt ?_)
  obtain ⟨P1, L1, g, g1, g2, g3⟩ := t
  obtain ⟨a1, a2, a3, a4, a5, a6⟩ := g
  rcases hk with ⟨k1, k2⟩ | rfl
  · rw [resE_i hY k1] at a1 a3
    refine ⟨P1, L1, ⟨?_, a2, ?_, by omega, by omega, a6⟩, g1, by omega, g3⟩
    · rw [resE_t hY k2]; exact a1
    · rw [resE_t hY k2]
      exact a3.wk wkS.rf ⟨Or.inr ⟨3, Or.inr (Or.inr rfl), rfl, Or.inl ⟨1, Or.inl rfl, rfl⟩⟩, wkS.rf⟩ (fun w => w) (by omega)
  · exact ⟨P1, L1, ⟨a1, a2, a3, by omega, by omega, a6⟩, g1, by omega, g3⟩
/-- a box -/
theorem gbx_ {kk e o p q p' q' b c y xt : Nat} (hN : EN R S0 E) (hV : GvV R S0 E Γ V n) (he : e ∈ ZL R.S) (hF : ZF S0 e = xtC 13 p 0 0 0 0 0 0 (.ref o) .null .null 0 (.ref xt) .null) (ho : ∃ gs : List Value, o ∈ ZL R.S ∧ ZF S0 o = .inr (15, gs) ∧ gs[12]? = some (.ref y)) (h3 : p < p') (h4 : q' ≤ q) (hx : xE R S0 Γ n kk o p' q' b c y) (hv : vTy S0 y) (ht : isTy S0 xt 5 0 (some y)) (cc : LC R S0 S P h Γ2 L) (k0 : K0 S P) (hA : ALv S0 E Γ s) (hs : wl s = h) (hh : h + 11 * kk + 1 ≤ 177) (hq : q ≤ R.T) (hP : P + (q - p) < 24000) (hl : L + c ≤ 160 + b) (hr : RMl R S (5 * (q - p)) (40 * (q - p))) : Rt ((oR S 15 (some e) 8).bind fun v8 =>
    bnd (V S v8) fun S9 _ =>
    (oI S9 15 (some e) 1).bind fun v11 =>
    bnd (f_point R.K S9 7 v11) fun S12 v13 =>
    (oR S12 15 (some e) 8).bind fun v14 =>
    (oR S12 15 v14 12).bind fun v15 =>
    (wQ S12 20 39 v13 v15).bind fun S16 =>
    f_give_251 R.K V S16) (fun S2 _ => GvQ R S0 S E P h Γ2 L s xt p q b c S2) := by
  have hL := hN.1
  have hY := hN.2.1
  have hlt := xE_lt hx
  obtain ⟨gs, o1, o2, o3⟩ := ho
  refine Rt.bd (cc.1.vr (by decide) (by decide) (oR_mk (hL e he) hF (v := some o) rfl)) ?_
  refine Rt.bn (hV kk o p' q' b c y hx S P h Γ2 L s cc k0 hA hs hh (by omega) (by omega) hl (hr.le (by omega) (by omega))) (fun S1 _ t => ?_)
  obtain ⟨P1, L1, g, g1, g2, g3⟩ := t
  have hvx : rTy S0 y := Or.inl hv
  have er : resE S0 y = [(0, abV S0 y, 0)] := by
    rw [resE_r hY hvx]
    rcases hvx.nm hY with ⟨_, _, _, w⟩ | ⟨kd, u, w1, w2, w3, w4⟩
    · rw [w]
    · exact absurd w3.1 (by have := (hv.nm hY); omega)
  have hvb : vTy S0 xt := vTy.bx ht hv
  have hvb2 : rTy S0 xt := Or.inl hvb
  have er2 : resE S0 xt = [(0, abV S0 xt, 0)] := by
    rw [resE_r hY hvb2]
    rcases hvb2.nm hY with ⟨_, _, _, w⟩ | ⟨kd, u, w1, w2, w3, w4⟩
    · rw [w]
    · exact absurd w3.1 (by have := (hvb.nm hY); omega)
  rw [er] at g
  obtain ⟨b1, b2, b3, b4⟩ := bx_y hY ht
  refine Rt.bd (g.1.1.vi (by decide) (by decide) (oI_mk (hL e he) hF (v := nI p) rfl)) ?_
  refine pnt_ (Lb := L1) (Sb := S1) (z := 0) (n := 0) (by omega) g.1 LZ.rf (Nat.le_refl _) (by omega) (by omega) UsK.rf (fun S2 p2 e2 => ?_)
  refine Rt.bd (p2.1.1.vr (by decide) (by decide) (oR_mk (hL e he) hF (v := some o) rfl)) (Rt.bd (p2.1.1.vr (by decide) (by decide) (oR_mk (hL o o1) o2 (v := some y) o3)) ?_)
  obtain ⟨ykd, yix, yo, yt, _⟩ := hv.ty
  refine p2.wO (by omega) (by decide) (p2.1.1.okT ⟨_, _, _, yt⟩) (Or.inl (by decide)) (fun S3 p3 e3 => Rt.rt ?_)
  have hw : wl ((0, abV S0 y, 0) :: s) = wl s + 1 := wl_n (by show ¬ ((0 : Nat) = 8 ∨ (0 : Nat) = 4 ∨ (0 : Nat) = 5 ∨ (0 : Nat) = 6); decide)
  have hw2 : wl ((0, abV S0 xt, 0) :: s) = wl s + 1 := wl_n (by show ¬ ((0 : Nat) = 8 ∨ (0 : Nat) = 4 ∨ (0 : Nat) = 5 ∨ (0 : Nat) = 6); decide)
  have g4 : GV R S0 S1 S3 E P1 (P1 + 1) (wl ((0, abV S0 y, 0) :: s)) (wl ((0, abV S0 xt, 0) :: s)) Γ2 Γ2 L1 L1 ((0, abV S0 y, 0) :: s) ((0, abV S0 xt, 0) :: s) False 0 0 := by
    rw [show wl ([(0, abV S0 y, 0)] ++ s) = wl ((0, abV S0 xt, 0) :: s) from hw.trans hw2.symm] at p3
    refine gv0 (K := 7) (pp := p) (n1 := abT S0 y) (n2 := 0) (n3 := 0) (vs := []) (by decide) (by decide) p3 ⟨rfl, rfl, rfl, rfl, rfl, rfl, rfl, rfl, rfl⟩ (by omega) (fun _ => ⟨y, va_up_self (ptRc 7 (nI p)).2.2 39 (some y), hvx, rfl⟩) (fun w => absurd w (by decide)) (fun w => absurd w (by decide)) (fun w => absurd w (by decide)) (fun w => absurd w (by decide)) (fun w => absurd w (by decide)) (by omega) (tP_7 rfl ⟨iD0_0, abV S0 xt, s, ?_, ?_, ?_, ?_, ?_, b3, b4, rfl, wkS.rf⟩)
    · show _ = (0, abT S0 y, 0) :: s
      rw [(hv.nm hY).2.2]
    · exact hvx.n0 hY
    · show abT S0 y < 10000
      rw [(hv.nm hY).2.2]; exact (hv.nm hY).2.1
    · rw [hN.2.2.2.2.1]; exact b1
    · rw [hN.2.2.2.2.1]
      show yO S0 (abV S0 xt) = abT S0 y
      rw [b2, (hv.nm hY).2.2]
  refine ⟨P1 + 1, L1, ?_, by omega, by omega, g3⟩
  rw [er2]
  exact g.tr g4 (fun w => w.elim) (by omega) (by omega)
end LY17
