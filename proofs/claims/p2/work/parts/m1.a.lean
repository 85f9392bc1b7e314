-- m1.a.lean.txt
section
/-- marks of variables on the stack, the last one first -/
def mkV (js : List Nat) : List tE := js.map (fun i => (8, i, 0))
/-- the variables alive, by their numbers, the last one first -/
def GJ (Λ : List Nat) : List Nat → List Nat → Prop
  | Γ, [] => Γ = []
  | Γ, i :: js => ∃ (Γ0 : List Nat) (y : Nat), Γ = Γ0 ++ [y] ∧ Λ[i]? = some y ∧ (∀ j ∈ js, j < i) ∧ GJ Λ Γ0 js
/-- what is known of a function that is laid -/
def FEn (R : yR) (S0 : Sg) (E : eV) (Λ : List Nat) (gv : Nat) : Prop := EN R S0 E ∧ (∀ k v : Nat, Λ[k]? = some v → (k < 40 ∧ E.ad k = v) ∧ ∃ (nm mu : Int32) (ty : Option Nat), isV S0 v k nm ty mu ∧ E.vt k = abU S0 ty ∧ ∀ x : Nat, ty = some x → rTy S0 x) ∧ E.gv = abT S0 gv ∧ xTy S0 gv
section LY26
variable {R : yR} {S0 Sb S S1 S2 : Sg} {P h h0 hc L Lb z n : Nat} {Γ Γ0 Γ1 Γ2 Λ : List Nat} {E : eV} {s s2 e : List tE} {gv : Nat} {js js1 ks : List Nat}
theorem wl_mk : ∀ {js : List Nat}, wl (mkV js) = 0
  | [] => rfl
  | _ :: js => by
    show wl (_ :: mkV js) = 0
    rw [wl_00 (Or.inl rfl)]; exact wl_mk
theorem nT_mk : ∀ {js : List Nat}, nT (mkV js)
  | [] => nT_0
  | _ :: _ => nT_c (pnE_k (by decide))
theorem mkV_m {i : Nat} (h : (8, i, 0) ∈ mkV js) : i ∈ js := by
  obtain ⟨j, h1, h2⟩ := List.mem_map.mp h
  cases h2; exact h1
theorem GJ.len : ∀ {js Γ : List Nat}, GJ Λ Γ js → Γ.length = js.length
  | [], Γ, h => by rw [show Γ = [] from h]
  | i :: js, Γ, h => by
    obtain ⟨Γ0, y, rfl, _, _, h4⟩ := h
    rw [List.length_append, h4.len]; rfl
theorem GJ.mem : ∀ {js Γ : List Nat}, GJ Λ Γ js → ∀ v ∈ Γ, ∃ i ∈ js, Λ[i]? = some v
  | [], Γ, h => fun v hv => by rw [show Γ = [] from h] at hv; cases hv
  | i :: js, Γ, h => fun v hv => by
    obtain ⟨Γ0, y, rfl, h2, _, h4⟩ := h
    rcases List.mem_append.mp hv with w | w
    · obtain ⟨k, k1, k2⟩ := h4.mem v w
      exact ⟨k, List.mem_cons_of_mem _ k1, k2⟩
    · rw [List.mem_singleton.mp w]
      exact ⟨i, List.mem_cons_self, h2⟩
theorem isV_u {v ix ix2 : Nat} {nm nm2 mu mu2 : Int32} {ty ty2 : Option Nat} (a : isV S v ix nm ty mu) (b : isV S v ix2 nm2 ty2 mu2) (h1 : ix ≤ 100000) (h2 : ix2 ≤ 100000) : ix = ix2 ∧ nm = nm2 ∧ ty = ty2 ∧ mu = mu2 := by
  have e := a.2.symm.trans b.2
  unfold vrC at e
  have e2 := (Prod.mk.inj (Sum.inr.inj e)).2
  obtain ⟨e3, e4⟩ := List.cons.inj e2
  obtain ⟨e5, e6⟩ := List.cons.inj e4
  obtain ⟨e7, e8⟩ := List.cons.inj e6
  obtain ⟨e9, _⟩ := List.cons.inj e8
  exact ⟨nI_ij (Value.int.inj e3) h1 h2, Value.int.inj e5, va_rf_inj e7, Value.int.inj e9⟩
/-- the variables alive are those of the stack -/
theorem GJ.al (hF : FEn R S0 E Λ gv) (h : GJ Λ Γ js) (hs : ∀ i ∈ js, (8, i, 0) ∈ s) (hn : nT s) : ALv S0 E Γ s := ⟨hn, fun v hv ix nm tv mt q => by
  obtain ⟨i, h1, h2⟩ := h.mem v hv
  obtain ⟨⟨k1, kad⟩, nm2, mu2, ty, k2, k3, k4⟩ := hF.2.1 i v h2
  have e := q.2.symm.trans k2.2
  obtain ⟨_, e4⟩ := Prod.mk.inj (Sum.inr.inj e)
  injection e4 with b1 e4
  injection e4 with b2 e4
  injection e4 with b3 e4
  injection b1 with b1
  have b3 := va_rf_inj b3
  subst b3
  exact ⟨i, ⟨q.1, by rw [q.2]; unfold vrC; rw [b1]⟩, ⟨k1, kad⟩, k3, hs _ h1⟩⟩
end LY26
end
-- m1.b.lean.txt
section
section LY27
variable {R : yR} {S0 Sb S S1 S2 : Sg} {P h h0 hc L Lb z n : Nat} {Γ Γ0 Γ1 Γ2 Λ : List Nat} {E : eV} {s s2 e : List tE} {gv : Nat} {js js1 ks : List Nat} {x : pRc}
/-- the whole path of a variable, as a place -/
theorem whP.pt {a w ix : Nat} {nm mu : Int32} {ty : Option Nat} (c : LC R S0 S P h Γ L) (q : whP R S a w ty) (hV : isV S0 a ix nm ty mu) (ht : ∀ x : Nat, ty = some x → rTy S0 x) : isPt R S0 S w ix [] (abU S0 ty) ∧ isU S a ix ty mu := by
  obtain ⟨sa, ta, f, g, q1, q2, q3, q4, q5⟩ := q
  obtain ⟨wh, w1, w2, w3⟩ := c.2.2.2.2.2.2.1 a ix nm ty mu hV
  have hU : isU S a ix ty mu := ⟨w1, nm, wh, w2⟩
  refine ⟨⟨a, sa, ta, f, g, mu, q1, q2, by rw [q5]; exact hU, q3, q4, (fun j s e => by cases e), fun j x hj e => ?_, (by show _ = abU S0 (g 0); rw [q5]), (by decide)⟩, hU⟩
  have hj : j = 0 := Nat.le_zero.mp hj
  subst hj
  exact ht x (q5.symm.trans e)
theorem whP.va {a w : Nat} {ty : Option Nat} (q : whP R S a w ty) : pVa S w a := by
  obtain ⟨_, _, _, _, _, q2, _⟩ := q
  exact ⟨_, q2, rfl⟩
theorem PN.bs {w : Nat} (q : PN S0 S S1 w) (hl : LX Sb S) (hu : UsK S0 Sb S) : PN S0 Sb S1 w := fun gs a e1 e2 ha => hu a ha (q gs a e1 e2 (hl.1 a ha).1)
/-- a variable goes out -/
theorem out1 {i y tk : Nat} {k x2 : Int32} {g : Sg → Option (Sg × Unit)} {Q : Sg → Unit → Prop} (hF : FEn R S0 E Λ gv) (hi : Λ[i]? = some y) (hj : ∀ j ∈ js, j < i) (he : e = [] ∨ (e = [eT E.gv] ∧ E.gv ≠ 0)) (c : LC R S0 S P h Γ L) {kk : Nat} (hk : k = nI kk) (hk2 : kk < 40) (hΓ : Γ[kk]? = some y) (hx2 : x2 = nI tk) (htk : tk < R.T) (hP : P < 24000) (hr : RMl R S 3 5) (kn : ∀ S2 : Sg, GV R S0 S S2 E P (P + 1) h0 h Γ0 Γ L L (e ++ mkV (i :: js)) (e ++ mkV js) False 3 5 → Rt (g S2) Q) : Rt (bnd (f_point R.K S 24 x2) fun S1 v2 =>
    (rQ S1 49 k).bind fun v3 =>
    (wQ S1 21 40 v2 v3).bind fun S4 =>
    (wRI S4 33 v2 7).bind fun S5 =>
    (rQ S5 49 k).bind fun v6 =>
    (oI S5 21 v6 0).bind fun v7 =>
    (wRI S5 34 v2 v7).bind fun S8 =>
    (rQ S8 49 k).bind fun v9 =>
    bnd (f_wholeOf R.K S8 v9) fun S10 v11 =>
    (wQ S10 18 38 v2 v11).bind g) Q := by
  subst hk hx2
  obtain ⟨r1, r2⟩ := hr
  obtain ⟨⟨i40, iad⟩, nm, mu, ty, hV, hvt, hty⟩ := hF.2.1 i y hi
  have rq : ∀ {S' : Sg} {P' h' L' : Nat}, LC R S0 S' P' h' Γ L' → rQ S' 49 (nI kk) = some (some y) := fun c' => by rw [rQ_n (show kk < rlen 49 from hk2) (by decide), c'.2.2.2.1.2 kk y hΓ]
  have rv : ∀ {S' : Sg} {P' h' L' : Nat}, LC R S0 S' P' h' Γ L' → okO S' 21 (some y) = true ∧ oI S' 21 (some y) 0 = some (nI i) := fun c' => by
    obtain ⟨wh, w1, w2, _⟩ := c'.2.2.2.2.2.2.1 y i nm ty mu hV
    exact ⟨okO_mk w1 w2, oI_mk w1 w2 rfl⟩
  refine pnt_ (Lb := L) (Sb := S) (z := 0) (n := 0) hP c LZ.rf (Nat.le_refl _) (by omega) (by omega) UsK.rf (fun S1 p1 _ => ?_)
  refine Rt.bd (rq p1.1) (p1.wO hP (by decide) (rv p1.1).1 (Or.inl (by decide)) (fun S2 p2 _ => ?_))
  refine p2.wI hP (by decide) (fun S3 p3 _ => ?_)
  refine Rt.bd (rq p3.1) (Rt.bd (rv p3.1).2 (p3.wI hP (by decide) (fun S4 p4 _ => ?_)))
  have z4 := p4.2.2.2.1
  have n4 := p4.2.2.2.2.1
  refine Rt.bd (rq p4.1) (Rt.bn (whl_ p4.1 hV (fun x ex => by obtain ⟨kd, ix, o, q, _⟩ := (hty x ex).ty; exact ⟨kd, ix, o, q⟩) (by omega) (by omega)) (fun S5 v5 t5 => ?_))
  obtain ⟨w, rfl, c5, k5, w5, z5, n5, u5, pn5⟩ := t5
  have p5 := p4.kx (z2 := 3) (n2 := 5) c5 k5 u5 (by omega) (by omega)
  have hwm : w ∈ ZL S5 ∧ okO S5 18 (some w) = true := by obtain ⟨_, _, _, _, h1, h2, _⟩ := w5; exact ⟨h1, okO_mk h1 h2⟩
  refine p5.wO hP (by decide) hwm.2 (Or.inr ⟨rfl, fun w' e => by cases e; exact ⟨hwm.1, pn5.bs p4.2.1.1 p4.2.2.2.2.2.2.1⟩⟩) (fun S6 p6 e6 => kn S6 ?_)
  obtain ⟨hp6, hu6⟩ := (w5.st e6.1).pt p6.1 hV hty
  refine ⟨p6.1, p6.2.1, tsg.one (i := (24, 7, some (i, [], E.vt i), (some i, none), ([], []), [P + 1], (E.vt i, y, 0), [i])) (rz_g (K := 24) rfl p6.2.2.1 (by decide) (by decide) rfl rfl (by show (7 : Nat) < 8; decide) rfl rfl (Or.inl ⟨rfl, rfl⟩) (Or.inl ⟨rfl, rfl⟩) ⟨tk, rfl, htk⟩ (Or.inr ⟨w, i, E.vt i, [], rfl, rfl, ?_⟩) (fun l e => by cases e) rfl rfl (fun w => absurd w (by decide)) (fun w => absurd w (by decide)) (fun w => absurd w (by decide)) (fun _ => ⟨y, i, ty, mu, rfl, rfl, hu6, hvt.symm, hty⟩) (fun w => absurd w (by decide)) (fun w => absurd w (by decide))) (fun l e => by cases e) (fun j hj => List.mem_singleton.mp hj) ?_ (tP_24 rfl ⟨rfl, rfl, rfl, rfl, i, e, mkV js, rfl, ⟨i40, iad⟩, rfl, rfl, rfl, rfl, fun w => ?_, he, wl_mk, rfl, wkS.rf⟩) (fun w => w.elim), p6.2.2.2.1, p6.2.2.2.2.1, Nat.le_succ _, Nat.le_refl _, p6.2.2.2.2.2.2⟩
  · rw [hvt]; exact ⟨hp6, (w5.st e6.1).va⟩
  · rcases he with he | ⟨he, _⟩
    · rw [he]; show wl (mkV (i :: js)) ≤ 177; rw [wl_mk]; omega
    · rw [he]; show wl (eT E.gv :: mkV (i :: js)) ≤ 177; rw [wl_eT, wl_mk]; omega
  · have := hj i (mkV_m w); omega
/-- variables go out -/
theorem gou7 {tk : Nat} {x1 x2 : Int32} (hF : FEn R S0 E Λ gv) (he : e = [] ∨ (e = [eT E.gv] ∧ E.gv ≠ 0)) (hx1 : x1 = nI js1.length) (hx2 : x2 = nI tk) (htk : tk < R.T) : ∀ (ks : List Nat) (m : Nat) (S : Sg) (P : Nat) (Γ1 Γt : List Nat), LC R S0 S P h Γ L → GJ Λ Γ1 (ks ++ js1) → Γ = Γ1 ++ Γt → Γ.length ≤ 40 → ks.length < m → P + ks.length < 24000 → RMl R S (3 * ks.length) (5 * ks.length) → Rt (f_goOut_7 R.K m S x1 x2 (nI (ks.length + js1.length) - 1)) (fun S2 _ => GV R S0 S S2 E P (P + ks.length) h0 h Γ0 Γ L L (e ++ mkV (ks ++ js1)) (e ++ mkV js1) False (3 * ks.length) (5 * ks.length))
  | _, 0, _, _, _, _, _, _, _, _, hm, _, _ => by omega
  | [], m + 1, S, P, Γ1, Γt, c, hG, hΓ, h40, hm, hP, hr => by
    have hl := hG.len
    have hl2 : Γ.length = Γ1.length + Γt.length := by rw [hΓ, List.length_append]
    rw [List.nil_append] at hl
    unfold f_goOut_7
    refine Rt.ip ?_ (Rt.rt ⟨c, LZ.rf, tsg.nil wkS.rf, by omega, by omega, Nat.le_refl _, Nat.le_refl _, RFx.rf⟩)
    rw [hx1]
    exact (nI_p1 (by show 0 + js1.length ≤ 6000; omega) (by omega)).mpr (by show 0 + js1.length ≤ js1.length; omega)
  | i :: ks, m + 1, S, P, Γ1, Γt, c, hG, hΓ, h40, hm, hP, hr => by
    have hl := hG.len
    have hl2 : Γ.length = Γ1.length + Γt.length := by rw [hΓ, List.length_append]
    rw [List.length_append] at hl
    have hl : Γ1.length = ks.length + 1 + js1.length := hl
    have hm : ks.length + 1 < m + 1 := hm
    have hP : P + (ks.length + 1) < 24000 := hP
    have hr : RMl R S (3 * (ks.length + 1)) (5 * (ks.length + 1)) := hr
    obtain ⟨Γ9, y, g1, g2, g3, g4⟩ := hG
    have g4 : GJ Λ Γ9 (ks ++ js1) := g4
    have hl9 : Γ9.length = ks.length + js1.length := by
      have := g4.len; rw [List.length_append] at this; exact this
    have e0 : nI ((i :: ks).length + js1.length) - 1 = nI (ks.length + js1.length) := by
      rw [show (i :: ks).length + js1.length = (ks.length + js1.length) + 1 by show ks.length + 1 + js1.length = _; omega]; exact nI_pred _
    unfold f_goOut_7
    refine Rt.iq (fun w => ?_) ?_
    · rw [hx1] at w
      have := (nI_p1 (j := (i :: ks).length + js1.length) (a := js1.length) (by show ks.length + 1 + js1.length ≤ 6000; omega) (by omega)).mp w
      have : ks.length + 1 + js1.length ≤ js1.length := this
      omega
    · rw [e0]
      refine out1 (h0 := h0) (Γ0 := Γ0) (js := ks ++ js1) hF g2 g3 he c (kk := ks.length + js1.length) rfl (by omega) ?_ hx2 htk (by omega) ⟨by have := hr.1; omega, by have := hr.2; omega⟩ (fun S2 gg => ?_)
      · rw [hΓ, g1, List.getElem?_append_left (by rw [List.length_append]; show _ < Γ9.length + 1; omega), List.getElem?_append_right (by omega), show ks.length + js1.length - Γ9.length = 0 by omega]; rfl
      · have e1 : nI (ks.length + js1.length) + (-1) = nI (ks.length + js1.length) - 1 := by
          exact (Int32.sub_eq_add_neg _ _).symm
        rw [e1]
        refine (gou7 hF he hx1 hx2 htk ks m S2 (P + 1) Γ9 ([y] ++ Γt) gg.1 g4 (by rw [hΓ, g1, List.append_assoc]) h40 (by omega) (by omega) (gg.rm hr (by omega) (by omega))).mo (fun S3 _ g3 => ?_)
        have g3 : GV R S0 S2 S3 E (P + 1) (P + 1 + ks.length) h h Γ Γ L L (e ++ mkV (ks ++ js1)) (e ++ mkV js1) False (3 * ks.length) (5 * ks.length) := g3
        have := gg.tr g3 (cl3 := False) (fun w => w.elim) (Nat.le_refl _) (Nat.le_refl _)
        rw [show P + (i :: ks).length = P + 1 + ks.length by show P + (ks.length + 1) = _; omega, show 3 * (i :: ks).length = 3 + 3 * ks.length by show 3 * (ks.length + 1) = _; omega, show 5 * (i :: ks).length = 5 + 5 * ks.length by show 5 * (ks.length + 1) = _; omega]
        exact this
theorem gou_ {tk : Nat} {x1 x2 : Int32} (hF : FEn R S0 E Λ gv) (he : e = [] ∨ (e = [eT E.gv] ∧ E.gv ≠ 0)) (hx1 : x1 = nI js1.length) (hx2 : x2 = nI tk) (htk : tk < R.T) (c : LC R S0 S P h Γ L) (hG : GJ Λ Γ (ks ++ js1)) (h40 : Γ.length ≤ 40) (hP : P + ks.length < 24000) (hr : RMl R S (3 * ks.length) (5 * ks.length)) : Rt (f_goOut R.K S x1 x2) (fun S2 _ => GV R S0 S S2 E P (P + ks.length) h0 h Γ0 Γ L L (e ++ mkV (ks ++ js1)) (e ++ mkV js1) False (3 * ks.length) (5 * ks.length)) := by
  unfold f_goOut
  have hl := hG.len
  rw [List.length_append] at hl
  rw [c.2.2.2.1.1, hl]
  exact gou7 (Γ1 := Γ) (Γt := []) hF he hx1 hx2 htk ks bigN S P c hG (List.append_nil _).symm h40 (by unfold bigN; omega) hP hr
end LY27
end
-- m1.c.lean.txt
section
/-- bytes: each token has one at least, return six -/
def BWt (R : yR) (bw : Nat → Nat) : Prop := ∀ j : Nat, j < R.T → bw j + 1 ≤ bw (j + 1) ∧ (Zr R.S 5 j = 19 → bw j + 6 ≤ bw (j + 1))
theorem BWt.mo {R : yR} {bw : Nat → Nat} (h : BWt R bw) {p : Nat} : ∀ {q : Nat}, p ≤ q → q ≤ R.T → bw p + (q - p) ≤ bw q
  | 0, h1, _ => by have : p = 0 := Nat.le_zero.mp h1; subst this; omega
  | q + 1, h1, h2 => by
    by_cases e : p = q + 1
    · subst e; omega
    · have := BWt.mo h (p := p) (q := q) (by omega) (by omega)
      have := (h q (by omega)).1
      omega
/-- a statement was laid: js the variables alive, bounds by bytes; d points are to spare -/
def LyQ (R : yR) (S0 S : Sg) (E : eV) (P : Nat) (Γ Γ2 : List Nat) (L : Nat) (js Λ : List Nat) (bw : Nat → Nat) (p q b c v w : Nat) (cl : Prop) (d : Nat) (S2 : Sg) : Prop := ∃ (P2 L2 z n : Nat) (js2 : List Nat), GV R S0 S S2 E P P2 0 0 Γ Γ2 L L2 (mkV js) (mkV js2) cl z n ∧ GJ Λ Γ2 js2 ∧ (∀ i ∈ js2, i < w) ∧ (js2 = js ∨ ∃ i : Nat, js2 = i :: js) ∧ P2 + d + js2.length ≤ P + js.length + 8 * (bw q - bw p) ∧ z + 3 * js2.length ≤ 3 * js.length + 20 * (bw q - bw p) ∧ n + 5 * js2.length ≤ 5 * js.length + 60 * (bw q - bw p) ∧ L2 + b + v ≤ L + c + w ∧ K0 S2 P2
section LY28
variable {R : yR} {S0 Sb S S1 S2 : Sg} {P P1 P2 h h0 h1 hc L L2 Lb z n : Nat} {Γ Γ0 Γ1 Γ2 Λ : List Nat} {E : eV} {s s2 e : List tE} {gv : Nat} {js js1 ks : List Nat} {x : pRc} {bw : Nat → Nat} {cl : Prop}
/-- uses: the value on top is used -/
theorem use_ {xt : Nat} (hP : P < 24000) (hY : YK R S0) (p : LPt R S0 Sb S P (h + 1) Γ L Lb x z n) (hh : h ≤ 177) (ht : rTy S0 xt) (h1 : Zz Sb + z + 2 ≤ R.K.2.1) (h2 : Zn Sb + n + 2 ≤ R.K.2.2) : Rt (f_uses R.K S (nI P) (some xt)) (fun S1 _ => ∃ x2 : pRc, LPt R S0 Sb S1 P h Γ L Lb x2 (z + 2) (n + 2) ∧ LX S S1 ∧ x2.1 = x.1 ∧ x2.2.1 = x.2.1 ∧ (∀ r : Nat, r ≠ 36 → r ≠ 37 → x2.2.2 r = x.2.2 r) ∧ (isRf (abT S0 xt) → rAr R S1 (x2.2.2 37) [40 + h] ∧ rAr R S1 (x2.2.2 36) [40 + h]) ∧ (¬ isRf (abT S0 xt) → x2.2.2 37 = x.2.2 37 ∧ x2.2.2 36 = x.2.2 36)) := by
  obtain ⟨kd, ix, o, ty, _⟩ := ht.ty
  have hrf := ht.rf hY ty
  unfold f_uses f_temporary
  have e48 : Zi S 48 - 1 = nI h := by rw [p.1.2.2.1]; exact nI_pred h
  refine p.hh e48 (fun S1 p1 e1 => ?_)
  refine Rt.be (ref_ (p1.1.1.ty ty)) ?_
  by_cases q : kd = 6 ∨ kd = 7
  · rw [if_pos q]
    refine Rt.iq (by decide) (Rt.be rfl ?_)
    have e49 : ∀ {S' : Sg} {P' L' : Nat} {Γ' : List Nat}, LC R S0 S' P' h Γ' L' → 40 + Zi S' 48 = nI (40 + h) := fun c => by rw [c.2.2.1]; exact nI_add 40 h
    rw [e49 p1.1]
    have z1 := p1.2.2.2.1
    have n1 := p1.2.2.2.2.1
    refine Rt.bn (jst_ p1.1 (by omega) (by omega) (by omega)) (fun S2 r t => ?_)
    obtain ⟨a, f1, rfl, t2, t3, t4, t5, t6, t7, t8, t9, t10⟩ := t
    have p2 := p1.kx t2 t3 t10 (z2 := z + 1) (n2 := n + 1) (by omega) (by omega)
    refine p2.wA hP (by decide) (okA_mk t4 t5) ⟨by decide, fun y e hy => by cases e; exact p2.2.2.2.2.2.2.1 a hy (Or.inl ⟨40 + h, by omega, t9⟩)⟩ (fun S3 p3 e3 => Rt.be rfl ?_)
    rw [e49 p3.1]
    have z3 := p3.2.2.2.1
    have n3 := p3.2.2.2.2.1
    refine Rt.bn (jst_ p3.1 (by omega) (by omega) (by omega)) (fun S4 r t => ?_)
    obtain ⟨a', f2, rfl, u2, u3, u4, u5, u6, u7, u8, u9, u10⟩ := t
    have p4 := p3.kx u2 u3 u10 (z2 := z + 2) (n2 := n + 2) (by omega) (by omega)
    refine p4.wA hP (by decide) (okA_mk u4 u5) ⟨by decide, fun y e hy => by cases e; exact p4.2.2.2.2.2.2.1 a' hy (Or.inl ⟨40 + h, by omega, u9⟩)⟩ (fun S5 p5 e5 => Rt.rt ⟨_, p5, (((e1.1.tr t3.lx).tr e3.1).tr u3.lx).tr e5.1, rfl, rfl, fun r h1 h2 => ?_, fun _ => ⟨?_, ?_⟩, fun w => absurd (hrf.mpr q) w⟩)
    · exact (va_up_ne _ _ h1).trans (va_up_ne _ _ h2)
    · obtain ⟨g1, g2⟩ := ((e3.1.tr u3.lx).tr e5.1).ro t4 t5
      exact rAr_1 (by omega) g1 g2 t6
    · obtain ⟨g1, g2⟩ := e5.1.ro u4 u5
      exact rAr_1 (by omega) g1 g2 u6
  · rw [if_neg q]
    exact Rt.ip rfl (Rt.rt ⟨x, ⟨p1.1, p1.2.1, p1.2.2.1, by have := p1.2.2.2.1; omega, by have := p1.2.2.2.2.1; omega, p1.2.2.2.2.2⟩, e1.1, rfl, rfl, fun _ _ _ => rfl, fun w => absurd (hrf.mp w) q, fun _ => ⟨rfl, rfl⟩⟩)
/-- comesAlive -/
theorem cma_ {y : Nat} {g : Sg → Unit → Option (Sg × Unit)} {Q : Sg → Unit → Prop} (gg : GV R S0 S S2 E P P2 h h1 Γ Γ2 L L2 s s2 cl z n) (hy : okO S2 21 (some y) = true) (hl : Γ2.length < 40) (k : ∀ S3 : Sg, GV R S0 S S3 E P P2 h h1 Γ (Γ2 ++ [y]) L L2 s s2 cl z n → Zr S3 = Zr S2 → Rt (g S3 ()) Q) : Rt (bnd (f_comesAlive R.K S2 (some y)) g) Q := by
  obtain ⟨a1, a2, a3, a4, a5, a6, a7, a8⟩ := gg
  unfold f_comesAlive
  refine Rt.bn (Q := fun S3 _ => GV R S0 S S3 E P P2 h h1 Γ (Γ2 ++ [y]) L L2 s s2 cl z n ∧ Zr S3 = Zr S2) ?_ (fun S3 _ w => k S3 w.1 w.2)
  rw [a1.2.2.2.1.1]
  refine Rt.bd (wQ_n (show Γ2.length < rlen 49 from hl) (by decide) hy) ?_
  have e50 : Zi (Uq S2 49 (va_up (Zq S2 49) Γ2.length (some y))) 50 + 1 = nI (Γ2 ++ [y]).length := by
    show Zi S2 50 + 1 = _
    rw [a1.2.2.2.1.1, List.length_append]; exact nI_1 _
  rw [e50]
  refine Rt.bd (v := Ui (Uq S2 49 (va_up (Zq S2 49) Γ2.length (some y))) 50 (nI (Γ2 ++ [y]).length)) rfl (Rt.rt ?_)
  have z1 : ∀ P L : Nat, LZ P L S2 (Ui (Uq S2 49 (va_up (Zq S2 49) Γ2.length (some y))) 50 (nI (Γ2 ++ [y]).length)) := fun P L => (LZ.uo (Or.inl rfl)).tr (LZ.ui (Or.inr (Or.inr (Or.inr rfl)))) (Nat.le_refl _) (Nat.le_refl _)
  have hq : ∀ r : Nat, r ≠ 49 → Zq (Ui (Uq S2 49 (va_up (Zq S2 49) Γ2.length (some y))) 50 (nI (Γ2 ++ [y]).length)) r = Zq S2 r := fun r hr => Zq_un hr
  refine ⟨⟨⟨a1.1.tr (z1 0 0).1, (Zi_n (by decide)).trans a1.2.1, (Zi_n (by decide)).trans a1.2.2.1, ⟨Zi_s, fun k v hk => ?_⟩, (Zi_n (by decide)).trans a1.2.2.2.2.1, a1.2.2.2.2.2.1.st (z1 0 0).1 (hq 51 (by decide)) (a1.2.2.2.2.2.1.2.st (z1 0 0).1 (fun l _ _ => congrFun (hq 43 (by decide)) l) (fun l _ _ => Or.inl rfl) (Zi_n (by decide))), a1.2.2.2.2.2.2.1, a1.2.2.2.2.2.2.2⟩, a2.tr (z1 _ _) (Nat.le_refl _) (Nat.le_refl _), a3.st (z1 _ _), a4, a5, a6, a7, ⟨fun a ha w => a8.1 a ha ?_, fun k h1 h2 => ⟨fun a ha w => (a8.2 k h1 h2).1 a ha ?_, fun w hw => (a8.2 k h1 h2).2 w (by rw [hq 38 (by decide)] at hw; exact hw)⟩⟩⟩, rfl⟩
  · show Zq (Uq S2 49 (va_up (Zq S2 49) Γ2.length (some y))) 49 k = some v
    rw [Zq_us]
    by_cases e : k < Γ2.length
    · rw [va_up_ne _ _ (by omega)]
      rw [List.getElem?_append_left e] at hk
      exact a1.2.2.2.1.2 k v hk
    · rw [List.getElem?_append_right (by omega)] at hk
      by_cases e2 : k = Γ2.length
      · subst e2
        rw [Nat.sub_self] at hk; cases hk
        exact va_up_self _ _ _
      · obtain ⟨d, hd⟩ : ∃ d : Nat, k - Γ2.length = d + 1 := ⟨k - Γ2.length - 1, by omega⟩
        rw [hd] at hk; cases hk
  · unfold Us at w ⊢; rw [hq 51 (by decide)] at w; exact w
  · unfold Up at w ⊢; rw [hq 36 (by decide), hq 37 (by decide), hq 42 (by decide), hq 38 (by decide)] at w; exact w
theorem GJ.add {i y : Nat} (h : GJ Λ Γ js) (hi : Λ[i]? = some y) (hj : ∀ j ∈ js, j < i) : GJ Λ (Γ ++ [y]) (i :: js) := ⟨Γ, y, rfl, hi, hj, h⟩
theorem GJ.l40 {v : Nat} : ∀ {js Γ : List Nat} {v : Nat}, GJ Λ Γ js → (∀ i ∈ js, i < v) → js.length ≤ v
  | [], _, _, _, _ => Nat.zero_le _
  | i :: js, Γ, v, h, hv => by
    obtain ⟨Γ0, y, _, _, h3, h4⟩ := h
    have := GJ.l40 (v := v) h4 h3
    have := hv i List.mem_cons_self
    show js.length + 1 ≤ v
    omega
end LY28
end
-- m1.d.lean.txt
section
/-- what a statement's laying begins with -/
def LyH (R : yR) (S0 S : Sg) (E : eV) (P : Nat) (Γ : List Nat) (L : Nat) (js Λ : List Nat) (gv : Nat) (bw : Nat → Nat) (p q b c v w : Nat) : Prop := FEn R S0 E Λ gv ∧ BWt R bw ∧ LC R S0 S P 0 Γ L ∧ K0 S P ∧ GJ Λ Γ js ∧ (∀ i ∈ js, i < v) ∧ (v ≤ w ∧ w ≤ 40) ∧ (p < q ∧ q ≤ R.T) ∧ P + 8 * (bw q - bw p) ≤ 24000 ∧ (b ≤ c ∧ L + c + w ≤ 160 + b + v) ∧ RMl R S (20 * (bw q - bw p)) (60 * (bw q - bw p))
section LY29
variable {R : yR} {S0 Sb S S1 S2 : Sg} {P P1 P2 h h0 h1 hc L L2 Lb z n : Nat} {Γ Γ0 Γ1 Γ2 Λ : List Nat} {E : eV} {s s2 : List tE} {gv : Nat} {js js1 ks : List Nat} {x : pRc} {bw : Nat → Nat} {cl : Prop} {p q b c v w : Nat}
/-- one point was laid -/
theorem gv1 {i : iR} (p : LPt R S0 Sb S P h Γ L Lb x z n) (hz : rz R S0 S P i) (hsc : i.sc = [P + 1]) (hln : ∀ l : Nat, i.ln = some l → l < L) (hw : wl s ≤ 177) (ht : tPt E P True i s (fun j t => j = P + 1 ∧ wkS t s2)) : GV R S0 Sb S E P (P + 1) h0 h Γ0 Γ Lb L s s2 False z n :=
  ⟨p.1, p.2.1, tsg.one hz hln (fun j hj => by rw [hsc] at hj; exact List.mem_singleton.mp hj) hw ht (fun w => w.elim), p.2.2.2.1, p.2.2.2.2.1, Nat.le_succ _, p.2.2.2.2.2.1, p.2.2.2.2.2.2⟩
theorem GV.mo {P2 L2 z2 n2 : Nat} {cl2 : Prop} (g : GV R S0 S S2 E P P2 h h1 Γ Γ2 L L2 s s2 cl z n) (hc : cl2 → cl) (hz : z ≤ z2) (hn : n ≤ n2) : GV R S0 S S2 E P P2 h h1 Γ Γ2 L L2 s s2 cl2 z2 n2 := ⟨g.1, g.2.1, g.2.2.1.fl hc, Nat.le_trans g.2.2.2.1 (by omega), Nat.le_trans g.2.2.2.2.1 (by omega), g.2.2.2.2.2⟩
/-- an exp of a statement -/
theorem sgv {xe p' q' t : Nat} (H : LyH R S0 S E P Γ L js Λ gv bw p q b c v w) (hx : xE R S0 Γ 408 16 xe p' q' b c t) (h1 : p ≤ p') (h2 : q' < q) : Rt (f_give R.K 410 S (some xe)) (fun S2 _ => ∃ P1 L1 : Nat, GV R S0 S S2 E P P1 0 (wl (resE S0 t ++ mkV js)) Γ Γ L L1 (mkV js) (resE S0 t ++ mkV js) False (5 * (q' - p')) (40 * (q' - p')) ∧ P < P1 ∧ P1 ≤ P + (q' - p') ∧ L1 + b ≤ L + c ∧ p' < q' ∧ (q' - p') + 1 + (p' - p) ≤ bw q - bw p ∧ K0 S2 P1) := by
  obtain ⟨hF, hB, cc, k0, hG, hv, hw, hpq, hP, hl, hr⟩ := H
  have hlt := xE_lt hx
  have hm := hB.mo (p := p) (q := q) (by omega) hpq.2
  refine (give_ hF.1 408 410 (by decide) (by decide) 16 xe p' q' b c t hx S P 0 Γ L (mkV js) cc k0 (hG.al hF (fun i hi => List.mem_map.mpr ⟨i, hi, rfl⟩) nT_mk) wl_mk (by decide) (by omega) (by omega) (by omega) (hr.le (by omega) (by omega))).mo (fun S2 _ g => ?_)
  obtain ⟨P1, L1, g, g1, g2, g3⟩ := g
  exact ⟨P1, L1, g, g1, g2, g3, hlt, by omega, k0.st g.2.1 (by omega)⟩
theorem not8 {v : Nat} (hv : ∀ i ∈ js, i < v) : (8, v, 0) ∉ mkV js := fun w => by have := hv v (mkV_m w); omega
/-- let -/
theorem llt_ {a nm y : Nat} {mu : Int32} {wr ex : Value} (H : LyH R S0 S E P Γ L js Λ gv bw p q b c v w) (ha : a ∈ ZL R.S) (k1 : ZF S0 a = stC 0 p (nI nm) mu 0 wr ex .null (.ref y) .null .null .null .null 0) (k2 : Λ[v]? = some y) (k3 : w = v + 1) (k4 : Γ2 = Γ ++ [y] ∧ p < nm ∧ nm < q) (k5 : (ex = .null ∧ b = c) ∨ ∃ (x p' q' t : Nat) (m9 : Int32), ex = .ref x ∧ p < p' ∧ q' < q ∧ xE R S0 Γ 408 16 x p' q' b c t ∧ rTy S0 t ∧ isV S0 y v (nI nm) (some t) m9) : Rt (f_layLet R.K S (some a)) (fun S2 _ => LyQ R S0 S E P Γ Γ2 L js Λ bw p q b c v w False 1 S2) := by
  have H2 := H
  obtain ⟨hF, hB, cc, k0, hG, hv, hw, hpq, hP, hl, hr⟩ := H
  have hL := hF.1.1
  have hY := hF.1.2.1
  have hm := hB.mo (p := p) (q := q) (by omega) hpq.2
  obtain ⟨⟨v40, _⟩, nm2, mu2, ty, hV, hvt, hty⟩ := hF.2.1 v y k2
  obtain ⟨rfl, k41, k42⟩ := k4
  subst k3
  have hGl := hG.len
  have hjl := GJ.l40 (v := v) hG hv
  have rv : ∀ {S' : Sg} {P' h' L' : Nat} {Γ' : List Nat}, LC R S0 S' P' h' Γ' L' → okO S' 21 (some y) = true ∧ oI S' 21 (some y) 0 = some (nI v) ∧ isU S' y v ty mu2 := fun c' => by
    obtain ⟨wh, w1, w2, _⟩ := c'.2.2.2.2.2.2.1 y v nm2 ty mu2 hV
    exact ⟨okO_mk w1 w2, oI_mk w1 w2 rfl, w1, nm2, wh, w2⟩
  have r8 : ∀ {S' : Sg}, LX S0 S' → oR S' 19 (some a) 8 = some (some y) := fun hx => hx.vr (by decide) (by decide) (oR_mk (hL a ha) k1 (v := some y) rfl)
  have r2 : ∀ {S' : Sg}, LX S0 S' → oI S' 19 (some a) 2 = some (nI nm) := fun hx => hx.vi (by decide) (by decide) (oI_mk (hL a ha) k1 rfl)
  have r6 : ∀ {S' : Sg} {o : Option Nat}, LX S0 S' → ex = va_rf o → oR S' 19 (some a) 6 = some o := fun hx e => hx.vr (by decide) (by decide) (oR_mk (hL a ha) k1 (by rw [← e]; rfl))
  have hG2 : GJ Λ (Γ ++ [y]) (v :: js) := hG.add k2 hv
  have hv2 : ∀ i ∈ v :: js, i < v + 1 := fun i hi => by
    rcases List.mem_cons.mp hi with e | e
    · omega
    · have := hv i e; omega
  -- it comes alive
  have h80 : ∀ (S3 : Sg) (P3 L3 z n : Nat), GV R S0 S S3 E P P3 0 0 Γ Γ L L3 (mkV js) (mkV (v :: js)) False z n → P3 + 2 ≤ P + 8 * (bw q - bw p) → z + 3 ≤ 20 * (bw q - bw p) → n + 5 ≤ 60 * (bw q - bw p) → L3 + b ≤ L + c → K0 S3 P3 → Rt (f_layLet_80 R.K S3 (some a)) (fun S2 _ => LyQ R S0 S E P Γ (Γ ++ [y]) L js Λ bw p q b c v (v + 1) False 1 S2) := fun S3 P3 L3 z n g a1 a2 a3 a4 k3 => by
    unfold f_layLet_80
    refine Rt.bd (r8 g.1.1) (cma_ g (rv g.1).1 (by omega) (fun S4 g4 e4 => Rt.rt ?_))
    refine ⟨P3, L3, z, n, v :: js, g4, hG2, hv2, Or.inr ⟨v, rfl⟩, ?_, ?_, ?_, by omega, ?_⟩
    · show P3 + 1 + (js.length + 1) ≤ _; omega
    · show z + 3 * (js.length + 1) ≤ _; omega
    · show n + 5 * (js.length + 1) ≤ _; omega
    · unfold K0; rw [e4]; exact k3
  unfold f_layLet
  rcases k5 with ⟨rfl, rfl⟩ | ⟨xe, p', q', t, m9, rfl, e2, e3, e4, e5, e6⟩
  · refine Rt.bd (r6 cc.1 (o := none) rfl) (Rt.ip rfl ?_)
    unfold f_layLet_15
    refine Rt.bd (r6 cc.1 (o := none) rfl) (Rt.ip rfl ?_)
    unfold f_layLet_30
    refine Rt.bd (r2 cc.1) ?_
    refine pnt_ (Lb := L) (Sb := S) (z := 0) (n := 0) (by omega) cc LZ.rf (Nat.le_refl _) (by omega) (by omega) UsK.rf (fun S1 p1 _ => ?_)
    refine Rt.bd (r8 p1.1.1) (p1.wO (by omega) (by decide) (rv p1.1).1 (Or.inl (by decide)) (fun S2 p2 _ => ?_))
    refine Rt.bd (r8 p2.1.1) (Rt.bd (rv p2.1).2.1 (p2.wI (by omega) (by decide) (fun S3 p3 _ => ?_)))
    refine Rt.bd (r6 p3.1.1 (o := none) rfl) (Rt.ip rfl ?_)
    refine h80 S3 (P + 1) L 0 0 (gv1 p3 (i := (13, 0, none, (some v, none), ([], []), [P + 1], (E.vt v, 0, 0), [v])) (rz_g (K := 13) rfl p3.2.2.1 (by decide) (by decide) rfl rfl (by show (0 : Nat) < 8; decide) rfl rfl (Or.inl ⟨rfl, rfl⟩) (Or.inl ⟨rfl, rfl⟩) ⟨nm, rfl, by omega⟩ (Or.inl ⟨rfl, rfl⟩) (fun l e => by cases e) rfl rfl (fun w => absurd w (by decide)) (fun w => absurd w (by decide)) (fun w => absurd w (by decide)) (fun _ => ⟨y, v, ty, mu2, rfl, rfl, (rv p3.1).2.2, hvt.symm, hty⟩) (fun w => absurd w (by decide)) (fun w => absurd w (by decide))) rfl (fun l e => by cases e) (by rw [wl_mk]; omega) (tP_13 rfl ⟨rfl, rfl, ⟨rfl, nT_mk⟩, rfl, rfl, v, rfl, v40, rfl, not8 hv, wl_mk, rfl, rfl, wkS.rf⟩)) (by omega) (by omega) (by omega) (Nat.le_refl _) (k0.st p3.2.1 (Nat.le_succ _))
  · have hxt : E.vt v = abT S0 t := by
      obtain ⟨_, _, e9, _⟩ := isV_u e6 hV (by omega) (by omega)
      rw [hvt, ← e9]; rfl
    have e9 : ty = some t := by obtain ⟨_, _, e9, _⟩ := isV_u e6 hV (by omega) (by omega); exact e9.symm
    obtain ⟨gs, y1, y2, y3⟩ := xE_t12 e4
    refine Rt.bd (r6 cc.1 (o := some xe) rfl) (Rt.iq (by simp) (Rt.bd (r6 cc.1 (o := some xe) rfl) (Rt.bn (sgv H2 e4 (by omega) e3) (fun S1 _ t1 => ?_))))
    obtain ⟨P1, L1, g1, b1, b2, b3, b4, b5, k1'⟩ := t1
    rw [resE_r hY e5] at g1
    have hw1 : wl ([eT (abT S0 t)] ++ mkV js) = 0 + 1 := by show wl (eT (abT S0 t) :: mkV js) = _; rw [wl_eT, wl_mk]
    rw [hw1] at g1
    have hr1 := g1.rm hr (z2 := 2) (n2 := 2) (by omega) (by omega)
    unfold f_layLet_15
    refine Rt.bd (r6 g1.1.1 (o := some xe) rfl) (Rt.iq (by simp) ?_)
    unfold f_layLet_30
    refine Rt.bd (r2 g1.1.1) ?_
    refine pnt_ (Lb := L1) (Sb := S1) (z := 0) (n := 0) (by omega) g1.1 LZ.rf (Nat.le_refl _) (by omega) (by omega) UsK.rf (fun S2 p2 _ => ?_)
    refine Rt.bd (r8 p2.1.1) (p2.wO (by omega) (by decide) (rv p2.1).1 (Or.inl (by decide)) (fun S3 p3 _ => ?_))
    refine Rt.bd (r8 p3.1.1) (Rt.bd (rv p3.1).2.1 (p3.wI (by omega) (by decide) (fun S4 p4 _ => ?_)))
    refine Rt.bd (r6 p4.1.1 (o := some xe) rfl) (Rt.iq (by simp) (Rt.bd (r6 p4.1.1 (o := some xe) rfl) (Rt.bd (p4.1.1.vr (by decide) (by decide) (oR_mk (hL xe y1) y2 (v := some t) y3)) ?_)))
    refine Rt.bn (use_ (xt := t) (by omega) hY p4 (by decide) e5 (by have := hr1.1; omega) (by have := hr1.2; omega)) (fun S5 _ t5 => ?_)
    obtain ⟨x5, p5, l5, u1, u2, u3, u4, u5⟩ := t5
    have hus : ∀ r : Nat, (r = 36 ∨ r = 37) → rAr R S5 (x5.2.2 r) (ifR (E.vt v) [40] []) := fun r hr => by
      by_cases q : isRf (E.vt v)
      · rw [ifR_p q]
        rw [hxt] at q
        rcases hr with e | e <;> subst e
        · exact (u4 q).2
        · exact (u4 q).1
      · rw [ifR_n q]
        rw [hxt] at q
        rcases hr with e | e <;> subst e
        · exact Or.inl ⟨(u5 q).2, rfl⟩
        · exact Or.inl ⟨(u5 q).1, rfl⟩
    have g5 : GV R S0 S1 S5 E P1 (P1 + 1) 0 0 Γ Γ L1 L1 ([eT (abT S0 t)] ++ mkV js) (mkV (v :: js)) False (0 + 2) (0 + 2) := by
      refine gv1 p5 (i := (12, 0, none, (some v, none), (ifR (E.vt v) [40] [], ifR (E.vt v) [40] []), [P1 + 1], (E.vt v, 0, 0), [v])) (rz_g (K := 12) rfl p5.2.2.1 (by decide) (by decide) ?_ ?_ (by show (0 : Nat) < 8; decide) ?_ ?_ (hus 37 (Or.inr rfl)) (hus 36 (Or.inl rfl)) ⟨nm, ?_, by omega⟩ (Or.inl ⟨?_, rfl⟩) (fun l e => by cases e) ?_ rfl (fun w => absurd w (by decide)) (fun w => absurd w (by decide)) (fun w => absurd w (by decide)) (fun _ => ⟨y, v, ty, mu2, ?_, rfl, (rv p5.1).2.2, hvt.symm, hty⟩) (fun w => absurd w (by decide)) (fun w => absurd w (by decide))) rfl (fun l e => by cases e) (by rw [hw1]; omega) (tP_12 rfl ⟨rfl, rfl, rfl, v, mkV js, rfl, v40, rfl, ?_, ?_, not8 hv, wl_mk, fun q => ⟨ifR_p q, ifR_p q⟩, fun q => ⟨ifR_n q, ifR_n q⟩, rfl, rfl, wkS.rf⟩)
      · rw [u1]; rfl
      · rw [u1]; rfl
      · rw [u1]; rfl
      · rw [u1]; rfl
      · rw [u1]; rfl
      · rw [u3 38 (by decide) (by decide)]; rfl
      · rw [u1]; rfl
      · rw [u3 40 (by decide) (by decide)]; rfl
      · rw [hxt]; exact e5.n0 hY
      · rw [hxt]; rfl
    exact h80 S5 (P1 + 1) L1 (5 * (q' - p') + 2) (40 * (q' - p') + 2) (g1.tr g5 (fun w => w.elim) (Nat.le_refl _) (Nat.le_refl _)) (by omega) (by omega) (by omega) b3 (k1'.st g5.2.1 (Nat.le_succ _))
end LY29
end
-- m1.e.lean.txt
section
section LY30
variable {R : yR} {S0 Sb S S1 S2 : Sg} {P P1 P2 h h0 h1 hc L L2 Lb z n : Nat} {Γ Γ0 Γ1 Γ2 Λ : List Nat} {E : eV} {s s2 : List tE} {gv : Nat} {js js1 ks : List Nat} {x : pRc} {bw : Nat → Nat} {cl : Prop} {p q b c v w : Nat} {V : Sg → Option Nat → Option (Sg × Unit)}
theorem xPl_t1 {nn e p q v x mu mv : Nat} {π : List (Nat × Nat)} (h : xPl R S Γ nn e p q v π x mu mv) : ∃ gs : List Value, ZF S e = .inr (15, gs) ∧ gs[1]? = some (.int (nI p)) := by
  cases nn with
  | zero => exact h.elim
  | succ nn =>
    obtain ⟨⟨h1, _, _⟩, _, ⟨ix, nm, k1, _⟩ | ⟨o, p', q', k1, _⟩ | ⟨o, p', q', y, m2, w2, kd, π2, k1, _⟩ | ⟨o, nm, q', y, i, k, w2, π2, k1, _⟩⟩ := h
    · exact ⟨_, k1, rfl⟩
    · exact ⟨_, k1, rfl⟩
    · exact ⟨_, k1, rfl⟩
    · exact ⟨_, k1, rfl⟩
theorem xE_tk {nn kk e p q b c x : Nat} {gs : List Value} (h : xE R S Γ nn kk e p q b c x) (hg : ZF S e = .inr (15, gs)) (hq : q ≤ R.T) : ∃ pt : Nat, gs[1]? = some (.int (nI pt)) ∧ pt < R.T := by
  have hlt := xE_lt h
  refine ⟨p, ?_, by omega⟩
  have : ∃ gs : List Value, ZF S e = .inr (15, gs) ∧ gs[1]? = some (.int (nI p)) := by
    cases nn with
    | zero => exact h.elim
    | succ nn =>
      obtain ⟨⟨h1, _, _⟩, _, ⟨v, π, mu, mv, kd, ix, o, k1, _⟩ | h5⟩ := h
      · exact xPl_t1 k1
      · have h5 : xNp R S Γ nn kk e p q b c x := h5
        rcases h5 with ⟨kd, num, k1, k2, _⟩ | ⟨kd, o, p', q', y, k1, _⟩ | ⟨mu, o, p', v, y, m2, w2, π, k1, _⟩ | ⟨o, q1, b1, mn, li, si, f, g, tx, tt, k1, _⟩ | ⟨i, mn, p', z, li, si, f, g, tx, k1, _⟩ | ⟨i, mn, p', li, si, f, g, tx, fo, k1, _⟩ | ⟨i, v, mn, p', z, li, si, f, g, tx, k1, _⟩
        · exact ⟨_, k2, rfl⟩
        · exact ⟨_, k1, rfl⟩
        · exact ⟨_, k1, rfl⟩
        · exact ⟨_, k1, rfl⟩
        · exact ⟨_, k1, rfl⟩
        · exact ⟨_, k1, rfl⟩
        · exact ⟨_, k1, rfl⟩
  obtain ⟨gs2, a1, a2⟩ := this
  rw [hg] at a1; cases a1
  exact a2
/-- the height is set -/
theorem GV.hs {h3 : Nat} {α : Type} {g : Sg → Option (Sg × α)} {Q : Sg → α → Prop} {y : Int32} (gg : GV R S0 S S2 E P P2 h h1 Γ Γ2 L L2 s s2 cl z n) (hy : y = nI h3) (k : ∀ S3 : Sg, GV R S0 S S3 E P P2 h h3 Γ Γ2 L L2 s s2 cl z n → Zr S3 = Zr S2 → Rt (g S3) Q) : Rt ((pM S2 48 y).bind g) Q := by
  subst hy
  refine Rt.bd (v := Ui S2 48 (nI h3)) rfl (k _ ⟨gg.1.hh, gg.2.1.tr (LZ.ui (Or.inr (Or.inr (Or.inl rfl)))) (Nat.le_refl _) (Nat.le_refl _), gg.2.2.1.st (LZ.ui (Or.inr (Or.inr (Or.inl rfl)))), gg.2.2.2.1, gg.2.2.2.2.1, gg.2.2.2.2.2.1, gg.2.2.2.2.2.2.1, gg.2.2.2.2.2.2.2⟩ rfl)
/-- .. of the end of a statement that leaves the variables as they were -/
theorem LyQ.of {d : Nat} (hG : GJ Λ Γ js) (hv : ∀ i ∈ js, i < w) (g : GV R S0 S S2 E P P2 0 0 Γ Γ L L2 (mkV js) (mkV js) cl z n) (h1 : P2 + d ≤ P + 8 * (bw q - bw p)) (h2 : z ≤ 20 * (bw q - bw p)) (h3 : n ≤ 60 * (bw q - bw p)) (h4 : L2 + b + v ≤ L + c + w) (k : K0 S2 P2) : LyQ R S0 S E P Γ Γ L js Λ bw p q b c v w cl d S2 := ⟨P2, L2, z, n, js, g, hG, hv, Or.inl rfl, by omega, by omega, by omega, h4, k⟩
/-- an exp as a statement -/
theorem lex_ {a xe p' q' t : Nat} (H : LyH R S0 S E P Γ L js Λ gv bw p q b c v v) (ha : a ∈ ZL R.S) (k1 : ZF S0 a = stC 1 p 0 0 0 .null (.ref xe) .null .null .null .null .null .null 0) (h1 : p ≤ p') (h2 : q' < q) (hx : xE R S0 Γ 408 16 xe p' q' b c t) : Rt ((oR S 19 (some a) 6).bind fun v7 =>
  bnd (f_give R.K 410 S v7) fun S8 _ =>
  if (Zi S8 48) ≤ (Zi S 48) then (f_lay_111 R.K V S8 (Zi S 48)) else ((oI S8 19 (some a) 1).bind fun v10 =>
  bnd (f_point R.K S8 11 v10) fun S11 v12 =>
  (oR S11 19 (some a) 6).bind fun v13 =>
  (oR S11 15 v13 12).bind fun v14 =>
  (wQ S11 20 39 v12 v14).bind fun S15 =>
  f_lay_111 R.K V S15 (Zi S 48))) (fun S2 _ => LyQ R S0 S E P Γ Γ L js Λ bw p q b c v v False 1 S2) := by
  have H2 := H
  obtain ⟨hF, hB, cc, k0, hG, hv, hw, hpq, hP, hl, hr⟩ := H
  have hL := hF.1.1
  have hY := hF.1.2.1
  have r6 : ∀ {S' : Sg}, LX S0 S' → oR S' 19 (some a) 6 = some (some xe) := fun hx => hx.vr (by decide) (by decide) (oR_mk (hL a ha) k1 (v := some xe) rfl)
  refine Rt.bd (r6 cc.1) (Rt.bn (sgv H2 hx h1 h2) (fun S1 _ t1 => ?_))
  obtain ⟨P1, L1, g1, b1, b2, b3, b4, b5, k1'⟩ := t1
  rw [cc.2.2.1, g1.1.2.2.1]
  rcases xE_ty hx with ht | ht
  · have hre := resE_r hY ht
    rw [hre] at g1
    have hw1 : wl ([eT (abT S0 t)] ++ mkV js) = 1 := by show wl (eT (abT S0 t) :: mkV js) = _; rw [wl_eT, wl_mk]
    rw [hre, hw1]
    rw [hw1] at g1
    refine Rt.iq (by decide) ?_
    obtain ⟨gs, y1, y2, y3⟩ := xE_t12 hx
    refine Rt.bd (g1.1.1.vi (by decide) (by decide) (oI_mk (hL a ha) k1 (v := nI p) rfl)) ?_
    refine pnt_ (Lb := L1) (Sb := S1) (z := 0) (n := 0) (by omega) g1.1 LZ.rf (Nat.le_refl _) (by omega) (by omega) UsK.rf (fun S2 p2 _ => ?_)
    obtain ⟨kd, ix, o, yt, _⟩ := ht.ty
    refine Rt.bd (r6 p2.1.1) (Rt.bd (p2.1.1.vr (by decide) (by decide) (oR_mk (hL xe y1) y2 (v := some t) y3)) (p2.wO (by omega) (by decide) (p2.1.1.okT ⟨_, _, _, yt⟩) (Or.inl (by decide)) (fun S3 p3 _ => ?_)))
    have fin : ∀ T : Nat, T ≠ 0 → T < 10000 → (T = abT S0 t ∨ (isRf (abT S0 t) ∧ T = 1)) → wkS ([eT (abT S0 t)] ++ mkV js) ((0, T, 0) :: mkV js) → Rt (f_lay_111 R.K V S3 (nI 0)) (fun S2 _ => LyQ R S0 S E P Γ Γ L js Λ bw p q b c v v False 1 S2) := fun T t1 t2 t3 t4 => by
      have g1' := g1.wk wkS.rf t4 (fun w => w) b1
      have g3 : GV R S0 S1 S3 E P1 (P1 + 1) 1 1 Γ Γ L1 L1 ((0, T, 0) :: mkV js) (mkV js) False 0 0 := gv0 (K := 11) (pp := p) (n1 := abT S0 t) (n2 := 0) (n3 := 0) (vs := []) (by decide) (by decide) p3 ⟨rfl, rfl, rfl, rfl, rfl, rfl, rfl, rfl, rfl⟩ (by omega) (fun _ => ⟨t, rfl, ht, rfl⟩) (fun w => absurd w (by decide)) (fun w => absurd w (by decide)) (fun w => absurd w (by decide)) (fun w => absurd w (by decide)) (fun w => absurd w (by decide)) (by rw [wl_0t, wl_mk]; omega) (tP_11 rfl ⟨iD0_0, T, mkV js, rfl, t1, t2, t3, rfl, wkS.rf⟩)
      unfold f_lay_111 f_lay_210
      refine (g1'.tr g3 (cl3 := False) (fun w => w.elim) (Nat.le_refl _) (Nat.le_refl _)).hs rfl (fun S4 g4 e4 => Rt.rt ?_)
      exact LyQ.of hG hv g4 (by omega) (by omega) (by omega) (by omega) (by unfold K0; rw [e4]; exact k1'.st p3.2.1 (Nat.le_succ _))
    rcases ht.nm hY with ⟨a1, a2, a3, a4⟩ | ⟨kd2, u, a1, a2, a3, a4⟩
    · have hn := a1.nm hY
      refine fin (abT S0 t) (ht.n0 hY) (by rw [hn.2.2]; exact hn.2.1) (Or.inl rfl) ?_
      rw [a4, hn.2.2]; exact wkS.rf
    · refine fin 1 (by decide) (by decide) (Or.inr ⟨a3, rfl⟩) ⟨Or.inr ⟨1, Or.inl rfl, rfl, Or.inr ⟨abV S0 u, ?_⟩⟩, wkS.rf⟩
      rcases a4 with ⟨_, _, e⟩ | ⟨_, _, e⟩
      · rw [e]; exact Or.inl rfl
      · rw [e]; exact Or.inr rfl
  · have hre := resE_8 hY ht
    rw [hre] at g1
    have hw1 : wl ([] ++ mkV js) = 0 := wl_mk
    rw [hre, hw1]
    rw [hw1] at g1
    refine Rt.ip (by decide) ?_
    unfold f_lay_111 f_lay_210
    have g1 : GV R S0 S S1 E P P1 0 0 Γ Γ L L1 (mkV js) (mkV js) False (5 * (q' - p')) (40 * (q' - p')) := g1
    refine g1.hs rfl (fun S4 g4 e4 => Rt.rt ?_)
    exact LyQ.of hG hv g4 (by omega) (by omega) (by omega) (by omega) (by unfold K0; rw [e4]; exact k1')
/-- print -/
theorem lpr_ {a xe p' q' t : Nat} (H : LyH R S0 S E P Γ L js Λ gv bw p q b c v v) (ha : a ∈ ZL R.S) (k1 : ZF S0 a = stC 7 p 0 0 0 .null (.ref xe) .null .null .null .null .null .null 0) (ht : isTy S0 t 0 0 none ∨ isTy S0 t 1 0 none) (h1 : p ≤ p') (h2 : q' < q) (hx : xE R S0 Γ 408 16 xe p' q' b c t) : Rt ((oR S 19 (some a) 6).bind fun v26 =>
  bnd (f_give R.K 410 S v26) fun S27 _ =>
  (pM S27 48 ((Zi S27 48) - 1)).bind fun S29 =>
  (oI S29 19 (some a) 1).bind fun v30 =>
  bnd (f_point R.K S29 15 v30) fun S31 v32 =>
  (oR S31 19 (some a) 6).bind fun v33 =>
  (oR S31 15 v33 12).bind fun v34 =>
  (wQ S31 20 39 v32 v34).bind fun S35 =>
  f_lay_210 R.K V S35) (fun S2 _ => LyQ R S0 S E P Γ Γ L js Λ bw p q b c v v False 1 S2) := by
  have H2 := H
  obtain ⟨hF, hB, cc, k0, hG, hv, hw, hpq, hP, hl, hr⟩ := H
  have hL := hF.1.1
  have hY := hF.1.2.1
  have r6 : ∀ {S' : Sg}, LX S0 S' → oR S' 19 (some a) 6 = some (some xe) := fun hx => hx.vr (by decide) (by decide) (oR_mk (hL a ha) k1 (v := some xe) rfl)
  refine Rt.bd (r6 cc.1) (Rt.bn (sgv H2 hx h1 h2) (fun S1 _ t1 => ?_))
  obtain ⟨P1, L1, g1, b1, b2, b3, b4, b5, k1'⟩ := t1
  obtain ⟨u, hu, hre⟩ := resE_ib hY ht
  have hrt : rTy S0 t := by
    rcases ht with w | w
    · exact Or.inl (vTy.pl w (by decide))
    · exact Or.inl (vTy.pl w (by decide))
  rw [hre] at g1
  have hw1 : wl ([(0, u, 0)] ++ mkV js) = 0 + 1 := by show wl ((0, u, 0) :: mkV js) = _; rw [wl_0t, wl_mk]
  rw [hw1] at g1
  have e48 : Zi S1 48 - 1 = nI 0 := by rw [g1.1.2.2.1]; exact nI_pred 0
  refine g1.hs e48 (fun S2 g2 e2 => ?_)
  obtain ⟨gs, y1, y2, y3⟩ := xE_t12 hx
  obtain ⟨kd, ix, o, yt, _⟩ := hrt.ty
  refine Rt.bd (g2.1.1.vi (by decide) (by decide) (oI_mk (hL a ha) k1 (v := nI p) rfl)) ?_
  refine pnt_ (Lb := L1) (Sb := S2) (z := 0) (n := 0) (by omega) g2.1 LZ.rf (Nat.le_refl _) (by omega) (by omega) UsK.rf (fun S3 p3 _ => ?_)
  refine Rt.bd (r6 p3.1.1) (Rt.bd (p3.1.1.vr (by decide) (by decide) (oR_mk (hL xe y1) y2 (v := some t) y3)) (p3.wO (by omega) (by decide) (p3.1.1.okT ⟨_, _, _, yt⟩) (Or.inl (by decide)) (fun S4 p4 _ => ?_)))
  have g4 : GV R S0 S2 S4 E P1 (P1 + 1) 0 0 Γ Γ L1 L1 ([(0, u, 0)] ++ mkV js) (mkV js) False 0 0 := gv0 (K := 15) (pp := p) (n1 := abT S0 t) (n2 := 0) (n3 := 0) (vs := []) (by decide) (by decide) p4 ⟨rfl, rfl, rfl, rfl, rfl, rfl, rfl, rfl, rfl⟩ (by omega) (fun _ => ⟨t, rfl, hrt, rfl⟩) (fun w => absurd w (by decide)) (fun w => absurd w (by decide)) (fun w => absurd w (by decide)) (fun w => absurd w (by decide)) (fun w => absurd w (by decide)) (by rw [hw1]; omega) (tP_15 rfl ⟨iD0_0, u, mkV js, hu, rfl, rfl, wkS.rf⟩)
  unfold f_lay_210
  have k2' : K0 S2 P1 := by unfold K0; rw [e2]; exact k1'
  exact Rt.rt (LyQ.of hG hv (g2.tr g4 (cl3 := False) (fun w => w.elim) (Nat.le_refl _) (Nat.le_refl _)) (by omega) (by omega) (by omega) (by omega) (k2'.st p4.2.1 (Nat.le_succ _)))
theorem wl_eU {t : Nat} : wl (eU t :: s) = wl s + 1 := wl_n (by
  unfold eU
  by_cases h : 10000 ≤ t
  · rw [if_pos h]
    by_cases g : t % 2 = 0
    · rw [if_pos g]; exact (by decide : ¬ ((1 : Nat) = 8 ∨ (1 : Nat) = 4 ∨ (1 : Nat) = 5 ∨ (1 : Nat) = 6))
    · rw [if_neg g]; exact (by decide : ¬ ((2 : Nat) = 8 ∨ (2 : Nat) = 4 ∨ (2 : Nat) = 5 ∨ (2 : Nat) = 6))
  · rw [if_neg h]; exact (by decide : ¬ ((0 : Nat) = 8 ∨ (0 : Nat) = 4 ∨ (0 : Nat) = 5 ∨ (0 : Nat) = 6)))
/-- return's point -/
theorem ret1 {pp : Nat} (p : LPt R S0 Sb S P h Γ L L (ptRc (nI 26) (nI pp)) z n) (hpp : pp < R.T) (hs : (s = [] ∧ E.gv = 0) ∨ (s = [eU E.gv] ∧ E.gv ≠ 0)) : GV R S0 Sb S E P (P + 1) h0 h Γ0 Γ L L s s2 True z n := by
  have hw : wl s ≤ 177 := by
    rcases hs with ⟨e, _⟩ | ⟨e, _⟩
    · rw [e]; exact Nat.zero_le _
    · rw [e, wl_eU]; show 0 + 1 ≤ 177; omega
  have q := p.2.2.1
  refine ⟨p.1, p.2.1, tsg.one (i := (26, 0, none, (none, none), ([], []), [], (0, 0, 0), [])) ⟨q.1 27 (by decide) (by decide) (by decide), by show (26 : Nat) < 28; decide, q.1 33 (by decide) (by decide) (by decide), by show (0 : Nat) < 8; decide, q.1 34 (by decide) (by decide) (by decide), q.1 35 (by decide) (by decide) (by decide), Or.inl ⟨q.2.2 37 (by decide) (by decide), rfl⟩, Or.inl ⟨q.2.2 36 (by decide) (by decide), rfl⟩, ⟨pp, q.1 32 (by decide) (by decide) (by decide), hpp⟩, Or.inl ⟨q.2.2 38 (by decide) (by decide), rfl⟩, (fun l e => by cases e), Or.inl ⟨rfl, rfl⟩, fun w => absurd w (by decide), fun w => absurd w (by decide), fun w => absurd w (by decide), fun w => absurd w (by decide), fun w => absurd w (by decide), fun w => absurd w (by decide), fun w => absurd w (by decide)⟩ (fun l e => by cases e) (fun j hj => by cases hj) hw (tP_26 rfl ⟨iD0_0, fun _ => hs⟩) (fun _ => rfl), p.2.2.2.1, p.2.2.2.2.1, Nat.le_succ _, Nat.le_refl _, p.2.2.2.2.2.2⟩
/-- return -/
theorem lrt_ {a : Nat} {ex : Value} (H : LyH R S0 S E P Γ L js Λ gv bw p q b c v v) (ha : a ∈ ZL R.S) (k1 : ZF S0 a = stC 6 p 0 0 0 .null ex .null .null .null .null .null .null 0) (k2 : (ex = .null ∧ b = c ∧ isTy S0 gv 8 0 none) ∨ ∃ x p' q' : Nat, ex = .ref x ∧ p < p' ∧ q' < q ∧ xE R S0 Γ 408 16 x p' q' b c gv ∧ rTy S0 gv) (h19 : Zr R.S 5 p = 19) : Rt (f_layReturn R.K S (some a)) (fun S2 _ => LyQ R S0 S E P Γ Γ L js Λ bw p q b c v v True 1 S2) := by
  have H2 := H
  obtain ⟨hF, hB, cc, k0, hG, hv, hw, hpq, hP, hl, hr⟩ := H
  have hL := hF.1.1
  have hY := hF.1.2.1
  have hGl := hG.len
  have hjl := GJ.l40 (v := v) hG hv
  have h6 := (hB p (by omega)).2 h19
  have hm := hB.mo (p := p + 1) (q := q) (by omega) hpq.2
  have r1 : ∀ {S' : Sg}, LX S0 S' → oI S' 19 (some a) 1 = some (nI p) := fun hx => hx.vi (by decide) (by decide) (oI_mk (hL a ha) k1 rfl)
  have r6 : ∀ {S' : Sg} {o : Option Nat}, LX S0 S' → ex = va_rf o → oR S' 19 (some a) 6 = some o := fun hx e => hx.vr (by decide) (by decide) (oR_mk (hL a ha) k1 (by rw [← e]; rfl))
  -- the end
  have h87 : ∀ (S3 : Sg) (P3 L3 h3 z n : Nat) (s3 : List tE), GV R S0 S S3 E P P3 0 h3 Γ Γ L L3 (mkV js) s3 False z n → ((s3 = [] ∧ E.gv = 0) ∨ (s3 = [eU E.gv] ∧ E.gv ≠ 0)) → P3 + 2 ≤ P + 8 * (bw q - bw p) → z ≤ 20 * (bw q - bw p) → n ≤ 60 * (bw q - bw p) → L3 + b ≤ L + c → K0 S3 P3 → Rt (f_layReturn_87 R.K S3 (some a) (nI 0)) (fun S2 _ => LyQ R S0 S E P Γ Γ L js Λ bw p q b c v v True 1 S2) := fun S3 P3 L3 h3 z n s3 g hs a1 a2 a3 a4 kk => by
    unfold f_layReturn_87
    refine Rt.bd (r1 g.1.1) ?_
    refine pnt_ (Lb := L3) (Sb := S3) (z := 0) (n := 0) (by omega) g.1 LZ.rf (Nat.le_refl _) (by omega) (by omega) UsK.rf (fun S4 p4 _ => ?_)
    have g4 : GV R S0 S3 S4 E P3 (P3 + 1) h3 h3 Γ Γ L3 L3 s3 (mkV js) True 0 0 := ret1 p4 (by omega) hs
    refine (g.tr g4 (cl3 := True) (fun _ => Or.inr trivial) (Nat.le_refl _) (Nat.le_refl _)).hs rfl (fun S5 g5 e5 => Rt.rt ?_)
    exact LyQ.of hG hv g5 (by omega) (by omega) (by omega) (by omega) (by unfold K0; rw [e5]; exact kk.st p4.2.1 (Nat.le_succ _))
  have hGn : GJ Λ Γ (js ++ []) := by rw [List.append_nil]; exact hG
  unfold f_layReturn
  rw [cc.2.2.1]
  rcases k2 with ⟨rfl, rfl, k2⟩ | ⟨xe, p', q', rfl, e2, e3, e4, e5⟩
  · have hg0 : E.gv = 0 := by
      rw [hF.2.2.1]
      obtain ⟨t, _, _, _, a, b⟩ := abV_is hY k2
      rw [b, if_neg (by decide), if_neg (by decide), a]; rfl
    refine Rt.bd (r6 cc.1 (o := none) rfl) (Rt.ip rfl ?_)
    unfold f_layReturn_20
    refine Rt.bd (r1 cc.1) (Rt.bn (gou_ (h0 := 0) (Γ0 := Γ) (e := []) (ks := js) (js1 := []) hF (Or.inl rfl) rfl rfl (by omega) cc hGn (by omega) (by omega) (hr.le (by omega) (by omega))) (fun S2 _ g2 => ?_))
    rw [List.append_nil] at g2
    refine Rt.bd (r6 g2.1.1 (o := none) rfl) (Rt.ip rfl ?_)
    exact h87 S2 (P + js.length) L 0 _ _ [] g2 (Or.inl ⟨rfl, hg0⟩) (by omega) (by omega) (by omega) (by omega) (k0.st g2.2.1 (by omega))
  · have hgv : E.gv = abT S0 gv := hF.2.2.1
    have hg0 : E.gv ≠ 0 := by rw [hgv]; exact e5.n0 hY
    have hlt := xE_lt e4
    have hm2 := hB.mo (p := p + 1) (q := q) (by omega) hpq.2
    refine Rt.bd (r6 cc.1 (o := some xe) rfl) (Rt.iq (by simp) (Rt.bd (r6 cc.1 (o := some xe) rfl) (Rt.bn (sgv H2 e4 (by omega) e3) (fun S1 _ t1 => ?_))))
    obtain ⟨P1, L1, g1, b1, b2, b3, b4, b5, k1'⟩ := t1
    rw [resE_r hY e5, ← hgv] at g1
    have hw1 : wl ([eT E.gv] ++ mkV js) = 1 := by show wl (eT E.gv :: mkV js) = _; rw [wl_eT, wl_mk]
    rw [hw1] at g1
    have hr1 := g1.rm hr (z2 := 3 * js.length + 1) (n2 := 5 * js.length + 1) (by omega) (by omega)
    unfold f_layReturn_20
    refine Rt.bd (r1 g1.1.1) (Rt.bn (gou_ (h0 := 1) (Γ0 := Γ) (e := [eT E.gv]) (ks := js) (js1 := []) hF (Or.inr ⟨rfl, hg0⟩) rfl rfl (by omega) g1.1 hGn (by omega) (by omega) (hr1.le (by omega) (by omega))) (fun S2 _ g2 => ?_))
    rw [List.append_nil] at g2
    have g12 := g1.tr g2 (cl3 := False) (fun w => w.elim) (Nat.le_refl _) (Nat.le_refl _)
    have k2' := k1'.st g2.2.1 (show P1 ≤ P1 + js.length by omega)
    obtain ⟨gs, y1, y2, y3⟩ := xE_t12 e4
    obtain ⟨kd, ix, o, yt, _⟩ := e5.ty
    have hrf := e5.rf hY yt
    refine Rt.bd (r6 g2.1.1 (o := some xe) rfl) (Rt.iq (by simp) (Rt.bd (r6 g2.1.1 (o := some xe) rfl) (Rt.bd (g2.1.1.vr (by decide) (by decide) (oR_mk (hL xe y1) y2 (v := some gv) y3)) (Rt.be (ref_ (g2.1.1.ty yt)) ?_))))
    by_cases hk : kd = 6 ∨ kd = 7
    · rw [if_pos hk]
      refine Rt.iq (by decide) (Rt.bd (r6 g2.1.1 (o := some xe) rfl) ?_)
      obtain ⟨pt, hpt, hpt2⟩ : ∃ pt : Nat, gs[1]? = some (.int (nI pt)) ∧ pt < R.T := xE_tk e4 y2 (by omega)
      refine Rt.bd (g2.1.1.vi (by decide) (by decide) (oI_mk (hL xe y1) y2 hpt)) ?_
      refine pnt_ (Lb := L1) (Sb := S2) (z := 0) (n := 0) (by omega) g2.1 LZ.rf (Nat.le_refl _) (by omega) (by omega) UsK.rf (fun S3 p3 _ => ?_)
      unfold f_temporary
      refine Rt.be rfl ?_
      have hr2 := g12.rm hr (z2 := 1) (n2 := 1) (by omega) (by omega)
      have z3 := p3.2.2.2.1
      have n3 := p3.2.2.2.2.1
      refine Rt.bn (jst_ (u := 40) p3.1 (by decide) (by have := hr2.1; omega) (by have := hr2.2; omega)) (fun S4 r t => ?_)
      obtain ⟨aa, f1, rfl, t2, t3, t4, t5, t6, t7, t8, t9, t10⟩ := t
      have p4 := p3.kx t2 t3 t10 (z2 := 1) (n2 := 1) (by omega) (by omega)
      refine p4.wA (by omega) (by decide) (okA_mk t4 t5) ⟨by decide, fun y e hy => by cases e; exact p4.2.2.2.2.2.2.1 aa hy (Or.inl ⟨40, by decide, t9⟩)⟩ (fun S5 p5 e5' => Rt.be rfl ?_)
      refine p5.wI (by omega) (by decide) (fun S6 p6 e6 => ?_)
      obtain ⟨v1, v2⟩ := (e5'.1.tr e6.1).ro t4 t5
      have g6 : GV R S0 S2 S6 E (P1 + js.length) (P1 + js.length + 1) 1 1 Γ Γ L1 L1 ([eT E.gv] ++ mkV []) [eU E.gv] False 1 1 := by
        refine gv1 p6 (i := (25, 0, none, (none, none), ([40], []), [P1 + js.length + 1], (40, 0, 0), [])) (rz_g (K := 25) rfl p6.2.2.1 (by decide) (by decide) rfl rfl (by show (0 : Nat) < 8; decide) rfl rfl (rAr_1 (by decide) v1 v2 t6) (Or.inl ⟨rfl, rfl⟩) ⟨pt, rfl, hpt2⟩ (Or.inl ⟨rfl, rfl⟩) (fun l e => by cases e) rfl rfl (fun w => absurd w (by decide)) (fun w => absurd w (by decide)) (fun w => absurd w (by decide)) (fun w => absurd w (by decide)) (fun w => absurd w (by decide)) (fun _ => rfl)) rfl (fun l e => by cases e) (by show wl (eT E.gv :: []) ≤ 177; rw [wl_eT]; show 0 + 1 ≤ 177; omega) (tP_25 rfl ⟨rfl, rfl, rfl, rfl, rfl, rfl, rfl, rfl, by rw [hgv]; exact hrf.mpr hk, rfl, wkS.rf⟩)
      exact h87 S6 (P1 + js.length + 1) L1 1 _ _ [eU E.gv] (g12.tr g6 (cl3 := False) (fun w => w.elim) (Nat.le_refl _) (Nat.le_refl _)) (Or.inr ⟨rfl, hg0⟩) (by omega) (by omega) (by omega) b3 (k2'.st g6.2.1 (Nat.le_succ _))
    · rw [if_neg hk]
      refine Rt.ip rfl ?_
      have he : eT E.gv = eU E.gv := by
        have h1 : E.gv < 10000 := by
          rcases e5.nm hY with ⟨w1, _⟩ | ⟨_, _, _, _, w3, _⟩
          · rw [hgv, (w1.nm hY).2.2]; exact (w1.nm hY).2.1
          · exact absurd (hrf.mp w3) hk
        unfold eT eU; rw [if_neg (by omega), if_neg (by omega)]
      rw [he] at g12
      exact h87 S2 (P1 + js.length) L1 1 _ _ [eU E.gv] g12 (Or.inr ⟨rfl, hg0⟩) (by omega) (by omega) (by omega) b3 k2'
end LY30
end
-- m1.f.lean.txt
section
section LY31
variable {R : yR} {S0 Sb S S1 S2 : Sg} {P P1 P2 h h0 h1 hc L L2 Lb z n : Nat} {Γ Γ0 Γ1 Γ2 Λ : List Nat} {E : eV} {s s2 : List tE} {gv : Nat} {js js1 ks : List Nat} {x : pRc} {bw : Nat → Nat} {cl : Prop} {p q b c v w : Nat} {V : Sg → Option Nat → Option (Sg × Unit)}
/-- a place's path is made -/
theorem pthS {e p q v xt mu mv : Nat} {π : List (Nat × Nat)} (hF : FEn R S0 E Λ gv) (hA : ALv S0 E Γ s) (c : LC R S0 S P h Γ2 L) (hx : xPl R S0 Γ 408 e p q v π xt mu mv) (hπ : π.length ≤ 4) (hr : RMl R S 3 13) : Rt (f_pathOf R.K S (some e)) (fun S1 r => ∃ (w ix tv : Nat), r = some w ∧ LC R S0 S1 P h Γ2 L ∧ KX S S1 ∧ isPw R S0 S1 w v ix tv π xt ∧ Zz S1 ≤ Zz S + 3 ∧ Zn S1 ≤ Zn S + 13 ∧ UsK S0 S S1 ∧ PN S0 S S1 w ∧ (ix < 40 ∧ E.ad ix = v) ∧ E.vt ix = abT S0 tv ∧ (8, ix, 0) ∈ s ∧ rTy S0 tv ∧ rTy S0 xt ∧ qMs π ∧ (π ≠ [] → vTy S0 xt) ∧ (π = [] → xt = tv) ∧ (isRf (abT S0 tv) → π ≠ [] → mu = 1 → abT S0 tv % 2 = 1)) := by
  obtain ⟨r1, r2⟩ := hr
  have hY := hF.1.2.1
  obtain ⟨tv, vi, nm, mt, i0, i2, i3, i4, i5, i6, i7, i8, i9, i10⟩ := xPl_in hY hx
  obtain ⟨ix2, i1, a1, a2, a3⟩ := hA.2 v i2 vi nm tv mt i0
  refine (pth_ c hF.1.1 hx (by decide) hπ (by omega) (by omega)).mo (fun S1 r t => ?_)
  obtain ⟨w, ix3, tv2, rfl, t2, t3, t4, t5, t6, t7, t8, t9⟩ := t
  have hsame : tv2 = tv ∧ isPw R S0 S1 w v ix2 tv2 π xt := by
    obtain ⟨sa, ta, f9, g9, j1, j2, j3, j4, j5, j6, nm2, mt2, u⟩ := t4
    have e2 := u.2.symm.trans i1.2
    obtain ⟨_, e4⟩ := Prod.mk.inj (Sum.inr.inj e2)
    injection e4 with b1 e4
    injection e4 with b2 e4
    injection e4 with b3 e4
    injection b1 with b1
    exact ⟨Option.some.inj (va_rf_inj b3), sa, ta, f9, g9, j1, j2, j3, j4, j5, j6, nm2, mt2, u.1, by rw [u.2]; unfold vrC; rw [b1]⟩
  obtain ⟨e1, t4⟩ := hsame
  subst e1
  exact ⟨w, ix2, tv2, rfl, t2, t3, t4, t6, t7, t8, t9, a1, a2, a3, i3, i4, i5, i8, fun e => (i9 e).1, fun q1 q2 => (i10 q1 q2).2⟩
/-- an assignment -/
theorem las_ {a xe y q1 p2 q2 vv t mu mv : Nat} {π : List (Nat × Nat)} (H : LyH R S0 S E P Γ L js Λ gv bw p q b c v v) (ha : a ∈ ZL R.S) (k1 : ZF S0 a = stC 2 p 0 0 0 .null (.ref xe) (.ref y) .null .null .null .null .null 0) (k2 : xPl R S0 Γ 408 y p q1 vv π t mu mv) (k3 : π.length ≤ 4) (k4 : q1 < p2) (k5 : q2 < q) (k6 : xE R S0 Γ 408 16 xe p2 q2 b c t) (k7 : π = [] ∨ mu = 1) : Rt (f_layAssign R.K S (some a)) (fun S2 _ => LyQ R S0 S E P Γ Γ L js Λ bw p q b c v v False 1 S2) := by
  have H2 := H
  obtain ⟨hF, hB, cc, k0, hG, hv, hw, hpq, hP, hl, hr⟩ := H
  have hL := hF.1.1
  have hY := hF.1.2.1
  have hEy := hF.1.2.2.2.2.1
  have hpq1 : p < q1 := k2.1.2.2
  have r6 : ∀ {S' : Sg}, LX S0 S' → oR S' 19 (some a) 6 = some (some xe) := fun hx => hx.vr (by decide) (by decide) (oR_mk (hL a ha) k1 (v := some xe) rfl)
  have r7 : ∀ {S' : Sg}, LX S0 S' → oR S' 19 (some a) 7 = some (some y) := fun hx => hx.vr (by decide) (by decide) (oR_mk (hL a ha) k1 (v := some y) rfl)
  obtain ⟨xs, x1, x2, x3⟩ := xE_t12 k6
  obtain ⟨ys, y1, y2, y3⟩ := xPl_ty k2
  obtain ⟨ys', y2', y4⟩ := xPl_t1 k2
  obtain rfl : ys' = ys := by rw [y2] at y2'; cases y2'; rfl
  unfold f_layAssign
  refine Rt.bd (r6 cc.1) (Rt.bn (sgv H2 k6 (by omega) k5) (fun S1 _ t1 => ?_))
  obtain ⟨P1, L1, g1, b1, b2, b3, b4, b5, k1'⟩ := t1
  have hrt : rTy S0 t := (xPl_c k2).2.2.1
  rw [resE_r hY hrt] at g1
  have hw1 : wl ([eT (abT S0 t)] ++ mkV js) = 0 + 1 := by show wl (eT (abT S0 t) :: mkV js) = _; rw [wl_eT, wl_mk]
  rw [hw1] at g1
  have hr1 := g1.rm hr (z2 := 6) (n2 := 16) (by omega) (by omega)
  have hA1 : ALv S0 E Γ (mkV js) := hG.al hF (fun i hi => List.mem_map.mpr ⟨i, hi, rfl⟩) nT_mk
  refine Rt.bd (r7 g1.1.1) (Rt.bn (pthS hF hA1 g1.1 k2 k3 (hr1.le (by omega) (by omega))) (fun S2 r t2 => ?_))
  obtain ⟨w, ix, tv, rfl, c2, kx2, pw2, z2, n2, u2, pn2, ⟨ix40, iad⟩, evt, hin, rtv, _, qms, hvt, hx0, hmu⟩ := t2
  refine Rt.bd (r7 c2.1) (Rt.bd (c2.1.vi (by decide) (by decide) (oI_mk (hL y y1) y2 y4)) ?_)
  refine pnt_ (Lb := L1) (Sb := S1) (z := 3) (n := 13) (by omega) c2 (kx2.1 _ _) (Nat.le_refl _) (by omega) (by omega) u2 (fun S3 p3 e3 => ?_)
  refine p3.wI (by omega) (by decide) (fun S4 p4 e4 => ?_)
  have e34 := e3.tr e4
  have hwm : w ∈ ZL S2 := by obtain ⟨_, _, _, _, h, _⟩ := pw2; exact h
  have pw4 := pw2.st e34.1
  obtain ⟨sa, ta, ff, gf, q1', q2', q3', q4', q5', q6', nm3, mt3, q7'⟩ := id pw4
  refine p4.wO (by omega) (by decide) (okO_mk q1' q2') (Or.inr ⟨rfl, fun y e => by cases e; exact ⟨q1', pn2.st e34.1 hwm⟩⟩) (fun S5 p5 e5 => ?_)
  obtain ⟨a1, a2⟩ := e5.1.ob q1' q2' (by decide) (by decide)
  refine Rt.bd (oB_mk a1 a2) ?_
  have hty : f_X18_type R.K S5 w = some (S5, some t) := by
    unfold f_X18_type
    obtain ⟨b1, b2⟩ := e5.1.ro q4'.1 q4'.2
    rw [oR_mk a1 a2 (v := some ta) rfl, Option.bind_some, oI_mk a1 a2 (v := nI π.length) rfl, Option.bind_some, aQ_n b1 b2 (Nat.lt_succ_self _) (by omega), Option.bind_some, q5'.2.2]
  refine Rt.be hty ?_
  obtain ⟨kd, ixx, oo, yt, _⟩ := hrt.ty
  refine p5.wO (by omega) (by decide) (p5.1.1.okT ⟨_, _, _, yt⟩) (Or.inl (by decide)) (fun S6 p6 e6 => ?_)
  refine Rt.bd (r6 p6.1.1) (Rt.bd (p6.1.1.vr (by decide) (by decide) (oR_mk (hL xe x1) x2 (v := some t) x3)) ?_)
  refine Rt.bn (use_ (xt := t) (by omega) hY p6 (by decide) hrt (by have := hr1.1; omega) (by have := hr1.2; omega)) (fun S7 _ t7 => ?_)
  obtain ⟨x7, p7, l7, v1, v2, v3, v4, v5⟩ := t7
  have l47 := (e5.1.tr e6.1).tr l7
  have pw7 := pw4.st l47
  obtain ⟨c1, c2'⟩ := l47.ob q1' q2' (by decide) (by decide)
  refine Rt.bd (oI_mk c1 c2' (v := nI π.length) rfl) ?_
  have rix : ∀ {S' : Sg} {P' h' L' : Nat} {Γ' : List Nat}, LC R S0 S' P' h' Γ' L' → oI S' 21 (some vv) 0 = some (nI ix) := fun c' => by
    obtain ⟨wh, w1, w2, _⟩ := c'.2.2.2.2.2.2.1 vv ix nm3 (some tv) mt3 q7'
    exact oI_mk w1 w2 rfl
  have hx38 : x7.2.2 38 = some w := by rw [v3 38 (by decide) (by decide)]; rfl
  have hpT : ∀ {i : iR}, i.pa = some (ix, π, abT S0 t) → i.n2 = vv → iPa E i (mkV js) ix π (abT S0 t) := fun hi hn2 => ⟨hi, ⟨ix40, iad.trans hn2.symm⟩, hin, by rw [hEy, evt]; exact q5'.ty hY q6', qms, hrt.n0 hY, k3, nT_mk⟩
  have fin : ∀ (S8 : Sg) (x8 : pRc) (ho : Option Nat) (us fr : List Nat) (zz nn : Nat), LPt R S0 S1 S8 P1 0 Γ L1 L1 x8 zz nn → LX S7 S8 → (∀ r : Nat, r ≠ 34 → x8.1 r = x7.1 r) → x8.2.2 38 = some w → x8.1 34 = oNm ho → rAr R S8 (x8.2.2 37) us → rAr R S8 (x8.2.2 36) fr → zz ≤ 6 → nn ≤ 16 → ((π = [] ∧ ho = some ix ∧ (isRf (abT S0 t) → us = [40] ∧ fr = [40]) ∧ (¬ isRf (abT S0 t) → us = [] ∧ fr = [])) ∨ (π ≠ [] ∧ ho = none ∧ fr = [] ∧ (isRf (E.vt ix) → us = [ix] ∧ E.vt ix % 2 = 1) ∧ (¬ isRf (E.vt ix) → us = []))) → Rt (f_layAssign_120 R.K S8) (fun S2 _ => LyQ R S0 S E P Γ Γ L js Λ bw p q b c v v False 1 S2) := fun S8 x8 ho us fr zz nn p8 l8 w1 w2 w3 w4 w5 w6 w7 w8 => by
    have g8 : GV R S0 S1 S8 E P1 (P1 + 1) 1 0 Γ Γ L1 L1 ([eT (abT S0 t)] ++ mkV js) (mkV js) False zz nn := by
      refine gv1 p8 (i := (14, 6, some (ix, π, abT S0 t), (ho, none), (us, fr), [P1 + 1], (0, vv, 0), [])) (rz_g (K := 14) rfl p8.2.2.1 (by decide) (by decide) ?_ ?_ (by show (6 : Nat) < 8; decide) w3 ?_ w4 w5 ⟨p, ?_, by omega⟩ (Or.inr ⟨w, ix, abT S0 t, π, w2, rfl, (pw7.st l8).pt p8.1 (by omega), (pw7.st l8).va⟩) (fun l e => by cases e) ?_ rfl (fun w => absurd w (by decide)) (fun w => absurd w (by decide)) (fun w => absurd w (by decide)) (fun w => absurd w (by decide)) (fun w => absurd w (by decide)) (fun w => absurd w (by decide))) rfl (fun l e => by cases e) (by rw [hw1]; omega) (tP_14 rfl ⟨rfl, rfl, ix, π, abT S0 t, mkV js, hpT rfl rfl, rfl, wl_mk, w8, rfl, wkS.rf⟩)
      · rw [w1 27 (by decide), v1]; rfl
      · rw [w1 33 (by decide), v1]; rfl
      · rw [w1 35 (by decide), v1]; rfl
      · rw [w1 32 (by decide), v1]; rfl
      · rw [w1 30 (by decide), v1]; rfl
    unfold f_layAssign_120
    exact Rt.rt (LyQ.of hG hv (g1.tr g8 (cl3 := False) (fun w => w.elim) (Nat.le_refl _) (Nat.le_refl _)) (by omega) (by omega) (by omega) (by omega) (k1'.st p8.2.1 (Nat.le_succ _)))
  by_cases hπ : π = []
  · have ht : t = tv := hx0 hπ
    refine Rt.ip (by rw [hπ]; rfl) ?_
    refine Rt.bd (oR_mk c1 c2' (v := some vv) rfl) (Rt.bd (rix p7.1) (p7.wI (by omega) (by decide) (fun S8 p8 e8 => ?_)))
    refine fin S8 _ (some ix) (ifR (abT S0 t) [40] []) (ifR (abT S0 t) [40] []) _ _ p8 e8.1 (fun r hr => upd_n hr) hx38 (upd_s (f := x7.1) (k := 34)) ?_ ?_ (by omega) (by omega) (Or.inl ⟨hπ, rfl, fun q => ⟨ifR_p q, ifR_p q⟩, fun q => ⟨ifR_n q, ifR_n q⟩⟩)
    · by_cases q : isRf (abT S0 t)
      · rw [ifR_p q]; exact (v4 q).1.st e8.1
      · rw [ifR_n q]; exact Or.inl ⟨(v5 q).1, rfl⟩
    · by_cases q : isRf (abT S0 t)
      · rw [ifR_p q]; exact (v4 q).2.st e8.1
      · rw [ifR_n q]; exact Or.inl ⟨(v5 q).2, rfl⟩
  · have hnr : ¬ isRf (abT S0 t) := fun q => by
      have := (hvt hπ).nm hY
      rw [this.2.2] at q
      have := q.1; omega
    have hl0 : π.length ≠ 0 := fun e => hπ (List.length_eq_zero_iff.mp e)
    refine Rt.iq (nI_ne0 (by omega) (by omega)) ?_
    obtain ⟨d1, d2⟩ := l47.ro q4'.1 q4'.2
    have h0a : aQ R.K 4 S7 (some ta) (nI 0) = some (some tv) := by rw [aQ_n d1 d2 (by omega) (by omega), q6']
    refine Rt.bd (oR_mk c1 c2' (v := some ta) rfl) (Rt.bd h0a ?_)
    obtain ⟨kv, iv, ov, tvt, _⟩ := rtv.ty
    have hrf := rtv.rf hY tvt
    have h34 : x7.1 34 = oNm none := by rw [v1]; rfl
    have h36 : x7.2.2 36 = none := (v5 hnr).2
    have h37 : x7.2.2 37 = none := (v5 hnr).1
    refine Rt.be (ref_ (p7.1.1.ty tvt)) ?_
    by_cases hk : kv = 6 ∨ kv = 7
    · rw [if_pos hk]
      have hrv : isRf (E.vt ix) := by rw [evt]; exact hrf.mpr hk
      refine Rt.iq (by decide) (Rt.bd (oR_mk c1 c2' (v := some vv) rfl) (Rt.bd (rix p7.1) ?_))
      have z7 := p7.2.2.2.1
      have n7 := p7.2.2.2.2.1
      refine Rt.bn (jst_ (u := ix) p7.1 (by omega) (by have := hr1.1; omega) (by have := hr1.2; omega)) (fun S8 r t => ?_)
      obtain ⟨aa, f1, rfl, t2, t3, t4, t5, t6, t7, t8, t9, t10⟩ := t
      have p8 := p7.kx t2 t3 t10 (z2 := 6) (n2 := 16) (by omega) (by omega)
      refine p8.wA (by omega) (by decide) (okA_mk t4 t5) ⟨by decide, fun y e hy => by cases e; exact p8.2.2.2.2.2.2.1 aa hy (Or.inl ⟨ix, by omega, t9⟩)⟩ (fun S9 p9 e9 => ?_)
      obtain ⟨v1', v2'⟩ := e9.1.ro t4 t5
      refine fin S9 _ none [ix] [] _ _ p9 (t3.lx.tr e9.1) (fun r _ => rfl) ?_ h34 ?_ (Or.inl ⟨?_, rfl⟩) (Nat.le_refl _) (Nat.le_refl _) (Or.inr ⟨hπ, rfl, rfl, fun _ => ⟨rfl, ?_⟩, fun w => absurd hrv w⟩)
      · exact (va_up_ne x7.2.2 (some aa) (show (38 : Nat) ≠ 37 by decide)).trans hx38
      · show rAr R S9 (va_up x7.2.2 37 (some aa) 37) [ix]
        rw [va_up_self]
        exact rAr_1 (by omega) v1' v2' t6
      · exact (va_up_ne x7.2.2 (some aa) (show (36 : Nat) ≠ 37 by decide)).trans h36
      · rw [evt]; exact hmu (hrf.mpr hk) hπ (k7.resolve_left hπ)
    · rw [if_neg hk]
      have hrv : ¬ isRf (E.vt ix) := by rw [evt]; exact fun w => hk (hrf.mp w)
      refine Rt.ip rfl ?_
      exact fin S7 x7 none [] [] _ _ p7 LX.rf (fun _ _ => rfl) hx38 h34 (Or.inl ⟨h37, rfl⟩) (Or.inl ⟨h36, rfl⟩) (by omega) (by omega) (Or.inr ⟨hπ, rfl, rfl, fun w => absurd w hrv, fun _ => rfl⟩)
end LY31
end
-- m1.g.lean.txt
section
/-- a row of nodes: all grows -/
theorem chJ_mo {P : Nat → Nat → Nat → Nat → Nat → Nat → Nat → Nat → Prop} {f : Nat → Option Nat} {n : Nat} {ps bs vs : Nat → Nat} (hP : ∀ i x p q b c v w : Nat, i < n → P i x p q b c v w → p < q ∧ b ≤ c ∧ v ≤ w) (h : ∀ i : Nat, i < n → ∃ x : Nat, f i = some x ∧ P i x (ps i) (ps (i + 1)) (bs i) (bs (i + 1)) (vs i) (vs (i + 1))) {i : Nat} : ∀ {j : Nat}, i ≤ j → j ≤ n → ps i + (j - i) ≤ ps j ∧ bs i ≤ bs j ∧ vs i ≤ vs j
  | 0, h1, _ => by have : i = 0 := Nat.le_zero.mp h1; subst this; exact ⟨by omega, Nat.le_refl _, Nat.le_refl _⟩
  | j + 1, h1, h2 => by
    by_cases e : i = j + 1
    · subst e; exact ⟨by omega, Nat.le_refl _, Nat.le_refl _⟩
    · have a := chJ_mo hP h (i := i) (j := j) (by omega) (by omega)
      obtain ⟨x, _, b⟩ := h j (by omega)
      have b := hP _ _ _ _ _ _ _ _ (by omega) b
      exact ⟨by omega, by omega, by omega⟩
theorem sN_mo {R : yR} {S : Sg} {Λ : List Nat} {gv : Nat} : ∀ {n t a p q b c v w : Nat} {Γ Γ2 : List Nat} {κ : Nat × Nat × Nat}, sN R S Λ gv n t a p q b c v w Γ Γ2 κ → b ≤ c ∧ v ≤ w
  | 0, _, _, _, _, _, _, _, _, _, _, _, h => h.elim
  | n + 1, 0, a, p, q, b, c, v, w, Γ, Γ2, κ, h => by
    rcases h.2 with ⟨nm, y, mu, wr, ex, k1, k2, k3, k4, k5⟩ | ⟨kd, x, p', q', t, k1, k2, k3, k4, k5, k6, k7⟩ | ⟨x, y, q1, p2, q2, vv, t, mu, mv, π, k1, k2, k3, k4, k5, k6, k7, k8, k9⟩ | ⟨ca, ba, cap, mn, f, g, k1, k2, k3, k4, k5, k6, k7, k8, k9, l1⟩ | ⟨x, y, q0, b1, t, k1, k2, k3, k4, k5⟩ | ⟨x, ar, cap, mn, p0, q0, b1, i, t, bd, mu, rf, f, vf, k1, k2, k3, k4, k5, k6, k7, k8, k9, l1, l2, l3⟩ | ⟨ex, k1, k2, k3, k4⟩ | ⟨y, k1, k2, k3⟩
    · refine ⟨?_, by omega⟩
      rcases k5 with ⟨_, e⟩ | ⟨_, _, _, _, _, _, _, _, e, _⟩
      · omega
      · exact xE_bc e
    · exact ⟨xE_bc k5, by omega⟩
    · exact ⟨xE_bc k6, by omega⟩
    · obtain ⟨ps, bs, vs, h1, h2, h3, h4, h5, h6, h7⟩ := l1
      have := chJ_mo (P := fun i y p1 q1 b1 c1 v1 w1 => ∃ p0 b0 : Nat, ((f i = none ∧ b0 = b1) ∨ ∃ x p' q0 t : Nat, f i = some x ∧ p1 < p' ∧ q0 ≤ p0 ∧ xE R S Γ 408 16 x p' q0 b1 b0 t ∧ isTy S t 1 0 none) ∧ p1 ≤ p0 ∧ sN R S Λ gv n 1 y p0 q1 b0 c1 v1 w1 Γ Γ (0, 0, 0)) (i := 0) (j := mn) (by
        intro i x p q b c v w _ z
        obtain ⟨p0, b0, z1, z2, z3⟩ := z
        have z4 := sN_mo z3
        have z5 := sN_lt z3
        rcases z1 with ⟨_, e⟩ | ⟨_, _, _, _, _, _, _, e, _⟩
        · exact ⟨by omega, by omega, z4.2⟩
        · have := xE_bc e; exact ⟨by omega, by omega, z4.2⟩) h7 (Nat.zero_le _) (Nat.le_refl _)
      omega
    · have := xE_bc k2; have := sN_mo k4; omega
    · obtain ⟨ps, bs, vs, h1, h2, h3, h4, h5, h6, h7⟩ := l1
      have := chJ_mo (i := 0) (j := mn) (fun i x p q b c v w _ z => ⟨sN_lt z, (sN_mo z).1, (sN_mo z).2⟩) h7 (Nat.zero_le _) (Nat.le_refl _)
      have : b ≤ b1 := by
        rcases k3 with ⟨_, _, _, e⟩ | ⟨_, e, _⟩
        · exact xE_bc e
        · omega
      omega
    · refine ⟨?_, by omega⟩
      rcases k2 with ⟨_, e, _⟩ | ⟨_, _, _, _, _, _, e, _⟩
      · omega
      · exact xE_bc e
    · exact sN_mo k2
  | n + 1, 1, a, p, q, b, c, v, w, Γ, Γ2, κ, h => by
    obtain ⟨_, _, _, la, cap, mn, f, gs, _, _, _, _, _, ps, bs, vs, h1, h2, h3, h4, h5, h6, h7⟩ := h
    have := chJ_mo (i := 0) (j := mn) (fun i x p q b c v w _ z => ⟨sN_lt z, (sN_mo z).1, (sN_mo z).2⟩) h7 (Nat.zero_le _) (Nat.le_refl _)
    omega
  | n + 1, t + 2, a, p, q, b, c, v, w, Γ, Γ2, κ, h => by
    obtain ⟨_, na, bk, mk, p', fv, tx, us, _, _, _, _, _, _, _, _, _, h1⟩ := h
    have := sN_mo h1
    omega
/-- a block that ends the way -/
def eBx (S : Sg) (a : Nat) : Prop := ∃ m : Nat, eB S m a
theorem eS_mo {S : Sg} {P P2 : Nat → Prop} {a : Nat} (hP : ∀ y : Nat, P y → P2 y) (h : eS S P a) : eS S P2 a := by
  obtain ⟨fs, h1, h2⟩ := h
  refine ⟨fs, h1, ?_⟩
  rcases h2 with h2 | ⟨h2, y, h3, h4⟩ | ⟨h2, ar, mn, cap, k9, f, h3, h4, h5, h6, h7⟩ | ⟨h2, ca, ba, mn, cap, cap2, k8, k9, f, g, h3, h4, h5, h6, h7, h8, h9, h10, h11⟩
  · exact Or.inl h2
  · exact Or.inr (Or.inl ⟨h2, y, h3, hP y h4⟩)
  · refine Or.inr (Or.inr (Or.inl ⟨h2, ar, mn, cap, k9, f, h3, h4, h5, h6, fun k hk => ?_⟩))
    obtain ⟨y, bk, ys, a1, a2, a3, a4⟩ := h7 k hk
    exact ⟨y, bk, ys, a1, a2, a3, hP bk a4⟩
  · refine Or.inr (Or.inr (Or.inr ⟨h2, ca, ba, mn, cap, cap2, k8, k9, f, g, h3, h4, h5, h6, h7, h8, h9, h10, fun k hk => ?_⟩))
    obtain ⟨y, a1, a2⟩ := h11 k hk
    exact ⟨y, a1, hP y a2⟩
/-- what a block's laying begins with -/
def LyHb (R : yR) (S0 S : Sg) (E : eV) (P : Nat) (Γ : List Nat) (L : Nat) (js Λ : List Nat) (gv : Nat) (bw : Nat → Nat) (p q b c v w : Nat) : Prop := FEn R S0 E Λ gv ∧ BWt R bw ∧ LC R S0 S P 0 Γ L ∧ (P = 0 ∨ K0 S P) ∧ GJ Λ Γ js ∧ (∀ i ∈ js, i < v) ∧ (v ≤ w ∧ w ≤ 40) ∧ (p < q ∧ q ≤ R.T) ∧ P + 8 * (bw q - bw p) ≤ 24000 ∧ (b ≤ c ∧ L + c + w ≤ 160 + b + v) ∧ RMl R S (20 * (bw q - bw p) - 20) (60 * (bw q - bw p) - 60)
/-- a block was laid -/
def LyBQ (R : yR) (S0 S : Sg) (E : eV) (P : Nat) (Γ : List Nat) (L : Nat) (js : List Nat) (bw : Nat → Nat) (p q b c v w : Nat) (cl : Prop) (S2 : Sg) : Prop := ∃ P2 L2 z n : Nat, GV R S0 S S2 E P P2 0 0 Γ Γ L L2 (mkV js) (mkV js) cl z n ∧ P2 + 8 ≤ P + 8 * (bw q - bw p) ∧ z + 20 ≤ 20 * (bw q - bw p) ∧ n + 60 ≤ 60 * (bw q - bw p) ∧ L2 + b + v ≤ L + c + w ∧ (P2 = 0 ∨ K0 S2 P2)
/-- V lays blocks -/
def LbV (R : yR) (S0 : Sg) (E : eV) (Λ : List Nat) (gv : Nat) (bw : Nat → Nat) (V : Sg → Option Nat → Option (Sg × Unit)) (n : Nat) : Prop := ∀ m : Nat, m ≤ n → ∀ (bl p q b c v w : Nat) (Γ : List Nat), sN R S0 Λ gv m 1 bl p q b c v w Γ Γ (0, 0, 0) → ∀ (S : Sg) (P L : Nat) (js : List Nat), LyHb R S0 S E P Γ L js Λ gv bw p q b c v w → Rt (V S (some bl)) (fun S2 _ => LyBQ R S0 S E P Γ L js bw p q b c v w (eBx S0 bl) S2)
/-- V lays statements -/
def LsV (R : yR) (S0 : Sg) (E : eV) (Λ : List Nat) (gv : Nat) (bw : Nat → Nat) (V : Sg → Option Nat → Option (Sg × Unit)) (n : Nat) : Prop := ∀ m : Nat, m ≤ n → ∀ (a p q b c v w : Nat) (Γ Γ2 : List Nat), sN R S0 Λ gv m 0 a p q b c v w Γ Γ2 (0, 0, 0) → ∀ (S : Sg) (P L : Nat) (js : List Nat), LyHb R S0 S E P Γ L js Λ gv bw p q b c v w → P + 8 * (bw q - bw p) < 24000 → RMl R S (20 * (bw q - bw p)) (60 * (bw q - bw p)) → Rt (V S (some a)) (fun S2 _ => LyQ R S0 S E P Γ Γ2 L js Λ bw p q b c v w (eS S0 (eBx S0) a) 0 S2)
section LY32
variable {R : yR} {S0 Sb S S1 S2 : Sg} {P P1 P2 h h0 h1 hc L L2 Lb z n : Nat} {Γ Γ0 Γ1 Γ2 Λ : List Nat} {E : eV} {s s2 : List tE} {gv : Nat} {js js1 ks : List Nat} {bw : Nat → Nat} {cl : Prop} {p q b c v w : Nat} {V : Sg → Option Nat → Option (Sg × Unit)}
theorem GJ.un : ∀ {js Γ Γ2 : List Nat}, GJ Λ Γ js → GJ Λ Γ2 js → Γ = Γ2
  | [], _, _, a, b => a.trans b.symm
  | i :: js, _, _, a, b => by
    obtain ⟨A, y, rfl, a2, _, a4⟩ := a
    obtain ⟨B, y', rfl, b2, _, b4⟩ := b
    rw [a2] at b2; cases b2
    rw [GJ.un a4 b4]
theorem GJ.spl : ∀ {ks Γ : List Nat}, GJ Λ Γ (ks ++ js) → ∃ Γ0 us : List Nat, Γ = Γ0 ++ us ∧ GJ Λ Γ0 js
  | [], Γ, h => ⟨Γ, [], (List.append_nil _).symm, h⟩
  | i :: ks, Γ, h => by
    obtain ⟨A, y, rfl, _, _, h4⟩ := h
    obtain ⟨Γ0, us, rfl, h5⟩ := GJ.spl (ks := ks) h4
    exact ⟨Γ0, us ++ [y], List.append_assoc _ _ _, h5⟩
/-- the variables alive are fewer again -/
theorem GV.dn {us : List Nat} {α : Type} {g : Sg → Option (Sg × α)} {Q : Sg → α → Prop} {y : Int32} (gg : GV R S0 S S2 E P P2 h h1 Γ (Γ2 ++ us) L L2 s s2 cl z n) (hy : y = nI Γ2.length) (k : ∀ S3 : Sg, GV R S0 S S3 E P P2 h h1 Γ Γ2 L L2 s s2 cl z n → Zr S3 = Zr S2 → Rt (g S3) Q) : Rt ((pM S2 50 y).bind g) Q := by
  subst hy
  obtain ⟨a1, a2, a3, a4, a5, a6, a7, a8⟩ := gg
  have z1 : ∀ P L : Nat, LZ P L S2 (Ui S2 50 (nI Γ2.length)) := fun P L => LZ.ui (Or.inr (Or.inr (Or.inr rfl)))
  refine Rt.bd (v := Ui S2 50 (nI Γ2.length)) rfl (k _ ⟨⟨a1.1.tr (z1 0 0).1, (Zi_n (by decide)).trans a1.2.1, (Zi_n (by decide)).trans a1.2.2.1, ⟨Zi_s, fun k v hk => ?_⟩, (Zi_n (by decide)).trans a1.2.2.2.2.1, a1.2.2.2.2.2.1.st (z1 0 0).1 rfl (a1.2.2.2.2.2.1.2.st (z1 0 0).1 (fun _ _ _ => rfl) (fun _ _ _ => Or.inl rfl) (Zi_n (by decide))), a1.2.2.2.2.2.2.1, a1.2.2.2.2.2.2.2⟩, a2.tr (z1 _ _) (Nat.le_refl _) (Nat.le_refl _), a3.st (z1 _ _), a4, a5, a6, a7, a8⟩ rfl)
  have hlt := (List.getElem?_eq_some_iff.mp hk).1
  exact a1.2.2.2.1.2 k v (by rw [List.getElem?_append_left hlt]; exact hk)
theorem K0w.st (k : P = 0 ∨ K0 S P) (hz : LZ P L S S2) (hp : P ≤ P2) : (P2 = P ∧ P = 0) ∨ K0 S2 P2 ∨ (P = 0 ∧ 0 < P2) := by
  rcases k with k | k
  · by_cases e : P2 = 0
    · exact Or.inl ⟨by omega, k⟩
    · exact Or.inr (Or.inr ⟨k, by omega⟩)
  · exact Or.inr (Or.inl (k.st hz hp))
/-- the statements of a block, then its end -/
theorem lbk7 {bl la cap mn : Nat} {f : Nat → Option Nat} {gs : Nat → List Nat} {ps bs vs : Nat → Nat} (H : LyHb R S0 S E P Γ L js Λ gv bw p q b c v w) (hV : LsV R S0 E Λ gv bw (f_lay R.K V) n) (hbl : bl ∈ ZL R.S) (hF : ZF S0 bl = .inr (14, [.int (nI p), .int (nI (q - 1)), .ref la, .int (nI mn)])) (hla : la ∈ ZL R.S) (hFl : ZF S0 la = .inl (R.K.1 11, cap, .inr (.inr (.inr (.inr f))))) (hmc : mn ≤ cap) (g0 : gs 0 = Γ) (p0 : ps 0 = p + 1) (pn : ps mn = q - 1) (b0 : bs 0 = b) (bn : bs mn = c) (v0 : vs 0 = v) (vn : vs mn = w) (hel : ∀ i : Nat, i < mn → ∃ x : Nat, f i = some x ∧ sN R S0 Λ gv n 0 x (ps i) (ps (i + 1)) (bs i) (bs (i + 1)) (vs i) (vs (i + 1)) (gs i) (gs (i + 1)) (0, 0, 0)) : ∀ (m i : Nat) (S1 : Sg) (P1 L1 z n : Nat) (ks : List Nat), mn < i + m → i ≤ mn → GV R S0 S S1 E P P1 0 0 Γ (gs i) L L1 (mkV js) (mkV (ks ++ js)) (∃ k y : Nat, k < i ∧ f k = some y ∧ eS S0 (eBx S0) y) z n → GJ Λ (gs i) (ks ++ js) → (∀ j ∈ ks ++ js, j < vs i) → P1 + ks.length ≤ P + 8 * (bw (ps i) - bw (ps 0)) → z + 3 * ks.length ≤ 20 * (bw (ps i) - bw (ps 0)) → n + 5 * ks.length ≤ 60 * (bw (ps i) - bw (ps 0)) → L1 + b + v ≤ L + bs i + vs i → ((P1 = 0 ∧ ks = []) ∨ K0 S1 P1) → Rt (f_layBlock_7 R.K V m S1 (some bl) (nI js.length) (nI i)) (fun S2 _ => LyBQ R S0 S E P Γ L js bw p q b c v w (eBx S0 bl) S2)
  | 0, i, S1, P1, L1, z, n, ks, hm, hi, _, _, _, _, _, _, _, _ => by omega
  | m + 1, i, S1, P1, L1, z, n, ks, hm, hi, g, hG, hv, a1, a2, a3, a4, kk => by
    have H2 := H
    obtain ⟨hFE, hB, cc, k0, hGJ, hvj, hw, hpq, hP, hl, hr⟩ := H2
    have hL := hFE.1.1
    have hmo := fun {i j : Nat} (h1 : i ≤ j) (h2 : j ≤ mn) => chJ_mo (P := fun i x p1 q1 b1 c1 v1 w1 => sN R S0 Λ gv _ 0 x p1 q1 b1 c1 v1 w1 (gs i) (gs (i + 1)) (0, 0, 0)) (fun i x p q b c v w _ z => ⟨sN_lt z, (sN_mo z).1, (sN_mo z).2⟩) hel h1 h2
    have hmn := (hmo (Nat.zero_le mn) (Nat.le_refl mn))
    have hmi := (hmo (Nat.zero_le i) hi)
    have hT3 : R.T ≤ 3001 := hFE.1.2.2.2.2.2.2.2.2.2.1
    have w1 := hB.mo (p := p) (q := ps 0) (by omega) (by omega)
    have w2 := hB.mo (p := ps mn) (q := q) (by omega) (by omega)
    have w3 := hB.mo (p := ps 0) (q := ps i) (by omega) (by have := hmo hi (Nat.le_refl mn); omega)
    have w4 := hB.mo (p := ps i) (q := ps mn) (by have := hmo hi (Nat.le_refl mn); omega) (by omega)
    unfold f_layBlock_7
    refine Rt.bd (g.1.1.vi (by decide) (by decide) (oI_mk (hL bl hbl) hF (v := nI mn) rfl)) (Rt.it (fun q9 => ?_) (fun q9 => ?_))
    · have : mn ≤ i := (nI_leI (by omega) (by omega)).mp q9
      obtain rfl : i = mn := by omega
      have hln := hG.len
      rw [List.length_append] at hln
      have hjl := GJ.l40 (v := vs i) hG hv
      rw [List.length_append] at hjl
      refine Rt.bd (g.1.1.vi (by decide) (by decide) (oI_mk (hL bl hbl) hF (v := nI (q - 1)) rfl)) ?_
      refine Rt.bn (gou_ (h0 := 0) (Γ0 := gs i) (e := []) (ks := ks) (js1 := js) hFE (Or.inl rfl) rfl rfl (by omega) g.1 hG (by omega) (by omega) (g.rm hr (by omega) (by omega))) (fun S2 _ g2 => ?_)
      have g12 := g.tr g2 (cl3 := ∃ k y : Nat, k < i ∧ f k = some y ∧ eS S0 (eBx S0) y) (fun w => Or.inl w) (Nat.le_refl _) (Nat.le_refl _)
      obtain ⟨Γa, us, e1, e2⟩ := GJ.spl hG
      obtain rfl : Γa = Γ := GJ.un e2 hGJ
      rw [e1] at g12
      refine g12.dn (by rw [hGJ.len]) (fun S3 g3 e3 => Rt.rt ⟨P1 + ks.length, L1, _, _, g3.mo (fun hx => ?_) (Nat.le_refl _) (Nat.le_refl _), by omega, by omega, by omega, by omega, ?_⟩)
      · obtain ⟨m9, hx⟩ := hx
        cases m9 with
        | zero => exact hx.elim
        | succ m9 =>
          obtain ⟨fs, la2, mn2, cap2, k, y, k9, f2, x1, x2, x3, x4, x5, x6, x7, x8⟩ := hx
          obtain rfl : fs = _ := (Prod.mk.inj (Sum.inr.inj (x1.symm.trans hF))).2
          have : la2 = la := by cases x2; rfl
          subst this
          have : mn2 = i := nI_ij (Value.int.inj (Option.some.inj x3)).symm (by omega) (by omega)
          have ef : f2 = f := by rw [hFl] at x5; cases x5; rfl
          subst ef
          exact ⟨k, y, by omega, x7, eS_mo (fun y hy => ⟨m9, hy⟩) x8⟩
      · rcases kk with e | e
        · exact Or.inl (by rw [e.1, e.2]; rfl)
        · exact Or.inr (by unfold K0; rw [e3]; exact e.st g2.2.1 (by omega))
    · have hlt : i < mn := by
        by_cases e : i < mn
        · exact e
        · exact absurd (nI_le (a := mn) (b := i) (by omega) (by omega)) q9
      obtain ⟨x, f1, f2⟩ := hel i hlt
      obtain ⟨r1, r2⟩ := g.1.1.ro (hL la hla) hFl
      have h1 := hmo (show i ≤ i + 1 by omega) hlt
      have h2 := hmo (show i + 1 ≤ mn from hlt) (Nat.le_refl mn)
      have w5 := hB.mo (p := ps i) (q := ps (i + 1)) (by omega) (by omega)
      have w6 := hB.mo (p := ps (i + 1)) (q := ps mn) (by omega) (by omega)
      refine Rt.bd (g.1.1.vr (by decide) (by decide) (oR_mk (hL bl hbl) hF (v := some la) rfl)) (Rt.bd (aQ_j r1 r2 (by omega) (by omega)) ?_)
      rw [f1]
      have hln : (ks ++ js).length = ks.length + js.length := List.length_append
      refine Rt.bn (hV _ (Nat.le_refl _) x (ps i) (ps (i + 1)) (bs i) (bs (i + 1)) (vs i) (vs (i + 1)) (gs i) (gs (i + 1)) f2 S1 P1 L1 (ks ++ js) ⟨hFE, hB, g.1, kk.imp (fun w => w.1) id, hG, hv, by omega, by omega, by omega, by omega, g.rm hr (by omega) (by omega)⟩ (by omega) (g.rm hr (by omega) (by omega))) (fun S2 _ t2 => ?_)
      obtain ⟨P2, L2, z2, n2, js2, g2, c1, c2, c3, c4, c5, c6, c7, c8⟩ := t2
      rw [nI_1]
      have hks : ∃ ks2 : List Nat, js2 = ks2 ++ js ∧ ks2.length + (ks ++ js).length = js2.length + ks.length := by
        rcases c3 with e | ⟨i9, e⟩
        · exact ⟨ks, e, by rw [e]; omega⟩
        · exact ⟨i9 :: ks, e, by rw [e]; show ks.length + 1 + _ = (ks ++ js).length + 1 + _; omega⟩
      obtain ⟨ks2, rfl, hk2⟩ := hks
      have hln2 : (ks2 ++ js).length = ks2.length + js.length := List.length_append
      refine lbk7 H hV hbl hF hla hFl hmc g0 p0 pn b0 bn v0 vn hel m (i + 1) S2 P2 L2 (z + z2) (n + n2) ks2 (by omega) (by omega) (g.tr g2 (fun hx => ?_) (Nat.le_refl _) (Nat.le_refl _)) c1 c2 (by omega) (by omega) (by omega) (by omega) (Or.inr c8)
      obtain ⟨k, y, x1, x2, x3⟩ := hx
      by_cases e : k = i
      · subst e; rw [f1] at x2; cases x2; exact Or.inr x3
      · exact Or.inl ⟨k, y, by omega, x2, x3⟩
end LY32
end
-- m1.h.lean.txt
section
section LY33
variable {R : yR} {S0 Sb S S1 S2 S3 : Sg} {P P1 P2 P3 h h0 h1 h2 hc L L1 L2 Lb z n z2 n2 : Nat} {Γ Γ0 Γ1 Γ2 Λ : List Nat} {E : eV} {s s1 s2 yD : List tE} {gv : Nat} {js js1 ks : List Nat} {bw : Nat → Nat} {cl cD : Prop} {p q b c v w : Nat} {V : Sg → Option Nat → Option (Sg × Unit)} {D : Nat → Prop}
/-- a jump back to where the piece begins -/
theorem GVo.bk {tk : Nat} {y2 : List tE} (g : GVo R S0 S S2 E P P2 h2 Γ2 L L2 s s D yD cl cD z n) (p : LPt R S0 S2 S3 P2 h2 Γ2 L2 L2 (ptRc 16 (nI tk)) 0 0) (htk : tk < R.T) (hP : P2 < 24000) (hw : wl s ≤ 177) (hfu : Zr S3 27 P = 0) (hT : nT s) : GVo R S0 S (Ur S3 30 (upd (Zr S3 30) P2 (nI P))) E P (P2 + 1) h2 Γ2 L L2 s y2 D yD True cD z n := by
  obtain ⟨a1, a2, a3, a4, a5, a6, a7, a8⟩ := g
  have z3 : LZ P2 L2 S2 (Ur S3 30 (upd (Zr S3 30) P2 (nI P))) := p.2.1.tr (LZ.ur (by decide) (Nat.le_refl _)) (Nat.le_refl _) (Nat.le_refl _)
  have z4 := a2.tr z3 a6 a7
  refine ⟨p.1.ur (Or.inl (by decide)), z4, ?_, by have := p.2.2.2.1; show Zz S3 ≤ _; omega, by have := p.2.2.2.2.1; show Zn S3 ≤ _; omega, by omega, a7, ?_⟩
  · obtain ⟨st, W, h1, h2, h3, h4, h5, h6, h7, h8⟩ := a3.st z3
    have hj : ∀ {j : Nat} {t : List tE}, j ≤ P2 → wkS t (st j) → wkS t (pcE (P2 + 1) y2 st j) := fun hjb j3 => by rw [pcE_n (by omega)]; exact j3
    refine ⟨pcE (P2 + 1) y2 st, fun k => k ≠ P2 + 1 ∧ W k, by rw [pcE_n (by omega)]; exact h1, pcE_s, ⟨by omega, h3⟩, fun _ w => w.1 rfl, by omega, fun k hk => by have := h6 k hk; omega, fun w k hk q => h7 w k hk q.2, fun k hk hb => ?_⟩
    rw [pcE_n (show k ≠ P2 + 1 by omega)]
    by_cases e : k < P2
    · obtain ⟨q0, q1, q2⟩ := h8 k hk e
      refine ⟨q0, fun hd => ?_, fun hd T hT hT2 => ?_⟩
      · obtain ⟨i, p1, p2, p3, p4⟩ := q1 hd
        refine ⟨i, p1, p2, fun j hj2 => ?_, p4.im (fun w => w.2) (fun j t ⟨j1, j2, j3⟩ => ⟨j1, by omega, hj j2 j3⟩)⟩
        obtain ⟨j1, j2, j3, j4⟩ := p3 j hj2
        exact ⟨j1, by omega, fun w => ⟨by omega, j3 w.2⟩, j4⟩
      · obtain ⟨i, p1, p2, p3, p4⟩ := q2 hd T hT hT2
        refine ⟨i, p1, p2, fun j hj2 => (p3 j hj2).imp id (fun ⟨w1, w2⟩ => ⟨w1, fun w => ⟨by omega, w2 w.2⟩⟩), p4.im (fun w => w.2) (fun j t w => w.imp id (fun ⟨j1, j3⟩ => ⟨j1, hj (by omega) j3⟩))⟩
    · obtain rfl : k = P2 := by omega
      have hnd : ¬ D k := fun w => by have := h6 k w; omega
      refine ⟨by rw [h2]; exact hw, fun _ => ⟨_, rz_j (K := 16) (sc := [P]) (Or.inl ⟨rfl, rfl⟩) p.2.2.1 pl0_o htk (by omega), (fun l e => by cases e), fun j hj2 => ?_, tP_16 rfl ⟨⟨iD0_0, by rw [h2]; exact hT⟩, P, rfl, Nat.le_refl _, by omega, ?_⟩⟩, fun w => absurd w hnd⟩
      · rw [List.mem_singleton.mp hj2]
        exact ⟨Nat.le_refl _, by omega, fun _ => ⟨by omega, h3⟩, Or.inr ((congrFun (Zr_un (by decide)) P).trans hfu)⟩
      · rw [pcE_n (by omega), h2]; exact h1
  · have hR := a8.tr (P1 := P2) (p.2.2.2.2.2.2) a2.1 p.2.1
    exact hR
/-- FUEL of a round -/
theorem fue_ {tk : Nat} {g : Sg → Int32 → Option (Sg × Unit)} {Q : Sg → Unit → Prop} (c : LC R S0 S P h Γ L) (htk : tk < R.T) (hP : P < 24000) (hw : wl s ≤ 177) (hT : nT s) (k : ∀ S1 : Sg, GV R S0 S S1 E P (P + 1) h0 h Γ0 Γ L L s s False 0 0 → (P = 0 ∨ K0 S P → K0 S1 (P + 1)) → Zr S1 27 P = 0 → Rt (g S1 (nI P)) Q) : Rt (bnd (f_point R.K S 0 (nI tk)) g) Q := by
  refine pnt_ (Lb := L) (Sb := S) (z := 0) (n := 0) hP c LZ.rf (Nat.le_refl _) (by omega) (by omega) UsK.rf (fun S1 p1 _ => k S1 (gvp (K := 0) (pp := tk) (by decide) p1 pl0_o htk hw (tP_0 rfl ⟨⟨iD0_0, hT⟩, rfl, wkS.rf⟩)) (fun w => ?_) (p1.2.2.1.1 27 (by decide) (by decide) (by decide)))
  rcases w with e | e
  · subst e
    have : Zr S1 27 0 = 0 := p1.2.2.1.1 27 (by decide) (by decide) (by decide)
    exact ⟨by omega, by rw [this]; decide, by rw [this]; decide⟩
  · exact e.st p1.2.1 (Nat.le_succ _)
/-- while -/
theorem lwh_ {a xe y q0 b1 t m : Nat} (H : LyH R S0 S E P Γ L js Λ gv bw p q b c v w) (hV : LbV R S0 E Λ gv bw V n) (hm : m ≤ n) (ha : a ∈ ZL R.S) (k1 : ZF S0 a = stC 4 p 0 0 0 .null (.ref xe) .null .null (.ref y) .null .null .null 0) (k2 : xE R S0 Γ 408 16 xe (p + 1) q0 b b1 t) (k3 : isTy S0 t 1 0 none) (k4 : sN R S0 Λ gv m 1 y q0 q b1 c v w Γ Γ (0, 0, 0)) : Rt (f_layWhile R.K V S (some a)) (fun S2 _ => LyQ R S0 S E P Γ Γ L js Λ bw p q b c v w False 1 S2) := by
  have H2 := H
  obtain ⟨hF, hB, cc, k0, hG, hv, hw, hpq, hP, hl, hr⟩ := H
  have hL := hF.1.1
  have hY := hF.1.2.1
  have hlt := xE_lt k2
  have hbc := xE_bc k2
  have hlt2 := sN_lt k4
  have hmo2 := sN_mo k4
  have m1 := hB.mo (p := p) (q := p + 1) (by omega) (by omega)
  have m2 := hB.mo (p := p + 1) (q := q0) (by omega) (by omega)
  have m3 := hB.mo (p := q0) (q := q) (by omega) (by omega)
  have rT : ∀ {S' : Sg}, LX S0 S' → oI S' 19 (some a) 1 = some (nI p) := fun hx => hx.vi (by decide) (by decide) (oI_mk (hL a ha) k1 rfl)
  unfold f_layWhile
  refine Rt.bd (rT cc.1) (fue_ (E := E) (h0 := 0) (Γ0 := Γ) (s := mkV js) cc (by omega) (by omega) (by rw [wl_mk]; omega) nT_mk (fun S1 g1 kk1 hf1 => ?_))
  have kk1 := kk1 (Or.inr k0)
  refine Rt.bd (g1.1.1.vr (by decide) (by decide) (oR_mk (hL a ha) k1 (v := some xe) rfl)) ?_
  refine Rt.bn (sgv (p := p + 1) (q := q) (c := b1) (v := v) (w := v) ⟨hF, hB, g1.1, kk1, hG, hv, by omega, by omega, by omega, by omega, g1.rm hr (by omega) (by omega)⟩ k2 (Nat.le_refl _) hlt2) (fun S2 _ t2 => ?_)
  obtain ⟨P2, L2, g2, b1', b2', b3', b4', b5', kk2⟩ := t2
  rw [resE_b hY k3] at g2
  have hw1 : wl ([(0, 2, 0)] ++ mkV js) = 0 + 1 := by show wl ((0, 2, 0) :: mkV js) = _; rw [wl_0t, wl_mk]
  rw [hw1] at g2
  have e48 : Zi S2 48 - 1 = nI 0 := by rw [g2.1.2.2.1]; exact nI_pred 0
  refine g2.hs e48 (fun S3 g3 e3 => ?_)
  have kk3 : K0 S3 P2 := by unfold K0; rw [e3]; exact kk2
  refine Rt.bd (rT g3.1.1) ?_
  refine pnt_ (Lb := L2) (Sb := S3) (z := 0) (n := 0) (by omega) g3.1 LZ.rf (Nat.le_refl _) (by omega) (by omega) UsK.rf (fun S4 p4 _ => ?_)
  have g4 : GVo R S0 S3 S4 E P2 (P2 + 1) 0 Γ L2 L2 ([(0, 2, 0)] ++ mkV js) (mkV js) (fun k => k = P2) (mkV js) False False 0 0 := by
    refine gvj (K := 17) (pp := p) (Or.inr ⟨Or.inl rfl, fun w => w.elim⟩) p4 pl0_o (by omega) (by rw [hw1]; omega) (fun T _ _ => ?_)
    exact tP_17 rfl ⟨iD0_0, 2, T, mkV js, Or.inr rfl, rfl, rfl, Or.inr ⟨rfl, wkS.rf⟩, Or.inl ⟨rfl, wkS.rf⟩⟩
  have G4 := ((GVo.of (yD := mkV js) (cD := True) g1).tr (GVo.of (yD := mkV js) (cD := True) g3)).tr g4
  refine Rt.bd (g4.1.1.vr (by decide) (by decide) (oR_mk (hL a ha) k1 (v := some y) rfl)) ?_
  have r4 : RMl R S4 (20 * (bw q - bw q0)) (60 * (bw q - bw q0)) := ⟨by have := G4.2.2.2.1; have := hr.1; omega, by have := G4.2.2.2.2.1; have := hr.2; omega⟩
  refine Rt.bn (hV m hm y q0 q b1 c v w Γ k4 S4 (P2 + 1) L2 js ⟨hF, hB, g4.1, Or.inr (kk3.st g4.2.1 (Nat.le_succ _)), hG, hv, hw, by omega, by omega, by omega, r4.le (by omega) (by omega)⟩) (fun S5 _ t5 => ?_)
  obtain ⟨P5, L5, z5, n5, g5, d1, d2, d3, d4, d5⟩ := t5
  have G5 := G4.tr (GVo.of (yD := mkV js) (cD := True) g5)
  have hP5 : P2 + 1 ≤ P5 := g5.2.2.2.2.2.1
  refine Rt.bd (rT g5.1.1) ?_
  refine pnt_ (Lb := L5) (Sb := S5) (z := 0) (n := 0) (by omega) g5.1 LZ.rf (Nat.le_refl _) (by omega) (by omega) UsK.rf (fun S6 p6 _ => ?_)
  refine Rt.bd (wRI_n (show P5 < rlen 30 from by show P5 < 24000; omega) (by decide)) ?_
  have hf6 : Zr S6 27 P = 0 := by
    have z1 := (g3.2.1.2.1 P (by omega)).1 27 (by decide) (by decide)
    have z2 := (g4.2.1.2.1 P (by omega)).1 27 (by decide) (by decide)
    have z3 := (g5.2.1.2.1 P (by omega)).1 27 (by decide) (by decide)
    have z4 := (p6.2.1.2.1 P (by omega)).1 27 (by decide) (by decide)
    rw [z4, z3, z2, z1]; exact hf1
  have G6 := GVo.bk (y2 := mkV js) G5 p6 (by omega) (by omega) (by rw [wl_mk]; omega) hf6 nT_mk
  have e26 : Zi (Ur S6 30 (upd (Zr S6 30) P5 (nI P))) 26 = nI (P5 + 1) := G6.1.2.1
  rw [e26]
  refine Rt.bd (wRI_n (show P2 < rlen 30 from by show P2 < 24000; omega) (by decide)) (Rt.rt ?_)
  have G7 := G6.pj (k := P2) (Or.inl (Or.inr rfl)) wkS.rf (by omega)
  have g8 : GV R S0 S _ E P (P5 + 1) 0 0 Γ Γ L L5 (mkV js) (mkV js) (True ∧ _) _ _ := G7.cls (h := 0) (Γ := Γ) (fun k hk => by
    obtain ⟨w1, w2⟩ := hk
    rcases w1 with ((w1 | w1) | w1) | w1
    · exact w1
    · exact w1
    · exact w2 w1
    · exact w1)
  have kk6 : K0 S6 (P5 + 1) := by
    rcases d5 with e | e
    · omega
    · exact e.st p6.2.1 (Nat.le_succ _)
  refine LyQ.of hG (fun i hi => by have := hv i hi; omega) (g8.mo (fun w => w.elim) (Nat.le_refl _) (Nat.le_refl _)) (by omega) (by omega) (by omega) (by omega) ?_
  have hz1 : Zr (Ur (Ur S6 30 (upd (Zr S6 30) P5 (nI P))) 30 (upd (Zr (Ur S6 30 (upd (Zr S6 30) P5 (nI P))) 30) P2 (nI (P5 + 1)))) 27 = Zr S6 27 := by rw [Zr_un (by decide), Zr_un (by decide)]
  unfold K0; rw [hz1]; exact kk6
end LY33
end
