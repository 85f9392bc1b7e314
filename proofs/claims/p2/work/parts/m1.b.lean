section LY27
variable {R : yR} {S0 Sb S S1 S2 : Sg} {P h h0 hc L Lb z n : Nat} {Γ Γ0 Γ1 Γ2 Λ : List Nat} {E : eV} {s s2 e : List tE} {gv : Nat} {js js1 ks : List Nat} {x : pRc}
/-- the whole path of a variable, as a place -/
theorem whP.pt {a w ix : Nat} {nm mu : Int32} {ty : Option Nat} (c : LC R S0 S P h Γ L) (q : whP R S a w ty) (hV : isV S0 a ix nm ty mu) (ht : ∀ x : Nat, ty = some x → rTy S0 x) : isPt R S0 S w ix [] (abU S0 ty) ∧ isU S a ix ty mu := by
  obtain ⟨sa, ta, f, g, q1, q2, q3, q4, q5⟩ := q
  obtain ⟨wh, w1, w2, w3⟩ := c.2.2.2.2.2.2.1 a ix nm ty mu hV
  have hU : isU S a ix ty mu := ⟨w1, nm, wh, w2⟩
  refine ⟨⟨a, sa, ta, f, g, mu, q1, q2, by rw [q5]; exact hU, q3, q4, (fun j s e => by cases e), fun j x hj e => ?_, (by show _ = abU S0 (g 0); rw [q5]), (by decide)⟩, hU⟩
  have hj : j = 0 := Nat.le_zero.mp hj
  subst hj
  exact ht x (q5.symm.trans e)
theorem whP.va {a w : Nat} {ty : Option Nat} (q : whP R S a w ty) : pVa S w a := by
  obtain ⟨_, _, _, _, _, q2, _⟩ := q
  exact ⟨_, q2, rfl⟩
theorem PN.bs {w : Nat} (q : PN S0 S S1 w) (hl : LX Sb S) (hu : UsK S0 Sb S) : PN S0 Sb S1 w := fun gs a e1 e2 ha => hu a ha (q gs a e1 e2 (hl.1 a ha).1)
/-- a variable goes out -/
theorem out1 {i y tk : Nat} {k x2 : Int32} {g : Sg → Option (Sg × Unit)} {Q : Sg → Unit → Prop} (hF : FEn R S0 E Λ gv) (hi : Λ[i]? = some y) (hj : ∀ j ∈ js, j < i) (he : e = [] ∨ (e = [eT E.gv] ∧ E.gv ≠ 0)) (c : LC R S0 S P h Γ L) {kk : Nat} (hk : k = nI kk) (hk2 : kk < 40) (hΓ : Γ[kk]? = some y) (hx2 : x2 = nI tk) (htk : tk < R.T) (hP : P < 24000) (hr : RMl R S 3 5) (kn : ∀ S2 : Sg, GV R S0 S S2 E P (P + 1) h0 h Γ0 Γ L L (e ++ mkV (i :: js)) (e ++ mkV js) False 3 5 → Rt (g S2) Q) : Rt (bnd (f_point R.K S 24 x2) fun S1 v2 =>
    (rQ S1 49 k).bind fun v3 =>
    (wQ S1 21 40 v2 v3).bind fun S4 =>
    (wRI S4 33 v2 7).bind fun S5 =>
    (rQ S5 49 k).bind fun v6 =>
    (oI S5 21 v6 0).bind fun v7 =>
    (wRI S5 34 v2 v7).bind fun S8 =>
    (rQ S8 49 k).bind fun v9 =>
    bnd (f_wholeOf R.K S8 v9) fun S10 v11 =>
    (wQ S10 18 38 v2 v11).bind g) Q := by
  subst hk hx2
  obtain ⟨r1, r2⟩ := hr
  obtain ⟨⟨i40, iad⟩, nm, mu, ty, hV, hvt, hty⟩ := hF.2.1 i y hi
  have rq : ∀ {S' : Sg} {P' h' L' : Nat}, LC R S0 S' P' h' Γ L' → rQ S' 49 (nI kk) = some (some y) := fun c' => by rw [rQ_n (show kk < rlen 49 from hk2) (by decide), c'.2.2.2.1.2 kk y hΓ]
  have rv : ∀ {S' : Sg} {P' h' L' : Nat}, LC R S0 S' P' h' Γ L' → okO S' 21 (some y) = true ∧ oI S' 21 (some y) 0 = some (nI i) := fun c' => by
    obtain ⟨wh, w1, w2, _⟩ := c'.2.2.2.2.2.2.1 y i nm ty mu hV
    exact ⟨okO_mk w1 w2, oI_mk w1 w2 rfl⟩
  refine pnt_ (Lb := L) (Sb := S) (z := 0) (n := 0) hP c LZ.rf (Nat.le_refl _) (by omega) (by omega) UsK.rf (fun S1 p1 _ => ?_)
  refine Rt.bd (rq p1.1) (p1.wO hP (by decide) (rv p1.1).1 (Or.inl (by decide)) (fun S2 p2 _ => ?_))
  refine p2.wI hP (by decide) (fun S3 p3 _ => ?_)
  refine Rt.bd (rq p3.1) (Rt.bd (rv p3.1).2 (p3.wI hP (by decide) (fun S4 p4 _ => ?_)))
  have z4 := p4.2.2.2.1
  have n4 := p4.2.2.2.2.1
  refine Rt.bd (rq p4.1) (Rt.bn (whl_ p4.1 hV (fun x ex => by obtain ⟨kd, ix, o, q, _⟩ := (hty x ex).ty; exact ⟨kd, ix, o, q⟩) (by omega) (by omega)) (fun S5 v5 t5 => ?_))
  obtain ⟨w, rfl, c5, k5, w5, z5, n5, u5, pn5⟩ := t5
  have p5 := p4.kx (z2 := 3) (n2 := 5) c5 k5 u5 (by omega) (by omega)
  have hwm : w ∈ ZL S5 ∧ okO S5 18 (some w) = true := by obtain ⟨_, _, _, _, h1, h2, _⟩ := w5; exact ⟨h1, okO_mk h1 h2⟩
  refine p5.wO hP (by decide) hwm.2 (Or.inr ⟨rfl, fun w' e => by cases e; exact ⟨hwm.1, pn5.bs p4.2.1.1 p4.2.2.2.2.2.2.1⟩⟩) (fun S6 p6 e6 => kn S6 ?_)
  obtain ⟨hp6, hu6⟩ := (w5.st e6.1).pt p6.1 hV hty
  refine ⟨p6.1, p6.2.1, tsg.one (i := (24, 7, some (i, [], E.vt i), (some i, none), ([], []), [P + 1], (E.vt i, y, 0), [i])) (rz_g (K := 24) rfl p6.2.2.1 (by decide) (by decide) rfl rfl (by show (7 : Nat) < 8; decide) rfl rfl (Or.inl ⟨rfl, rfl⟩) (Or.inl ⟨rfl, rfl⟩) ⟨tk, rfl, htk⟩ (Or.inr ⟨w, i, E.vt i, [], rfl, rfl, ?_⟩) (fun l e => by cases e) rfl rfl (fun w => absurd w (by decide)) (fun w => absurd w (by decide)) (fun w => absurd w (by decide)) (fun _ => ⟨y, i, ty, mu, rfl, rfl, hu6, hvt.symm, hty⟩) (fun w => absurd w (by decide)) (fun w => absurd w (by decide))) (fun l e => by cases e) (fun j hj => List.mem_singleton.mp hj) ?_ (tP_24 rfl ⟨rfl, rfl, rfl, rfl, i, e, mkV js, rfl, ⟨i40, iad⟩, rfl, rfl, rfl, rfl, fun w => ?_, he, wl_mk, rfl, wkS.rf⟩) (fun w => w.elim), p6.2.2.2.1, p6.2.2.2.2.1, Nat.le_succ _, Nat.le_refl _, p6.2.2.2.2.2.2⟩
  · rw [hvt]; exact ⟨hp6, (w5.st e6.1).va⟩
  · rcases he with he | ⟨he, _⟩
    · rw [he]; show wl (mkV (i :: js)) ≤ 177; rw [wl_mk]; omega
    · rw [he]; show wl (eT E.gv :: mkV (i :: js)) ≤ 177; rw [wl_eT, wl_mk]; omega
  · have := hj i (mkV_m w); omega
/-- variables go out -/
theorem gou7 {tk : Nat} {x1 x2 : Int32} (hF : FEn R S0 E Λ gv) (he : e = [] ∨ (e = [eT E.gv] ∧ E.gv ≠ 0)) (hx1 : x1 = nI js1.length) (hx2 : x2 = nI tk) (htk : tk < R.T) : ∀ (ks : List Nat) (m : Nat) (S : Sg) (P : Nat) (Γ1 Γt : List Nat), LC R S0 S P h Γ L → GJ Λ Γ1 (ks ++ js1) → Γ = Γ1 ++ Γt → Γ.length ≤ 40 → ks.length < m → P + ks.length < 24000 → RMl R S (3 * ks.length) (5 * ks.length) → Rt (f_goOut_7 R.K m S x1 x2 (nI (ks.length + js1.length) - 1)) (fun S2 _ => GV R S0 S S2 E P (P + ks.length) h0 h Γ0 Γ L L (e ++ mkV (ks ++ js1)) (e ++ mkV js1) False (3 * ks.length) (5 * ks.length))
  | _, 0, _, _, _, _, _, _, _, _, hm, _, _ => by omega
  | [], m + 1, S, P, Γ1, Γt, c, hG, hΓ, h40, hm, hP, hr => by
    have hl := hG.len
    have hl2 : Γ.length = Γ1.length + Γt.length := by rw [hΓ, List.length_append]
    rw [List.nil_append] at hl
    unfold f_goOut_7
    refine Rt.ip ?_ (Rt.rt ⟨c, LZ.rf, tsg.nil wkS.rf, by omega, by omega, Nat.le_refl _, Nat.le_refl _, RFx.rf⟩)
    rw [hx1]
    exact (nI_p1 (by show 0 + js1.length ≤ 6000; omega) (by omega)).mpr (by show 0 + js1.length ≤ js1.length; omega)
  | i :: ks, m + 1, S, P, Γ1, Γt, c, hG, hΓ, h40, hm, hP, hr => by
    have hl := hG.len
    have hl2 : Γ.length = Γ1.length + Γt.length := by rw [hΓ, List.length_append]
    rw [List.length_append] at hl
    have hl : Γ1.length = ks.length + 1 + js1.length := hl
    have hm : ks.length + 1 < m + 1 := hm
    have hP : P + (ks.length + 1) < 24000 := hP
    have hr : RMl R S (3 * (ks.length + 1)) (5 * (ks.length + 1)) := hr
    obtain ⟨Γ9, y, g1, g2, g3, g4⟩ := hG
    have g4 : GJ Λ Γ9 (ks ++ js1) := g4
    have hl9 : Γ9.length = ks.length + js1.length := by
      have := g4.len; rw [List.length_append] at this; exact this
    have e0 : nI ((i :: ks).length + js1.length) - 1 = nI (ks.length + js1.length) := by
      rw [show (i :: ks).length + js1.length = (ks.length + js1.length) + 1 by show ks.length + 1 + js1.length = _; omega]; exact nI_pred _
    unfold f_goOut_7
    refine Rt.iq (fun w => ?_) ?_
    · rw [hx1] at w
      have := (nI_p1 (j := (i :: ks).length + js1.length) (a := js1.length) (by show ks.length + 1 + js1.length ≤ 6000; omega) (by omega)).mp w
      have : ks.length + 1 + js1.length ≤ js1.length := this
      omega
    · rw [e0]
      refine out1 (h0 := h0) (Γ0 := Γ0) (js := ks ++ js1) hF g2 g3 he c (kk := ks.length + js1.length) rfl (by omega) ?_ hx2 htk (by omega) ⟨by have := hr.1; omega, by have := hr.2; omega⟩ (fun S2 gg => ?_)
      · rw [hΓ, g1, List.getElem?_append_left (by rw [List.length_append]; show _ < Γ9.length + 1; omega), List.getElem?_append_right (by omega), show ks.length + js1.length - Γ9.length = 0 by omega]; rfl
      · have e1 : nI (ks.length + js1.length) + (-1) = nI (ks.length + js1.length) - 1 := by
          exact (Int32.sub_eq_add_neg _ _).symm
        rw [e1]
        refine (gou7 hF he hx1 hx2 htk ks m S2 (P + 1) Γ9 ([y] ++ Γt) gg.1 g4 (by rw [hΓ, g1, List.append_assoc]) h40 (by omega) (by omega) (gg.rm hr (by omega) (by omega))).mo (fun S3 _ g3 => ?_)
        have g3 : GV R S0 S2 S3 E (P + 1) (P + 1 + ks.length) h h Γ Γ L L (e ++ mkV (ks ++ js1)) (e ++ mkV js1) False (3 * ks.length) (5 * ks.length) := g3
        have := gg.tr g3 (cl3 := False) (fun w => w.elim) (Nat.le_refl _) (Nat.le_refl _)
        rw [show P + (i :: ks).length = P + 1 + ks.length by show P + (ks.length + 1) = _; omega, show 3 * (i :: ks).length = 3 + 3 * ks.length by show 3 * (ks.length + 1) = _; omega, show 5 * (i :: ks).length = 5 + 5 * ks.length by show 5 * (ks.length + 1) = _; omega]
        exact this
theorem gou_ {tk : Nat} {x1 x2 : Int32} (hF : FEn R S0 E Λ gv) (he : e = [] ∨ (e = [eT E.gv] ∧ E.gv ≠ 0)) (hx1 : x1 = nI js1.length) (hx2 : x2 = nI tk) (htk : tk < R.T) (c : LC R S0 S P h Γ L) (hG : GJ Λ Γ (ks ++ js1)) (h40 : Γ.length ≤ 40) (hP : P + ks.length < 24000) (hr : RMl R S (3 * ks.length) (5 * ks.length)) : Rt (f_goOut R.K S x1 x2) (fun S2 _ => GV R S0 S S2 E P (P + ks.length) h0 h Γ0 Γ L L (e ++ mkV (ks ++ js1)) (e ++ mkV js1) False (3 * ks.length) (5 * ks.length)) := by
  unfold f_goOut
  have hl := hG.len
  rw [List.length_append] at hl
  rw [c.2.2.2.1.1, hl]
  exact gou7 (Γ1 := Γ) (Γt := []) hF he hx1 hx2 htk ks bigN S P c hG (List.append_nil _).symm h40 (by unfold bigN; omega) hP hr
end LY27
