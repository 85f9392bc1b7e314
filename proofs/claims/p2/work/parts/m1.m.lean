theorem nI_16 (n : Nat) : 16 * nI n = nI (16 * n) := (Int32.ofNat_mul 16 n).symm
/-- an arm whose parts are looked at: the statement, the arm, its variable u number j -/
def PaA (R : yR) (S0 : Sg) (Λ : List Nat) (a y xe p1 px i g mk j u ty v : Nat) (mu : Int32) (tx : Nat → Nat) : Prop := (a ∈ ZL R.S ∧ ∃ fs : List Value, ZF S0 a = .inr (19, fs) ∧ fs[3]? = some (.int mu) ∧ fs[6]? = some (.ref xe)) ∧ (xe ∈ ZL R.S ∧ ∃ gs : List Value, ZF S0 xe = .inr (15, gs) ∧ gs[1]? = some (.int (nI px)) ∧ px < R.T) ∧ (y ∈ ZL R.S ∧ ∃ ys : List Value, ZF S0 y = .inr (13, ys) ∧ ys[1]? = some (.int (nI g)) ∧ ys[4]? = some (.ref (y + 2))) ∧ (y + 2 ∈ ZL R.S ∧ ∃ fv : Nat → Option Nat, ZF S0 (y + 2) = .inl (R.K.1 5, 12, .inr (.inr (.inr (.inr fv)))) ∧ fv j = some u) ∧ enY R S0 i g mk tx ∧ j < mk ∧ Λ[v + j]? = some u ∧ (∃ nm : Int32, isV S0 u (v + j) nm (some ty) 0) ∧ ((mu = 0 ∧ isTy S0 ty 6 0 (some (tx j))) ∨ (mu = 1 ∧ isTy S0 ty 7 0 (some (tx j))))
section LY38
variable {R : yR} {S0 Sb S S1 S2 S3 : Sg} {P P1 P2 P3 h h0 h1 h2 hc L L1 L2 Lb z n z2 n2 : Nat} {Γ Γ0 Γ1 Γ2 Λ : List Nat} {E : eV} {s s1 s2 : List tE} {gv : Nat} {js ks : List Nat}
/-- the types are copied; then the path is whole -/
theorem lp64 {w va ix tv xt a y xe p1 px i g mk j u ty v : Nat} {mu : Int32} {tx : Nat → Nat} {ρ : List (Nat × Nat)} {Q : Sg → Unit → Prop} {zz nn : Nat} (c : LC R S0 S P h Γ L) (hL : RIn R S0) (pw : isPw R S0 S w va ix tv ρ xt) (hl : ρ.length ≤ 4) (hx4 : isTy S0 xt 4 (nI i) none) (hA : PaA R S0 Λ a y xe p1 px i g mk j u ty v mu tx) (hmk : mk ≤ 12) (hg12 : g < 12) (hvt : vTy S0 (tx j))
  (k : ∀ (A : Sg), NW S A → isPw R S0 A (Zz S) va ix tv (ρ ++ [(g + 2, j)]) (tx j) → (Zz S ∉ ZL S ∧ ZF A (Zz S) = .inr (18, [.ref va, .int (nI (ρ.length + 1)), .ref (Zz S + 1), .ref (Zz S + 2)]) ∧ Zz S + 1 ∉ ZL S) → Zz A = zz → Zn A = nn → Rt ((oR A 19 (some a) 6).bind fun v25 =>
    (oI A 15 v25 1).bind fun v26 =>
    bnd (f_point R.K A 23 v26) fun S27 v28 =>
    bnd (f_through R.K S27 v28 (some (Zz S))) fun S29 v30 =>
    (oR S29 13 (some y) 4).bind fun v31 =>
    (aQ R.K 5 S29 v31 (nI j)).bind fun v32 =>
    (wQ S29 21 40 v28 v32).bind fun S33 =>
    (oI S33 19 (some a) 3).bind fun v34 =>
    if v34 = 0 then (f_layPart_202 R.K S33 (some y) (nI j) v28 1 (some (Zz S)) v28) else (f_layPart_202 R.K S33 (some y) (nI j) v28 0 (some (Zz S)) v28)) Q) : ∀ (d t : Nat) (A : Sg) (f : Nat → Int32) (gq : Nat → Option Nat), ρ.length + 1 < t + d → t ≤ ρ.length + 1 → PBd R.K S A (Zz S) (ρ.length + 1) (.ref va) f gq zz nn → (∀ (sa ta : Nat) (fp : Nat → Int32) (gp : Nat → Option Nat), ZF S w = .inr (18, [.ref va, .int (nI ρ.length), .ref sa, .ref ta]) → ZF S sa = .inl (R.K.1 0, ρ.length, .inl fp) → ZF S ta = .inl (R.K.1 4, ρ.length + 1, .inr (.inr (.inr (.inr gp)))) → (∀ l : Nat, l < ρ.length → f l = fp l) ∧ ∀ l : Nat, l < t → gq l = gp l) → Rt (f_layPart_64 R.K d A (some a) (some y) (nI j) (some w) (some (Zz S)) (nI t)) Q
  | 0, t, A, f, gq, h1, h2, _, _ => by omega
  | d + 1, t, A, f, gq, h1, h2, b, hf => by
    have pw2 := pw
    obtain ⟨sa, ta, fp, gp, q1, q2, q3, q4, q5, q6, nm, mt, q7⟩ := pw2
    obtain ⟨w1, w2⟩ := b.1.lx.ob q1 q2 (by decide) (by decide)
    obtain ⟨t1, t2⟩ := b.1.lx.ro q4.1 q4.2
    obtain ⟨hf1, hf2⟩ := hf sa ta fp gp q2 q3.2 q4.2
    have hxA : LX S0 A := c.1.tr b.1.lx
    unfold f_layPart_64
    refine Rt.bd (oI_mk w1 w2 (v := nI ρ.length) rfl) (Rt.it (fun q => ?_) (fun q => ?_))
    · have ht : t = ρ.length + 1 := by
        by_cases e : t = ρ.length + 1
        · exact e
        · exfalso
          have hle : nI t ≤ nI ρ.length := nI_le (a := t) (b := ρ.length) (by omega) (by omega)
          exact absurd q (Int32.not_lt.mpr hle)
      subst ht
      obtain ⟨⟨ha, fs, a1, a2, a3⟩, ⟨he, gs, e1, e2, e3⟩, ⟨hy, ys, y1, y2, y3⟩, ⟨hy2, fv, v1, v2⟩, hen, hj, hΛ, ⟨nmu, hV⟩, hty⟩ := hA
      refine Rt.bd (oR_mk b.2.2.1.1 b.2.2.1.2 (v := some (Zz S + 1)) rfl) (Rt.bd (oI_mk w1 w2 (v := nI ρ.length) rfl) (Rt.bd (hxA.vi (by decide) (by decide) (oI_mk (hL y hy) y1 y2)) ?_))
      have e16 : (1000 + 16 * nI g) + nI j = sCo (g + 2, j) := by
        unfold sCo
        rw [if_neg (by show g + 2 ≠ 0; omega), if_neg (by show g + 2 ≠ 1; omega), nI_16]
        show nI 1000 + nI (16 * g) + nI j = nI (1000 + 16 * (g + 2 - 2) + j)
        rw [nI_add, nI_add, show g + 2 - 2 = g by omega]
      rw [e16]
      refine Rt.bd (bI_n (j := ρ.length) b.2.2.2.1.1 b.2.2.2.1.2 (by omega) (by omega)) ?_
      have b1 := b.wf (f2 := upd f ρ.length (sCo (g + 2, j)))
      generalize UF A (Zz S + 1) (.inl (R.K.1 0, ρ.length + 1, .inl (upd f ρ.length (sCo (g + 2, j))))) = B at b1
      have hxB : LX S0 B := c.1.tr b1.1.lx
      obtain ⟨w1', w2'⟩ := b1.1.lx.ob q1 q2 (by decide) (by decide)
      obtain ⟨r1, r2⟩ := hxB.ro (hL _ hy2) v1
      obtain ⟨wh, u1, u2, _⟩ := (c.nw b1.1).2.2.2.2.2.2.1 u (v + j) nmu (some ty) 0 hV
      have hty3 : oR B 20 (some ty) 3 = some (some (tx j)) := by
        rcases hty with ⟨_, w⟩ | ⟨_, w⟩
        · obtain ⟨ti, _, _, z3, z4⟩ := hxB.ty w; exact oR_mk z3 z4 (v := some (tx j)) rfl
        · obtain ⟨ti, _, _, z3, z4⟩ := hxB.ty w; exact oR_mk z3 z4 (v := some (tx j)) rfl
      have hok : okO B 20 (some (tx j)) = true := hxB.okT (by obtain ⟨kd, ix, o, q, _⟩ := hvt.ty; exact ⟨kd, ix, o, q⟩)
      refine Rt.bd (oR_mk b1.2.2.1.1 b1.2.2.1.2 (v := some (Zz S + 2)) rfl) (Rt.bd (oI_mk w1' w2' (v := nI ρ.length) rfl) (Rt.bd (hxB.vr (by decide) (by decide) (oR_mk (hL y hy) y1 (v := some (y + 2)) y3)) (Rt.bd (by rw [aQ_n r1 r2 (show j < 12 by omega) (by decide), v2]) (Rt.bd (oR_mk u1 u2 (v := some ty) rfl) (Rt.bd hty3 ?_)))))
      rw [nI_1]
      refine Rt.bd (bQ_n (j := ρ.length + 1) b1.2.2.2.2.1.1 b1.2.2.2.2.1.2 (by omega) (by omega) hok) ?_
      have b2 := b1.wg (g2 := va_up gq (ρ.length + 1) (some (tx j)))
      generalize UF B (Zz S + 2) (.inl (R.K.1 4, ρ.length + 1 + 1, .inr (.inr (.inr (.inr (va_up gq (ρ.length + 1) (some (tx j)))))))) = C at b2
      refine k C b2.1 ?_ ⟨b2.2.1.1, b2.2.2.1.2, b2.2.1.2.1⟩ b2.2.2.2.2.2.1 b2.2.2.2.2.2.2
      have hwy : wyT R S0 (upd f ρ.length (sCo (g + 2, j))) (va_up gq (ρ.length + 1) (some (tx j))) ρ xt := q5.cg (fun l hl => by rw [upd_n (by omega)]; exact hf1 l hl) (fun l hl => by rw [va_up_ne _ _ (by omega)]; exact hf2 l (by omega))
      refine b2.pw (by rw [List.length_append]; rfl) (hwy.ap upd_s (va_up_self _ _ _) (Or.inr (Or.inr ⟨i, g, j, mk, tx, rfl, hx4, hen, hj, rfl⟩)) (Or.inl hvt)) q7 ?_
      rw [va_up_ne _ _ (by omega), hf2 0 (by omega)]; exact q6
    · have hlt : t ≤ ρ.length := by
        by_cases e : t ≤ ρ.length
        · exact e
        · have : nI ρ.length < nI t := by
            rw [show t = ρ.length + 1 by omega]
            exact nI_lt (by omega) (by omega)
          exact absurd this q
      have hgp : ∃ x : Nat, gp t = some x ∧ rTy S0 x := by
        by_cases e : t < ρ.length
        · obtain ⟨s9, hs9⟩ : ∃ s9, ρ[t]? = some s9 := ⟨_, List.getElem?_eq_getElem e⟩
          obtain ⟨_, x9, y9, z1, _⟩ := q5.1 t s9 hs9
          exact ⟨x9, z1, q5.2.1 t x9 (by omega) z1⟩
        · have : t = ρ.length := by omega
          subst this
          exact ⟨xt, q5.2.2, q5.2.1 _ xt (Nat.le_refl _) q5.2.2⟩
      obtain ⟨x9, z1, z2⟩ := hgp
      have hok : okO A 20 (some x9) = true := hxA.okT (by obtain ⟨kd, ix, o, q, _⟩ := z2.ty; exact ⟨kd, ix, o, q⟩)
      refine Rt.bd (oR_mk b.2.2.1.1 b.2.2.1.2 (v := some (Zz S + 2)) rfl) (Rt.bd (oR_mk w1 w2 (v := some ta) rfl) (Rt.bd (by rw [aQ_n t1 t2 (show t < ρ.length + 1 by omega) (by omega), z1]) (Rt.bd (bQ_n (j := t) b.2.2.2.2.1.1 b.2.2.2.2.1.2 (by omega) (by omega) hok) ?_)))
      rw [nI_1]
      refine lp64 c hL pw hl hx4 hA hmk hg12 hvt k d (t + 1) _ f _ (by omega) (by omega) (b.wg (g2 := va_up gq t (some x9))) (fun sa' ta' fp' gp' e1 e2 e3 => ?_)
      obtain ⟨rfl, rfl⟩ : sa' = sa ∧ ta' = ta := by rw [q2] at e1; cases e1; exact ⟨rfl, rfl⟩
      obtain rfl : fp' = fp := by rw [q3.2] at e2; cases e2; rfl
      obtain rfl : gp' = gp := by rw [q4.2] at e3; cases e3; rfl
      refine ⟨hf1, fun l hl => ?_⟩
      by_cases e : l = t
      · subst e; rw [va_up_self, z1]
      · rw [va_up_ne _ _ e]; exact hf2 l (by omega)
end LY38
