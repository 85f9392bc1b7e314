section LY37
variable {R : yR} {S0 Sb S S1 S2 S3 : Sg} {P P1 P2 P3 h h0 h1 h2 hc L L1 L2 Lb z n z2 n2 : Nat} {Γ Γ0 Γ1 Γ2 Λ : List Nat} {E : eV} {s s1 s2 : List tE} {gv : Nat} {js ks : List Nat} {f f2 : Nat → Int32} {g g2 : Nat → Option Nat}
theorem wyT.cg {π : List (Nat × Nat)} {x : Nat} (h : wyT R S0 f g π x) (hf : ∀ j : Nat, j < π.length → f2 j = f j) (hg : ∀ j : Nat, j ≤ π.length → g2 j = g j) : wyT R S0 f2 g2 π x := by
  obtain ⟨h1, h2, h3⟩ := h
  refine ⟨fun j s e => ?_, fun j u hj e => ?_, (hg _ (Nat.le_refl _)).trans h3⟩
  · have hj := (List.getElem?_eq_some_iff.mp e).1
    rw [hf j hj, hg j (by omega), hg (j + 1) (by omega)]
    exact h1 j s e
  · rw [hg j hj] at e; exact h2 j u hj e
/-- a path that goes one step further is made -/
theorem npp_ {w va ix tv xt k9 : Nat} {ρ : List (Nat × Nat)} {g : Sg → Nat → Option (Sg × Unit)} {Q : Sg → Unit → Prop} (c : LC R S0 S P h Γ L) (pw : isPw R S0 S w va ix tv ρ xt) (hl : ρ.length ≤ 4) (h1 : Zz S + 3 ≤ R.K.2.1) (h2 : Zn S + 15 ≤ R.K.2.2) (k : ∀ (A : Sg), PBd R.K S A (Zz S) (ρ.length + 1) (.ref va) (fun _ => 0) (fun _ => none) (Zz S + 3) (Zn S + 4 + (ρ.length + 1) + (ρ.length + 1 + 1)) → Rt (g A (Zz S)) Q) : Rt (bnd (nO R.K S 18 4 [.null, .int 0, .null, .null]) fun S1 a2 =>
  (oI S1 18 (some w) 1).bind fun v3 =>
  bnd (f_X18_init R.K S1 a2 (v3 + 1)) fun S4 _ =>
  (oR S4 18 (some w) 0).bind fun v6 =>
  (pV S4 18 (some a2) 0 (va_rf v6)).bind fun S7 =>
  g S7 a2) Q := by
  have hz := c.hz
  obtain ⟨sa, ta, f, gg, q1, q2, _⟩ := pw
  refine FRC.rO hz (by omega) (by omega) (fun A fA => ?_)
  obtain ⟨a1, a2⟩ := fA.1.lx.ob q1 q2 (by decide) (by decide)
  refine Rt.bd (oI_mk a1 a2 (v := nI ρ.length) rfl) ?_
  rw [nI_1]
  refine Rt.bn (Q := fun S1 _ => NPA R.K S S1 (ρ.length + 1)) ?_ (fun B _ qB => ?_)
  · unfold f_X18_init
    refine fA.rP hz rfl rfl (fun B fB => ?_)
    refine fB.rA (by omega) (by omega) (by omega) (fun C fC => ?_)
    refine fC.rP hz rfl rfl (fun D fD => ?_)
    rw [nI_1]
    refine fD.rQ (by omega) (by omega) (by omega) (fun G fG => ?_)
    exact fG.rP hz rfl rfl (fun H fH => Rt.rt fH)
  · have b := PBd.o1 qB hz
    obtain ⟨b1, b2⟩ := b.1.lx.ob q1 q2 (by decide) (by decide)
    refine Rt.bd (oR_mk b1 b2 (v := some va) rfl) ?_
    exact Rt.bd (pV_e (f2 := [.ref va, .int (nI (ρ.length + 1)), .ref (Zz S + 1), .ref (Zz S + 2)]) b.2.2.1.1 b.2.2.1.2 rfl rfl) (k _ b.wo)
/-- the steps are copied -/
theorem lp29 {w va ix tv xt N z m : Nat} {ρ : List (Nat × Nat)} {x1 x2 : Option Nat} {x3 : Int32} {Q : Sg → Unit → Prop} (pw : isPw R S0 S w va ix tv ρ xt) (hl : ρ.length ≤ 4) (hN : N = ρ.length + 1) (hW : Zz S ∉ ZL S) (k : ∀ (A : Sg) (f : Nat → Int32) (sa ta : Nat) (fp : Nat → Int32) (gp : Nat → Option Nat), PBd R.K S A (Zz S) N (.ref va) f (fun _ => none) z m → ZF S w = .inr (18, [.ref va, .int (nI ρ.length), .ref sa, .ref ta]) → ZF S sa = .inl (R.K.1 0, ρ.length, .inl fp) → (∀ j : Nat, j < ρ.length → f j = fp j) → Rt (f_layPart_64 R.K bigN A x1 x2 x3 (some w) (some (Zz S)) 0) Q) : ∀ (d j : Nat) (A : Sg) (f : Nat → Int32), ρ.length < j + d → j ≤ ρ.length → PBd R.K S A (Zz S) N (.ref va) f (fun _ => none) z m → (∀ (sa ta : Nat) (fp : Nat → Int32), ZF S w = .inr (18, [.ref va, .int (nI ρ.length), .ref sa, .ref ta]) → ZF S sa = .inl (R.K.1 0, ρ.length, .inl fp) → ∀ i : Nat, i < j → f i = fp i) → Rt (f_layPart_29 R.K d A x1 x2 x3 (some w) (some (Zz S)) (nI j)) Q
  | 0, j, A, f, h1, h2, _, _ => by omega
  | d + 1, j, A, f, h1, h2, b, hf => by
    have pw2 := pw
    obtain ⟨sa, ta, fp, gp, q1, q2, q3, q4, q5, q6, nm, mt, q7⟩ := pw2
    obtain ⟨w1, w2⟩ := b.1.lx.ob q1 q2 (by decide) (by decide)
    obtain ⟨s1, s2⟩ := b.1.lx.ro q3.1 q3.2
    unfold f_layPart_29
    refine Rt.bd (oI_mk w1 w2 (v := nI ρ.length) rfl) (Rt.it (fun q => ?_) (fun q => ?_))
    · have : ρ.length ≤ j := (nI_leI (by omega) (by omega)).mp q
      exact k A f sa ta fp gp b q2 q3.2 (fun i hi => hf sa ta fp q2 q3.2 i (by omega))
    · have hlt : j < ρ.length := by
        by_cases e : j < ρ.length
        · exact e
        · exact absurd (nI_le (a := ρ.length) (b := j) (by omega) (by omega)) q
      refine Rt.bd (oR_mk b.2.2.1.1 b.2.2.1.2 (v := some (Zz S + 1)) rfl) (Rt.bd (oR_mk w1 w2 (v := some sa) rfl) (Rt.bd (aI_n s1 s2 hlt (by omega)) ?_))
      refine Rt.bd (bI_n (j := j) b.2.2.2.1.1 b.2.2.2.1.2 (by omega) (by omega)) ?_
      rw [nI_1]
      refine lp29 pw hl hN hW k d (j + 1) _ _ (by omega) (by omega) (b.wf (f2 := upd f j (fp j))) (fun sa' ta' fp' e1 e2 i hi => ?_)
      obtain ⟨rfl, rfl⟩ : sa' = sa ∧ ta' = ta := by rw [q2] at e1; cases e1; exact ⟨rfl, rfl⟩
      obtain rfl : fp' = fp := by rw [q3.2] at e2; cases e2; rfl
      by_cases e : i = j
      · subst e; rw [upd_s]
      · rw [upd_n e]; exact hf sa' ta' fp' q2 q3.2 i (by omega)
end LY37
