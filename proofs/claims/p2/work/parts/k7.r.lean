section LIA
variable {R : yR} {c nv : Nat} {S : Sg}
/-- x is the type of a part of variant k -/
def fdV (R : yR) (S : Sg) (fv : Nat → Option Nat) (k x : Nat) : Prop := ∃ (pa wa ta mk l : Nat) (f : Nat → Option Nat), fv k = some pa ∧ ZF S pa = .inr (17, [.int (nI mk), .ref wa, .ref ta]) ∧ mk ≤ 12 ∧ ZF S ta = .inl (R.K.1 4, 12, .inr (.inr (.inr (.inr f)))) ∧ l < mk ∧ f l = some x
theorem lieE (h : TS R c nv S) {i j mn vr : Nat} {fs : List Value} {fv : Nat → Option Nat} (hw : R.ws i ∈ ZL S) (hF : ZF S (R.ws i) = .inr (16, fs)) (h2 : fs[2]? = some (.int 11)) (h3 : fs[3]? = some (.int (nI mn))) (hmn : mn ≤ 12) (h11 : fs[11]? = some (.ref vr)) (hvr : vr ∈ ZL S) (hvF : ZF S vr = .inl (R.K.1 13, 13, .inr (.inr (.inr (.inr fv))))) (hpa : ∀ k : Nat, k < mn → ∃ (pa mk : Nat) (f : Nat → Option Nat), fv k = some pa ∧ paY R S pa mk f) : ∀ (m k : Nat), mn < k + m → k ≤ mn → (∀ (l x : Nat), l < k → fdV R S fv l x → nIt S x j) → Rt (f_lies_10 R.K m S (nI j) (some (R.ws i)) (nI k)) (fun S2 r => S2 = S ∧ (r = 1 ∨ (r = 0 ∧ ∀ (l x : Nat), l < mn → fdV R S fv l x → nIt S x j)))
  | 0, k, h1, h2, _ => by omega
  | m + 1, k, hk1, hk2, hd => by
    unfold f_lies_10
    refine Rt.bd (oI_mk hw hF h3) (Rt.it (fun w9 => ?_) (fun w9 => ?_))
    · have := (nI_leI (a := mn) (b := k) (by omega) (by omega)).mp w9
      exact Rt.zr (Or.inl rfl) ⟨rfl, Or.inr ⟨rfl, fun l x hl => hd l x (by omega)⟩⟩
    have hlt : k < mn := by
      rcases Nat.lt_or_ge k mn with z | z
      · exact z
      · exact absurd (nI_le z (by omega)) w9
    refine Rt.bd (oI_mk hw hF h2) (Rt.iq (by decide) ?_)
    unfold f_lies_44
    obtain ⟨pa, mk, f, p1, p2, p3⟩ := hpa k hlt
    rcases p3 with ⟨p3, p4⟩ | ⟨wa, ta, p3, p4, p5⟩
    · unfold bigN f_lies_47 f_lies_99
      refine Rt.bd (oI_mk hw hF h2) (Rt.ip rfl (Rt.bd (oR_mk (v := some vr) hw hF h11) (Rt.bd (aQ_n hvr hvF (show k < 13 by omega) (by decide)) ?_)))
      rw [p1]
      refine Rt.bd (oI_mk (h.L p2.1) p3 (v := 0) rfl) (Rt.ip (by decide) ?_)
      rw [nI_1]
      refine lieE h hw hF h2 h3 hmn h11 hvr hvF hpa m (k + 1) (by omega) (by omega) (fun l x hl hf => ?_)
      by_cases e0 : l = k
      · subst e0
        obtain ⟨pa2, wa2, ta2, mk2, l2, f2, q1, q2, _⟩ := hf
        rw [p1] at q1; cases q1
        have e := (Prod.mk.inj (Sum.inr.inj (p3.symm.trans q2))).2
        have e := (List.cons.inj (List.cons.inj e).2).1
        cases e
      · exact hd l x (by omega) hf
    · refine lieV h hw hF h2 hmn h11 hvr hvF hlt p1 (h.L p2.1) p3 p4 p5 (fun hl9 => ?_) ⟨rfl, Or.inl rfl⟩ bigN 0 (by unfold bigN; omega) (Nat.zero_le _) (fun l9 x hl => absurd hl (by omega))
      refine lieE h hw hF h2 h3 hmn h11 hvr hvF hpa m (k + 1) (by omega) (by omega) (fun l x hl hf => ?_)
      by_cases e0 : l = k
      · subst e0
        obtain ⟨pa2, wa2, ta2, mk2, l2, f2, q1, q2, q3, q4, q5, q6⟩ := hf
        rw [p1] at q1; cases q1
        have e := (Prod.mk.inj (Sum.inr.inj (p3.symm.trans q2))).2
        simp only [List.cons.injEq, Value.int.injEq, Value.ref.injEq, and_true] at e
        obtain ⟨e1, e2, e3⟩ := e
        have e1 := nI_ij e1 (by omega) (by omega)
        subst e1; subst e3
        rw [p5.2.1] at q4; cases q4
        exact hl9 l2 x q5 q6
      · exact hd l x (by omega) hf
/-- lies -/
theorem lie_ (hD : RDI R) (h : TS R c nv S) (hA : ITA R S) {i j : Nat} (hi : i < R.im) (hk : R.ik i ≠ 12) : Rt (f_lies R.K S (nI i) (nI j)) (fun S2 r => S2 = S ∧ (r = 1 ∨ (r = 0 ∧ ∀ x : Nat, fdO R S i x → nIt S x j))) := by
  obtain ⟨a1, a2, fs, mn, na, g, a3, a4, a5, a6, a7, a8, a9, a10, a11⟩ := hA i hi
  have hw := h.L a1.1
  unfold f_lies
  refine Rt.bd (hD.it h hi) ?_
  rcases a11 with ⟨k1, ta, f, k2, k3⟩ | ⟨k1, vr, fv, k2, k3, k4, k5⟩ | ⟨k1, _⟩
  · rw [k1] at a4
    refine (lieS h hw a3 a4 a5 a6 k2 k3 bigN 0 (by unfold bigN; omega) (Nat.zero_le _) (fun l x hl => absurd hl (by omega))).mo (fun S2 r q => ⟨q.1, q.2.imp id (fun z => ⟨z.1, fun x hx => ?_⟩)⟩)
    obtain ⟨fs2, mn2, e1, e2, e3, e4⟩ := hx
    have ee : fs = fs2 := (Prod.mk.inj (Sum.inr.inj (a3.symm.trans e1))).2
    subst ee
    have em : mn = mn2 := nI_ij (Value.int.inj (Option.some.inj (a5.symm.trans e2))) (by omega) (by omega)
    subst em
    rcases e4 with ⟨_, ta2, k, f2, y1, y2, y3, y4⟩ | ⟨y0, _⟩
    · have et : ta = ta2 := Value.ref.inj (Option.some.inj (k2.symm.trans y1))
      subst et
      rw [k3.2.1] at y2; cases y2
      exact z.2 k x y3 y4
    · rw [k1] at y0; exact absurd y0 (by decide)
  · rw [k1] at a4
    refine (lieE h hw a3 a4 a5 a6 k2 (h.L k3.1) k4 k5 bigN 0 (by unfold bigN; omega) (Nat.zero_le _) (fun l x hl => absurd hl (by omega))).mo (fun S2 r q => ⟨q.1, q.2.imp id (fun z => ⟨z.1, fun x hx => ?_⟩)⟩)
    obtain ⟨fs2, mn2, e1, e2, e3, e4⟩ := hx
    have ee : fs = fs2 := (Prod.mk.inj (Sum.inr.inj (a3.symm.trans e1))).2
    subst ee
    have em : mn = mn2 := nI_ij (Value.int.inj (Option.some.inj (a5.symm.trans e2))) (by omega) (by omega)
    subst em
    rcases e4 with ⟨y0, _⟩ | ⟨_, vr2, k, pa, wa, ta, mk, l, fv2, f2, y1, y2, y3, y4⟩
    · rw [k1] at y0; exact absurd y0 (by decide)
    · have et : vr = vr2 := Value.ref.inj (Option.some.inj (k2.symm.trans y1))
      subst et
      rw [k4] at y2; cases y2
      exact z.2 k x y3 ⟨pa, wa, ta, mk, l, f2, y4⟩
  · exact absurd k1 hk
end LIA
