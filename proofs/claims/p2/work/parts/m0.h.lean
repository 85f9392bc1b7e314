section LY7
variable {R : yR} {S0 S S1 A B : Sg} {P h L : Nat} {Γ Γ2 : List Nat} {α : Type} {K : Ky}
theorem LX.okT (hx : LX S0 S) {x : Nat} (q : ∃ (kd ix : Int32) (o : Option Nat), isTy S0 x kd ix o) : okO S 20 (some x) = true := by
  obtain ⟨kd, ix, o, t, q1, q2, q3, q4⟩ := q
  obtain ⟨g1, g2⟩ := hx.ob q3 q4 (by decide) (by decide)
  exact okO_mk g1 g2
theorem pV_e {ci k a : Nat} {fs f2 : List Value} {v : Value} (ha : a ∈ ZL S) (hF : ZF S a = .inr (ci, fs)) (hk : Nat.ble (k + 1) fs.length = true) (e : fs.set k v = f2) : pV S ci (some a) k v = some (UF S a (.inr (ci, f2))) := by
  subst e; exact pV_mk ha hF (Nat.le_of_ble_eq_true hk)
/-- the whole path of a variable is being made -/
def WB (K : Ky) (S B : Sg) (a w : Nat) (vs : List Value) (cw ct : va_E) : Prop := (∀ b ∈ ZL S, b ∈ ZL B ∧ (b ≠ a → ZF B b = ZF S b)) ∧ (a ∈ ZL B ∧ ZF B a = .inr (21, vs)) ∧ (Zi B = Zi S ∧ Zr B = Zr S ∧ Zl B = Zl S ∧ Zq B = Zq S ∧ Zf B = Zf S) ∧ (∀ x ∈ ZL B, x < Zz B) ∧ (Zz B = Zz S + 3 ∧ Zn B = Zn S + 5) ∧ (w = Zz S ∧ a < Zz S ∧ ∀ b ∈ ZL S, b < Zz S) ∧ (w ∈ ZL B ∧ ZF B w = cw) ∧ (w + 1 ∈ ZL B ∧ ZF B (w + 1) = .inl (K.1 0, 0, .inl (fun _ => 0))) ∧ (w + 2 ∈ ZL B ∧ ZF B (w + 2) = ct)
theorem WB.uw {a w : Nat} {vs : List Value} {cw ct c2 : va_E} (q : WB K S B a w vs cw ct) : WB K S (UF B w c2) a w vs c2 ct := by
  obtain ⟨q1, q2, q3, q4, q5, ⟨q6, q7, q0⟩, q8, q9, q10⟩ := q
  exact ⟨fun b hb => ⟨(q1 b hb).1, fun w => (ZF_n (by have := q0 b hb; omega)).trans ((q1 b hb).2 w)⟩, ⟨q2.1, (ZF_n (by omega)).trans q2.2⟩, q3, q4, q5, ⟨q6, q7, q0⟩, ⟨q8.1, ZF_s⟩, ⟨q9.1, (ZF_n (by omega)).trans q9.2⟩, ⟨q10.1, (ZF_n (by omega)).trans q10.2⟩⟩
theorem WB.ut {a w : Nat} {vs : List Value} {cw ct c2 : va_E} (q : WB K S B a w vs cw ct) : WB K S (UF B (w + 2) c2) a w vs cw c2 := by
  obtain ⟨q1, q2, q3, q4, q5, ⟨q6, q7, q0⟩, q8, q9, q10⟩ := q
  exact ⟨fun b hb => ⟨(q1 b hb).1, fun w => (ZF_n (by have := q0 b hb; omega)).trans ((q1 b hb).2 w)⟩, ⟨q2.1, (ZF_n (by omega)).trans q2.2⟩, q3, q4, q5, ⟨q6, q7, q0⟩, ⟨q8.1, (ZF_n (by omega)).trans q8.2⟩, ⟨q9.1, (ZF_n (by omega)).trans q9.2⟩, ⟨q10.1, ZF_s⟩⟩
/-- .. its field of the variable is written -/
theorem WB.o1 {a : Nat} {vs : List Value} (q : NPA K S A 0) (hz : ∀ b ∈ ZL S, b < Zz S) (ha : a ∈ ZL S) : WB K S (UF A a (.inr (21, vs))) a (Zz S) vs (.inr (18, [.null, .int (nI 0), .ref (Zz S + 1), .ref (Zz S + 2)])) (.inl (K.1 4, 1, .inr (.inr (.inr (.inr (fun _ => none)))))) := by
  obtain ⟨w, _, q2, q3, q4, q5⟩ := q
  have hl := hz a ha
  have t2 := q3 _ (List.mem_cons_self)
  have t1 := q3 _ (List.mem_cons_of_mem _ List.mem_cons_self)
  exact ⟨fun b hb => ⟨(w.1 b hb).1, fun e => (ZF_n e).trans (w.1 b hb).2⟩, ⟨(w.1 a ha).1, ZF_s⟩, ⟨w.2.1, w.2.2.1, w.2.2.2.1, w.2.2.2.2.1, w.2.2.2.2.2.1⟩, w.2.2.2.2.2.2.2.2, ⟨q4, q5⟩, ⟨rfl, hl, hz⟩, ⟨q2.1, (ZF_n (by omega)).trans q2.2⟩, ⟨t1.2.1, (ZF_n (by show Zz S + 1 ≠ a; omega)).trans t1.2.2⟩, ⟨t2.2.1, (ZF_n (by show Zz S + 2 ≠ a; omega)).trans t2.2.2⟩⟩
/-- .. at the end -/
theorem WB.fin {a w ix : Nat} {nm mu : Int32} {ty : Option Nat} {g : Nat → Option Nat} (q : WB R.K S B a w [.int (nI ix), .int nm, va_rf ty, .int mu, .ref w] (.inr (18, [.ref a, .int (nI 0), .ref (w + 1), .ref (w + 2)])) (.inl (R.K.1 4, 1, .inr (.inr (.inr (.inr g)))))) (hg : g 0 = ty) (hV : isV S0 a ix nm ty mu) (c : LC R S0 S P h Γ L) (ha : ZF S a = .inr (21, [.int (nI ix), .int nm, va_rf ty, .int mu, .null])) : LC R S0 B P h Γ L ∧ KX S B ∧ whP R B a w ty ∧ UsK S0 S B ∧ PN S0 S B w := by
  obtain ⟨q1, q2, ⟨i1, i2, i3, i4, i5⟩, q4, ⟨z1, z2⟩, ⟨q6, q7, q0⟩, q8, q9, q10⟩ := q
  have hx : LX S B := by
    refine ⟨fun b hb => ⟨(q1 b hb).1, ?_⟩, fun _ _ _ _ _ => by rw [i1], fun _ _ => by rw [i2], fun _ _ => by rw [i3], fun _ _ => by rw [i4], i5, by omega, by omega⟩
    by_cases e : b = a
    · subst e
      refine Or.inr ⟨21, _, _, ha, q2.2, rfl, Or.inl ⟨rfl, fun l hl => ?_⟩⟩
      rcases l with _ | _ | _ | _ | _ | l
      · rfl
      · rfl
      · rfl
      · rfl
      · exact absurd rfl hl
      · rfl
    · exact Or.inl ((q1 b hb).2 e)
  have hw : whP R B a w ty := ⟨w + 1, w + 2, _, g, q8.1, q8.2, q9, q10, hg⟩
  refine ⟨⟨c.1.tr hx, by rw [i1]; exact c.2.1, by rw [i1]; exact c.2.2.1, by rw [i1, i4]; exact c.2.2.2.1, by rw [i1]; exact c.2.2.2.2.1, c.2.2.2.2.2.1.st hx (by rw [i4]) (c.2.2.2.2.2.1.2.st hx (fun l _ _ => by rw [i4]) (fun l _ _ => Or.inl (by rw [i2])) (by rw [i1])), ?_, q4⟩, ⟨fun P L => ⟨hx, fun k _ => ⟨fun _ _ _ => by rw [i2], by rw [i3], fun _ _ _ => by rw [i4]⟩, fun l _ => ⟨by rw [i4], fun _ _ _ => by rw [i2]⟩, fun x hx fs e => ((q1 x hx).2 (fun w => by rw [w, ha] at e; cases e)).trans e⟩, i2, i3, fun _ _ => by rw [i4], i1⟩, hw, fun y hy hU => ?_, fun gs y e1 e2 hy => ?_⟩
  rotate_left
  · rcases hU with ⟨u, h1, h2⟩ | ⟨v, jx, jn, jt, jm, w', fs, gs, h1, h2, h3, h4, h5⟩
    · rw [i4] at h2; exact Or.inl ⟨u, h1, h2⟩
    · by_cases e : v = a
      · subst e
        rw [q2.2] at h2; cases h2
        cases h3
        rw [q8.2] at h4; cases h4
        cases h5
        have := q0 _ hy; omega
      · obtain ⟨wh, w1, w2, w3⟩ := c.2.2.2.2.2.2.1 v jx jn jt jm h1
        rw [(q1 v w1).2 e] at h2
        have e4 : fs[4]? = some wh := by rw [w2] at h2; cases h2; rfl
        rw [e4] at h3; cases h3
        rcases w3 with w3 | ⟨w'', w4, w5⟩
        · cases w3
        · cases w4
          obtain ⟨_, _, _, _, w6, w7, _⟩ := w5
          have ne : w' ≠ a := fun z => by subst z; rw [ha] at w7; cases w7
          rw [(q1 w' w6).2 ne] at h4
          exact Or.inr ⟨v, jx, jn, jt, jm, w', fs, gs, h1, h2, e4, h4, h5⟩
  · rw [q8.2] at e1; cases e1
    cases e2
    have := q0 _ hy; omega
  intro a2 ix2 nm2 ty2 mu2 hV2
  by_cases e : a2 = a
  · subst e
    have e2 := hV2.2.symm.trans hV.2
    obtain ⟨e3, e4⟩ := Prod.mk.inj (Sum.inr.inj e2)
    injection e4 with a1 e4
    injection e4 with a2 e4
    injection e4 with a3 e4
    injection e4 with a4 e4
    have e5 : ty2 = ty := va_rf_inj a3
    subst e5
    exact ⟨.ref w, q2.1, by rw [a1, a2, a4]; exact q2.2, Or.inr ⟨w, rfl, hw⟩⟩
  · obtain ⟨wh, w1, w2, w3⟩ := c.2.2.2.2.2.2.1 a2 ix2 nm2 ty2 mu2 hV2
    exact ⟨wh, (q1 a2 w1).1, ((q1 a2 w1).2 e).trans w2, w3.imp id (fun ⟨w, k1, k2⟩ => ⟨w, k1, k2.st hx⟩)⟩
/-- wholeOf -/
theorem whl_ {a ix : Nat} {nm mu : Int32} {ty : Option Nat} (c : LC R S0 S P h Γ L) (hV : isV S0 a ix nm ty mu) (ht : ∀ x : Nat, ty = some x → ∃ (kd ix : Int32) (o : Option Nat), isTy S0 x kd ix o) (h1 : Zz S + 3 ≤ R.K.2.1) (h2 : Zn S + 5 ≤ R.K.2.2) : Rt (f_wholeOf R.K S (some a)) (fun S1 r => ∃ w : Nat, r = some w ∧ LC R S0 S1 P h Γ L ∧ KX S S1 ∧ whP R S1 a w ty ∧ Zz S1 ≤ Zz S + 3 ∧ Zn S1 ≤ Zn S + 5 ∧ UsK S0 S S1 ∧ PN S0 S S1 w) := by
  obtain ⟨wh, v1, v2, v3⟩ := c.2.2.2.2.2.2.1 a ix nm ty mu hV
  have hz := c.hz
  unfold f_wholeOf f_wholeOf_40
  rcases v3 with rfl | ⟨w, rfl, v3⟩
  · refine Rt.bd (oR_mk v1 v2 (v := none) rfl) (Rt.ip rfl ?_)
    refine npt_ (n := 0) hz (by decide) h1 (by omega) (fun A qA => ?_)
    have wA := qA.1
    refine Rt.bd (pV_e (f2 := [.int (nI ix), .int nm, va_rf ty, .int mu, .ref (Zz S)]) (wA.1 a v1).1 ((wA.1 a v1).2.trans v2) rfl rfl) ?_
    have w1 : WB R.K S (UF A a (.inr (21, [.int (nI ix), .int nm, va_rf ty, .int mu, .ref (Zz S)]))) a (Zz S) _ _ _ := WB.o1 qA hz v1
    generalize UF A a (.inr (21, [.int (nI ix), .int nm, va_rf ty, .int mu, .ref (Zz S)])) = B at w1
    refine Rt.bd (oR_mk w1.2.1.1 w1.2.1.2 (v := some (Zz S)) rfl) ?_
    refine Rt.bd (pV_e (f2 := [.ref a, .int (nI 0), .ref (Zz S + 1), .ref (Zz S + 2)]) w1.2.2.2.2.2.2.1.1 w1.2.2.2.2.2.2.1.2 rfl rfl) ?_
    have w2 : WB R.K S (UF B (Zz S) (.inr (18, [.ref a, .int (nI 0), .ref (Zz S + 1), .ref (Zz S + 2)]))) a (Zz S) _ _ _ := w1.uw
    generalize UF B (Zz S) (.inr (18, [.ref a, .int (nI 0), .ref (Zz S + 1), .ref (Zz S + 2)])) = C at w2
    refine Rt.bd (oR_mk w2.2.1.1 w2.2.1.2 (v := some (Zz S)) rfl) (Rt.bd (oR_mk w2.2.2.2.2.2.2.1.1 w2.2.2.2.2.2.2.1.2 (v := some (Zz S + 2)) rfl) (Rt.bd (oR_mk w2.2.1.1 w2.2.1.2 (v := ty) rfl) ?_))
    have hok : okO C 20 ty = true := by
      cases ty with
      | none => rfl
      | some x =>
        obtain ⟨kd, ix2, o, t, q1, q2, q3, q4⟩ := ht x rfl
        obtain ⟨g1, g2⟩ := c.1.ob q3 q4 (by decide) (by decide)
        refine okO_mk (w2.1 x g1).1 (((w2.1 x g1).2 (fun e => ?_)).trans g2)
        subst e
        rw [v2] at g2
        cases g2
    refine Rt.bd (bQ_n (j := 0) w2.2.2.2.2.2.2.2.2.1 w2.2.2.2.2.2.2.2.2.2 (by decide) (by decide) hok) ?_
    have w3 : WB R.K S (UF C (Zz S + 2) (.inl (R.K.1 4, 1, .inr (.inr (.inr (.inr (va_up (fun _ => none) 0 ty))))))) a (Zz S) _ _ _ := w2.ut
    generalize UF C (Zz S + 2) (.inl (R.K.1 4, 1, .inr (.inr (.inr (.inr (va_up (fun _ => none) 0 ty)))))) = D at w3
    obtain ⟨r1, r2, r3, r4, r5⟩ := w3.fin (va_up_self _ _ _) hV c v2
    exact Rt.bd (oR_mk w3.2.1.1 w3.2.1.2 (v := some (Zz S)) rfl) (Rt.rt ⟨Zz S, rfl, r1, r2, r3, by have := w3.2.2.2.2.1.1; omega, by have := w3.2.2.2.2.1.2; omega, r4, r5⟩)
  · refine Rt.bd (oR_mk v1 v2 (v := some w) rfl) (Rt.iq (fun e => by cases e) (Rt.bd (oR_mk v1 v2 (v := some w) rfl) (Rt.rt ⟨w, rfl, c, KX.rf, v3, by omega, by omega, UsK.rf, fun gs y e1 e2 _ => Or.inr ⟨a, ix, nm, ty, mu, w, _, gs, hV, v2, rfl, e1, e2⟩⟩)))
end LY7
