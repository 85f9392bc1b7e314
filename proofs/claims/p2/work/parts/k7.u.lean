section EDF
variable {R : yR} {c nv : Nat} {S : Sg}
/-- of the store, only the items' fields from 19 on have changed -/
def WI (R : yR) (S S1 : Sg) : Prop := (∀ a : Nat, ZF S1 a = ZF S a ∨ ∃ (i : Nat) (gs g1 : List Value), i < R.im ∧ a = R.ws i ∧ ZF S a = .inr (16, gs) ∧ ZF S1 a = .inr (16, g1) ∧ ∀ l : Nat, l < 19 → g1[l]? = gs[l]?) ∧ ZL S1 = ZL S ∧ (∀ j : Nat, j ≠ 3 → j ≠ 4 → Zi S1 j = Zi S j) ∧ Zq S1 = Zq S ∧ Zf S1 = Zf S ∧ Zl S1 = Zl S ∧ ∀ r : Nat, r ≠ 20 → Zr S1 r = Zr S r
theorem WI.u20 {g : Nat → Int32} : WI R S (Ur S 20 g) := ⟨fun _ => Or.inl rfl, rfl, fun _ _ _ => rfl, rfl, rfl, rfl, fun r hr => va_up_ne _ _ hr⟩
theorem WI.w {S1 : Sg} (h : WI R S S1) {i k : Nat} {gs : List Value} {v : Value} (hi : i < R.im) (hk : wF k) (hF : ZF S1 (R.ws i) = .inr (16, gs)) : WI R S (UF S1 (R.ws i) (.inr (16, gs.set k v))) := by
  refine ⟨fun a => ?_, h.2⟩
  by_cases e : a = R.ws i
  · subst e
    rcases h.1 (R.ws i) with q | ⟨j, g0, g1, q1, q2, q3, q4, q5⟩
    · exact Or.inr ⟨i, gs, _, hi, rfl, q.symm.trans hF, ZF_s, fun l hl => List.getElem?_set_ne (hk.ne hl)⟩
    · have ee : g1 = gs := (Prod.mk.inj (Sum.inr.inj (q4.symm.trans hF))).2
      subst ee
      exact Or.inr ⟨i, g0, _, hi, rfl, q3, ZF_s, fun l hl => (List.getElem?_set_ne (hk.ne hl)).trans (q5 l hl)⟩
  · rw [ZF_n e]
    exact h.1 a
theorem WI.ty {S1 : Sg} (h : WI R S S1) {x : Nat} {kd ix : Int32} {o : Option Nat} (q : isTy S1 x kd ix o) : isTy S x kd ix o := by
  obtain ⟨t, q1, q2, q3, q4⟩ := q
  refine ⟨t, ?_, ?_, ?_, ?_⟩
  · unfold tmS at *; rw [← h.2.2.1 19 (by decide) (by decide)]; exact q1
  · rw [← h.2.2.2.1]; exact q2
  · rw [← h.2.1]; exact q3
  · rcases h.1 x with e | ⟨i, gs, g1, _, _, _, e, _⟩
    · rw [← e]; exact q4
    · rw [q4] at e; cases e
theorem WI.ty2 {S1 : Sg} (h : WI R S S1) {x : Nat} {kd ix : Int32} {o : Option Nat} (q : isTy S x kd ix o) : isTy S1 x kd ix o := by
  obtain ⟨t, q1, q2, q3, q4⟩ := q
  refine ⟨t, ?_, ?_, ?_, ?_⟩
  · unfold tmS at *; rw [h.2.2.1 19 (by decide) (by decide)]; exact q1
  · rw [h.2.2.2.1]; exact q2
  · rw [h.2.1]; exact q3
  · rcases h.1 x with e | ⟨i, gs, g1, _, _, e, _⟩
    · rw [e]; exact q4
    · rw [q4] at e; cases e
/-- what lies in an item stays -/
theorem WI.fd {S1 : Sg} (h : WI R S S1) {i x : Nat} (q : fdO R S1 i x) : fdO R S i x := by
  have hr : ∀ {a n : Nat} {k : ClassId} {f : vRw}, ZF S1 a = .inl (k, n, f) → ZF S a = .inl (k, n, f) := fun {a n k f} e => by
    rcases h.1 a with w | ⟨_, gs, g1, _, _, _, w, _⟩
    · rw [← w]; exact e
    · rw [e] at w; cases w
  have hp : ∀ {a : Nat} {ys : List Value}, ZF S1 a = .inr (17, ys) → ZF S a = .inr (17, ys) := fun {a ys} e => by
    rcases h.1 a with w | ⟨_, gs, g1, _, _, _, w, _⟩
    · rw [← w]; exact e
    · rw [e] at w; cases w
  obtain ⟨fs, mn, e1, e2, e3, e4⟩ := q
  have hc : ∃ f0 : List Value, ZF S (R.ws i) = .inr (16, f0) ∧ ∀ l : Nat, l < 19 → fs[l]? = f0[l]? := by
    rcases h.1 (R.ws i) with w | ⟨j, g0, g1, _, _, w1, w2, w3⟩
    · exact ⟨fs, w.symm.trans e1, fun _ _ => rfl⟩
    · have ee : g1 = fs := (Prod.mk.inj (Sum.inr.inj (w2.symm.trans e1))).2
      subst ee
      exact ⟨g0, w1, w3⟩
  obtain ⟨f0, c1, c2⟩ := hc
  refine ⟨f0, mn, c1, (c2 3 (by decide)).symm.trans e2, e3, ?_⟩
  rcases e4 with ⟨y0, ta, k, f, y1, y2, y3⟩ | ⟨y0, vr, k, pa, wa, ta, mk, l, fv, f, y1, y2, y3, y4, y5, y6, y7, y8⟩
  · exact Or.inl ⟨y0, ta, k, f, (c2 10 (by decide)).symm.trans y1, hr y2, y3⟩
  · exact Or.inr ⟨y0, vr, k, pa, wa, ta, mk, l, fv, f, (c2 11 (by decide)).symm.trans y1, hr y2, y3, y4, hp y5, y6, hr y7, y8⟩
theorem WI.fl {S1 : Sg} (h : WI R S S1) {wh x : Int32} : WI R S (flS S1 wh x) := ⟨fun a => by rw [flS_st.2.1]; exact h.1 a, flS_st.1.trans h.2.1, fun j a b => (flS_i a b).trans (h.2.2.1 j a b), flS_st.2.2.2.2.1.trans h.2.2.2.1, flS_fr.2.2.2.2.trans h.2.2.2.2.1, flS_fr.2.2.1.trans h.2.2.2.2.2.1, fun r hr => by rw [flS_fr.2.1]; exact h.2.2.2.2.2.2 r hr⟩
end EDF
