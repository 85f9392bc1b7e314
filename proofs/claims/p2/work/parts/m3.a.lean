/-- while it runs: what was laid stays -/
def RNx (Sl S : Sg) : Prop := ZL S = ZL Sl ∧ ZF S = ZF Sl ∧ (Zz S = Zz Sl ∧ Zn S = Zn Sl) ∧ Zq S = Zq Sl ∧ Zf S = Zf Sl ∧ (∀ r : Nat, r < 61 → Zr S r = Zr Sl r) ∧ (∀ r : Nat, r < 61 → Zl S r = Zl Sl r) ∧ ∀ j : Nat, j < 61 → j ≠ 3 → Zi S j = Zi Sl j
section PS26
variable {R : yR} {S0 Sl S S2 : Sg} {g : Nat → Int32} {A : Nat → Prop}
theorem RNx.rf : RNx S S := ⟨rfl, rfl, ⟨rfl, rfl⟩, rfl, rfl, fun _ _ => rfl, fun _ _ => rfl, fun _ _ _ => rfl⟩
theorem RNx.tr {S1 : Sg} (a : RNx S S1) (b : RNx S1 S2) : RNx S S2 := ⟨b.1.trans a.1, b.2.1.trans a.2.1, ⟨b.2.2.1.1.trans a.2.2.1.1, b.2.2.1.2.trans a.2.2.1.2⟩, b.2.2.2.1.trans a.2.2.2.1, b.2.2.2.2.1.trans a.2.2.2.2.1, fun r h => (b.2.2.2.2.2.1 r h).trans (a.2.2.2.2.2.1 r h), fun r h => (b.2.2.2.2.2.2.1 r h).trans (a.2.2.2.2.2.2.1 r h), fun r h h2 => (b.2.2.2.2.2.2.2 r h h2).trans (a.2.2.2.2.2.2.2 r h h2)⟩
theorem NO.rn (e : NO A S S2) : RNx S S2 := ⟨e.1, e.2.1, e.2.2.1, e.2.2.2.1, e.2.2.2.2.1, fun r h => e.2.2.2.2.2.2.1 r (by omega) (by omega), fun r h => e.2.2.2.2.2.1 r (by omega), fun j h _ => e.2.2.2.2.2.2.2.1 j (by omega) (by omega)⟩
theorem WO.rn (e : WO S S2) : RNx S S2 := ⟨e.1, e.2.1, e.2.2.1, e.2.2.2.1, e.2.2.2.2.1, fun r h => e.2.2.2.2.2.2.1 r (by omega), fun r h => by rw [e.2.2.2.2.2.1], fun j h _ => e.2.2.2.2.2.2.2 j (by omega)⟩
/-- a type, while it runs -/
theorem RNx.ty (e : RNx Sl S) {x : Nat} {kd ix : Int32} {o : Option Nat} (q : isTy Sl x kd ix o) : isTy S x kd ix o := by
  obtain ⟨t, h1, h2, h3, h4⟩ := q
  have e19 : Zi S 19 = Zi Sl 19 := e.2.2.2.2.2.2.2 19 (by decide) (by decide)
  exact ⟨t, by unfold tmS at h1 ⊢; rw [e19]; exact h1, by rw [e.2.2.2.1]; exact h2, by rw [e.1]; exact h3, by rw [e.2.1]; exact h4⟩
theorem it11r (hL : LFS R S0 g) (hx : LX S0 Sl) (e : RNx Sl S) {j : Nat} (hj : j < R.im) : rQ S 11 (nI j) = some (some (R.ws j)) := by
  have := it11 hL hx hj
  have h70 : j < 70 := by have := hL.1.2.1; omega
  rw [rQ_n (show j < rlen 11 from h70) (by decide)] at this ⊢
  rw [e.2.2.2.1]; exact this
/-- leavesOf -/
theorem lvo_ (hL : LFS R S0 g) (hx : LX S0 Sl) (e : RNx Sl S) {o : Option Nat} (ho : ∀ x : Nat, o = some x → rTy S0 x) : f_leavesOf R.K S o = some (S, nI (zN R S0 (abU S0 o))) := by
  cases o with
  | none =>
    rw [show abU S0 none = 0 from rfl, zN_0]
    unfold f_leavesOf
    rw [if_pos rfl]; rfl
  | some x =>
    obtain ⟨kd, ix, o, q, _⟩ := (ho x rfl).ty
    have hy := hL.1.2.2 _ _ _ _ q
    obtain ⟨t, _, _, xl, xf⟩ := e.ty (hx.ty q)
    have o0 : oI S 20 (some x) 0 = some kd := oI_mk xl xf rfl
    have o1 : oI S 20 (some x) 1 = some ix := oI_mk xl xf rfl
    have htl := tyLv_of hL q
    obtain ⟨kd2, ix2, o2, q3, q4⟩ := htl
    obtain ⟨e1, e2, e3⟩ := isTy_fn q q3
    subst e1; subst e2; subst e3
    show f_leavesOf R.K S (some x) = some (S, nI (zN R S0 (abT S0 x)))
    unfold f_leavesOf
    rw [if_neg (by simp), o0]
    simp only [Option.bind_some]
    rcases q4 with ⟨k3, j, hj, ej, hk, _, ⟨fs, f1, f2, f3⟩, _⟩ | ⟨k3, e9⟩
    · subst ej
      rw [if_pos k3, o1]
      simp only [Option.bind_some]
      rw [it11r hL hx e hj]
      simp only [Option.bind_some]
      obtain ⟨c1, g2, c2, c3, c4⟩ := hx.it (hL.2.1 _ (hL.2.2.1 j hj).1.1) f1
      rw [oI_mk (v := nI (zN R S0 (abT S0 x))) (by rw [e.1]; exact c1) (by rw [e.2.1]; exact c2) (by rw [c4 20 (by decide) (Or.inl (by decide))]; exact f2)]
      rfl
    · rw [if_neg k3, e9]; rfl
end PS26
