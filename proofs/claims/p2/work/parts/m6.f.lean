section PS109
variable {R : yR} {S0 Sl : Sg} {i P : Nat}
/-- a laid function: its data, its rows -/
theorem FnQ_D (hx : LX S0 Sl) (h11 : Zq S0 11 = Zq R.S 11) (hi : Zq R.S 11 i = some (R.ws i)) (hZ : ∀ a ∈ ZL R.S, a ∈ ZL S0) (hws : R.ws i ∈ ZL R.S) (hT : FnT R S0 i) (hQ : FnQ R S0 Sl P i) : ∃ D : fD, (FnD R S0 i D ∧ D.E.y = yT R S0 ∧ hFE R S0 D) ∧ (D.Ps < D.Pe ∧ D.Pe < 24000) ∧ (∀ k : Nat, D.Ps ≤ k → k < D.Pe → rzq R S0 Sl k (D.I k)) ∧ cRw R S0 Sl i D.mn D.Ps D.E.vt ∧ (D.E.hd = hdS R S0 ∧ D.E.rl = rlS R S0 ∧ D.E.lf = lfS R S0) ∧ ((hdS R S0 i).1 = D.mn ∧ (∀ q : Nat, q < D.mn → (hdS R S0 i).2.1 q = D.E.vt q) ∧ (hdS R S0 i).2.2 = D.E.gv) ∧ ∃ gv : Nat, D.E.gv = abT S0 gv ∧ xTy S0 gv := by
  obtain ⟨Λ, gv, mn, Ps, Pe, L0, L, I, st, W, rc, tv, mv, lv, H, ql, ⟨q1, q2, q3, q4, q5, q6⟩, ⟨q7, q8, fs2, q9, q10, q11⟩, q12, q13, _⟩ := hQ
  obtain ⟨fs, mn9, ta, pa, bl, va, b, gv9, f, fp, Λ9, ⟨_, t2, t3, t4, t5, t6, t7, t8⟩, t9, _, ⟨t11, _, t12⟩, _, t13, _⟩ := hT
  have hm : mn = mn9 := by
    rw [← q4]
    show fN (obF S0 (R.ws i)) 3 = mn9
    rw [obF_o t2, fN_i t3 (by omega)]
  subst hm
  obtain ⟨f2, e1, _, e2⟩ := (hx.1 _ (hZ _ hws)).2.fs t2
  have ef : f2 = fs2 := by
    have := e1.symm.trans q9
    exact (Prod.mk.inj (Sum.inr.inj this)).2
  subst ef
  have hE := q1
  refine ⟨(eVf R S0 Λ gv, (mn, Ps, Pe, L0, L), I, st, W, rc, tv, mv, lv, H, ql), ⟨q13, rfl, Λ, gv, rfl, hE⟩, ⟨q7, q8⟩, q12, ⟨f2, pa, 13, fp, ?_, ⟨(hx.1 _ (hZ _ hws)).1, e1, ?_, q11, ?_⟩, ⟨(hx.1 _ (hZ _ t11)).1, (hx.1 _ (hZ _ t11)).2.inl t12⟩, ⟨(show mn ≤ 13 by omega), by decide⟩, fun j hj => ?_⟩, ⟨rfl, rfl, rfl⟩, ⟨q4, fun q hq => (q5 q hq).1, q6⟩, gv, rfl, hE.2.2.2⟩
  · have hq := hx.2.2.2.2.1 11 (by unfold qpR; omega)
    rw [hq, h11]; exact hi
  · rw [e2 3 (by decide) (Or.inl (by decide))]; exact t3
  · rw [e2 17 (by decide) (Or.inl (by decide))]; exact t8
  · obtain ⟨v, x, nm, _, y2, y3, y4⟩ := t13 j hj
    obtain ⟨x9, w1, w2⟩ := t9.2.2 j hj
    rw [y3] at w1
    obtain rfl := Option.some.inj w1
    refine ⟨v, x, 0, y2, isU.st hx ⟨y4.1, nm, _, y4.2⟩, w2, ?_⟩
    show abT S0 x = (eVf R S0 Λ gv).vt j
    rw [← (q5 j hj).1]
    show _ = (match rN (obF S0 (R.ws i)) 10 with
      | some ta => abU S0 (roQ S0 ta j)
      | none => 0)
    rw [obF_o t2, rN_r t5]
    show _ = abU S0 (roQ S0 ta j)
    rw [roQ_o t9.2.1, y3]; rfl
end PS109
