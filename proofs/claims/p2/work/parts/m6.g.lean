section PS110
variable {R : yR} {S0 Sl : Sg} {P : Nat}
theorem gv9_ (hY : YK R S0) {gv : Nat} (h : xTy S0 gv) (hn : ¬ isRf (abT S0 gv)) : eU (abT S0 gv) = (0, abT S0 gv, 0) ∧ eT (abT S0 gv) = (0, abT S0 gv, 0) := by
  have h4 : abT S0 gv < 10000 := by
    rcases h with h | h
    · rcases h.nm hY with ⟨_, _, _, z9⟩ | ⟨_, _, _, _, z9, _⟩
      · refine Nat.lt_of_not_le (fun c => ?_)
        unfold eT at z9
        rw [if_pos c] at z9
        by_cases c2 : abT S0 gv % 2 = 0
        · rw [if_pos c2] at z9; cases z9
        · rw [if_neg c2] at z9; cases z9
      · exact absurd z9 hn
    · obtain ⟨t, _, _, _, a, b⟩ := abV_is hY h
      rw [b, if_neg (by decide), if_neg (by decide), a]
      show (0 : Nat) < 10000
      decide
  unfold eU eT
  rw [if_neg (by omega), if_neg (by omega)]
  exact ⟨rfl, rfl⟩
/-- a laid program: all its functions -/
theorem prg9_ (hD : RDI R) (hY : YK R S0) (hx : LX S0 Sl) (h11 : Zq S0 11 = Zq R.S 11) (hZ : ∀ a ∈ ZL R.S, a ∈ ZL S0) (hws : ∀ i : Nat, i < R.im → R.ws i ∈ ZL R.S) (hFT : ∀ i : Nat, i < R.im → R.ik i = 12 → FnT R S0 i) (hQ : ∀ j : Nat, j < R.im → R.ik j = 12 → FnQ R S0 Sl P j) : ∃ DD : Nat → fD, PRG R S0 Sl (fun i => (DD i).E.vt) (fun i => tbD (DD i)) DD (fun i => i < R.im ∧ R.ik i = 12) ∧ ∀ i : Nat, i < R.im → R.ik i = 12 → (hdS R S0 i).1 = (DD i).mn := by
  have key : ∀ i : Nat, ∃ D : fD, i < R.im ∧ R.ik i = 12 → (FnD R S0 i D ∧ D.E.y = yT R S0 ∧ hFE R S0 D) ∧ (D.Ps < D.Pe ∧ D.Pe < 24000) ∧ (∀ k : Nat, D.Ps ≤ k → k < D.Pe → rzq R S0 Sl k (D.I k)) ∧ cRw R S0 Sl i D.mn D.Ps D.E.vt ∧ (D.E.hd = hdS R S0 ∧ D.E.rl = rlS R S0 ∧ D.E.lf = lfS R S0) ∧ ((hdS R S0 i).1 = D.mn ∧ (∀ q : Nat, q < D.mn → (hdS R S0 i).2.1 q = D.E.vt q) ∧ (hdS R S0 i).2.2 = D.E.gv) ∧ ∃ gv : Nat, D.E.gv = abT S0 gv ∧ xTy S0 gv := fun i => by
    by_cases c : i < R.im ∧ R.ik i = 12
    · obtain ⟨D, hDD⟩ := FnQ_D hx h11 (hD.2.2.2.2 i c.1).1 hZ (hws i c.1) (hFT i c.1 c.2) (hQ i c.1 c.2)
      exact ⟨D, fun _ => hDD⟩
    · exact ⟨((yT R S0, fun _ => 0, fun _ => (0, fun _ => 0, 0), 0, fun _ _ => 0, fun _ => 0, fun _ => 0), (0, 0, 0, 0, 0), fun _ => (0, 0, none, (none, none), ([], []), [], (0, 0, 0), []), fun _ => [], fun _ => True, fun _ => 0, fun _ => 0, fun _ => 0, fun _ => 0, fun _ _ => 0, fun _ => 0), fun w => absurd w c⟩
  obtain ⟨DD, hDD⟩ := Classical.skolem.mp key
  refine ⟨DD, fun i hi => ?_, fun i h1 h2 => ((hDD i ⟨h1, h2⟩).2.2.2.2.2.1).1⟩
  obtain ⟨d1, d2, d3, d4, ⟨d5, d6, d7⟩, d8, gv, d9, d10⟩ := hDD i hi
  refine ⟨d1, d2, d3, ⟨rfl, rfl⟩, d4, fun hn => ?_, fun k hk1 hk2 h10 => ?_⟩
  · rw [d9] at hn ⊢
    exact gv9_ hY d10 hn
  · obtain ⟨g1, g2⟩ := (d3 k hk1 hk2).2.2.2.2.2.2.2.2.2.2.2.2.2 h10
    have hG : ((DD i).I k).n1 < R.im ∧ R.ik ((DD i).I k).n1 = 12 := ⟨g2, g1⟩
    obtain ⟨_, _, _, _, _, ⟨e1, e2, e3⟩, _⟩ := hDD _ hG
    refine ⟨hG, ?_⟩
    unfold cLk
    rw [d5, d6, d7]
    exact ⟨e1, e2, e3, rfl, fun _ => rfl⟩
end PS110
