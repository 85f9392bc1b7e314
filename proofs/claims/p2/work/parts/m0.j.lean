/-- what is known of the types behind the typing -/
def YK (R : yR) (S : Sg) : Prop := tmS S ≤ 2000 ∧ R.im ≤ 70 ∧ ∀ (x : Nat) (kd ix : Int32) (o : Option Nat), isTy S x kd ix o → yOK R.im R.ik (kd, ix, o)
section LY9
variable {R : yR} {S S0 : Sg} {Γ : List Nat}
def abK (kd : Int32) (ix : Int32) (t : Nat) : Nat := if kd = 0 then 1 else if kd = 1 then 2 else if kd = 2 then 3 else if kd = 3 ∨ kd = 4 then 4 + ix.toNatClampNeg else if kd = 5 then 100 + t else 0
theorem abV_is (hY : YK R S) {x : Nat} {kd ix : Int32} {o : Option Nat} (h : isTy S x kd ix o) : ∃ t : Nat, t < tmS S ∧ Zq S 18 t = some x ∧ ZF S x = .inr (20, [.int kd, .int ix, .int (nI t), va_rf o]) ∧ abV S x = abK kd ix t ∧ abT S x = (if kd = 6 then 10000 + 2 * abO S (va_rf o) else if kd = 7 then 10001 + 2 * abO S (va_rf o) else abV S x) := by
  obtain ⟨t, h1, h2, h3, h4⟩ := h
  have ht : t < 2000 := Nat.lt_of_lt_of_le h1 hY.1
  refine ⟨t, h1, h2, h4, ?_, ?_⟩
  · unfold abV abK
    rw [h4]
    show (if kd = 0 then 1 else if kd = 1 then 2 else if kd = 2 then 3 else if kd = 3 ∨ kd = 4 then 4 + ix.toNatClampNeg else if kd = 5 then 100 + (nI t).toNatClampNeg else 0) = _
    rw [nI_clamp (by omega)]
  · conv => lhs; unfold abT
    rw [h4]
    rfl
theorem vTy.nm (hY : YK R S) {x : Nat} (h : vTy S x) : 1 ≤ abV S x ∧ abV S x < 10000 ∧ abT S x = abV S x := by
  obtain ⟨n, h⟩ := h
  cases n with
  | zero => exact h.elim
  | succ n =>
    obtain ⟨kd, ix, o, h1, h2⟩ := h
    obtain ⟨t, a1, _, _, a2, a3⟩ := abV_is hY h1
    have hy := hY.2.2 _ _ _ _ h1
    have ht : t < 2000 := Nat.lt_of_lt_of_le a1 hY.1
    have hk : kd ≠ 6 ∧ kd ≠ 7 := by
      rcases h2 with (h2 | h2 | h2 | h2 | h2) | h2
      · subst h2; decide
      · subst h2; decide
      · subst h2; decide
      · subst h2; decide
      · subst h2; decide
      · rw [h2.1]; decide
    rw [a3, if_neg hk.1, if_neg hk.2]
    refine ⟨?_, ?_, rfl⟩
    · rw [a2]; unfold abK
      rcases h2 with (h2 | h2 | h2 | h2 | h2) | ⟨h2, _⟩ <;> subst h2
      · exact Nat.le_refl _
      · exact Nat.le_of_ble_eq_true rfl
      · exact Nat.le_of_ble_eq_true rfl
      · show 1 ≤ 4 + _; omega
      · show 1 ≤ 4 + _; omega
      · show 1 ≤ 100 + _; omega
    · rw [a2]; unfold abK
      have him := hY.2.1
      rcases h2 with (h2 | h2 | h2 | h2 | h2) | ⟨h2, _⟩ <;> subst h2
      · exact Nat.le_of_ble_eq_true rfl
      · exact Nat.le_of_ble_eq_true rfl
      · exact Nat.le_of_ble_eq_true rfl
      · obtain ⟨⟨i, i1, i2, _⟩, _⟩ := yOK_3 hy
        show 4 + ix.toNatClampNeg < 10000
        rw [i2, nI_clamp (by omega)]; omega
      · obtain ⟨⟨i, i1, i2, _⟩, _⟩ := yOK_4 hy
        show 4 + ix.toNatClampNeg < 10000
        rw [i2, nI_clamp (by omega)]; omega
      · show 100 + t < 10000; omega
/-- a reference's number -/
theorem rTy.nm (hY : YK R S) {x : Nat} (h : rTy S x) : (vTy S x ∧ ¬ isRf (abT S x) ∧ (∀ (kd ix : Int32) (o : Option Nat), isTy S x kd ix o → kd ≠ 6 ∧ kd ≠ 7) ∧ eT (abT S x) = (0, abV S x, 0)) ∨ ∃ (kd : Int32) (u : Nat), isTy S x kd 0 (some u) ∧ vTy S u ∧ isRf (abT S x) ∧ ((kd = 6 ∧ abT S x = 10000 + 2 * abV S u ∧ eT (abT S x) = (1, abV S u, 0)) ∨ (kd = 7 ∧ abT S x = 10001 + 2 * abV S u ∧ eT (abT S x) = (2, abV S u, 0))) := by
  rcases h with h | ⟨kd, u, h1, h2, h3⟩
  · left
    obtain ⟨g1, g2, g3⟩ := h.nm hY
    refine ⟨h, fun w => by rw [g3] at w; exact absurd w.1 (by omega), fun kd ix o q => ?_, ?_⟩
    · obtain ⟨k2, i2, o2, q2, n6, n7, _⟩ := h.ty
      obtain ⟨e1, _⟩ := isTy_fn q q2
      rw [e1]; exact ⟨n6, n7⟩
    · rw [g3]; exact if_neg (by omega)
  · right
    obtain ⟨g1, g2, g3⟩ := h3.nm hY
    obtain ⟨t, _, _, _, _, a3⟩ := abV_is hY h1
    have eo : abO S (va_rf (some u)) = abV S u := rfl
    rw [eo] at a3
    refine ⟨kd, u, h1, h3, ?_⟩
    rcases h2 with e | e
    · subst e
      rw [if_pos rfl] at a3
      refine ⟨by rw [a3]; exact ⟨by omega, by omega⟩, Or.inl ⟨rfl, a3, ?_⟩⟩
      rw [a3]; unfold eT
      rw [if_pos (by omega), if_pos (by omega), show (10000 + 2 * abV S u - 10000) / 2 = abV S u by omega]
    · subst e
      rw [if_neg (by decide), if_pos rfl] at a3
      refine ⟨by rw [a3]; exact ⟨by omega, by omega⟩, Or.inr ⟨rfl, a3, ?_⟩⟩
      rw [a3]; unfold eT
      rw [if_pos (by omega), if_neg (by omega), show (10001 + 2 * abV S u - 10000) / 2 = abV S u by omega]
theorem rTy.n0 (hY : YK R S) {x : Nat} (h : rTy S x) : abT S x ≠ 0 := by
  rcases h.nm hY with ⟨h1, _⟩ | ⟨kd, u, _, _, h1, _⟩
  · have := h1.nm hY; omega
  · exact fun e => absurd h1.1 (by rw [e]; decide)
theorem rTy.rf (hY : YK R S) {x : Nat} {kd ix : Int32} {o : Option Nat} (h : rTy S x) (q : isTy S x kd ix o) : isRf (abT S x) ↔ (kd = 6 ∨ kd = 7) := by
  rcases h.nm hY with ⟨_, h1, h2, _⟩ | ⟨k2, u, h1, _, h2, h3⟩
  · exact ⟨fun w => absurd w h1, fun w => (w.elim (h2 _ _ _ q).1 (h2 _ _ _ q).2).elim⟩
  · obtain ⟨e, _⟩ := isTy_fn q h1
    subst e
    exact ⟨fun _ => h3.imp (fun w => w.1) (fun w => w.1), fun _ => h2⟩
theorem rTy.cp (hY : YK R S) {x : Nat} {kd ix : Int32} {o : Option Nat} (h : rTy S x) (q : isTy S x kd ix o) : cpT (abT S x) ↔ (kd = 0 ∨ kd = 1 ∨ kd = 6) := by
  rcases h.nm hY with ⟨h0, h1, h2, _⟩ | ⟨k2, u, h1, h0, h2, h3⟩
  · obtain ⟨g1, g2, g3⟩ := h0.nm hY
    obtain ⟨t, _, _, _, a2, _⟩ := abV_is hY q
    have n6 := (h2 _ _ _ q)
    unfold cpT
    rw [g3]
    unfold abK at a2
    constructor
    · rintro (w | w | w)
      · rw [w] at a2
        by_cases e0 : kd = 0
        · exact Or.inl e0
        · rw [if_neg e0] at a2
          exfalso
          by_cases e1 : kd = 1
          · rw [if_pos e1] at a2; cases a2
          · rw [if_neg e1] at a2
            by_cases e2 : kd = 2
            · rw [if_pos e2] at a2; cases a2
            · rw [if_neg e2] at a2
              by_cases e3 : kd = 3 ∨ kd = 4
              · rw [if_pos e3] at a2; omega
              · rw [if_neg e3] at a2
                by_cases e5 : kd = 5
                · rw [if_pos e5] at a2; omega
                · rw [if_neg e5] at a2; cases a2
      · rw [w] at a2
        by_cases e0 : kd = 0
        · exact Or.inl e0
        · rw [if_neg e0] at a2
          by_cases e1 : kd = 1
          · exact Or.inr (Or.inl e1)
          · exfalso
            rw [if_neg e1] at a2
            by_cases e2 : kd = 2
            · rw [if_pos e2] at a2; cases a2
            · rw [if_neg e2] at a2
              by_cases e3 : kd = 3 ∨ kd = 4
              · rw [if_pos e3] at a2; omega
              · rw [if_neg e3] at a2
                by_cases e5 : kd = 5
                · rw [if_pos e5] at a2; omega
                · rw [if_neg e5] at a2; cases a2
      · exact absurd w.1.1 (by omega)
    · rintro (w | w | w)
      · subst w; exact Or.inl (a2.trans (if_pos rfl))
      · subst w; exact Or.inr (Or.inl (a2.trans rfl))
      · exact absurd w n6.1
  · obtain ⟨e, _⟩ := isTy_fn q h1
    subst e
    unfold cpT
    rcases h3 with ⟨w, w2, _⟩ | ⟨w, w2, _⟩
    · exact ⟨fun _ => Or.inr (Or.inr w), fun _ => Or.inr (Or.inr ⟨h2, by omega⟩)⟩
    · refine ⟨fun z => ?_, fun z => ?_⟩
      · rcases z with z | z | z
        · omega
        · omega
        · omega
      · subst w; exact absurd z (by decide)
end LY9
