theorem lnSd_B {n L : Nat} {s t : lnT} {rv : Int32} (h : lnSd n L s t rv) : lnB t = lnB s := by unfold lnB; rw [h.2.2.2.1]
theorem lnPo_B {k : Nat} {s t : lnT} (h : lnPo k s t) : lnB t = lnB s := by
  obtain ⟨x, h1, h2⟩ := h
  unfold lnB; rw [h2]; rfl
/-- what the loans' references hold changes at a borrow alone -/
theorem lnLk_B {F : tF} {C : lnC} {Q : lnQ} {i : Nat} {s t : lnT} : ∀ o : Nat, o < 33 → o ≠ 4 → lnLk F C Q i s t o → lnB t = lnB s
  | 0, _, _, h => by
    obtain ⟨gt, tn2, h1, rfl⟩ := h
    rfl
  | 1, _, _, h => by
    obtain ⟨gt, tn2, h1, rfl⟩ := h
    rfl
  | 2, _, _, h => by
    obtain ⟨p, v, u, h1, h2, h3, h4, rfl, h5⟩ := h
    rcases h5 with ⟨-, gt, tn2, h6, rfl⟩ | ⟨-, gt, tn2, h6, rfl⟩
    · rfl
    · rfl
  | 3, _, _, h => by
    obtain ⟨p, v, u, h1, h2, h3, h4, rfl, h5⟩ := h
    rcases h5 with ⟨-, gt, tn2, h6, rfl⟩ | ⟨-, gt, tn2, h6, rfl⟩
    · rfl
    · rfl
  | 4, _, e, _ => absurd rfl e
  | 5, _, _, h => by
    have h : t = s := h
    rw [h]
  | 6, _, _, h => by
    have h : t = s := h
    rw [h]
  | 7, _, _, h => lnPo_B h
  | 8, _, _, h => by
    have h : t = s := h
    rw [h]
  | 9, _, _, h => by
    obtain ⟨gt, tn2, h1, rfl⟩ := h
    rfl
  | 10, _, _, h => lnPo_B h
  | 11, _, _, h => by
    obtain ⟨gt, tn2, h1, rfl⟩ := h
    rfl
  | 12, _, _, h => by
    obtain ⟨n, h1, h2, h3⟩ := h
    exact lnPo_B h3
  | 13, _, _, h => by
    have h : t = s := h
    rw [h]
  | 14, _, _, h => by
    have h : t = s := h
    rw [h]
  | 15, _, _, h => by
    obtain ⟨L, u, rv, q1, q2, q3, rfl⟩ := h
    have e : lnB u = lnB s := lnSd_B q3
    exact e
  | 16, _, _, h => by
    obtain ⟨L, u, rv, q1, q2, q3, rfl⟩ := h
    have e : lnB u = lnB s := lnSd_B q3
    exact e
  | 17, _, _, h => by
    obtain ⟨L, u, rv, q1, q2, q3, q4⟩ := h
    exact (lnSd_B q4).trans (lnPo_B q3)
  | 18, _, _, h => by
    obtain ⟨L, u, rv, q1, q2, q3, q4⟩ := h
    exact (lnSd_B q4).trans (lnPo_B q3)
  | 19, _, _, h => by
    obtain ⟨L, u, rv, q1, q2, q3, q4⟩ := h
    exact (lnSd_B q4).trans (lnPo_B q3)
  | 20, _, _, h => by
    obtain ⟨tb, c, u, v, q1, q2, q3, q4, q5, q6, rfl⟩ := h
    have e : lnB v = lnB u := by unfold lnB; rw [(lnSw_ag q6).1]
    exact e.trans (lnPo_B q5)
  | 21, _, _, h => by
    obtain ⟨g, h1, h2, n, x, t1, gt, tn2, q1, q2, q3, q4, rfl⟩ := h
    rfl
  | 22, _, _, h => by
    obtain ⟨x, f1, g6, g8, h1, h2, h3, rfl⟩ := h
    rfl
  | 23, _, _, h => by
    have h : t = s := h
    rw [h]
  | 24, _, _, h => by
    obtain ⟨v, x, tn2, h1, h2, h3, rfl⟩ := h
    rfl
  | 25, _, _, h => by
    obtain ⟨v, h1, h2, rfl⟩ := h
    rfl
  | 26, _, _, h => by
    obtain ⟨p, v, x, tn2, h1, h2, h3, h4, h5, h6⟩ := h
    rcases h6 with ⟨-, rfl⟩ | ⟨-, rfl⟩
    · rfl
    · rfl
  | 27, _, _, h => lnPo_B h
  | 28, _, _, h => lnPo_B h
  | 29, _, _, h => by
    obtain ⟨v, h1, h2, rfl⟩ := h
    rfl
  | 30, _, _, h => by
    obtain ⟨v, b, h1, h2, h3, h4, rfl⟩ := h
    rfl
  | 31, _, _, h => by
    have h : t = s := h
    rw [h]
  | 32, _, _, h => by
    obtain ⟨v0, v1, g1, g6, h1, h2, h3, h4, h5, rfl⟩ := h
    rfl
  | n + 33, h, _, _ => absurd h (by omega)
section
variable {F X : tF} {G : Nat → Nat → Nat} {rs a b : Nat} {k : Nat → Option (List tE)} {C : lnC} {Q : lnQ} {h : Nat → lnT}
/-- behind the borrow of loan l what it holds stays -/
theorem lnW_B (w : lnW F X G rs a b k C Q h) (hu : ∀ i j : Nat, a ≤ i → i < b → a ≤ j → j < b → F 0 i = 4 → F 0 j = 4 → F 2 i = F 2 j → i = j) {j l : Nat} (hj : a ≤ j) (hjb : j < b) (h4 : F 0 j = 4) (hl : F 2 j = nI l) (hl2 : l < 54) : ∀ d i : Nat, i = j + 1 + d → i ≤ b → lnB (h i) l = lnB (h (j + 1)) l
  | 0, i, e, _ => by rw [show i = j + 1 by omega]
  | d + 1, i, e, hb => by
    obtain ⟨m, rfl⟩ : ∃ m : Nat, i = m + 1 := ⟨j + 1 + d, by omega⟩
    rw [← lnW_B w hu hj hjb h4 hl hl2 d m (by omega) (by omega)]
    obtain ⟨o, ho, h33, hr⟩ := w.tr m (by omega) (by omega)
    rcases hr with ⟨-, L, -, -, -, -, l5, -⟩ | ⟨n13, n14, hr⟩
    · unfold lnB; rw [l5]
    · rcases hr with ⟨-, hr⟩ | ⟨-, hr⟩
      · rw [hr]
      · by_cases e4 : o = 4
        · subst e4
          obtain ⟨p, v, b9, x, gt, tn2, h1, h2, h3, h4', h5, h6, h7, h8, h9⟩ := hr
          rw [h9]
          show vp_updL (lnB (h m)) b9 x l = lnB (h m) l
          refine pk_uLn (fun z => ?_)
          have := hu m j (by omega) (by omega) hj hjb ho h4 (by rw [h5, hl, z])
          omega
        · rw [lnLk_B o h33 e4 hr]
/-- what is pushed by a borrow is what its loan holds -/
theorem lnW_Bx (w : lnW F X G rs a b k C Q h) {j l : Nat} (hj : a ≤ j) (hjb : j < b) (h4 : F 0 j = 4) (hl : F 2 j = nI l) (hl2 : l < 54) (hA : cA F (fun j => lnp (h j)) j) : ∃ x : Int64, lnB (h (j + 1)) l = x ∧ psR (lnF (h j)) (lnN (h j)) x (lnF (h (j + 1))) (lnN (h (j + 1))) ∧ lbit x l = true ∧ ∃ p v : Nat, F 1 j = nI p ∧ p < 3001 ∧ F 6 p = nI v ∧ v < 40 ∧ (rfB Q.1 (Q.2.1 v) → ∀ m : Nat, lbit ((h j).1 v) m = true → lbit x m = true) := by
  have hn : ¬ isL (F 0 j) := by rw [h4]; unfold isL; decide
  have hz : (h j).2.2.2.1 ≠ 0 := (cA_n (h := fun j => lnp (h j)) hn).mp hA
  obtain ⟨o, ho, h33, hr⟩ := w.tr j hj hjb
  obtain rfl : o = 4 := nI_33 h33 (by omega) (ho.symm.trans h4)
  rcases hr with ⟨z, -⟩ | ⟨-, -, hr⟩
  · omega
  · rcases hr with ⟨z, -⟩ | ⟨-, hr⟩
    · exact absurd z hz
    · obtain ⟨p, v, b9, x, gt, tn2, h1, h2, h3, h4', h5, h6, h7, h8, h9⟩ := hr
      obtain rfl : l = b9 := (nI_eq (a := l) (b := b9) (by omega) (by omega)).mp (hl.symm.trans h5)
      refine ⟨x, ?_, ?_, ?_, p, v, h1, h2, h3, h4', fun hr m hm => ?_⟩
      · rw [h9]
        show vp_updL (lnB (h j)) l x l = x
        exact pk_uLs
      · rw [h9]; exact h8
      · rcases h7 with ⟨-, rfl⟩ | ⟨-, rfl⟩
        · rw [lbit_or, lbit_bt l l (by omega) (by omega), decide_eq_true rfl]; rfl
        · rw [lbit_or, lbit_bt l l (by omega) (by omega), decide_eq_true rfl]; rfl
      · rcases h7 with ⟨-, rfl⟩ | ⟨z, -⟩
        · rw [lbit_or, hm, Bool.or_true]
        · exact absurd hr z
end
