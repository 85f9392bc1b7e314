theorem ent_0 {s : List tE} {n : Nat} {x : tE} (h : ent s n = some x) : wl s ≠ 0 := by have := ent_lt h; omega
section
variable {F X : tF} {G : Nat → Nat → Nat} {rs a b : Nat} {k : Nat → Option (List tE)} {C : lnC} {Q : lnQ} {h : Nat → lnT}
/-- along the code without a jump: a marked reference's temp is what its loan holds -/
theorem crn_M (w : lnW F X G rs a b k C Q h) (hu : ∀ i j : Nat, a ≤ i → i < b → a ≤ j → j < b → F 0 i = 4 → F 0 j = 4 → F 2 i = F 2 j → i = j) {p : Nat} : ∀ d i : Nat, i = p + d → i < b → crn F k h a p i → ∀ (s : List tE) (n : Nat) (x : tE), k i = some s → ent s n = some x → mkd x → ∃ j l : Nat, a ≤ j ∧ j < i ∧ F 0 j = 4 ∧ F 2 j = nI l ∧ l < 54 ∧ x.2.2 = l + 1 ∧ (∃ s0 : List tE, k j = some s0) ∧ lnF (h i) n = lnB (h (j + 1)) l
  | 0, i, e, hb, hc, s, n, x, hs, hx, hm => by
    obtain rfl : i = p := by omega
    obtain ⟨-, -, -, ⟨s0, g1, g2⟩, -⟩ := hc
    rw [hs] at g1
    rw [← some_i g1] at g2
    exact absurd g2 (ent_0 hx)
  | d + 1, i, e, hb, hc, s, n, x, hs, hx, hm => by
    obtain ⟨m, rfl⟩ : ∃ m : Nat, i = m + 1 := ⟨p + d, by omega⟩
    have hcm : crn F k h a p m := ⟨hc.1, by omega, hc.2.2.1, hc.2.2.2.1, fun m2 x1 x2 => hc.2.2.2.2 m2 x1 (by omega)⟩
    have ham : a ≤ m := by have := hc.1; omega
    obtain ⟨q1, s0, q2, q3⟩ := crn_T w d m (by omega) (by omega) hcm
    by_cases c : isL (F 0 m)
    · have e1 := ce_l w.ce ham (by omega) c q2
      rw [hs] at e1
      obtain rfl := some_i e1
      obtain ⟨j, l, g1, g2, g3, g4, g5, g6, g7, g8⟩ := crn_M w hu d m (by omega) (by omega) hcm s n x q2 hx hm
      refine ⟨j, l, g1, by omega, g3, g4, g5, g6, g7, ?_⟩
      rw [← g8]
      obtain ⟨o, ho, h33, hr⟩ := w.tr m ham (by omega)
      rcases hr with ⟨-, L, -, -, -, -, l5, -⟩ | ⟨n13, n14, -⟩
      · unfold lnF; rw [l5]
      · rw [ho] at c
        rcases isL_nI h33 c with z | z
        · exact absurd z n13
        · exact absurd z n14
    · have hal : (h m).2.2.2.1 ≠ 0 := (cA_n (h := fun j => lnp (h j)) c).mp q1
      obtain ⟨o, h33, ho, hk, p1, p2, p3, p4⟩ := lnW_1 w ham (by omega) c hal q2
      obtain ⟨o2, o3, o4, o5⟩ := (hc.2.2.2.2 m (by omega) (by omega)).resolve_left c
      obtain rfl : o = o2 := nI_33 h33 o3 (ho.symm.trans o4)
      have hop := ce_op w.ce ham (by omega) q2 ho h33
      rcases mk_step hs hx hm o o5 hop with ⟨z1, z2⟩ | ⟨rfl, z2, l, z3, z4, z5⟩
      · obtain ⟨j, l, g1, g2, g3, g4, g5, g6, g7, g8⟩ := crn_M w hu d m (by omega) (by omega) hcm s0 n x q2 z1 hm
        refine ⟨j, l, g1, by omega, g3, g4, g5, g6, g7, ?_⟩
        rw [← g8]
        rcases p4 with ⟨-, -, y3⟩ | ⟨-, x9, y2⟩
        · rw [y3]
        · rcases y2 with ⟨-, -, y4⟩ | ⟨-, -, y4⟩
          · rw [y4]; exact pk_uLn (by omega)
          · rw [y4]
      · obtain ⟨x9, b1, b2, -, -⟩ := lnW_Bx w ham (by omega) ho z3 z4 q1
        refine ⟨m, l, ham, by omega, ho, z3, z4, z5, ⟨s0, q2⟩, ?_⟩
        have hv : wl s0 ≤ 211 := Nat.le_trans wl_vl_le (w.v211 m s0 ham (by omega) q2)
        rcases b2 with ⟨-, -, y4⟩ | ⟨y1, -, -⟩
        · rw [y4, b1, z2, q3]; exact pk_uLs
        · omega
end
