theorem iOp_nx {F X : tF} {G : Nat → Nat → Nat} {rs i : Nat} {k : Nat → Option (List tE)} {J K : Int32 → List tE → Prop} {s : List tE} (e1 : k (i + 1) = none) : ∀ o : Nat, iOp F X G rs k J K i s o → o = 15 ∨ o = 16 ∨ o = 20 ∨ o = 22
  | 0, h => by unfold iOp at h; rw [e1] at h; simp at h
  | 1, h => by unfold iOp at h; rw [e1] at h; simp at h
  | 2, h => by unfold iOp at h; rw [e1] at h; simp at h
  | 3, h => by unfold iOp at h; rw [e1] at h; simp at h
  | 4, h => by unfold iOp at h; rw [e1] at h; simp at h
  | 5, h => by unfold iOp at h; rw [e1] at h; simp at h
  | 6, h => by unfold iOp at h; rw [e1] at h; simp at h
  | 7, h => by unfold iOp at h; rw [e1] at h; simp at h
  | 8, h => by unfold iOp at h; rw [e1] at h; simp at h
  | 9, h => by unfold iOp at h; rw [e1] at h; simp at h
  | 10, h => by unfold iOp at h; rw [e1] at h; simp at h
  | 11, h => by unfold iOp at h; rw [e1] at h; simp at h
  | 12, h => by unfold iOp at h; rw [e1] at h; simp at h
  | 13, h => by unfold iOp at h; rw [e1] at h; simp at h
  | 14, h => by unfold iOp at h; rw [e1] at h; simp at h
  | 15, _ => by decide
  | 16, _ => by decide
  | 17, h => by obtain ⟨r, h1, h2, h3⟩ := h; rw [e1] at h2; exact absurd h2 (by simp)
  | 18, h => by obtain ⟨r, h1, h2, h3⟩ := h; rw [e1] at h2; exact absurd h2 (by simp)
  | 19, h => by obtain ⟨r, h1, h2, h3⟩ := h; rw [e1] at h2; exact absurd h2 (by simp)
  | 20, _ => by decide
  | 21, h => by unfold iOp at h; rw [e1] at h; simp at h
  | 22, _ => by decide
  | 23, h => by unfold iOp at h; rw [e1] at h; simp at h
  | 24, h => by unfold iOp at h; rw [e1] at h; simp at h
  | 25, h => by unfold iOp at h; rw [e1] at h; simp at h
  | 26, h => by unfold iOp at h; rw [e1] at h; simp at h
  | 27, h => by unfold iOp at h; rw [e1] at h; simp at h
  | 28, h => by unfold iOp at h; rw [e1] at h; simp at h
  | 29, h => by unfold iOp at h; rw [e1] at h; simp at h
  | 30, h => by unfold iOp at h; rw [e1] at h; simp at h
  | 31, h => by unfold iOp at h; rw [e1] at h; simp at h
  | 32, h => by unfold iOp at h; rw [e1] at h; simp at h
  | n + 33, h => h.elim
theorem iOp_lt {F X : tF} {G : Nat → Nat → Nat} {rs i : Nat} {k : Nat → Option (List tE)} {J K : Int32 → List tE → Prop} {s : List tE} {o : Nat} (h : iOp F X G rs k J K i s o) : o < 33 := by
  rcases Nat.lt_or_ge o 33 with z | z
  · exact z
  · match o, z, h with
    | n + 33, _, h => exact h.elim
/-- the code's certificate, from a to b -/
def ceI (F X : tF) (G : Nat → Nat → Nat) (rs a b : Nat) (k : Nat → Option (List tE)) : Prop := (∀ i : Nat, a ≤ i → i < b → iB F i ∧ ∀ s : List tE, k i = some s → ∃ o : Nat, F 0 i = nI o ∧ iOp F X G rs k (fun L r => False ∨ tJm F G k i b L r) (fun L r => tJb F k a i L r) i s o) ∧ b ≤ 6000 ∧ ∀ i : Nat, a ≤ i → i < b → isL (F 0 i) → ∃ L : Nat, L < 1100 ∧ F 1 i = nI L ∧ F 5 L = nI i
theorem ce_op {F X : tF} {G : Nat → Nat → Nat} {rs a b i o : Nat} {k : Nat → Option (List tE)} {s : List tE} (h : ceI F X G rs a b k) (ha : a ≤ i) (hb : i < b) (hs : k i = some s) (ho : F 0 i = nI o) (h33 : o < 33) : iOp F X G rs k (fun L r => False ∨ tJm F G k i b L r) (fun L r => tJb F k a i L r) i s o := by
  obtain ⟨p, p1, p2⟩ := (h.1 i ha hb).2 s hs
  have := iOp_lt p2
  have e := (nI_eq (a := o) (b := p) (by omega) (by omega)).mp (ho.symm.trans p1)
  rw [e]; exact p2
/-- two labels of one number are one -/
theorem ce_one {F X : tF} {G : Nat → Nat → Nat} {rs a b i j : Nat} {k : Nat → Option (List tE)} {x : Int32} (h : ceI F X G rs a b k) (h1 : a ≤ i) (h2 : i < b) (h3 : isL (F 0 i)) (h4 : a ≤ j) (h5 : j < b) (h6 : isL (F 0 j)) (h7 : F 1 i = x) (h8 : F 1 j = x) : i = j := by
  obtain ⟨L, l1, l2, l3⟩ := h.2.2 i h1 h2 h3
  obtain ⟨M, m1, m2, m3⟩ := h.2.2 j h4 h5 h6
  have e := (nI_eq (a := L) (b := M) (by omega) (by omega)).mp (l2.symm.trans (h7.trans (h8.symm.trans m2)))
  have hb := h.2.1
  rw [e] at l3
  exact (nI_eq (a := i) (b := j) (by omega) (by omega)).mp (l3.symm.trans m3)
def flO (F : tF) (i : Nat) (rc : Nat → Int32) (ir2 : Int32) (rc2 : Nat → Int32) : Nat → Prop
  | 15 => ir2 = 0 ∧ ∃ L : Nat, F 1 i = nI L ∧ L < 1100 ∧ ∀ M : Nat, M ≠ L → rc2 M = rc M
  | 16 => ir2 = 0 ∧ ∃ L : Nat, F 1 i = nI L ∧ L < 1100 ∧ ∀ M : Nat, M ≠ L → rc2 M = rc M
  | 17 => ∃ L : Nat, F 1 i = nI L ∧ L < 1100 ∧ ∀ M : Nat, M ≠ L → rc2 M = rc M
  | 18 => ∃ L : Nat, F 1 i = nI L ∧ L < 1100 ∧ ∀ M : Nat, M ≠ L → rc2 M = rc M
  | 19 => ∃ L : Nat, F 1 i = nI L ∧ L < 1100 ∧ ∀ M : Nat, M ≠ L → rc2 M = rc M
  | 20 => ir2 = 0 ∧ ∃ tb c : Nat, F 1 i = nI tb ∧ F 3 i = nI c ∧ tb ≤ 3002 ∧ c ≤ 12 ∧ ∀ M : Nat, rc2 M ≠ rc M → ∃ g : Nat, g < c ∧ F 13 (tb + g) = nI M ∧ M < 1100
  | 22 => ir2 = 0 ∧ rc2 = rc
  | _ => rc2 = rc
theorem flO_d {F : tF} {i : Nat} {rc rc2 : Nat → Int32} {ir2 : Int32} : ∀ o : Nat, o ≠ 15 → o ≠ 16 → o ≠ 17 → o ≠ 18 → o ≠ 19 → o ≠ 20 → o ≠ 22 → flO F i rc ir2 rc2 o → rc2 = rc
  | 0, _, _, _, _, _, _, _, h => h
  | 1, _, _, _, _, _, _, _, h => h
  | 2, _, _, _, _, _, _, _, h => h
  | 3, _, _, _, _, _, _, _, h => h
  | 4, _, _, _, _, _, _, _, h => h
  | 5, _, _, _, _, _, _, _, h => h
  | 6, _, _, _, _, _, _, _, h => h
  | 7, _, _, _, _, _, _, _, h => h
  | 8, _, _, _, _, _, _, _, h => h
  | 9, _, _, _, _, _, _, _, h => h
  | 10, _, _, _, _, _, _, _, h => h
  | 11, _, _, _, _, _, _, _, h => h
  | 12, _, _, _, _, _, _, _, h => h
  | 13, _, _, _, _, _, _, _, h => h
  | 14, _, _, _, _, _, _, _, h => h
  | 15, q, _, _, _, _, _, _, h => absurd rfl q
  | 16, _, q, _, _, _, _, _, h => absurd rfl q
  | 17, _, _, q, _, _, _, _, h => absurd rfl q
  | 18, _, _, _, q, _, _, _, h => absurd rfl q
  | 19, _, _, _, _, q, _, _, h => absurd rfl q
  | 20, _, _, _, _, _, q, _, h => absurd rfl q
  | 21, _, _, _, _, _, _, _, h => h
  | 22, _, _, _, _, _, _, q, h => absurd rfl q
  | _ + 23, _, _, _, _, _, _, _, h => h
theorem flO_i {F : tF} {i : Nat} {rc : Nat → Int32} {ir2 : Int32} : ∀ o : Nat, o ≠ 15 → o ≠ 16 → o ≠ 17 → o ≠ 18 → o ≠ 19 → o ≠ 20 → o ≠ 22 → flO F i rc ir2 rc o
  | 0, _, _, _, _, _, _, _ => rfl
  | 1, _, _, _, _, _, _, _ => rfl
  | 2, _, _, _, _, _, _, _ => rfl
  | 3, _, _, _, _, _, _, _ => rfl
  | 4, _, _, _, _, _, _, _ => rfl
  | 5, _, _, _, _, _, _, _ => rfl
  | 6, _, _, _, _, _, _, _ => rfl
  | 7, _, _, _, _, _, _, _ => rfl
  | 8, _, _, _, _, _, _, _ => rfl
  | 9, _, _, _, _, _, _, _ => rfl
  | 10, _, _, _, _, _, _, _ => rfl
  | 11, _, _, _, _, _, _, _ => rfl
  | 12, _, _, _, _, _, _, _ => rfl
  | 13, _, _, _, _, _, _, _ => rfl
  | 14, _, _, _, _, _, _, _ => rfl
  | 15, q, _, _, _, _, _, _ => absurd rfl q
  | 16, _, q, _, _, _, _, _ => absurd rfl q
  | 17, _, _, q, _, _, _, _ => absurd rfl q
  | 18, _, _, _, q, _, _, _ => absurd rfl q
  | 19, _, _, _, _, q, _, _ => absurd rfl q
  | 20, _, _, _, _, _, q, _ => absurd rfl q
  | 21, _, _, _, _, _, _, _ => rfl
  | 22, _, _, _, _, _, _, q => absurd rfl q
  | _ + 23, _, _, _, _, _, _, _ => rfl
/-- how a pass goes on: whether it is reached, the labels that are -/
def flR (F : tF) (i : Nat) (ir : Int32) (rc : Nat → Int32) (ir2 : Int32) (rc2 : Nat → Int32) : Prop := ∃ o : Nat, F 0 i = nI o ∧ o < 33 ∧ (((o = 13 ∨ o = 14) ∧ ∃ L : Nat, F 1 i = nI L ∧ L < 1100 ∧ rc2 = rc ∧ (ir2 ≠ 0 → ir ≠ 0 ∨ rc L ≠ 0)) ∨ (o ≠ 13 ∧ o ≠ 14 ∧ ((ir = 0 ∧ ir2 = 0 ∧ rc2 = rc) ∨ (ir ≠ 0 ∧ flO F i rc ir2 rc2 o))))
/-- labels that are reached are told a stack -/
def rcK (F : tF) (k : Nat → Option (List tE)) (a b : Nat) (rc : Nat → Int32) : Prop := ∀ j L : Nat, a ≤ j → j < b → isL (F 0 j) → F 1 j = nI L → L < 1100 → rc L ≠ 0 → ∃ s : List tE, k j = some s
theorem rcK_to {F X : tF} {G : Nat → Nat → Nat} {rs a b : Nat} {k : Nat → Option (List tE)} {rc rc2 : Nat → Int32} (hc : ceI F X G rs a b k) (h2 : rcK F k a b rc) (h : ∀ M : Nat, M < 1100 → rc2 M ≠ rc M → ∃ (j : Nat) (r : List tE), a ≤ j ∧ j < b ∧ isL (F 0 j) ∧ F 1 j = nI M ∧ k j = some r) : rcK F k a b rc2 := fun j L q1 q2 q3 q4 q5 q6 => by
  by_cases e : rc2 L = rc L
  · exact h2 j L q1 q2 q3 q4 q5 (by rw [← e]; exact q6)
  · obtain ⟨j2, r, z1, z2, z3, z4, z5⟩ := h L q5 e
    rw [ce_one hc q1 q2 q3 z1 z2 z3 q4 z4]
    exact ⟨r, z5⟩
theorem tJm_at {F : tF} {G : Nat → Nat → Nat} {k : Nat → Option (List tE)} {a i b : Nat} {x : Int32} {r : List tE} (h : False ∨ tJm F G k i b x r) (ha : a ≤ i) : ∃ (j : Nat) (r : List tE), a ≤ j ∧ j < b ∧ isL (F 0 j) ∧ F 1 j = x ∧ k j = some r := by
  obtain ⟨j, j1, j2, j3, j4, j5⟩ := h.resolve_left id
  exact ⟨j, r, by omega, j2, Or.inl j3, j4, j5⟩
theorem fl_K {F X : tF} {G : Nat → Nat → Nat} {rs a b i : Nat} {k : Nat → Option (List tE)} {ir ir2 : Int32} {rc rc2 : Nat → Int32} (hc : ceI F X G rs a b k) (ha : a ≤ i) (hb : i < b) (hr : flR F i ir rc ir2 rc2) (h1 : ir ≠ 0 → ∃ s : List tE, k i = some s) (h2 : rcK F k a b rc) : (ir2 ≠ 0 → ∃ s : List tE, k (i + 1) = some s) ∧ rcK F k a b rc2 := by
  obtain ⟨o, ho, h33, hr⟩ := hr
  have hnx : ∀ s : List tE, k i = some s → o ≠ 15 → o ≠ 16 → o ≠ 20 → o ≠ 22 → ∃ r : List tE, k (i + 1) = some r := fun s hs n1 n2 n3 n4 => by
    cases e : k (i + 1) with
    | some r => exact ⟨r, rfl⟩
    | none =>
      rcases iOp_nx e o (ce_op hc ha hb hs ho h33) with z | z | z | z
      · exact absurd z n1
      · exact absurd z n2
      · exact absurd z n3
      · exact absurd z n4
  rcases hr with ⟨hl, L, L1, L2, L3, L4⟩ | ⟨n13, n14, hr⟩
  · rw [L3]
    refine ⟨fun z => ?_, h2⟩
    have hs : ∃ s : List tE, k i = some s := by
      rcases L4 z with y | y
      · exact h1 y
      · exact h2 i L ha hb (by rcases hl with w | w <;> rw [ho, w]; exact Or.inl rfl; exact Or.inr rfl) L1 L2 y
    obtain ⟨s, hs⟩ := hs
    exact hnx s hs (by omega) (by omega) (by omega) (by omega)
  · rcases hr with ⟨r1, r2, r3⟩ | ⟨r1, r2⟩
    · rw [r3]; exact ⟨fun z => absurd r2 z, h2⟩
    · obtain ⟨s, hs⟩ := h1 r1
      have hop := ce_op hc ha hb hs ho h33
      have one : ∀ L : Nat, F 1 i = nI L → (∀ M : Nat, M ≠ L → rc2 M = rc M) → (∃ (j : Nat) (r : List tE), a ≤ j ∧ j < b ∧ isL (F 0 j) ∧ F 1 j = F 1 i ∧ k j = some r) → rcK F k a b rc2 := fun L l1 l2 l3 => rcK_to hc h2 (fun M m1 m2 => by
        by_cases e : M = L
        · rw [e, ← l1]; exact l3
        · exact absurd (l2 M e) m2)
      by_cases e15 : o = 15
      · subst e15
        obtain ⟨q1, L, q2, q3, q4⟩ := r2
        refine ⟨fun z => absurd q1 z, one L q2 q4 ?_⟩
        obtain ⟨j, j1, j2, j3, j4, j5⟩ := (show tJb F k a i (F 1 i) s from hop.2)
        exact ⟨j, s, j1, by omega, Or.inr j3, j4, j5⟩
      by_cases e16 : o = 16
      · subst e16
        obtain ⟨q1, L, q2, q3, q4⟩ := r2
        exact ⟨fun z => absurd q1 z, one L q2 q4 (tJm_at (show False ∨ tJm F G k i b (F 1 i) s from hop.2) ha)⟩
      by_cases e17 : o = 17
      · subst e17
        obtain ⟨L, q2, q3, q4⟩ := r2
        obtain ⟨r, u1, ⟨u2, -⟩, u3⟩ := hop
        exact ⟨fun _ => ⟨r, u2⟩, one L q2 q4 (tJm_at u3 ha)⟩
      by_cases e18 : o = 18
      · subst e18
        obtain ⟨L, q2, q3, q4⟩ := r2
        obtain ⟨r, u1, u2, u3⟩ := hop
        exact ⟨fun _ => ⟨r, u2⟩, one L q2 q4 (tJm_at u3 ha)⟩
      by_cases e19 : o = 19
      · subst e19
        obtain ⟨L, q2, q3, q4⟩ := r2
        obtain ⟨r, u1, u2, u3⟩ := hop
        exact ⟨fun _ => ⟨r, u2⟩, one L q2 q4 (tJm_at u3 ha)⟩
      by_cases e20 : o = 20
      · subst e20
        obtain ⟨q1, tb, c, q2, q3, q0, q4, q5⟩ := r2
        refine ⟨fun z => absurd q1 z, rcK_to hc h2 (fun M m1 m2 => ?_)⟩
        obtain ⟨g, g1, g2, g3⟩ := q5 M m2
        obtain ⟨sh, n, tb2, r, u1, u2, u3, u4, u5, u6, ⟨u7, -⟩, u8⟩ := hop
        obtain rfl : tb = tb2 := (nI_eq (a := tb) (b := tb2) (by omega) (by omega)).mp (q2.symm.trans u5)
        obtain rfl : c = n := (nI_eq (a := c) (b := n) (by omega) (by omega)).mp (q3.symm.trans u7)
        rw [← g2]
        rcases u8 with ⟨w1, w2, w3⟩ | ⟨q, m, w0, w1, w2, w3⟩
        · exact tJm_at (w3 g g1) ha
        · exact tJm_at (w3 g g1) ha
      by_cases e22 : o = 22
      · subst e22
        rw [r2.2]; exact ⟨fun z => absurd r2.1 z, h2⟩
      rw [flO_d o e15 e16 e17 e18 e19 e20 e22 r2]
      exact ⟨fun _ => hnx s hs e15 e16 e20 e22, h2⟩
