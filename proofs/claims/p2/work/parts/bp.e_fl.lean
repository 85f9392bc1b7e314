-- bp.e_fl.lean.txt
section
theorem iOp_nx {F X : tF} {G : Nat → Nat → Nat} {rs i : Nat} {k : Nat → Option (List tE)} {J K : Int32 → List tE → Prop} {s : List tE} (e1 : k (i + 1) = none) : ∀ o : Nat, iOp F X G rs k J K i s o → o = 15 ∨ o = 16 ∨ o = 20 ∨ o = 22
  | 0, h => by unfold iOp at h; rw [e1] at h; simp at h
  | 1, h => by unfold iOp at h; rw [e1] at h; simp at h
  | 2, h => by unfold iOp at h; rw [e1] at h; simp at h
  | 3, h => by unfold iOp at h; rw [e1] at h; simp at h
  | 4, h => by unfold iOp at h; rw [e1] at h; simp at h
  | 5, h => by unfold iOp at h; rw [e1] at h; simp at h
  | 6, h => by unfold iOp at h; rw [e1] at h; simp at h
  | 7, h => by unfold iOp at h; rw [e1] at h; simp at h
  | 8, h => by unfold iOp at h; rw [e1] at h; simp at h
  | 9, h => by unfold iOp at h; rw [e1] at h; simp at h
  | 10, h => by unfold iOp at h; rw [e1] at h; simp at h
  | 11, h => by unfold iOp at h; rw [e1] at h; simp at h
  | 12, h => by unfold iOp at h; rw [e1] at h; simp at h
  | 13, h => by unfold iOp at h; rw [e1] at h; simp at h
  | 14, h => by unfold iOp at h; rw [e1] at h; simp at h
  | 15, _ => by decide
  | 16, _ => by decide
  | 17, h => by obtain ⟨r, h1, h2, h3⟩ := h; rw [e1] at h2; exact absurd h2 (by simp)
  | 18, h => by obtain ⟨r, h1, h2, h3⟩ := h; rw [e1] at h2; exact absurd h2 (by simp)
  | 19, h => by obtain ⟨r, h1, h2, h3⟩ := h; rw [e1] at h2; exact absurd h2 (by simp)
  | 20, _ => by decide
  | 21, h => by unfold iOp at h; rw [e1] at h; simp at h
  | 22, _ => by decide
  | 23, h => by unfold iOp at h; rw [e1] at h; simp at h
  | 24, h => by unfold iOp at h; rw [e1] at h; simp at h
  | 25, h => by unfold iOp at h; rw [e1] at h; simp at h
  | 26, h => by unfold iOp at h; rw [e1] at h; simp at h
  | 27, h => by unfold iOp at h; rw [e1] at h; simp at h
  | 28, h => by unfold iOp at h; rw [e1] at h; simp at h
  | 29, h => by unfold iOp at h; rw [e1] at h; simp at h
  | 30, h => by unfold iOp at h; rw [e1] at h; simp at h
  | 31, h => by unfold iOp at h; rw [e1] at h; simp at h
  | 32, h => by unfold iOp at h; rw [e1] at h; simp at h
  | n + 33, h => h.elim
theorem iOp_lt {F X : tF} {G : Nat → Nat → Nat} {rs i : Nat} {k : Nat → Option (List tE)} {J K : Int32 → List tE → Prop} {s : List tE} {o : Nat} (h : iOp F X G rs k J K i s o) : o < 33 := by
  rcases Nat.lt_or_ge o 33 with z | z
  · exact z
  · match o, z, h with
    | n + 33, _, h => exact h.elim
/-- the code's certificate, from a to b -/
def ceI (F X : tF) (G : Nat → Nat → Nat) (rs a b : Nat) (k : Nat → Option (List tE)) : Prop := (∀ i : Nat, a ≤ i → i < b → iB F i ∧ ∀ s : List tE, k i = some s → ∃ o : Nat, F 0 i = nI o ∧ iOp F X G rs k (fun L r => False ∨ tJm F G k i b L r) (fun L r => tJb F k a i L r) i s o) ∧ b ≤ 6000 ∧ ∀ i : Nat, a ≤ i → i < b → isL (F 0 i) → ∃ L : Nat, L < 1100 ∧ F 1 i = nI L ∧ F 5 L = nI i
theorem ce_op {F X : tF} {G : Nat → Nat → Nat} {rs a b i o : Nat} {k : Nat → Option (List tE)} {s : List tE} (h : ceI F X G rs a b k) (ha : a ≤ i) (hb : i < b) (hs : k i = some s) (ho : F 0 i = nI o) (h33 : o < 33) : iOp F X G rs k (fun L r => False ∨ tJm F G k i b L r) (fun L r => tJb F k a i L r) i s o := by
  obtain ⟨p, p1, p2⟩ := (h.1 i ha hb).2 s hs
  have := iOp_lt p2
  have e := (nI_eq (a := o) (b := p) (by omega) (by omega)).mp (ho.symm.trans p1)
  rw [e]; exact p2
/-- two labels of one number are one -/
theorem ce_one {F X : tF} {G : Nat → Nat → Nat} {rs a b i j : Nat} {k : Nat → Option (List tE)} {x : Int32} (h : ceI F X G rs a b k) (h1 : a ≤ i) (h2 : i < b) (h3 : isL (F 0 i)) (h4 : a ≤ j) (h5 : j < b) (h6 : isL (F 0 j)) (h7 : F 1 i = x) (h8 : F 1 j = x) : i = j := by
  obtain ⟨L, l1, l2, l3⟩ := h.2.2 i h1 h2 h3
  obtain ⟨M, m1, m2, m3⟩ := h.2.2 j h4 h5 h6
  have e := (nI_eq (a := L) (b := M) (by omega) (by omega)).mp (l2.symm.trans (h7.trans (h8.symm.trans m2)))
  have hb := h.2.1
  rw [e] at l3
  exact (nI_eq (a := i) (b := j) (by omega) (by omega)).mp (l3.symm.trans m3)
def flO (F : tF) (i : Nat) (rc : Nat → Int32) (ir2 : Int32) (rc2 : Nat → Int32) : Nat → Prop
  | 15 => ir2 = 0 ∧ ∃ L : Nat, F 1 i = nI L ∧ L < 1100 ∧ ∀ M : Nat, M ≠ L → rc2 M = rc M
  | 16 => ir2 = 0 ∧ ∃ L : Nat, F 1 i = nI L ∧ L < 1100 ∧ ∀ M : Nat, M ≠ L → rc2 M = rc M
  | 17 => ∃ L : Nat, F 1 i = nI L ∧ L < 1100 ∧ ∀ M : Nat, M ≠ L → rc2 M = rc M
  | 18 => ∃ L : Nat, F 1 i = nI L ∧ L < 1100 ∧ ∀ M : Nat, M ≠ L → rc2 M = rc M
  | 19 => ∃ L : Nat, F 1 i = nI L ∧ L < 1100 ∧ ∀ M : Nat, M ≠ L → rc2 M = rc M
  | 20 => ir2 = 0 ∧ ∃ tb c : Nat, F 1 i = nI tb ∧ F 3 i = nI c ∧ tb ≤ 3002 ∧ c ≤ 12 ∧ ∀ M : Nat, rc2 M ≠ rc M → ∃ g : Nat, g < c ∧ F 13 (tb + g) = nI M ∧ M < 1100
  | 22 => ir2 = 0 ∧ rc2 = rc
  | _ => rc2 = rc
theorem flO_d {F : tF} {i : Nat} {rc rc2 : Nat → Int32} {ir2 : Int32} : ∀ o : Nat, o ≠ 15 → o ≠ 16 → o ≠ 17 → o ≠ 18 → o ≠ 19 → o ≠ 20 → o ≠ 22 → flO F i rc ir2 rc2 o → rc2 = rc
  | 0, _, _, _, _, _, _, _, h => h
  | 1, _, _, _, _, _, _, _, h => h
  | 2, _, _, _, _, _, _, _, h => h
  | 3, _, _, _, _, _, _, _, h => h
  | 4, _, _, _, _, _, _, _, h => h
  | 5, _, _, _, _, _, _, _, h => h
  | 6, _, _, _, _, _, _, _, h => h
  | 7, _, _, _, _, _, _, _, h => h
  | 8, _, _, _, _, _, _, _, h => h
  | 9, _, _, _, _, _, _, _, h => h
  | 10, _, _, _, _, _, _, _, h => h
  | 11, _, _, _, _, _, _, _, h => h
  | 12, _, _, _, _, _, _, _, h => h
  | 13, _, _, _, _, _, _, _, h => h
  | 14, _, _, _, _, _, _, _, h => h
  | 15, q, _, _, _, _, _, _, h => absurd rfl q
  | 16, _, q, _, _, _, _, _, h => absurd rfl q
  | 17, _, _, q, _, _, _, _, h => absurd rfl q
  | 18, _, _, _, q, _, _, _, h => absurd rfl q
  | 19, _, _, _, _, q, _, _, h => absurd rfl q
  | 20, _, _, _, _, _, q, _, h => absurd rfl q
  | 21, _, _, _, _, _, _, _, h => h
  | 22, _, _, _, _, _, _, q, h => absurd rfl q
  | _ + 23, _, _, _, _, _, _, _, h => h
theorem flO_i {F : tF} {i : Nat} {rc : Nat → Int32} {ir2 : Int32} : ∀ o : Nat, o ≠ 15 → o ≠ 16 → o ≠ 17 → o ≠ 18 → o ≠ 19 → o ≠ 20 → o ≠ 22 → flO F i rc ir2 rc o
  | 0, _, _, _, _, _, _, _ => rfl
  | 1, _, _, _, _, _, _, _ => rfl
  | 2, _, _, _, _, _, _, _ => rfl
  | 3, _, _, _, _, _, _, _ => rfl
  | 4, _, _, _, _, _, _, _ => rfl
  | 5, _, _, _, _, _, _, _ => rfl
  | 6, _, _, _, _, _, _, _ => rfl
  | 7, _, _, _, _, _, _, _ => rfl
  | 8, _, _, _, _, _, _, _ => rfl
  | 9, _, _, _, _, _, _, _ => rfl
  | 10, _, _, _, _, _, _, _ => rfl
  | 11, _, _, _, _, _, _, _ => rfl
  | 12, _, _, _, _, _, _, _ => rfl
  | 13, _, _, _, _, _, _, _ => rfl
  | 14, _, _, _, _, _, _, _ => rfl
  | 15, q, _, _, _, _, _, _ => absurd rfl q
  | 16, _, q, _, _, _, _, _ => absurd rfl q
  | 17, _, _, q, _, _, _, _ => absurd rfl q
  | 18, _, _, _, q, _, _, _ => absurd rfl q
  | 19, _, _, _, _, q, _, _ => absurd rfl q
  | 20, _, _, _, _, _, q, _ => absurd rfl q
  | 21, _, _, _, _, _, _, _ => rfl
  | 22, _, _, _, _, _, _, q => absurd rfl q
  | _ + 23, _, _, _, _, _, _, _ => rfl
/-- how a pass goes on: whether it is reached, the labels that are -/
def flR (F : tF) (i : Nat) (ir : Int32) (rc : Nat → Int32) (ir2 : Int32) (rc2 : Nat → Int32) : Prop := ∃ o : Nat, F 0 i = nI o ∧ o < 33 ∧ (((o = 13 ∨ o = 14) ∧ ∃ L : Nat, F 1 i = nI L ∧ L < 1100 ∧ rc2 = rc ∧ (ir2 ≠ 0 → ir ≠ 0 ∨ rc L ≠ 0)) ∨ (o ≠ 13 ∧ o ≠ 14 ∧ ((ir = 0 ∧ ir2 = 0 ∧ rc2 = rc) ∨ (ir ≠ 0 ∧ flO F i rc ir2 rc2 o))))
/-- labels that are reached are told a stack -/
def rcK (F : tF) (k : Nat → Option (List tE)) (a b : Nat) (rc : Nat → Int32) : Prop := ∀ j L : Nat, a ≤ j → j < b → isL (F 0 j) → F 1 j = nI L → L < 1100 → rc L ≠ 0 → ∃ s : List tE, k j = some s
theorem rcK_to {F X : tF} {G : Nat → Nat → Nat} {rs a b : Nat} {k : Nat → Option (List tE)} {rc rc2 : Nat → Int32} (hc : ceI F X G rs a b k) (h2 : rcK F k a b rc) (h : ∀ M : Nat, M < 1100 → rc2 M ≠ rc M → ∃ (j : Nat) (r : List tE), a ≤ j ∧ j < b ∧ isL (F 0 j) ∧ F 1 j = nI M ∧ k j = some r) : rcK F k a b rc2 := fun j L q1 q2 q3 q4 q5 q6 => by
  by_cases e : rc2 L = rc L
  · exact h2 j L q1 q2 q3 q4 q5 (by rw [← e]; exact q6)
  · obtain ⟨j2, r, z1, z2, z3, z4, z5⟩ := h L q5 e
    rw [ce_one hc q1 q2 q3 z1 z2 z3 q4 z4]
    exact ⟨r, z5⟩
theorem tJm_at {F : tF} {G : Nat → Nat → Nat} {k : Nat → Option (List tE)} {a i b : Nat} {x : Int32} {r : List tE} (h : False ∨ tJm F G k i b x r) (ha : a ≤ i) : ∃ (j : Nat) (r : List tE), a ≤ j ∧ j < b ∧ isL (F 0 j) ∧ F 1 j = x ∧ k j = some r := by
  obtain ⟨j, j1, j2, j3, j4, j5⟩ := h.resolve_left id
  exact ⟨j, r, by omega, j2, Or.inl j3, j4, j5⟩
theorem fl_K {F X : tF} {G : Nat → Nat → Nat} {rs a b i : Nat} {k : Nat → Option (List tE)} {ir ir2 : Int32} {rc rc2 : Nat → Int32} (hc : ceI F X G rs a b k) (ha : a ≤ i) (hb : i < b) (hr : flR F i ir rc ir2 rc2) (h1 : ir ≠ 0 → ∃ s : List tE, k i = some s) (h2 : rcK F k a b rc) : (ir2 ≠ 0 → ∃ s : List tE, k (i + 1) = some s) ∧ rcK F k a b rc2 := by
  obtain ⟨o, ho, h33, hr⟩ := hr
  have hnx : ∀ s : List tE, k i = some s → o ≠ 15 → o ≠ 16 → o ≠ 20 → o ≠ 22 → ∃ r : List tE, k (i + 1) = some r := fun s hs n1 n2 n3 n4 => by
    cases e : k (i + 1) with
    | some r => exact ⟨r, rfl⟩
    | none =>
      rcases iOp_nx e o (ce_op hc ha hb hs ho h33) with z | z | z | z
      · exact absurd z n1
      · exact absurd z n2
      · exact absurd z n3
      · exact absurd z n4
  rcases hr with ⟨hl, L, L1, L2, L3, L4⟩ | ⟨n13, n14, hr⟩
  · rw [L3]
    refine ⟨fun z => ?_, h2⟩
    have hs : ∃ s : List tE, k i = some s := by
      rcases L4 z with y | y
      · exact h1 y
      · exact h2 i L ha hb (by rcases hl with w | w <;> rw [ho, w]; exact Or.inl rfl; exact Or.inr rfl) L1 L2 y
    obtain ⟨s, hs⟩ := hs
    exact hnx s hs (by omega) (by omega) (by omega) (by omega)
  · rcases hr with ⟨r1, r2, r3⟩ | ⟨r1, r2⟩
    · rw [r3]; exact ⟨fun z => absurd r2 z, h2⟩
    · obtain ⟨s, hs⟩ := h1 r1
      have hop := ce_op hc ha hb hs ho h33
      have one : ∀ L : Nat, F 1 i = nI L → (∀ M : Nat, M ≠ L → rc2 M = rc M) → (∃ (j : Nat) (r : List tE), a ≤ j ∧ j < b ∧ isL (F 0 j) ∧ F 1 j = F 1 i ∧ k j = some r) → rcK F k a b rc2 := fun L l1 l2 l3 => rcK_to hc h2 (fun M m1 m2 => by
        by_cases e : M = L
        · rw [e, ← l1]; exact l3
        · exact absurd (l2 M e) m2)
      by_cases e15 : o = 15
      · subst e15
        obtain ⟨q1, L, q2, q3, q4⟩ := r2
        refine ⟨fun z => absurd q1 z, one L q2 q4 ?_⟩
        obtain ⟨j, j1, j2, j3, j4, j5⟩ := (show tJb F k a i (F 1 i) s from hop.2)
        exact ⟨j, s, j1, by omega, Or.inr j3, j4, j5⟩
      by_cases e16 : o = 16
      · subst e16
        obtain ⟨q1, L, q2, q3, q4⟩ := r2
        exact ⟨fun z => absurd q1 z, one L q2 q4 (tJm_at (show False ∨ tJm F G k i b (F 1 i) s from hop.2) ha)⟩
      by_cases e17 : o = 17
      · subst e17
        obtain ⟨L, q2, q3, q4⟩ := r2
        obtain ⟨r, u1, ⟨u2, -⟩, u3⟩ := hop
        exact ⟨fun _ => ⟨r, u2⟩, one L q2 q4 (tJm_at u3 ha)⟩
      by_cases e18 : o = 18
      · subst e18
        obtain ⟨L, q2, q3, q4⟩ := r2
        obtain ⟨r, u1, u2, u3⟩ := hop
        exact ⟨fun _ => ⟨r, u2⟩, one L q2 q4 (tJm_at u3 ha)⟩
      by_cases e19 : o = 19
      · subst e19
        obtain ⟨L, q2, q3, q4⟩ := r2
        obtain ⟨r, u1, u2, u3⟩ := hop
        exact ⟨fun _ => ⟨r, u2⟩, one L q2 q4 (tJm_at u3 ha)⟩
      by_cases e20 : o = 20
      · subst e20
        obtain ⟨q1, tb, c, q2, q3, q0, q4, q5⟩ := r2
        refine ⟨fun z => absurd q1 z, rcK_to hc h2 (fun M m1 m2 => ?_)⟩
        obtain ⟨g, g1, g2, g3⟩ := q5 M m2
        obtain ⟨sh, n, tb2, r, u1, u2, u3, u4, u5, u6, ⟨u7, -⟩, u8⟩ := hop
        obtain rfl : tb = tb2 := (nI_eq (a := tb) (b := tb2) (by omega) (by omega)).mp (q2.symm.trans u5)
        obtain rfl : c = n := (nI_eq (a := c) (b := n) (by omega) (by omega)).mp (q3.symm.trans u7)
        rw [← g2]
        rcases u8 with ⟨w1, w2, w3⟩ | ⟨q, m, w0, w1, w2, w3⟩
        · exact tJm_at (w3 g g1) ha
        · exact tJm_at (w3 g g1) ha
      by_cases e22 : o = 22
      · subst e22
        rw [r2.2]; exact ⟨fun z => absurd r2.1 z, h2⟩
      rw [flO_d o e15 e16 e17 e18 e19 e20 e22 r2]
      exact ⟨fun _ => hnx s hs e15 e16 e20 e22, h2⟩
end
-- bp.f_meas.lean.txt
section
/-- how many of the lowest n bits are set -/
def btN {w : Nat} (x : BitVec w) : Nat → Nat
  | 0 => 0
  | n + 1 => btN x n + if x.getLsbD n = true then 1 else 0
theorem btN_le {w : Nat} (x : BitVec w) : ∀ n : Nat, btN x n ≤ n
  | 0 => Nat.le_refl 0
  | n + 1 => by
    have := btN_le x n
    show btN x n + (if x.getLsbD n = true then 1 else 0) ≤ n + 1
    split <;> omega
theorem btN_or {w : Nat} (x y : BitVec w) : ∀ n : Nat, btN x n ≤ btN (x ||| y) n ∧ (btN (x ||| y) n = btN x n → ∀ j : Nat, j < n → (x ||| y).getLsbD j = x.getLsbD j)
  | 0 => ⟨Nat.le_refl 0, fun _ j hj => absurd hj (Nat.not_lt_zero j)⟩
  | n + 1 => by
    obtain ⟨h1, h2⟩ := btN_or x y n
    have e : (x ||| y).getLsbD n = (x.getLsbD n || y.getLsbD n) := BitVec.getLsbD_or
    show btN x n + (if x.getLsbD n = true then 1 else 0) ≤ btN (x ||| y) n + (if (x ||| y).getLsbD n = true then 1 else 0) ∧ (btN (x ||| y) n + (if (x ||| y).getLsbD n = true then 1 else 0) = btN x n + (if x.getLsbD n = true then 1 else 0) → _)
    rcases Bool.eq_false_or_eq_true (x.getLsbD n) with hx | hx
    · have e2 : (x ||| y).getLsbD n = true := by rw [e, hx]; rfl
      rw [e2, hx, if_pos rfl]
      refine ⟨by omega, fun q j hj => ?_⟩
      rcases Nat.lt_or_ge j n with z | z
      · exact h2 (by omega) j z
      · rw [show j = n by omega, e2, hx]
    · rcases Bool.eq_false_or_eq_true (y.getLsbD n) with hy | hy
      · have e2 : (x ||| y).getLsbD n = true := by rw [e, hx, hy]; rfl
        rw [e2, hx, if_pos rfl, if_neg (by decide)]
        exact ⟨by omega, fun q => absurd q (by omega)⟩
      · have e2 : (x ||| y).getLsbD n = false := by rw [e, hx, hy]; rfl
        rw [e2, hx, if_neg (by decide)]
        refine ⟨by omega, fun q j hj => ?_⟩
        rcases Nat.lt_or_ge j n with z | z
        · exact h2 (by omega) j z
        · rw [show j = n by omega, e2, hx]
def pcI (x : Int32) : Nat := btN x.toBitVec 32
theorem pc_or (x y : Int32) : pcI x ≤ pcI (x ||| y) ∧ (x ||| y ≠ x → pcI x < pcI (x ||| y)) := by
  obtain ⟨h1, h2⟩ := btN_or x.toBitVec y.toBitVec 32
  have e : (x ||| y).toBitVec = x.toBitVec ||| y.toBitVec := Int32.toBitVec_or ..
  unfold pcI
  rw [e]
  refine ⟨h1, fun q => ?_⟩
  rcases Nat.lt_or_ge (btN x.toBitVec 32) (btN (x.toBitVec ||| y.toBitVec) 32) with z | z
  · exact z
  · have h3 := h2 (by omega)
    exact absurd (Int32.toBitVec_inj.mp (e.trans (BitVec.eq_of_getLsbD_eq (fun j hj => h3 j hj)))) q
/-- the bits of n numbers from b on -/
def rwM (fr : Nat → Int32) (b : Nat) : Nat → Nat
  | 0 => 0
  | n + 1 => rwM fr b n + pcI (fr (b + n))
theorem rwM_le (fr : Nat → Int32) (b : Nat) : ∀ n : Nat, rwM fr b n ≤ 32 * n
  | 0 => Nat.le_refl 0
  | n + 1 => by
    have h1 := rwM_le fr b n
    have h2 : pcI (fr (b + n)) ≤ 32 := btN_le _ 32
    show rwM fr b n + pcI (fr (b + n)) ≤ 32 * (n + 1)
    omega
/-- rows grew -/
def gwI (fr gr : Nat → Int32) : Prop := ∀ j : Nat, ∃ x : Int32, gr j = fr j ||| x
theorem rwM_up {fr gr : Nat → Int32} (h : gwI fr gr) (b : Nat) : ∀ n : Nat, rwM fr b n ≤ rwM gr b n ∧ ((∃ v : Nat, v < n ∧ gr (b + v) ≠ fr (b + v)) → rwM fr b n < rwM gr b n)
  | 0 => ⟨Nat.le_refl 0, fun ⟨v, hv, _⟩ => absurd hv (Nat.not_lt_zero v)⟩
  | n + 1 => by
    obtain ⟨h1, h2⟩ := rwM_up h b n
    obtain ⟨x, hx⟩ := h (b + n)
    obtain ⟨p1, p2⟩ := pc_or (fr (b + n)) x
    show rwM fr b n + pcI (fr (b + n)) ≤ rwM gr b n + pcI (gr (b + n)) ∧ (_ → rwM fr b n + pcI (fr (b + n)) < rwM gr b n + pcI (gr (b + n)))
    rw [hx]
    refine ⟨by omega, fun ⟨v, hv, hne⟩ => ?_⟩
    by_cases e : v = n
    · rw [e, hx] at hne
      have := p2 hne
      omega
    · have := h2 ⟨v, by omega, hne⟩
      omega
/-- the labels from lf on that are reached, and the bits of their rows -/
def mvM (fr rc : Nat → Int32) (lf : Nat) : Nat → Nat
  | 0 => 0
  | n + 1 => mvM fr rc lf n + ((if rc (lf + n) = 0 then 0 else 1) + rwM fr ((lf + n) * 40) 40)
theorem mvM_le (fr rc : Nat → Int32) (lf : Nat) : ∀ n : Nat, mvM fr rc lf n ≤ 1281 * n
  | 0 => Nat.le_refl 0
  | n + 1 => by
    have h1 := mvM_le fr rc lf n
    have h2 := rwM_le fr ((lf + n) * 40) 40
    show mvM fr rc lf n + ((if rc (lf + n) = 0 then 0 else 1) + rwM fr ((lf + n) * 40) 40) ≤ 1281 * (n + 1)
    split <;> omega
def rcU (rc sc : Nat → Int32) : Prop := ∀ L : Nat, rc L ≠ 0 → sc L ≠ 0
theorem mvM_up {fr gr rc sc : Nat → Int32} (h : gwI fr gr) (hr : rcU rc sc) (lf : Nat) : ∀ n : Nat, mvM fr rc lf n ≤ mvM gr sc lf n ∧ ((∃ L : Nat, lf ≤ L ∧ L < lf + n ∧ ((rc L = 0 ∧ sc L ≠ 0) ∨ ∃ v : Nat, v < 40 ∧ gr (L * 40 + v) ≠ fr (L * 40 + v))) → mvM fr rc lf n < mvM gr sc lf n)
  | 0 => ⟨Nat.le_refl 0, fun ⟨L, h1, h2, _⟩ => absurd h2 (by omega)⟩
  | n + 1 => by
    obtain ⟨h1, h2⟩ := mvM_up h hr lf n
    obtain ⟨r1, r2⟩ := rwM_up h ((lf + n) * 40) 40
    have hb : (if rc (lf + n) = 0 then 0 else 1) ≤ (if sc (lf + n) = 0 then 0 else 1) := by
      by_cases e : rc (lf + n) = 0
      · rw [if_pos e]; exact Nat.zero_le _
      · rw [if_neg e, if_neg (hr _ e)]; exact Nat.le_refl _
    show mvM fr rc lf n + ((if rc (lf + n) = 0 then 0 else 1) + rwM fr ((lf + n) * 40) 40) ≤ mvM gr sc lf n + ((if sc (lf + n) = 0 then 0 else 1) + rwM gr ((lf + n) * 40) 40) ∧ (_ → mvM fr rc lf n + ((if rc (lf + n) = 0 then 0 else 1) + rwM fr ((lf + n) * 40) 40) < mvM gr sc lf n + ((if sc (lf + n) = 0 then 0 else 1) + rwM gr ((lf + n) * 40) 40))
    refine ⟨by omega, fun ⟨L, g1, g2, g3⟩ => ?_⟩
    by_cases e : L = lf + n
    · rcases g3 with ⟨z1, z2⟩ | z
      · rw [e] at z1 z2
        rw [if_pos z1, if_neg z2]
        omega
      · rw [e] at z
        have := r2 z
        omega
    · have := h2 ⟨L, g1, by omega, g3⟩
      omega
theorem gwI_rf {fr : Nat → Int32} : gwI fr fr := fun j => ⟨fr j, (Int32.or_self).symm⟩
theorem gwI_tr {fr gr hr : Nat → Int32} (h1 : gwI fr gr) (h2 : gwI gr hr) : gwI fr hr := fun j => by
  obtain ⟨x, hx⟩ := h1 j
  obtain ⟨y, hy⟩ := h2 j
  exact ⟨x ||| y, by rw [hy, hx, Int32.or_assoc]⟩
theorem gwI_sd {lb n : Nat} {st fr gr : Nat → Int32} (h : sdR lb n st fr gr) : gwI fr gr := fun j => by
  rw [h j]
  split
  · exact ⟨_, rfl⟩
  · exact ⟨fr j, (Int32.or_self).symm⟩
theorem nar1 : vp_nar .boolean 1 ≠ 0 := by decide
theorem rcU_up {rc : Nat → Int32} {L : Nat} : rcU rc (upd rc L (vp_nar .boolean 1)) := fun M hM => by
  by_cases e : M = L
  · rw [e, pk_us]; exact nar1
  · rw [pk_un e]; exact hM
def mvGe (s t : mvT) : Prop := gwI s.2.1 t.2.1 ∧ rcU s.2.2.1 t.2.2.1
theorem mvGe_rf {s : mvT} : mvGe s s := ⟨gwI_rf, fun _ h => h⟩
theorem mvGe_tr {s u t : mvT} (h1 : mvGe s u) (h2 : mvGe u t) : mvGe s t := ⟨gwI_tr h1.1 h2.1, fun L h => h2.2 L (h1.2 L h)⟩
theorem mvSd_ge {n L : Nat} {s t : mvT} {rv : Int32} (h : mvSd n L s t rv) : mvGe s t := ⟨gwI_sd h.2.1, by rw [h.2.2.1]; exact rcU_up⟩
theorem mvSw_ge {F : tF} {n tb : Nat} : ∀ {c : Nat} {s t : mvT}, mvSw F n tb c s t → mvGe s t
  | 0, s, t, h => by
    have h : t = s := h
    rw [h]; exact mvGe_rf
  | c + 1, s, t, h => by
    obtain ⟨u, L, rv, h1, h2, h3, h4⟩ := h
    exact mvGe_tr (mvSw_ge h1) (mvSd_ge h4)
theorem mvSw_ag {F : tF} {n tb : Nat} : ∀ {c : Nat} {s t : mvT}, mvSw F n tb c s t → t.2.2.2 = s.2.2.2 ∧ t.1 = s.1 ∧ ∀ M : Nat, t.2.2.1 M ≠ s.2.2.1 M → ∃ g : Nat, g < c ∧ F 13 (tb + g) = nI M ∧ M < 1100
  | 0, s, t, h => by
    have h : t = s := h
    rw [h]; exact ⟨rfl, rfl, fun M q => absurd rfl q⟩
  | c + 1, s, t, h => by
    obtain ⟨u, L, rv, h1, h2, h3, h4⟩ := h
    obtain ⟨a1, a2, a3⟩ := mvSw_ag h1
    refine ⟨h4.2.2.2.1.trans a1, h4.1.trans a2, fun M q => ?_⟩
    by_cases e : M = L
    · exact ⟨c, by omega, by rw [e]; exact h2, by rw [e]; exact h3⟩
    · rw [h4.2.2.1, pk_un e] at q
      obtain ⟨g, g1, g2⟩ := a3 M q
      exact ⟨g, by omega, g2⟩
theorem mvFl_o {F : tF} {n i : Nat} {s t : mvT} : ∀ o : Nat, o ≠ 15 → o ≠ 16 → o ≠ 17 → o ≠ 18 → o ≠ 19 → o ≠ 20 → o ≠ 22 → mvFl F n i s t o → t = s
  | 0, _, _, _, _, _, _, _, h => h
  | 1, _, _, _, _, _, _, _, h => h
  | 2, _, _, _, _, _, _, _, h => h
  | 3, _, _, _, _, _, _, _, h => h
  | 4, _, _, _, _, _, _, _, h => h
  | 5, _, _, _, _, _, _, _, h => h
  | 6, _, _, _, _, _, _, _, h => h
  | 7, _, _, _, _, _, _, _, h => h
  | 8, _, _, _, _, _, _, _, h => h
  | 9, _, _, _, _, _, _, _, h => h
  | 10, _, _, _, _, _, _, _, h => h
  | 11, _, _, _, _, _, _, _, h => h
  | 12, _, _, _, _, _, _, _, h => h
  | 13, _, _, _, _, _, _, _, h => h
  | 14, _, _, _, _, _, _, _, h => h
  | 15, q, _, _, _, _, _, _, h => absurd rfl q
  | 16, _, q, _, _, _, _, _, h => absurd rfl q
  | 17, _, _, q, _, _, _, _, h => absurd rfl q
  | 18, _, _, _, q, _, _, _, h => absurd rfl q
  | 19, _, _, _, _, q, _, _, h => absurd rfl q
  | 20, _, _, _, _, _, q, _, h => absurd rfl q
  | 21, _, _, _, _, _, _, _, h => h
  | 22, _, _, _, _, _, _, q, h => absurd rfl q
  | _ + 23, _, _, _, _, _, _, _, h => h
theorem mvLk_o {F : tF} {n i : Nat} {et em az : Nat → Int32} {s t : mvT} : ∀ o : Nat, mvLk F n et em az i s t o → mvFl F n i s t o ∨ ((o = 2 ∨ o = 3 ∨ o = 4 ∨ o = 24 ∨ o = 25 ∨ o = 26 ∨ o = 29 ∨ o = 30) ∧ ∃ (st : Nat → Int32) (fi : Int32), t = mvSt s st fi)
  | 0, h => Or.inl h
  | 1, h => Or.inl h
  | 2, h => by obtain ⟨p, v, -, -, -, h⟩ := h; exact Or.inr ⟨by decide, _, _, h⟩
  | 3, h => by obtain ⟨p, v, -, -, -, h⟩ := h; exact Or.inr ⟨by decide, _, _, h⟩
  | 4, h => by obtain ⟨p, v, -, -, -, h⟩ := h; exact Or.inr ⟨by decide, _, _, h⟩
  | 5, h => Or.inl h
  | 6, h => Or.inl h
  | 7, h => Or.inl h
  | 8, h => Or.inl h
  | 9, h => Or.inl h
  | 10, h => Or.inl h
  | 11, h => Or.inl h
  | 12, h => Or.inl h
  | 13, h => Or.inl h
  | 14, h => Or.inl h
  | 15, h => Or.inl h
  | 16, h => Or.inl h
  | 17, h => Or.inl h
  | 18, h => Or.inl h
  | 19, h => Or.inl h
  | 20, h => Or.inl h
  | 21, h => Or.inl h
  | 22, h => Or.inl h
  | 23, h => Or.inl h
  | 24, h => by obtain ⟨v, -, -, h⟩ := h; exact Or.inr ⟨by decide, _, _, h⟩
  | 25, h => by obtain ⟨v, -, -, h⟩ := h; exact Or.inr ⟨by decide, _, _, h⟩
  | 26, h => by
    obtain ⟨p, v, -, -, -, h⟩ := h
    rcases h with ⟨-, h⟩ | ⟨-, h⟩
    · exact Or.inr ⟨by decide, _, _, h⟩
    · exact Or.inr ⟨by decide, _, _, h⟩
  | 27, h => Or.inl h
  | 28, h => Or.inl h
  | 29, h => by obtain ⟨v, -, -, h⟩ := h; exact Or.inr ⟨by decide, _, _, h⟩
  | 30, h => by obtain ⟨v, -, -, h⟩ := h; exact Or.inr ⟨by decide, _, _, h⟩
  | _ + 31, h => Or.inl h
theorem mvSd_fl {n L : Nat} {s t : mvT} {rv : Int32} (h : mvSd n L s t rv) : ∀ M : Nat, M ≠ L → t.2.2.1 M = s.2.2.1 M := fun M hM => by rw [h.2.2.1, pk_un hM]
/-- what one instruction does to rows, labels, again -/
theorem mvFl_al {F : tF} {n i : Nat} {s t : mvT} (hn : n ≤ 40) (o : Nat) (hB : iBo F i o) (h : mvFl F n i s t o) : mvGe s t ∧ flO F i s.2.2.1 t.2.2.2.1 t.2.2.1 o ∧ (s.2.2.2.2.1 = 0 → t.2.2.2.2.1 ≠ 0 → o = 15 ∧ ∃ L : Nat, F 1 i = nI L ∧ L < 1100 ∧ ((s.2.2.1 L = 0 ∧ t.2.2.1 L ≠ 0) ∨ ∃ v : Nat, v < 40 ∧ t.2.1 (L * 40 + v) ≠ s.2.1 (L * 40 + v))) := by
  have one : ∀ {L : Nat} {rv : Int32}, mvSd n L s t rv → s.2.2.2.2.1 = 0 → t.2.2.2.2.1 ≠ 0 → False := fun hs z1 z2 => z2 (by rw [hs.2.2.2.1]; exact z1)
  by_cases e15 : o = 15
  · subst e15
    obtain ⟨L, u, rv, q1, q2, q3, q4, q5, q6, q7⟩ := h
    have e1 : t.2.1 = u.2.1 := congrArg (fun x : (Nat → Int32) × (Nat → Int32) × (Nat → Int32) => x.2.1) q4
    have e2 : t.2.2.1 = u.2.2.1 := congrArg (fun x : (Nat → Int32) × (Nat → Int32) × (Nat → Int32) => x.2.2) q4
    refine ⟨?_, ⟨q5, L, q1, q2, fun M hM => by rw [e2]; exact mvSd_fl q3 M hM⟩, fun z1 z2 => ⟨rfl, L, q1, q2, ?_⟩⟩
    · unfold mvGe
      rw [e1, e2]
      exact mvSd_ge q3
    · rw [q6] at z2
      by_cases e : rv = 0
      · rw [if_pos e, if_pos z1] at z2; exact absurd rfl z2
      · rcases q3.2.2.2.2.2 e with y | ⟨v, v1, v2⟩
        · refine Or.inl ⟨y, ?_⟩
          rw [e2, q3.2.2.1, pk_us]; exact nar1
        · refine Or.inr ⟨v, by omega, ?_⟩
          rw [e1, q3.2.1 (L * 40 + v), if_pos (by omega), show L * 40 + v - L * 40 = v by omega]
          exact v2
  by_cases e16 : o = 16
  · subst e16
    obtain ⟨L, u, rv, q1, q2, q3, q4⟩ := h
    subst q4
    have g9 := mvSd_ge q3
    have f9 := mvSd_fl q3
    exact ⟨⟨g9.1, g9.2⟩, ⟨rfl, L, q1, q2, fun M hM => f9 M hM⟩, fun z1 z2 => absurd z1 z2⟩
  by_cases e17 : o = 17
  · subst e17
    obtain ⟨L, rv, q1, q2, q3⟩ := h
    exact ⟨mvSd_ge q3, ⟨L, q1, q2, mvSd_fl q3⟩, fun z1 z2 => (one q3 z1 z2).elim⟩
  by_cases e18 : o = 18
  · subst e18
    obtain ⟨L, rv, q1, q2, q3⟩ := h
    exact ⟨mvSd_ge q3, ⟨L, q1, q2, mvSd_fl q3⟩, fun z1 z2 => (one q3 z1 z2).elim⟩
  by_cases e19 : o = 19
  · subst e19
    obtain ⟨L, rv, q1, q2, q3⟩ := h
    exact ⟨mvSd_ge q3, ⟨L, q1, q2, mvSd_fl q3⟩, fun z1 z2 => (one q3 z1 z2).elim⟩
  by_cases e20 : o = 20
  · subst e20
    obtain ⟨tb, c, u, q1, q2, q0, q3, q4, q5⟩ := h
    obtain ⟨a1, a2, a3⟩ := mvSw_ag q4
    subst q5
    have g9 := mvSw_ge q4
    exact ⟨⟨g9.1, g9.2⟩, ⟨rfl, tb, c, q1, q2, q0, q3, fun M hM => a3 M hM⟩, fun z1 z2 => absurd (show u.2.2.2.2.1 = 0 by rw [a1]; exact z1) z2⟩
  by_cases e22 : o = 22
  · subst e22
    have h : t = (s.1, s.2.1, s.2.2.1, 0, s.2.2.2.2) := h
    subst h
    exact ⟨mvGe_rf, ⟨rfl, rfl⟩, fun z1 z2 => absurd z1 z2⟩
  · have e := mvFl_o o e15 e16 e17 e18 e19 e20 e22 h
    subst e
    refine ⟨mvGe_rf, ?_, fun z1 z2 => absurd z1 z2⟩
    exact flO_i o e15 e16 e17 e18 e19 e20 e22
theorem mvR_al {F : tF} {n i : Nat} {et em az : Nat → Int32} {s t : mvT} (hn : n ≤ 40) (hB : iB F i) (h : mvR F n et em az i s t) : mvGe s t ∧ flR F i s.2.2.2.1 s.2.2.1 t.2.2.2.1 t.2.2.1 ∧ (s.2.2.2.2.1 = 0 → t.2.2.2.2.1 ≠ 0 → s.2.2.2.1 ≠ 0 ∧ F 0 i = nI 15 ∧ ∃ L : Nat, F 1 i = nI L ∧ L < 1100 ∧ ((s.2.2.1 L = 0 ∧ t.2.2.1 L ≠ 0) ∨ ∃ v : Nat, v < 40 ∧ t.2.1 (L * 40 + v) ≠ s.2.1 (L * 40 + v))) := by
  obtain ⟨o, ho, h33, h⟩ := h
  have hBo : iBo F i o := by
    obtain ⟨o2, p1, p2, p3⟩ := iB_o hB
    rw [(nI_eq (a := o) (b := o2) (by omega) (by omega)).mp (ho.symm.trans p1)]; exact p3
  rcases h with ⟨hl, L, L1, L2, L3, L4, L5, L6⟩ | ⟨n13, n14, h⟩
  · refine ⟨⟨by rw [L3]; exact gwI_rf, by rw [L4]; exact fun _ h => h⟩, ⟨o, ho, h33, Or.inl ⟨hl, L, L1, L2, L4, fun z => ?_⟩⟩, fun z1 z2 => absurd (show t.2.2.2.2.1 = 0 by rw [L5]; exact z1) z2⟩
    rcases L6 with ⟨y1, y2⟩ | ⟨y1, -⟩
    · rw [y2] at z; exact Or.inl z
    · exact Or.inr y1
  · rcases h with ⟨h1, h2⟩ | ⟨h1, h2⟩
    · subst h2
      exact ⟨mvGe_rf, ⟨o, ho, h33, Or.inr ⟨n13, n14, Or.inl ⟨h1, h1, rfl⟩⟩⟩, fun z1 z2 => absurd z1 z2⟩
    · rcases mvLk_o o h2 with z | ⟨z0, st, fi, z⟩
      · obtain ⟨a1, a2, a3⟩ := mvFl_al hn o hBo z
        exact ⟨a1, ⟨o, ho, h33, Or.inr ⟨n13, n14, Or.inr ⟨h1, a2⟩⟩⟩, fun z1 z2 => by obtain ⟨b1, b2⟩ := a3 z1 z2; exact ⟨h1, by rw [ho, b1], b2⟩⟩
      · subst z
        exact ⟨mvGe_rf, ⟨o, ho, h33, Or.inr ⟨n13, n14, Or.inr ⟨h1, flO_i o (by omega) (by omega) (by omega) (by omega) (by omega) (by omega) (by omega)⟩⟩⟩, fun z1 z2 => absurd z1 z2⟩
/-- a whole pass: rows grow; again: a label's row grew -/
theorem mvP_up {F X : tF} {G : Nat → Nat → Nat} {rs a b lf n n9 : Nat} {k : Nat → Option (List tE)} {et em az : Nat → Int32} {s t : mvT} (hc : ceI F X G rs a b k) (hn : n ≤ 40) (hlb : ∀ i : Nat, a ≤ i → i < b → isL (F 0 i) → ∃ L : Nat, lf ≤ L ∧ L < lf + n9 ∧ F 1 i = nI L) (hka : ∃ r : List tE, k a = some r) (hab : a ≤ b) (hlt : lf + n9 ≤ 1100) (h : mvP F n et em az a b s t) (h0 : s.2.2.2.2.1 = 0) (hr : rcK F k a b s.2.2.1) : rcK F k a b t.2.2.1 ∧ mvGe s t ∧ (t.2.2.2.2.1 ≠ 0 → mvM s.2.1 s.2.2.1 lf n9 < mvM t.2.1 t.2.2.1 lf n9) := by
  obtain ⟨f, f1, f2, f3⟩ := h
  have key : ∀ d : Nat, a + d ≤ b → ((f (a + d)).2.2.2.1 ≠ 0 → ∃ r : List tE, k (a + d) = some r) ∧ rcK F k a b (f (a + d)).2.2.1 ∧ mvGe s (f (a + d)) ∧ ((f (a + d)).2.2.2.2.1 ≠ 0 → mvM s.2.1 s.2.2.1 lf n9 < mvM (f (a + d)).2.1 (f (a + d)).2.2.1 lf n9) := by
    intro d
    induction d with
    | zero =>
      intro _
      rw [Nat.add_zero, f1]
      exact ⟨fun _ => hka, hr, mvGe_rf, fun z => absurd h0 z⟩
    | succ d ih =>
      intro hd
      obtain ⟨i1, i2, i3, i4⟩ := ih (by omega)
      obtain ⟨m1, m2, m3⟩ := mvR_al hn (hc.1 (a + d) (by omega) (by omega)).1 (f3 (a + d) (by omega) (by omega))
      obtain ⟨k1, k2⟩ := fl_K hc (by omega) (by omega) m2 i1 i2
      refine ⟨k1, k2, mvGe_tr i3 m1, fun z => ?_⟩
      have u1 := (mvM_up m1.1 m1.2 lf n9).1
      by_cases e : (f (a + d)).2.2.2.2.1 = 0
      · obtain ⟨g1, g2, L, g3, g4, g5⟩ := m3 e z
        obtain ⟨r, hr9⟩ := i1 g1
        obtain ⟨j, j1, j2, j3, j4, j5⟩ := (show vl r = 0 ∧ tJb F k a (a + d) (F 1 (a + d)) r from ce_op hc (by omega) (by omega) hr9 g2 (by decide)).2
        obtain ⟨M, w1, w2, w3⟩ := hlb j j1 (by omega) (Or.inr j3)
        have eL : M = L := (nI_eq (a := M) (b := L) (by omega) (by omega)).mp (w3.symm.trans (j4.trans g3))
        have u2 := (mvM_up m1.1 m1.2 lf n9).2 ⟨L, by omega, by omega, g5⟩
        have u3 := (mvM_up i3.1 i3.2 lf n9).1
        show mvM s.2.1 s.2.2.1 lf n9 < mvM (f (a + d + 1)).2.1 (f (a + d + 1)).2.2.1 lf n9
        omega
      · have := i4 e
        show mvM s.2.1 s.2.2.1 lf n9 < mvM (f (a + d + 1)).2.1 (f (a + d + 1)).2.2.1 lf n9
        omega
  obtain ⟨-, q2, q3, q4⟩ := key (b - a) (by omega)
  rw [show a + (b - a) = b by omega, f2] at q2 q3 q4
  exact ⟨q2, q3, q4⟩
end
