-- d4.c7.lean.txt
section
theorem lnSd_fi {n L : Nat} {s t : lnT} {rv : Int32} (h : lnSd n L s t rv) : t.2.2.2.2.2.1 = s.2.2.2.2.2.1 := by rw [h.2.2.2.1]
theorem lnPo_fi {k : Nat} {s t : lnT} (h : lnPo k s t) : t.2.2.2.2.2.1 = s.2.2.2.2.2.1 := by
  obtain ⟨x, h1, h2⟩ := h
  rw [h2]; rfl
/-- the others tell nothing -/
theorem lnLk_fi {F : tF} {C : lnC} {Q : lnQ} {i : Nat} {s t : lnT} : ∀ o : Nat, o < 33 → o ≠ 2 → o ≠ 3 → o ≠ 4 → o ≠ 26 → o ≠ 32 → o ≠ 22 → lnLk F C Q i s t o → t.2.2.2.2.2.1 < 0 → s.2.2.2.2.2.1 < 0
  | 0, _, _, _, _, _, _, _, h, q => by
    obtain ⟨gt, tn2, h1, rfl⟩ := h
    exact q
  | 1, _, _, _, _, _, _, _, h, q => by
    obtain ⟨gt, tn2, h1, rfl⟩ := h
    exact q
  | 2, _, e, _, _, _, _, _, _, _ => absurd rfl e
  | 3, _, _, e, _, _, _, _, _, _ => absurd rfl e
  | 4, _, _, _, e, _, _, _, _, _ => absurd rfl e
  | 5, _, _, _, _, _, _, _, h, q => by
    have h : t = s := h
    rw [h] at q; exact q
  | 6, _, _, _, _, _, _, _, h, q => by
    have h : t = s := h
    rw [h] at q; exact q
  | 7, _, _, _, _, _, _, _, h, q => by rw [lnPo_fi h] at q; exact q
  | 8, _, _, _, _, _, _, _, h, q => by
    have h : t = s := h
    rw [h] at q; exact q
  | 9, _, _, _, _, _, _, _, h, q => by
    obtain ⟨gt, tn2, h1, rfl⟩ := h
    exact q
  | 10, _, _, _, _, _, _, _, h, q => by rw [lnPo_fi h] at q; exact q
  | 11, _, _, _, _, _, _, _, h, q => by
    obtain ⟨gt, tn2, h1, rfl⟩ := h
    exact q
  | 12, _, _, _, _, _, _, _, h, q => by
    obtain ⟨n, h1, h2, h3⟩ := h
    rw [lnPo_fi h3] at q; exact q
  | 13, _, _, _, _, _, _, _, h, q => by
    have h : t = s := h
    rw [h] at q; exact q
  | 14, _, _, _, _, _, _, _, h, q => by
    have h : t = s := h
    rw [h] at q; exact q
  | 15, _, _, _, _, _, _, _, h, q => by
    obtain ⟨L, u, rv, q1, q2, q3, rfl⟩ := h
    have q : u.2.2.2.2.2.1 < 0 := q
    rw [lnSd_fi q3] at q; exact q
  | 16, _, _, _, _, _, _, _, h, q => by
    obtain ⟨L, u, rv, q1, q2, q3, rfl⟩ := h
    have q : u.2.2.2.2.2.1 < 0 := q
    rw [lnSd_fi q3] at q; exact q
  | 17, _, _, _, _, _, _, _, h, q => by
    obtain ⟨L, u, rv, q1, q2, q3, q4⟩ := h
    rw [lnSd_fi q4, lnPo_fi q3] at q; exact q
  | 18, _, _, _, _, _, _, _, h, q => by
    obtain ⟨L, u, rv, q1, q2, q3, q4⟩ := h
    rw [lnSd_fi q4, lnPo_fi q3] at q; exact q
  | 19, _, _, _, _, _, _, _, h, q => by
    obtain ⟨L, u, rv, q1, q2, q3, q4⟩ := h
    rw [lnSd_fi q4, lnPo_fi q3] at q; exact q
  | 20, _, _, _, _, _, _, _, h, q => by
    obtain ⟨tb, c, u, v, q1, q2, q3, q4, q5, q6, rfl⟩ := h
    have q : v.2.2.2.2.2.1 < 0 := q
    rw [(lnSw_ag q6).1, lnPo_fi q5] at q; exact q
  | 21, _, _, _, _, _, _, _, h, q => by
    obtain ⟨g, h1, h2, n, x, t1, gt, tn2, q1, q2, q3, q4, rfl⟩ := h
    exact q
  | 22, _, _, _, _, _, _, e, _, _ => absurd rfl e
  | 23, _, _, _, _, _, _, _, h, q => by
    have h : t = s := h
    rw [h] at q; exact q
  | 24, _, _, _, _, _, _, _, h, q => by
    obtain ⟨v, x, tn2, h1, h2, h3, rfl⟩ := h
    exact q
  | 25, _, _, _, _, _, _, _, h, q => by
    obtain ⟨v, h1, h2, rfl⟩ := h
    exact q
  | 26, _, _, _, _, e, _, _, _, _ => absurd rfl e
  | 27, _, _, _, _, _, _, _, h, q => by rw [lnPo_fi h] at q; exact q
  | 28, _, _, _, _, _, _, _, h, q => by rw [lnPo_fi h] at q; exact q
  | 29, _, _, _, _, _, _, _, h, q => by
    obtain ⟨v, h1, h2, rfl⟩ := h
    exact q
  | 30, _, _, _, _, _, _, _, h, q => by
    obtain ⟨v, b, h1, h2, h3, h4, rfl⟩ := h
    exact q
  | 31, _, _, _, _, _, _, _, h, q => by
    have h : t = s := h
    rw [h] at q; exact q
  | 32, _, _, _, _, _, e, _, _, _ => absurd rfl e
  | n + 33, h, _, _, _, _, _, _, _, _ => absurd h (by omega)
/-- places that an instruction may tell are at least 0 -/
def whO (F : tF) (i o : Nat) : Prop := (o = 2 ∨ o = 3 ∨ o = 4 ∨ o = 26 → ∀ p : Nat, F 1 i = nI p → p < 3001 → ¬ F 11 p < 0) ∧ (o = 22 ∨ o = 32 → ¬ F 4 i < 0) ∧ (o = 22 → F 2 i = 1 → ¬ F 3 i < 0)
theorem wh_of {F X : tF} {G : Nat → Nat → Nat} {rs i : Nat} {k : Nat → Option (List tE)} {J K : Int32 → List tE → Prop} {s : List tE} {o : Nat} (h : iOp F X G rs k J K i s o) : whO F i o := by
  have hp : ∀ p q : Nat, F 1 i = nI p → p < 3001 → F 1 i = nI q → q < 3001 → ¬ F 11 q < 0 → ¬ F 11 p < 0 := fun p q h1 h2 h3 h4 h5 => by
    rw [(nI_eq (a := p) (b := q) (by omega) (by omega)).mp (h1.symm.trans h3)]; exact h5
  refine ⟨fun e p p1 p2 => ?_, fun e => ?_, fun e => ?_⟩
  · rcases e with rfl | rfl | rfl | rfl
    · obtain ⟨q, T, mu, h1, ⟨v, n, pa, ro, h2⟩, -⟩ := h
      exact hp p q p1 p2 h1 h2.1.1 h2.1.2
    · obtain ⟨q, T, h1, ⟨v, n, pa, ro, mu, h2, -⟩, -⟩ := h
      exact hp p q p1 p2 h1 h2.1.1 h2.1.2
    · obtain ⟨q, T, b, m, mu, h1, ⟨v, n, pa, ro, h2⟩, -⟩ := h
      exact hp p q p1 p2 h1 h2.1.1 h2.1.2
    · obtain ⟨q, v, n, T, pa, ro, mu, r, h1, h2, -⟩ := h
      exact hp p q p1 p2 h1 h2.1.1 h2.1.2
  · rcases e with rfl | rfl
    · obtain ⟨T, O, -, h2, -⟩ := h
      exact h2.2.1
    · obtain ⟨v0, v1, O, r, h1, -⟩ := h
      exact h1.2
  · subst e
    obtain ⟨T, O, -, h2, -⟩ := h
    exact h2.2.2
/-- the value that is given back holds x -/
def lnX (F : tF) (i : Nat) (s : lnT) (x : Int64) : Prop := (F 2 i = 1 ∧ ∃ g8 : Nat, (g8, x) = popF (lnF s) 1 (lnN s) 0) ∨ (F 2 i ≠ 1 ∧ x = 0)
/-- what Loans told nothing of at instruction i of code o -/
def lnO (F : tF) (C : lnC) (Q : lnQ) (i : Nat) (s : lnT) (o : Nat) : Prop :=
  (o = 2 → ∀ p v : Nat, F 1 i = nI p → p < 3001 → F 6 p = nI v → v < 40 → acO F C i p v 0 s.1 (lnF s) (lnN s)) ∧
  (o = 3 → ∀ p v : Nat, F 1 i = nI p → p < 3001 → F 6 p = nI v → v < 40 → acO F C i p v 1 s.1 (lnF s) (lnN s)) ∧
  (o = 4 → ∀ p v : Nat, F 1 i = nI p → p < 3001 → F 6 p = nI v → v < 40 → acO F C i p v (if F 3 i = 1 then 1 else 0) s.1 (lnF s) (lnN s)) ∧
  (o = 26 → ∀ p v : Nat, F 1 i = nI p → p < 3001 → F 6 p = nI v → v < 40 → ¬ rfB Q.1 (F 10 p) → acO F C i p v 1 s.1 (lnF s) (lnN s - 1)) ∧
  (o = 32 → ∀ v0 v1 : Nat, F 1 i = nI v0 → F 2 i = nI v1 → v0 ≤ v1 → v1 ≤ 40 → ∀ v l : Nat, v0 ≤ v → v < v1 → ¬ rfB Q.1 (Q.2.1 v) → l < 64 → lbit (C.2.1 v) l = true → ¬ ((∃ m : Nat, m < lnN s ∧ lbit (lnF s m) l = true) ∨ ∃ u : Nat, u < C.2.2.2.2.2 ∧ (u < v0 ∨ v1 ≤ u) ∧ lbit (C.1 i) u = true ∧ lbit (s.1 u) l = true)) ∧
  (o = 22 → ∀ x : Int64, lnX F i s x → (∀ r : Nat, Q.2.2.2.2.1 = nI r → r < 8 → ∀ l : Nat, 54 ≤ l → l < 64 → lbit x l = true → l = 54 + r) ∧ ∀ v l : Nat, v < C.2.2.2.2.2 → Q.2.2.1 v ≤ nI i → nI i < Q.2.2.2.1 v → ¬ rfB Q.1 (Q.2.1 v) → lbit (C.2.1 v) l = true → lbit x l = false)
theorem lnX_u {F : tF} {i : Nat} {s : lnT} {x z : Int64} (h1 : lnX F i s x) (h2 : lnX F i s z) : x = z := by
  rcases h1 with ⟨q1, g1, e1⟩ | ⟨q1, e1⟩
  · rcases h2 with ⟨q2, g2, e2⟩ | ⟨q2, e2⟩
    · have := e1.trans e2.symm
      exact congrArg Prod.snd this
    · exact absurd q1 q2
  · rcases h2 with ⟨q2, g2, e2⟩ | ⟨q2, e2⟩
    · exact absurd q2 q1
    · rw [e1, e2]
theorem sh54 (x : Int64) (k : Nat) (hk : k < 64) : lbit ((((x.toUInt64 >>> ((54 : Int32).toInt64.toUInt64 &&& Int64.toUInt64 63)).toInt64) <<< ((54 : Int32).toInt64 &&& 63))) k = (decide (54 ≤ k) && lbit x k) := by
  have e1 : ∀ j : Nat, lbit ((x.toUInt64 >>> ((54 : Int32).toInt64.toUInt64 &&& Int64.toUInt64 63)).toInt64) j = lbit x (54 + j) := fun j => lbit_shr x 54 j (by decide)
  have e2 : lbit ((((x.toUInt64 >>> ((54 : Int32).toInt64.toUInt64 &&& Int64.toUInt64 63)).toInt64) <<< ((54 : Int32).toInt64 &&& 63))) k = (decide (54 ≤ k) && lbit ((x.toUInt64 >>> ((54 : Int32).toInt64.toUInt64 &&& Int64.toUInt64 63)).toInt64) (k - 54)) := by
    unfold lbit
    rw [Int64.toBitVec_shiftLeft, BitVec.shiftLeft_eq', show (((54 : Int32).toInt64 &&& 63).toBitVec.smod 64).toNat = 54 by decide, BitVec.getLsbD_shiftLeft]
    by_cases c : 54 ≤ k
    · rw [decide_eq_true hk, decide_eq_false (by omega : ¬ k < 54), decide_eq_true c]; rfl
    · rw [decide_eq_true (by omega : k < 54), decide_eq_false c]; simp
  rw [e2]
  by_cases c : 54 ≤ k
  · rw [decide_eq_true c, e1, show 54 + (k - 54) = k by omega]
  · rw [decide_eq_false c]; rfl
theorem lnLk_no {F : tF} {C : lnC} {Q : lnQ} {i : Nat} {s t : lnT} (hn : C.2.2.2.2.2 ≤ 40) (h54 : C.2.2.2.2.1 ≤ 54) {o : Nat} (h33 : o < 33) (hk : lnLk F C Q i s t o) (hw : whO F i o) (ht : t.2.2.2.2.2.1 < 0) : s.2.2.2.2.2.1 < 0 ∧ lnO F C Q i s o := by
  have hpl : ∀ p v q w : Nat, F 1 i = nI p → p < 3001 → F 6 p = nI v → v < 40 → F 1 i = nI q → q < 3001 → F 6 q = nI w → w < 40 → p = q ∧ v = w := fun p v q w h1 h2 h3 h4 h5 h6 h7 h8 => by
    obtain rfl : p = q := (nI_eq (a := p) (b := q) (by omega) (by omega)).mp (h1.symm.trans h5)
    exact ⟨rfl, (nI_eq (a := v) (b := w) (by omega) (by omega)).mp (h3.symm.trans h7)⟩
  by_cases e2 : o = 2
  · subst e2
    obtain ⟨p, v, u, h1, h2, h3, h4, rfl, h5⟩ := hk
    have hf : lnAc F C i p v 0 s < 0 := by
      rcases h5 with ⟨-, gt, tn2, -, rfl⟩ | ⟨-, gt, tn2, -, rfl⟩ <;> exact ht
    obtain ⟨q1, q2⟩ := lnAc_no hn h54 (hw.1 (Or.inl rfl) p h1 h2) hf
    refine ⟨q1, fun _ p2 v2 g1 g2 g3 g4 => ?_, fun e => absurd e (by decide), fun e => absurd e (by decide), fun e => absurd e (by decide), fun e => absurd e (by decide), fun e => absurd e (by decide)⟩
    obtain ⟨rfl, rfl⟩ := hpl p2 v2 p v g1 g2 g3 g4 h1 h2 h3 h4
    exact q2
  by_cases e3 : o = 3
  · subst e3
    obtain ⟨p, v, u, h1, h2, h3, h4, rfl, h5⟩ := hk
    have hf : lnAc F C i p v 1 s < 0 := by
      rcases h5 with ⟨-, gt, tn2, -, rfl⟩ | ⟨-, gt, tn2, -, rfl⟩ <;> exact ht
    obtain ⟨q1, q2⟩ := lnAc_no hn h54 (hw.1 (Or.inr (Or.inl rfl)) p h1 h2) hf
    refine ⟨q1, fun e => absurd e (by decide), fun _ p2 v2 g1 g2 g3 g4 => ?_, fun e => absurd e (by decide), fun e => absurd e (by decide), fun e => absurd e (by decide), fun e => absurd e (by decide)⟩
    obtain ⟨rfl, rfl⟩ := hpl p2 v2 p v g1 g2 g3 g4 h1 h2 h3 h4
    exact q2
  by_cases e4 : o = 4
  · subst e4
    obtain ⟨p, v, b, x, gt, tn2, h1, h2, h3, h4, h5, h6, h7, h8, rfl⟩ := hk
    obtain ⟨q1, q2⟩ := lnAc_no hn h54 (hw.1 (Or.inr (Or.inr (Or.inl rfl))) p h1 h2) (show lnAc F C i p v (if F 3 i = 1 then 1 else 0) s < 0 from ht)
    refine ⟨q1, fun e => absurd e (by decide), fun e => absurd e (by decide), fun _ p2 v2 g1 g2 g3 g4 => ?_, fun e => absurd e (by decide), fun e => absurd e (by decide), fun e => absurd e (by decide)⟩
    obtain ⟨rfl, rfl⟩ := hpl p2 v2 p v g1 g2 g3 g4 h1 h2 h3 h4
    exact q2
  by_cases e26 : o = 26
  · subst e26
    obtain ⟨p, v, x, tn2, h1, h2, h3, h4, h5, h6⟩ := hk
    have en : tn2 = lnN s - 1 := popF_e h5
    rcases h6 with ⟨z, rfl⟩ | ⟨z, rfl⟩
    · refine ⟨ht, fun e => absurd e (by decide), fun e => absurd e (by decide), fun e => absurd e (by decide), fun _ p2 v2 g1 g2 g3 g4 g5 => ?_, fun e => absurd e (by decide), fun e => absurd e (by decide)⟩
      obtain ⟨rfl, rfl⟩ := hpl p2 v2 p v g1 g2 g3 g4 h1 h2 h3 h4
      exact absurd z g5
    · obtain ⟨q1, q2⟩ := lnAc_no hn h54 (hw.1 (Or.inr (Or.inr (Or.inr rfl))) p h1 h2) (show lnAc F C i p v 1 (lnSt s s.1 s.2.2.2.2.2.1 s.2.2.2.2.2.2.1 tn2 s.2.2.2.2.2.2.2.2) < 0 from ht)
      refine ⟨q1, fun e => absurd e (by decide), fun e => absurd e (by decide), fun e => absurd e (by decide), fun _ p2 v2 g1 g2 g3 g4 g5 => ?_, fun e => absurd e (by decide), fun e => absurd e (by decide)⟩
      obtain ⟨rfl, rfl⟩ := hpl p2 v2 p v g1 g2 g3 g4 h1 h2 h3 h4
      rw [← en]; exact q2
  by_cases e32 : o = 32
  · subst e32
    obtain ⟨v0, v1, g1, g6, h1, h2, h3, h4, h5, rfl⟩ := hk
    obtain ⟨q1, -, q3⟩ := lnLv_no hn (hw.2.1 (Or.inr rfl)) (v1 - v0) _ _ h5 ht
    refine ⟨q1, fun e => absurd e (by decide), fun e => absurd e (by decide), fun e => absurd e (by decide), fun e => absurd e (by decide), fun _ u0 u1 k1 k2 k3 k4 v l v2 v3 v4 v5 v6 => ?_, fun e => absurd e (by decide)⟩
    obtain rfl : u0 = v0 := (nI_eq (a := u0) (b := v0) (by omega) (by omega)).mp (k1.symm.trans h1)
    obtain rfl : u1 = v1 := (nI_eq (a := u1) (b := v1) (by omega) (by omega)).mp (k2.symm.trans h2)
    have := q3 v l v2 (by omega) v4 v5 v6
    rw [show u0 + (u1 - u0) = u1 by omega] at this
    exact this
  by_cases e22 : o = 22
  · subst e22
    obtain ⟨x, f1, g6, g8, h1, h2, h3, rfl⟩ := hk
    obtain ⟨q1, q2⟩ := lnGv_no (hw.2.1 (Or.inl rfl)) _ _ _ h3 ht
    have hx : lnX F i s x := by
      rcases h1 with ⟨z, h1⟩ | ⟨z, -, h1⟩
      · exact Or.inl ⟨z, g8, h1⟩
      · exact Or.inr ⟨z, h1⟩
    have key : s.2.2.2.2.2.1 < 0 ∧ ∀ r : Nat, Q.2.2.2.2.1 = nI r → r < 8 → ∀ l : Nat, 54 ≤ l → l < 64 → lbit x l = true → l = 54 + r := by
      by_cases c : Q.2.2.2.2.1 < 0
      · rw [if_pos c] at h2
        rw [← h2]
        exact ⟨q1, fun r r1 r2 => by rw [r1] at c; exact absurd c (nI_pos (by omega))⟩
      · rw [if_neg c, if_neg c] at h2
        by_cases c2 : lg_cmp ((((x.toUInt64 >>> ((54 : Int32).toInt64.toUInt64 &&& Int64.toUInt64 63)).toInt64) <<< ((54 : Int32).toInt64 &&& 63)) &&& (((1 : Int64) <<< ((54 + Q.2.2.2.2.1).toInt64 &&& 63)) ^^^ -1)) 0 = 0
        · rw [if_pos c2] at h2
          rw [← h2]
          refine ⟨q1, fun r r1 r2 l l1 l2 l3 => ?_⟩
          have e := lgc0.mp c2
          have e2 := congrArg (fun z => lbit z l) e
          have e2 : lbit ((((x.toUInt64 >>> ((54 : Int32).toInt64.toUInt64 &&& Int64.toUInt64 63)).toInt64) <<< ((54 : Int32).toInt64 &&& 63)) &&& (((1 : Int64) <<< ((54 + Q.2.2.2.2.1).toInt64 &&& 63)) ^^^ -1)) l = lbit 0 l := e2
          rw [lbit_and, sh54 x l l2, l3, decide_eq_true l1, Bool.true_and, Bool.true_and, lbit_not _ _ l2, lbit_0] at e2
          have e3 : ((1 : Int64) <<< ((54 + Q.2.2.2.2.1).toInt64 &&& 63)) = bt (54 + r) := by
            unfold bt
            rw [r1]
            have e4 : (54 : Int32) + nI r = nI (54 + r) := by
              have : ∀ q : Fin 8, (54 : Int32) + nI q.1 = nI (54 + q.1) := by decide
              exact this ⟨r, r2⟩
            rw [e4]
          rw [e3, lbit_bt _ _ (by omega) l2] at e2
          cases e5 : decide (l = 54 + r) with
          | true => exact of_decide_eq_true e5
          | false => rw [e5] at e2; exact absurd e2 (by decide)
        · rw [if_neg c2] at h2
          exfalso
          rcases h1 with ⟨z, h1⟩ | ⟨z, -, h1⟩
          · rw [h2] at q1; exact tlF_ge (hw.2.2 rfl z) q1
          · apply c2
            rw [lgc0, h1]
            refine lbit_eq (fun k hk => ?_)
            rw [lbit_and, sh54 _ _ hk, lbit_0, Bool.and_false, Bool.false_and]
    refine ⟨key.1, fun e => absurd e (by decide), fun e => absurd e (by decide), fun e => absurd e (by decide), fun e => absurd e (by decide), fun e => absurd e (by decide), fun _ z hz => ?_⟩
    rw [lnX_u hz hx]
    exact ⟨key.2, q2⟩
  · refine ⟨?_, fun e => absurd e e2, fun e => absurd e e3, fun e => absurd e e4, fun e => absurd e e26, fun e => absurd e e32, fun e => absurd e e22⟩
    exact lnLk_fi o h33 e2 e3 e4 e26 e32 e22 hk ht
section
variable {F X : tF} {G : Nat → Nat → Nat} {rs a b : Nat} {k : Nat → Option (List tE)} {C : lnC} {Q : lnQ} {h : Nat → lnT}
/-- nothing was told at all -/
theorem lnW_fi (w : lnW F X G rs a b k C Q h) (h54 : C.2.2.2.2.1 ≤ 54) (hf : (h b).2.2.2.2.2.1 < 0) : ∀ d i : Nat, a ≤ i → i + d = b → (h i).2.2.2.2.2.1 < 0
  | 0, i, ha, e => by rw [show i = b by omega]; exact hf
  | d + 1, i, ha, e => by
    have q := lnW_fi w h54 hf d (i + 1) (by omega) (by omega)
    obtain ⟨o, ho, h33, hr⟩ := w.tr i ha (by omega)
    rcases hr with ⟨hl, L, l1, l2, l3, l4, l5, -⟩ | ⟨n13, n14, hr⟩
    · rw [l5] at q; exact q
    · rcases hr with ⟨-, hr⟩ | ⟨hz, hr⟩
      · rw [hr] at q; exact q
      · obtain ⟨s, hs⟩ := w.al i ha (by omega) hz
        exact (lnLk_no w.n40 h54 h33 hr (wh_of (ce_op w.ce ha (by omega) hs ho h33)) q).1
theorem lnW_O (w : lnW F X G rs a b k C Q h) (h54 : C.2.2.2.2.1 ≤ 54) (hf : (h b).2.2.2.2.2.1 < 0) {i o : Nat} (ha : a ≤ i) (hb : i < b) (hl : ¬ isL (F 0 i)) (hA : cA F (fun j => lnp (h j)) i) (ho : F 0 i = nI o) (h33 : o < 33) : lnLk F C Q i (h i) (h (i + 1)) o ∧ lnO F C Q i (h i) o := by
  have hz : (h i).2.2.2.1 ≠ 0 := (cA_n (h := fun j => lnp (h j)) hl).mp hA
  have q := lnW_fi w h54 hf (b - (i + 1)) (i + 1) (by omega) (by omega)
  obtain ⟨s, hs⟩ := w.al i ha hb hz
  obtain ⟨o2, g1, g2, g3, -⟩ := lnW_1 w ha hb hl hz hs
  obtain rfl : o = o2 := nI_33 h33 g1 (ho.symm.trans g2)
  exact ⟨g3, (lnLk_no w.n40 h54 h33 g3 (wh_of (ce_op w.ce ha hb hs ho h33)) q).2⟩
end
end
-- d4.c8.lean.txt
section
/-- what is known of Moves' last pass h over the code from a to b -/
def mvW (F X : tF) (G : Nat → Nat → Nat) (rs a b : Nat) (k : Nat → Option (List tE)) (n : Nat) (et em az : Nat → Int32) (h : Nat → mvT) : Prop :=
  (ceI F X G rs a b k) ∧
  (n ≤ 40) ∧
  (∀ i : Nat, a ≤ i → i < b → mvR F n et em az i (h i) (h (i + 1))) ∧
  (∀ i : Nat, a ≤ i → i < b → (h i).2.2.2.1 ≠ 0 → ∃ s : List tE, k i = some s) ∧
  ((h b).2.2.2.2.1 = 0) ∧
  ((h b).2.2.2.2.2 < 0)
theorem mvW.ce {F X : tF} {G : Nat → Nat → Nat} {rs a b : Nat} {k : Nat → Option (List tE)} {n : Nat} {et em az : Nat → Int32} {h : Nat → mvT} (w : mvW F X G rs a b k n et em az h) : ceI F X G rs a b k := w.1
theorem mvW.n40 {F X : tF} {G : Nat → Nat → Nat} {rs a b : Nat} {k : Nat → Option (List tE)} {n : Nat} {et em az : Nat → Int32} {h : Nat → mvT} (w : mvW F X G rs a b k n et em az h) : n ≤ 40 := w.2.1
theorem mvW.tr {F X : tF} {G : Nat → Nat → Nat} {rs a b : Nat} {k : Nat → Option (List tE)} {n : Nat} {et em az : Nat → Int32} {h : Nat → mvT} (w : mvW F X G rs a b k n et em az h) : ∀ i : Nat, a ≤ i → i < b → mvR F n et em az i (h i) (h (i + 1)) := w.2.2.1
theorem mvW.al {F X : tF} {G : Nat → Nat → Nat} {rs a b : Nat} {k : Nat → Option (List tE)} {n : Nat} {et em az : Nat → Int32} {h : Nat → mvT} (w : mvW F X G rs a b k n et em az h) : ∀ i : Nat, a ≤ i → i < b → (h i).2.2.2.1 ≠ 0 → ∃ s : List tE, k i = some s := w.2.2.2.1
theorem mvW.ag {F X : tF} {G : Nat → Nat → Nat} {rs a b : Nat} {k : Nat → Option (List tE)} {n : Nat} {et em az : Nat → Int32} {h : Nat → mvT} (w : mvW F X G rs a b k n et em az h) : (h b).2.2.2.2.1 = 0 := w.2.2.2.2.1
theorem mvW.fi {F X : tF} {G : Nat → Nat → Nat} {rs a b : Nat} {k : Nat → Option (List tE)} {n : Nat} {et em az : Nat → Int32} {h : Nat → mvT} (w : mvW F X G rs a b k n et em az h) : (h b).2.2.2.2.2 < 0 := w.2.2.2.2.2
/-- what Moves told nothing of: the cells of the place aren't without a value -/
def mvO (F : tF) (i : Nat) (st : Nat → Int32) (o : Nat) : Prop := ∀ p v : Nat, F 1 i = nI p → p < 3001 → F 6 p = nI v → v < 40 → (o = 2 ∨ o = 3 ∨ o = 4 ∨ (o = 26 ∧ (0 : Int32) < F 9 p &&& 15)) → st v &&& F 12 p = 0
theorem mvUs_no {F : tF} {p v : Nat} {s : mvT} (hw : ¬ F 11 p < 0) (h : mvUs F p v s < 0) : s.2.2.2.2.2 < 0 ∧ s.1 v &&& F 12 p = 0 := by
  unfold mvUs at h
  by_cases c : s.1 v &&& F 12 p = 0
  · rw [if_pos c] at h; exact ⟨h, c⟩
  · rw [if_neg c] at h; exact absurd h (tlF_ge hw)
theorem mvFl_fi {F : tF} {n i : Nat} {s t : mvT} {o : Nat} (h : mvFl F n i s t o) : t.2.2.2.2.2 = s.2.2.2.2.2 := by
  by_cases e15 : o = 15
  · subst e15
    obtain ⟨L, u, rv, q1, q2, q3, q4, q5, q6, q7⟩ := h
    exact q7
  by_cases e16 : o = 16
  · subst e16
    obtain ⟨L, u, rv, q1, q2, q3, rfl⟩ := h
    rfl
  by_cases e17 : o = 17
  · subst e17
    obtain ⟨L, rv, q1, q2, q3⟩ := h
    rw [q3.2.2.2.1]
  by_cases e18 : o = 18
  · subst e18
    obtain ⟨L, rv, q1, q2, q3⟩ := h
    rw [q3.2.2.2.1]
  by_cases e19 : o = 19
  · subst e19
    obtain ⟨L, rv, q1, q2, q3⟩ := h
    rw [q3.2.2.2.1]
  by_cases e20 : o = 20
  · subst e20
    obtain ⟨tb, c, u, q1, q2, q3, q4, q5, rfl⟩ := h
    show u.2.2.2.2.2 = _
    rw [(mvSw_ag q5).1]
  by_cases e22 : o = 22
  · subst e22
    have h : t = (s.1, s.2.1, s.2.2.1, 0, s.2.2.2.2) := h
    rw [h]
  · rw [mvFl_o o e15 e16 e17 e18 e19 e20 e22 h]
theorem mvLk_no {F : tF} {n i : Nat} {et em az : Nat → Int32} {s t : mvT} {o : Nat} (hk : mvLk F n et em az i s t o) (hw : whO F i o) (ht : t.2.2.2.2.2 < 0) : s.2.2.2.2.2 < 0 ∧ mvO F i s.1 o := by
  have hpl : ∀ p v q w : Nat, F 1 i = nI p → p < 3001 → F 6 p = nI v → v < 40 → F 1 i = nI q → q < 3001 → F 6 q = nI w → w < 40 → p = q ∧ v = w := fun p v q w h1 h2 h3 h4 h5 h6 h7 h8 => by
    obtain rfl : p = q := (nI_eq (a := p) (b := q) (by omega) (by omega)).mp (h1.symm.trans h5)
    exact ⟨rfl, (nI_eq (a := v) (b := w) (by omega) (by omega)).mp (h3.symm.trans h7)⟩
  by_cases e2 : o = 2 ∨ o = 4
  · have hk2 : ∃ p v : Nat, (F 1 i = nI p ∧ p < 3001) ∧ F 6 p = nI v ∧ v < 40 ∧ t = mvSt s s.1 (mvUs F p v s) := by
      rcases e2 with rfl | rfl <;> exact hk
    obtain ⟨p, v, ⟨h1, h2⟩, h3, h4, rfl⟩ := hk2
    obtain ⟨q1, q2⟩ := mvUs_no (hw.1 (by omega) p h1 h2) ht
    refine ⟨q1, fun p2 v2 g1 g2 g3 g4 _ => ?_⟩
    obtain ⟨rfl, rfl⟩ := hpl p2 v2 p v g1 g2 g3 g4 h1 h2 h3 h4
    exact q2
  by_cases e3 : o = 3
  · subst e3
    obtain ⟨p, v, ⟨h1, h2⟩, h3, h4, rfl⟩ := hk
    obtain ⟨q1, q2⟩ := mvUs_no (hw.1 (by omega) p h1 h2) ht
    refine ⟨q1, fun p2 v2 g1 g2 g3 g4 _ => ?_⟩
    obtain ⟨rfl, rfl⟩ := hpl p2 v2 p v g1 g2 g3 g4 h1 h2 h3 h4
    exact q2
  by_cases e26 : o = 26
  · subst e26
    obtain ⟨p, v, ⟨h1, h2⟩, h3, h4, h5⟩ := hk
    rcases h5 with ⟨z, rfl⟩ | ⟨z, rfl⟩
    · obtain ⟨q1, q2⟩ := mvUs_no (hw.1 (by omega) p h1 h2) ht
      refine ⟨q1, fun p2 v2 g1 g2 g3 g4 _ => ?_⟩
      obtain ⟨rfl, rfl⟩ := hpl p2 v2 p v g1 g2 g3 g4 h1 h2 h3 h4
      exact q2
    · have ht : (if F 8 p = 0 ∧ em v = 0 ∧ hiS (s.1 v) ≠ 0 then tlF s.2.2.2.2.2 (F 11 p) else s.2.2.2.2.2) < 0 := ht
      refine ⟨?_, fun p2 v2 g1 g2 g3 g4 g5 => ?_⟩
      · by_cases c : F 8 p = 0 ∧ em v = 0 ∧ hiS (s.1 v) ≠ 0
        · rw [if_pos c] at ht; exact absurd ht (tlF_ge (hw.1 (by omega) p h1 h2))
        · rw [if_neg c] at ht; exact ht
      · obtain ⟨rfl, rfl⟩ := hpl p2 v2 p v g1 g2 g3 g4 h1 h2 h3 h4
        rcases g5 with g5 | g5 | g5 | ⟨-, g5⟩
        · exact absurd g5 (by decide)
        · exact absurd g5 (by decide)
        · exact absurd g5 (by decide)
        · exact absurd g5 z
  · refine ⟨?_, fun p v _ _ _ _ e => by omega⟩
    by_cases e24 : o = 24 ∨ o = 29 ∨ o = 30
    · have hk2 : ∃ v : Nat, F 1 i = nI v ∧ v < 40 ∧ t = mvSt s (upd s.1 v (fuV et az v <<< ((16 : Int32) &&& 31))) s.2.2.2.2.2 := by
        rcases e24 with rfl | rfl | rfl <;> exact hk
      obtain ⟨v, h1, h2, rfl⟩ := hk2
      exact ht
    by_cases e25 : o = 25
    · subst e25
      obtain ⟨v, h1, h2, rfl⟩ := hk
      exact ht
    · rcases mvLk_o o hk with h | ⟨h, -⟩
      · rw [mvFl_fi h] at ht; exact ht
      · omega
section
variable {F X : tF} {G : Nat → Nat → Nat} {rs a b : Nat} {k : Nat → Option (List tE)} {n : Nat} {et em az : Nat → Int32} {h : Nat → mvT}
theorem mvW_p (w : mvW F X G rs a b k n et em az h) : ∀ i : Nat, a ≤ i → i < b → pS iS F n i (mvp (h i)) (mvp (h (i + 1))) := fun i h1 h2 => pR_S (or := fun x y => x ||| y) iS_rf iS_tr iS_l iS_r w.n40 (mvR_p (w.tr i h1 h2))
theorem mvW_fi (w : mvW F X G rs a b k n et em az h) : ∀ d i : Nat, a ≤ i → i + d = b → (h i).2.2.2.2.2 < 0
  | 0, i, ha, e => by rw [show i = b by omega]; exact w.fi
  | d + 1, i, ha, e => by
    have q := mvW_fi w d (i + 1) (by omega) (by omega)
    obtain ⟨o, ho, h33, hr⟩ := w.tr i ha (by omega)
    rcases hr with ⟨hl, L, l1, l2, l3, l4, l5, -⟩ | ⟨n13, n14, hr⟩
    · rw [l5] at q; exact q
    · rcases hr with ⟨-, hr⟩ | ⟨hz, hr⟩
      · rw [hr] at q; exact q
      · obtain ⟨s, hs⟩ := w.al i ha (by omega) hz
        exact (mvLk_no hr (wh_of (ce_op w.ce ha (by omega) hs ho h33)) q).1
theorem mvW_O (w : mvW F X G rs a b k n et em az h) {i o : Nat} (ha : a ≤ i) (hb : i < b) (hl : ¬ isL (F 0 i)) (hA : cA F (fun j => mvp (h j)) i) (ho : F 0 i = nI o) (h33 : o < 33) : mvLk F n et em az i (h i) (h (i + 1)) o ∧ mvO F i (h i).1 o := by
  have hz : (h i).2.2.2.1 ≠ 0 := (cA_n (h := fun j => mvp (h j)) hl).mp hA
  have q := mvW_fi w (b - (i + 1)) (i + 1) (by omega) (by omega)
  obtain ⟨s, hs⟩ := w.al i ha hb hz
  obtain ⟨o2, g1, g2, hr⟩ := w.tr i ha hb
  obtain rfl : o = o2 := nI_33 h33 g2 (ho.symm.trans g1)
  rcases hr with ⟨hl2, -⟩ | ⟨n13, n14, hr⟩
  · exact absurd (by rw [ho]; rcases hl2 with z | z <;> rw [z]; exact Or.inl rfl; exact Or.inr rfl) hl
  · rcases hr with ⟨hr, -⟩ | ⟨-, hr⟩
    · exact absurd hr hz
    · exact ⟨hr, (mvLk_no hr (wh_of (ce_op w.ce ha hb hs ho h33)) q).2⟩
/-- nothing jumps ahead to a head -/
theorem ce_ntg (hc : ceI F X G rs a b k) {m j L : Nat} {s : List tE} (hm : a ≤ m) (hmb : m < b) (hs : k m = some s) (hj : a ≤ j) (hjb : j < b) (h14 : F 0 j = 14) (hjL : F 1 j = nI L) : ¬ tgt F m L := fun q => by
  have key : ∀ (x : Int32) (y : List tE), x = nI L → False ∨ tJm F G k m b x y → False := fun x y e z => by
    obtain ⟨j2, ⟨j1, -⟩, j3, j4, j5, -⟩ := z.resolve_left id
    have := ce_one hc hj hjb (Or.inr h14) (show a ≤ j2 by omega) j3 (Or.inl j4) hjL (j5.trans e)
    rw [this, j4] at h14
    exact absurd h14 (by decide)
  rcases q with ⟨q, q2⟩ | ⟨q, tb, c, g, q1, q2, q3, q4, q5, q6⟩
  · rcases q with q | q | q | q
    · exact key _ s q2 (ce_op (o := 16) hc hm hmb hs q (by decide)).2
    · obtain ⟨r, -, -, u⟩ := ce_op (o := 17) hc hm hmb hs q (by decide)
      exact key _ r q2 u
    · obtain ⟨r, -, -, u⟩ := ce_op (o := 18) hc hm hmb hs q (by decide)
      exact key _ s q2 u
    · obtain ⟨r, -, -, u⟩ := ce_op (o := 19) hc hm hmb hs q (by decide)
      exact key _ s q2 u
  · obtain ⟨sh, n9, tb2, r, u1, u2, u3, u4, u5, u6, ⟨u7, -⟩, u8⟩ := ce_op (o := 20) hc hm hmb hs q (by decide)
    obtain rfl : tb = tb2 := (nI_eq (a := tb) (b := tb2) (by omega) (by omega)).mp (q1.symm.trans u5)
    obtain rfl : c = n9 := (nI_eq (a := c) (b := n9) (by omega) (by omega)).mp (q2.symm.trans u7)
    rcases u8 with ⟨w1, w2, w3⟩ | ⟨q9, m9, w0, w1, w2, w3⟩
    · exact key _ _ q6 (w3 g q5)
    · exact key _ _ q6 (w3 g q5)
end
end
-- d4.c9.lean.txt
section
section
variable {F X : tF} {G : Nat → Nat → Nat} {rs a b : Nat} {k : Nat → Option (List tE)} {h : Nat → fuT}
theorem fu_ag (ht : ∀ i : Nat, a ≤ i → i < b → fuR F i (h (i + 1)) (h i)) (h0 : (h a).2.2 = 0) : ∀ d i : Nat, i = a + d → i ≤ b → (h i).2.2 = 0
  | 0, i, e, _ => by rw [show i = a by omega]; exact h0
  | d + 1, i, e, hb => by
    obtain ⟨j, rfl⟩ : ∃ j : Nat, i = j + 1 := ⟨a + d, by omega⟩
    have q := fu_ag ht h0 d j (by omega) (by omega)
    obtain ⟨o, ho, h33, e9⟩ := ht j (by omega) (by omega)
    have e8 : (h j).2.2 = uaG F (h (j + 1)).2.1 j (h (j + 1)).1 (h (j + 1)).2.2 o := by rw [e9]
    rw [q] at e8
    unfold uaG at e8
    by_cases c : (h (j + 1)).2.2 = 0
    · exact c
    · by_cases c2 : o = 14
      · rw [if_pos c2, if_pos c] at e8; exact absurd e8 (by decide)
      · rw [if_neg c2] at e8; exact e8.symm
/-- what is used at label L: behind it as at the beginning, ahead of it as at it -/
theorem fu_row (hc : ceI F X G rs a b k) (ht : ∀ i : Nat, a ≤ i → i < b → fuR F i (h (i + 1)) (h i)) {j L : Nat} (hj : a ≤ j) (hjb : j < b) (hl : isL (F 0 j)) (hL : F 1 j = nI L) (hL2 : L < 1100) : (h j).1 = (h (j + 1)).1 ∧ ∀ d i : Nat, a ≤ i → i + d = b → (h i).2.1 L = if i ≤ j then (h j).1 else (h b).2.1 L := by
  have step : ∀ i : Nat, a ≤ i → i < b → i ≠ j → (h i).2.1 L = (h (i + 1)).2.1 L := fun i h1 h2 h3 => by
    obtain ⟨o, ho, h33, e9⟩ := ht i h1 h2
    have e8 : (h i).2.1 = uaW F (h (i + 1)).2.1 i (h (i + 1)).1 o := by rw [e9]
    rw [e8]
    unfold uaW
    by_cases c : o = 13 ∨ o = 14
    · have hi : isL (F 0 i) := by rcases c with z | z <;> rw [ho, z]; exact Or.inl rfl; exact Or.inr rfl
      obtain ⟨M, m1, m2, -⟩ := hc.2.2 i h1 h2 hi
      rw [if_pos c, m2, cN_nI (by omega)]
      refine pk_uLn (fun e => h3 ?_)
      exact ce_one hc h1 h2 hi hj hjb hl m2 (by rw [hL, e])
    · rw [if_neg c]
  obtain ⟨o, ho, h33, e9⟩ := ht j hj hjb
  have ho2 : o = 13 ∨ o = 14 := by rw [ho] at hl; exact isL_nI h33 hl
  have e7 : (h j).1 = (h (j + 1)).1 := by
    have e8 : (h j).1 = uaF F (h (j + 1)).2.1 j (h (j + 1)).1 o := by rw [e9]
    rw [e8]
    rcases ho2 with rfl | rfl <;> rfl
  refine ⟨e7, ?_⟩
  have e6 : (h j).2.1 L = (h j).1 := by
    have e8 : (h j).2.1 = uaW F (h (j + 1)).2.1 j (h (j + 1)).1 o := by rw [e9]
    rw [e8]
    unfold uaW
    rw [if_pos ho2, hL, cN_nI (by omega), e7]
    exact pk_uLs
  intro d
  induction d with
  | zero =>
    intro i h1 h2
    rw [show i = b by omega, if_neg (by omega)]
  | succ d ih =>
    intro i h1 h2
    by_cases c : i = j
    · rw [c, if_pos (Nat.le_refl _)]; exact e6
    · rw [step i h1 (by omega) c, ih (i + 1) (by omega) (by omega)]
      by_cases c2 : i ≤ j
      · rw [if_pos c2, if_pos (by omega)]
      · rw [if_neg c2, if_neg (by omega)]
theorem uaA_bit {ua : Nat → Int64} {tb : Nat} : ∀ {c g L : Nat}, g < c → F 13 (tb + g) = nI L → L < 1100 → lS (ua L) (uaA F ua tb c)
  | 0, g, L, h1, _, _ => absurd h1 (by omega)
  | c + 1, g, L, h1, h2, h3 => by
    show lS (ua L) (uaA F ua tb c ||| ua (cN (F 13 (tb + c))))
    by_cases e : g = c
    · rw [← e, h2, cN_nI (by omega)]
      exact fun q hq hb => by rw [lbit_or, hb, Bool.or_true]
    · exact lS_tr (uaA_bit (show g < c by omega) h2 h3) (lS_orl _ _)
/-- a jump ahead: what is used there is used ahead of it -/
theorem fu_jump (hc : ceI F X G rs a b k) (ht : ∀ i : Nat, a ≤ i → i < b → fuR F i (h (i + 1)) (h i)) {i j L : Nat} (ha : a ≤ i) (hij : i < j) (hjb : j < b) (hl : isL (F 0 j)) (hL : F 1 j = nI L) (hL2 : L < 1100) (hg : tgt F i L) : lS (h j).1 (h i).1 := by
  have e1 := (fu_row hc ht (show a ≤ j by omega) hjb hl hL hL2).2 (b - (i + 1)) (i + 1) (by omega) (by omega)
  rw [if_pos (by omega)] at e1
  obtain ⟨o, ho, h33, e9⟩ := ht i ha (by omega)
  have e8 : (h i).1 = uaF F (h (i + 1)).2.1 i (h (i + 1)).1 o := by rw [e9]
  rw [e8, ← e1]
  have orr : ∀ x y : Int64, lS y (x ||| y) := fun x y q hq hb => by rw [lbit_or, hb, Bool.or_true]
  rcases hg with ⟨q, q2⟩ | ⟨q, tb, c, g, q1, q2, q3, q4, q5, q6⟩
  · rcases q with q | q | q | q
    · obtain rfl : o = 16 := nI_33 h33 (by omega) (ho.symm.trans q)
      show lS _ ((h (i + 1)).2.1 (cN (F 1 i)))
      rw [q2, cN_nI (by omega)]; exact lS_rf _
    · obtain rfl : o = 17 := nI_33 h33 (by omega) (ho.symm.trans q)
      show lS _ ((h (i + 1)).1 ||| (h (i + 1)).2.1 (cN (F 1 i)))
      rw [q2, cN_nI (by omega)]; exact orr _ _
    · obtain rfl : o = 18 := nI_33 h33 (by omega) (ho.symm.trans q)
      show lS _ ((h (i + 1)).1 ||| (h (i + 1)).2.1 (cN (F 1 i)))
      rw [q2, cN_nI (by omega)]; exact orr _ _
    · obtain rfl : o = 19 := nI_33 h33 (by omega) (ho.symm.trans q)
      show lS _ ((h (i + 1)).1 ||| (h (i + 1)).2.1 (cN (F 1 i)))
      rw [q2, cN_nI (by omega)]; exact orr _ _
  · obtain rfl : o = 20 := nI_33 h33 (by omega) (ho.symm.trans q)
    show lS _ (uaA F (h (i + 1)).2.1 (cN (F 1 i)) (cN (F 3 i)))
    rw [q1, q2, cN_nI (by omega), cN_nI (by omega)]
    exact uaA_bit q5 q6 hL2
/-- the way back of a loop -/
theorem fu_loop (hc : ceI F X G rs a b k) (ht : ∀ i : Nat, a ≤ i → i < b → fuR F i (h (i + 1)) (h i)) (h0 : (h a).2.2 = 0) {i j L : Nat} (ha : a ≤ j) (hji : j ≤ i) (hib : i < b) (h15 : F 0 i = 15) (hiL : F 1 i = nI L) (hL2 : L < 1100) (h14 : F 0 j = 14) (hL : F 1 j = nI L) : (h i).1 = (h j).1 := by
  have hjn : j ≠ i := fun e => by rw [e, h15] at h14; exact absurd h14 (by decide)
  obtain ⟨e7, hrow⟩ := fu_row hc ht ha (show j < b by omega) (Or.inr h14) hL hL2
  have e1 := hrow (b - (i + 1)) (i + 1) (by omega) (by omega)
  rw [if_neg (by omega)] at e1
  have e2 := hrow (b - (j + 1)) (j + 1) (by omega) (by omega)
  rw [if_neg (by omega)] at e2
  obtain ⟨o, ho, h33, e9⟩ := ht i (by omega) hib
  have e8 : (h i).1 = uaF F (h (i + 1)).2.1 i (h (i + 1)).1 o := by rw [e9]
  obtain rfl : o = 15 := nI_33 h33 (by omega) (ho.symm.trans h15)
  have e8 : (h i).1 = (h (i + 1)).2.1 (cN (F 1 i)) := e8
  rw [e8, hiL, cN_nI (by omega), e1, ← e2]
  obtain ⟨o2, ho2, h332, e92⟩ := ht j ha (by omega)
  obtain rfl : o2 = 14 := nI_33 h332 (by omega) (ho2.symm.trans h14)
  have e82 : (h j).2.2 = uaG F (h (j + 1)).2.1 j (h (j + 1)).1 (h (j + 1)).2.2 14 := by rw [e92]
  rw [fu_ag ht h0 (j - a) j (by omega) (by omega)] at e82
  unfold uaG at e82
  rw [if_pos rfl, fu_ag ht h0 (j + 1 - a) (j + 1) (by omega) (by omega), if_neg (by decide), hL, cN_nI (by omega)] at e82
  by_cases c : lg_cmp ((h (j + 1)).2.1 L) (h (j + 1)).1 = 0
  · rw [e7]; exact lgc0.mp c
  · rw [if_neg c] at e82; exact absurd e82 (by decide)
end
end
-- d4.ca.lean.txt
section
theorem lnSd_B {n L : Nat} {s t : lnT} {rv : Int32} (h : lnSd n L s t rv) : lnB t = lnB s := by unfold lnB; rw [h.2.2.2.1]
theorem lnPo_B {k : Nat} {s t : lnT} (h : lnPo k s t) : lnB t = lnB s := by
  obtain ⟨x, h1, h2⟩ := h
  unfold lnB; rw [h2]; rfl
/-- what the loans' references hold changes at a borrow alone -/
theorem lnLk_B {F : tF} {C : lnC} {Q : lnQ} {i : Nat} {s t : lnT} : ∀ o : Nat, o < 33 → o ≠ 4 → lnLk F C Q i s t o → lnB t = lnB s
  | 0, _, _, h => by
    obtain ⟨gt, tn2, h1, rfl⟩ := h
    rfl
  | 1, _, _, h => by
    obtain ⟨gt, tn2, h1, rfl⟩ := h
    rfl
  | 2, _, _, h => by
    obtain ⟨p, v, u, h1, h2, h3, h4, rfl, h5⟩ := h
    rcases h5 with ⟨-, gt, tn2, h6, rfl⟩ | ⟨-, gt, tn2, h6, rfl⟩
    · rfl
    · rfl
  | 3, _, _, h => by
    obtain ⟨p, v, u, h1, h2, h3, h4, rfl, h5⟩ := h
    rcases h5 with ⟨-, gt, tn2, h6, rfl⟩ | ⟨-, gt, tn2, h6, rfl⟩
    · rfl
    · rfl
  | 4, _, e, _ => absurd rfl e
  | 5, _, _, h => by
    have h : t = s := h
    rw [h]
  | 6, _, _, h => by
    have h : t = s := h
    rw [h]
  | 7, _, _, h => lnPo_B h
  | 8, _, _, h => by
    have h : t = s := h
    rw [h]
  | 9, _, _, h => by
    obtain ⟨gt, tn2, h1, rfl⟩ := h
    rfl
  | 10, _, _, h => lnPo_B h
  | 11, _, _, h => by
    obtain ⟨gt, tn2, h1, rfl⟩ := h
    rfl
  | 12, _, _, h => by
    obtain ⟨n, h1, h2, h3⟩ := h
    exact lnPo_B h3
  | 13, _, _, h => by
    have h : t = s := h
    rw [h]
  | 14, _, _, h => by
    have h : t = s := h
    rw [h]
  | 15, _, _, h => by
    obtain ⟨L, u, rv, q1, q2, q3, rfl⟩ := h
    have e : lnB u = lnB s := lnSd_B q3
    exact e
  | 16, _, _, h => by
    obtain ⟨L, u, rv, q1, q2, q3, rfl⟩ := h
    have e : lnB u = lnB s := lnSd_B q3
    exact e
  | 17, _, _, h => by
    obtain ⟨L, u, rv, q1, q2, q3, q4⟩ := h
    exact (lnSd_B q4).trans (lnPo_B q3)
  | 18, _, _, h => by
    obtain ⟨L, u, rv, q1, q2, q3, q4⟩ := h
    exact (lnSd_B q4).trans (lnPo_B q3)
  | 19, _, _, h => by
    obtain ⟨L, u, rv, q1, q2, q3, q4⟩ := h
    exact (lnSd_B q4).trans (lnPo_B q3)
  | 20, _, _, h => by
    obtain ⟨tb, c, u, v, q1, q2, q3, q4, q5, q6, rfl⟩ := h
    have e : lnB v = lnB u := by unfold lnB; rw [(lnSw_ag q6).1]
    exact e.trans (lnPo_B q5)
  | 21, _, _, h => by
    obtain ⟨g, h1, h2, n, x, t1, gt, tn2, q1, q2, q3, q4, rfl⟩ := h
    rfl
  | 22, _, _, h => by
    obtain ⟨x, f1, g6, g8, h1, h2, h3, rfl⟩ := h
    rfl
  | 23, _, _, h => by
    have h : t = s := h
    rw [h]
  | 24, _, _, h => by
    obtain ⟨v, x, tn2, h1, h2, h3, rfl⟩ := h
    rfl
  | 25, _, _, h => by
    obtain ⟨v, h1, h2, rfl⟩ := h
    rfl
  | 26, _, _, h => by
    obtain ⟨p, v, x, tn2, h1, h2, h3, h4, h5, h6⟩ := h
    rcases h6 with ⟨-, rfl⟩ | ⟨-, rfl⟩
    · rfl
    · rfl
  | 27, _, _, h => lnPo_B h
  | 28, _, _, h => lnPo_B h
  | 29, _, _, h => by
    obtain ⟨v, h1, h2, rfl⟩ := h
    rfl
  | 30, _, _, h => by
    obtain ⟨v, b, h1, h2, h3, h4, rfl⟩ := h
    rfl
  | 31, _, _, h => by
    have h : t = s := h
    rw [h]
  | 32, _, _, h => by
    obtain ⟨v0, v1, g1, g6, h1, h2, h3, h4, h5, rfl⟩ := h
    rfl
  | n + 33, h, _, _ => absurd h (by omega)
section
variable {F X : tF} {G : Nat → Nat → Nat} {rs a b : Nat} {k : Nat → Option (List tE)} {C : lnC} {Q : lnQ} {h : Nat → lnT}
/-- behind the borrow of loan l what it holds stays -/
theorem lnW_B (w : lnW F X G rs a b k C Q h) (hu : ∀ i j : Nat, a ≤ i → i < b → a ≤ j → j < b → F 0 i = 4 → F 0 j = 4 → F 2 i = F 2 j → i = j) {j l : Nat} (hj : a ≤ j) (hjb : j < b) (h4 : F 0 j = 4) (hl : F 2 j = nI l) (hl2 : l < 54) : ∀ d i : Nat, i = j + 1 + d → i ≤ b → lnB (h i) l = lnB (h (j + 1)) l
  | 0, i, e, _ => by rw [show i = j + 1 by omega]
  | d + 1, i, e, hb => by
    obtain ⟨m, rfl⟩ : ∃ m : Nat, i = m + 1 := ⟨j + 1 + d, by omega⟩
    rw [← lnW_B w hu hj hjb h4 hl hl2 d m (by omega) (by omega)]
    obtain ⟨o, ho, h33, hr⟩ := w.tr m (by omega) (by omega)
    rcases hr with ⟨-, L, -, -, -, -, l5, -⟩ | ⟨n13, n14, hr⟩
    · unfold lnB; rw [l5]
    · rcases hr with ⟨-, hr⟩ | ⟨-, hr⟩
      · rw [hr]
      · by_cases e4 : o = 4
        · subst e4
          obtain ⟨p, v, b9, x, gt, tn2, h1, h2, h3, h4', h5, h6, h7, h8, h9⟩ := hr
          rw [h9]
          show vp_updL (lnB (h m)) b9 x l = lnB (h m) l
          refine pk_uLn (fun z => ?_)
          have := hu m j (by omega) (by omega) hj hjb ho h4 (by rw [h5, hl, z])
          omega
        · rw [lnLk_B o h33 e4 hr]
/-- what is pushed by a borrow is what its loan holds -/
theorem lnW_Bx (w : lnW F X G rs a b k C Q h) {j l : Nat} (hj : a ≤ j) (hjb : j < b) (h4 : F 0 j = 4) (hl : F 2 j = nI l) (hl2 : l < 54) (hA : cA F (fun j => lnp (h j)) j) : ∃ x : Int64, lnB (h (j + 1)) l = x ∧ psR (lnF (h j)) (lnN (h j)) x (lnF (h (j + 1))) (lnN (h (j + 1))) ∧ lbit x l = true ∧ ∃ p v : Nat, F 1 j = nI p ∧ p < 3001 ∧ F 6 p = nI v ∧ v < 40 ∧ (rfB Q.1 (Q.2.1 v) → ∀ m : Nat, lbit ((h j).1 v) m = true → lbit x m = true) := by
  have hn : ¬ isL (F 0 j) := by rw [h4]; unfold isL; decide
  have hz : (h j).2.2.2.1 ≠ 0 := (cA_n (h := fun j => lnp (h j)) hn).mp hA
  obtain ⟨o, ho, h33, hr⟩ := w.tr j hj hjb
  obtain rfl : o = 4 := nI_33 h33 (by omega) (ho.symm.trans h4)
  rcases hr with ⟨z, -⟩ | ⟨-, -, hr⟩
  · omega
  · rcases hr with ⟨z, -⟩ | ⟨-, hr⟩
    · exact absurd z hz
    · obtain ⟨p, v, b9, x, gt, tn2, h1, h2, h3, h4', h5, h6, h7, h8, h9⟩ := hr
      obtain rfl : l = b9 := (nI_eq (a := l) (b := b9) (by omega) (by omega)).mp (hl.symm.trans h5)
      refine ⟨x, ?_, ?_, ?_, p, v, h1, h2, h3, h4', fun hr m hm => ?_⟩
      · rw [h9]
        show vp_updL (lnB (h j)) l x l = x
        exact pk_uLs
      · rw [h9]; exact h8
      · rcases h7 with ⟨-, rfl⟩ | ⟨-, rfl⟩
        · rw [lbit_or, lbit_bt l l (by omega) (by omega), decide_eq_true rfl]; rfl
        · rw [lbit_or, lbit_bt l l (by omega) (by omega), decide_eq_true rfl]; rfl
      · rcases h7 with ⟨-, rfl⟩ | ⟨z, -⟩
        · rw [lbit_or, hm, Bool.or_true]
        · exact absurd hr z
end
end
-- d4.cb.lean.txt
section
/-- the n-th value from below -/
def ent : List tE → Nat → Option tE
  | [], _ => none
  | e :: s, n => if e.1 = 8 ∨ e.1 = 4 ∨ e.1 = 5 ∨ e.1 = 6 then ent s n else if n = wl s then some e else ent s n
theorem ent_lt : ∀ {s : List tE} {n : Nat} {x : tE}, ent s n = some x → n < wl s
  | [], n, x, h => by
    have h : (none : Option tE) = some x := h
    simp at h
  | e :: s, n, x, h => by
    have h : (if e.1 = 8 ∨ e.1 = 4 ∨ e.1 = 5 ∨ e.1 = 6 then ent s n else if n = wl s then some e else ent s n) = some x := h
    have hw := wl_le (e := e) (s := s)
    by_cases c : e.1 = 8 ∨ e.1 = 4 ∨ e.1 = 5 ∨ e.1 = 6
    · rw [if_pos c] at h
      have := ent_lt h; omega
    · rw [if_neg c] at h
      rw [wl_n c]
      by_cases c2 : n = wl s
      · omega
      · rw [if_neg c2] at h
        have := ent_lt h; omega
theorem ent_c {e x : tE} {s : List tE} {n : Nat} (h : ent (e :: s) n = some x) : (x = e ∧ n = wl s) ∨ ent s n = some x := by
  have h : (if e.1 = 8 ∨ e.1 = 4 ∨ e.1 = 5 ∨ e.1 = 6 then ent s n else if n = wl s then some e else ent s n) = some x := h
  by_cases c : e.1 = 8 ∨ e.1 = 4 ∨ e.1 = 5 ∨ e.1 = 6
  · rw [if_pos c] at h; exact Or.inr h
  · rw [if_neg c] at h
    by_cases c2 : n = wl s
    · rw [if_pos c2] at h
      injection h with h
      exact Or.inl ⟨h.symm, c2⟩
    · rw [if_neg c2] at h; exact Or.inr h
theorem ent_up {e x : tE} {s : List tE} {n : Nat} (h : ent s n = some x) : ent (e :: s) n = some x := by
  have hl := ent_lt h
  show (if e.1 = 8 ∨ e.1 = 4 ∨ e.1 = 5 ∨ e.1 = 6 then ent s n else if n = wl s then some e else ent s n) = some x
  rw [if_neg (show ¬ n = wl s by omega), ite_self]; exact h
theorem ent_app {x : tE} {s : List tE} {n : Nat} (h : ent s n = some x) : ∀ E : List tE, ent (E ++ s) n = some x
  | [] => h
  | e :: E => ent_up (ent_app h E)
/-- a marked reference: it came by a borrow -/
def mkd (x : tE) : Prop := (x.1 = 1 ∨ x.1 = 2) ∧ x.2.2 ≠ 0
theorem mk_t {F : tF} {t : Nat} : ¬ mkd (tNf F t) := by
  unfold tNf
  by_cases c : t = 3
  · rw [if_pos c]; exact fun q => q.2 rfl
  · rw [if_neg c]
    by_cases c2 : F 20 t = 5
    · rw [if_pos c2]; exact fun q => q.2 rfl
    · rw [if_neg c2]
      by_cases c3 : F 20 t = 6
      · rw [if_pos c3]; exact fun q => q.2 rfl
      · rw [if_neg c3]; exact fun q => q.2 rfl
theorem mk_n {a b c : Nat} (h : a ≠ 1 ∧ a ≠ 2) : ¬ mkd (a, b, c) := fun q => q.1.elim h.1 h.2
theorem mk_p {n sh : Nat} {sn : Int32} : ¬ mkd (pE n sh sn) := by
  unfold pE
  by_cases c : sn = ((1 : Int32) <<< (nI n &&& 31)) - 1
  · rw [if_pos c]; exact mk_n (by decide)
  · rw [if_neg c]; exact mk_n (by decide)
theorem mk_old {E r0 : List tE} {n p : Nat} {x : tE} (h : ent r0 n = some x) (hw : wl r0 + p ≤ wl (E ++ r0)) : ent (E ++ r0) n = some x ∧ n + p < wl (E ++ r0) := ⟨ent_app h E, by have := ent_lt h; omega⟩
/-- behind an instruction a marked reference stands where it stood, or was just borrowed -/
theorem mk_step {F X : tF} {G : Nat → Nat → Nat} {rs i n : Nat} {k : Nat → Option (List tE)} {J K : Int32 → List tE → Prop} {s r : List tE} {x : tE} (hr : k (i + 1) = some r) (hx : ent r n = some x) (hm : mkd x) : ∀ o : Nat, nu o → iOp F X G rs k J K i s o → (ent s n = some x ∧ n + po F G i o < wl s) ∨ (o = 4 ∧ n = wl s ∧ ∃ b : Nat, F 2 i = nI b ∧ b < 54 ∧ x.2.2 = b + 1)
  | 0, _, h => by
    obtain ⟨T, h1, h2⟩ := h
    obtain rfl := some_i (h2.symm.trans hr)
    rcases ent_c hx with q | q
    · rw [q.1] at hm; exact absurd hm (mk_n (by decide))
    · exact Or.inl ⟨q, ent_lt q⟩
  | 1, _, h => by
    have h : k (i + 1) = some ((0, 1, 0) :: s) := h
    obtain rfl := some_i (h.symm.trans hr)
    rcases ent_c hx with q | q
    · rw [q.1] at hm; exact absurd hm (mk_n (by decide))
    · exact Or.inl ⟨q, ent_lt q⟩
  | 2, _, h => by
    obtain ⟨p, T, mu, h1, h2, h3, h4⟩ := h
    obtain rfl := some_i (h4.symm.trans hr)
    rcases ent_c hx with q | q
    · rw [q.1] at hm; exact absurd hm mk_t
    · exact Or.inl ⟨q, ent_lt q⟩
  | 3, _, h => by
    obtain ⟨p, T, h1, h2, h3, h4, h5⟩ := h
    obtain rfl := some_i (h5.symm.trans hr)
    rcases ent_c hx with q | q
    · rw [q.1] at hm; exact absurd hm mk_t
    · exact Or.inl ⟨q, ent_lt q⟩
  | 4, _, h => by
    obtain ⟨p, T, b, m, mu, h1, h2, h3, h4, h5, h6, h7, h8⟩ := h
    have key : ∀ q : Nat, k (i + 1) = some ((q, T, m) :: s) → (ent s n = some x ∧ n + po F G i 4 < wl s) ∨ ((4 : Nat) = 4 ∧ n = wl s ∧ ∃ b : Nat, F 2 i = nI b ∧ b < 54 ∧ x.2.2 = b + 1) := fun q hq => by
      obtain rfl := some_i (hq.symm.trans hr)
      rcases ent_c hx with z | z
      · refine Or.inr ⟨rfl, z.2, b, h5, h6, ?_⟩
        rw [z.1] at hm ⊢
        rcases h7 with h7 | h7
        · exact absurd h7 hm.2
        · exact h7
      · exact Or.inl ⟨z, ent_lt z⟩
    rcases h8 with ⟨-, h8⟩ | ⟨-, -, h8⟩
    · exact key 1 h8
    · exact key 2 h8
  | 5, _, h => by
    obtain rfl := some_i ((h.2).symm.trans hr)
    exact Or.inl ⟨hx, ent_lt hx⟩
  | 6, _, h => by
    obtain rfl := some_i ((h.2).symm.trans hr)
    exact Or.inl ⟨hx, ent_lt hx⟩
  | 7, _, h => by
    obtain ⟨x1, y1, z1, r0, h1, h2, h3, rfl, h5⟩ := h
    obtain rfl := some_i (h5.symm.trans hr)
    rcases ent_c hx with q | q
    · rw [q.1] at hm; exact absurd hm (mk_n (by decide))
    · exact Or.inl (mk_old (E := [(0, x1, 0), (0, y1, 0)]) (p := po F G i 7) q (by show wl r0 + 1 ≤ wl ((0, x1, 0) :: (0, y1, 0) :: r0); rw [wl_0n (by decide), wl_0n (by decide)]; omega))
  | 8, _, h => by
    obtain ⟨T, U, r0, h1, h2, h3, h4, h5, h6, h7, h8, rfl, h9⟩ := h
    obtain rfl := some_i (h9.symm.trans hr)
    rcases ent_c hx with q | q
    · rw [q.1] at hm; exact absurd hm (mk_n (by decide))
    · exact Or.inl (mk_old (E := [tNf F T]) (p := po F G i 8) q (wl_le))
  | 9, _, h => by
    obtain ⟨sh, n1, h1, h2, h3, h4, h5, h6⟩ := h
    obtain rfl := some_i (h6.symm.trans hr)
    rcases ent_c hx with q | q
    · rw [q.1] at hm; exact absurd hm mk_p
    · exact Or.inl ⟨q, ent_lt q⟩
  | 10, _, h => by
    obtain ⟨sh, j, n1, sn, r0, h1, h2, h3, h4, h5, h6, h7, h8, h9, rfl, h10⟩ := h
    obtain rfl := some_i (h10.symm.trans hr)
    rcases ent_c hx with q | q
    · rw [q.1] at hm; exact absurd hm mk_p
    · exact Or.inl (mk_old (E := [tNf F (cN (X 2 (sh * 12 * 12 + j))), pE n1 sh sn]) (p := po F G i 10) q (by show wl r0 + 1 ≤ wl (tNf F (cN (X 2 (sh * 12 * 12 + j))) :: pE n1 sh sn :: r0); rw [wl_t, wl_p]; omega))
  | 11, _, h => by
    obtain ⟨g, h1, h2, h3⟩ := h
    obtain rfl := some_i (h3.symm.trans hr)
    rcases ent_c hx with q | q
    · rw [q.1] at hm; exact absurd hm (mk_n (by decide))
    · exact Or.inl ⟨q, ent_lt q⟩
  | 12, _, h => by
    obtain ⟨sh, g, n1, r0, h1, h2, h3, h4, h5, h6, h7, h8, rfl, h9⟩ := h
    obtain rfl := some_i (h9.symm.trans hr)
    have e : po F G i 12 = n1 := by show cN (F 2 i) = n1; rw [h7, cN_nI (by omega)]
    rcases ent_c hx with q | q
    · rw [q.1] at hm; exact absurd hm (mk_n (by decide))
    · refine Or.inl ⟨ent_app (ent_up q) _, ?_⟩
      have := ent_lt q
      rw [e, wl_app, wl_ps, wl_0n (by decide)]; omega
  | 13, _, h => by
    obtain rfl := some_i (((show k (i + 1) = some s from h)).symm.trans hr)
    exact Or.inl ⟨hx, ent_lt hx⟩
  | 14, _, h => by
    obtain rfl := some_i (((show k (i + 1) = some s from h)).symm.trans hr)
    exact Or.inl ⟨hx, ent_lt hx⟩
  | 15, hu, _ => absurd hu (by unfold nu; decide)
  | 16, hu, _ => absurd hu (by unfold nu; decide)
  | 17, _, h => by
    obtain ⟨r0, rfl, ⟨h2, h3⟩, h4⟩ := h
    obtain rfl := some_i (h2.symm.trans hr)
    exact Or.inl (mk_old (E := [(0, 2, 0)]) (p := po F G i 17) hx (by show wl r0 + 1 ≤ wl ((0, 2, 0) :: r0); rw [wl_0n (by decide)]; omega))
  | 18, _, h => by
    obtain ⟨r0, rfl, h2, h4⟩ := h
    obtain rfl := some_i (h2.symm.trans hr)
    exact Or.inl (mk_old (E := [(0, 2, 0)]) (p := po F G i 18) hx (by show wl r0 + 1 ≤ wl ((0, 2, 0) :: r0); rw [wl_0n (by decide)]; omega))
  | 19, _, h => by
    obtain ⟨r0, rfl, h2, h4⟩ := h
    obtain rfl := some_i (h2.symm.trans hr)
    exact Or.inl (mk_old (E := [(0, 2, 0)]) (p := po F G i 19) hx (by show wl r0 + 1 ≤ wl ((0, 2, 0) :: r0); rw [wl_0n (by decide)]; omega))
  | 20, hu, _ => absurd hu (by unfold nu; decide)
  | 21, _, h => by
    obtain ⟨g, r0, h1, h2, rfl, h3⟩ := h
    obtain rfl := some_i (h3.symm.trans hr)
    have e : po F G i 21 = G g 0 := by show G (cN (F 1 i)) 0 = G g 0; rw [h2, cN_nI (by omega)]
    rcases ent_c hx with q | q
    · rw [q.1] at hm; exact absurd hm mk_t
    · refine Or.inl ⟨ent_app q _, ?_⟩
      have := ent_lt q
      rw [e, wl_app, wl_as]; omega
  | 22, hu, _ => absurd hu (by unfold nu; decide)
  | 23, _, h => by
    obtain rfl := some_i (((show k (i + 1) = some s from h)).symm.trans hr)
    exact Or.inl ⟨hx, ent_lt hx⟩
  | 24, _, h => by
    obtain ⟨v, T, r0, h1, h2, h3, h4, h5, h6, rfl, h7⟩ := h
    obtain rfl := some_i (h7.symm.trans hr)
    rcases ent_c hx with q | q
    · rw [q.1] at hm; exact absurd hm (mk_n (by decide))
    · exact Or.inl (mk_old (E := [tNf F T]) (p := po F G i 24) q (by show wl r0 + 1 ≤ wl (tNf F T :: r0); rw [wl_t]; omega))
  | 25, _, h => by
    obtain ⟨v, h1, h2, h3, h4, h5⟩ := h
    obtain rfl := some_i (h5.symm.trans hr)
    rcases ent_c hx with q | q
    · rw [q.1] at hm; exact absurd hm (mk_n (by decide))
    · exact Or.inl ⟨q, ent_lt q⟩
  | 26, _, h => by
    obtain ⟨p, v, n1, T, pa, ro, mu, r0, h1, h2, h3, rfl, h5⟩ := h
    obtain rfl := some_i (h5.symm.trans hr)
    exact Or.inl (mk_old (E := [tNf F T]) (p := po F G i 26) hx (by show wl r0 + 1 ≤ wl (tNf F T :: r0); rw [wl_t]; omega))
  | 27, _, h => by
    obtain ⟨T, r0, h1, h2, rfl, h5⟩ := h
    obtain rfl := some_i (h5.symm.trans hr)
    exact Or.inl (mk_old (E := [tNf F T]) (p := po F G i 27) hx (by show wl r0 + 1 ≤ wl (tNf F T :: r0); rw [wl_t]; omega))
  | 28, _, h => by
    obtain ⟨T, r0, h1, h2, rfl, h5⟩ := h
    obtain rfl := some_i (h5.symm.trans hr)
    exact Or.inl (mk_old (E := [(0, T, 0)]) (p := po F G i 28) hx (by show wl r0 + 1 ≤ wl ((0, T, 0) :: r0); rw [wl_0n (by decide)]; omega))
  | 29, _, h => by
    obtain ⟨v, sh, g, j, n1, T, r0, h1, h2, h3, h4, h5, h6, h7, h8, h9, h10, h11, h12, h13, h14, rfl, h15⟩ := h
    obtain rfl := some_i (h15.symm.trans hr)
    rcases ent_c hx with q | q
    · rw [q.1] at hm; exact absurd hm (mk_n (by decide))
    · rcases ent_c q with q | q
      · rw [q.1] at hm; exact absurd hm (mk_n (by decide))
      · exact Or.inl (mk_old (E := [(4, sh * 12 + g, j)]) (p := po F G i 29) q wl_le)
  | 30, _, h => by
    obtain ⟨v, sh, g, j, n1, T, b, q9, r0, h1, h2, h3, h4, h5, h6, h7, h8, hq, h10, h11, h12, h13, h14, h15, h16, h17, rfl, h18⟩ := h
    obtain rfl := some_i (h18.symm.trans hr)
    rcases ent_c hx with q | q
    · rw [q.1] at hm; exact absurd hm (mk_n (by omega))
    · rcases ent_c q with q | q
      · rw [q.1] at hm; exact absurd hm (mk_n (by decide))
      · exact Or.inl (mk_old (E := [(q9 + 4, sh * 12 + g, b + 1 + 64 * j)]) (p := po F G i 30) q wl_le)
  | 31, _, h => by
    obtain ⟨r1, q9, m1, r0, rfl, h1, h2⟩ := h
    obtain rfl := some_i (h2.symm.trans hr)
    exact Or.inl (mk_old (E := [(q9, r1, m1)]) (p := po F G i 31) hx (wl_le))
  | 32, _, h => by
    obtain ⟨v0, v1, O, r0, h1, h2, h3, h4, rfl, h5, h6, h7⟩ := h
    obtain rfl := some_i (h7.symm.trans hr)
    exact Or.inl (mk_old (E := O) (p := po F G i 32) hx (by rw [wl_app]; exact Nat.le_add_left _ _))
  | n1 + 33, _, h => h.elim
end
-- d4.cc.lean.txt
section
theorem ent_0 {s : List tE} {n : Nat} {x : tE} (h : ent s n = some x) : wl s ≠ 0 := by have := ent_lt h; omega
section
variable {F X : tF} {G : Nat → Nat → Nat} {rs a b : Nat} {k : Nat → Option (List tE)} {C : lnC} {Q : lnQ} {h : Nat → lnT}
/-- along the code without a jump: a marked reference's temp is what its loan holds -/
theorem crn_M (w : lnW F X G rs a b k C Q h) (hu : ∀ i j : Nat, a ≤ i → i < b → a ≤ j → j < b → F 0 i = 4 → F 0 j = 4 → F 2 i = F 2 j → i = j) {p : Nat} : ∀ d i : Nat, i = p + d → i < b → crn F k h a p i → ∀ (s : List tE) (n : Nat) (x : tE), k i = some s → ent s n = some x → mkd x → ∃ j l : Nat, a ≤ j ∧ j < i ∧ F 0 j = 4 ∧ F 2 j = nI l ∧ l < 54 ∧ x.2.2 = l + 1 ∧ (∃ s0 : List tE, k j = some s0) ∧ lnF (h i) n = lnB (h (j + 1)) l
  | 0, i, e, hb, hc, s, n, x, hs, hx, hm => by
    obtain rfl : i = p := by omega
    obtain ⟨-, -, -, ⟨s0, g1, g2⟩, -⟩ := hc
    rw [hs] at g1
    rw [← some_i g1] at g2
    exact absurd g2 (ent_0 hx)
  | d + 1, i, e, hb, hc, s, n, x, hs, hx, hm => by
    obtain ⟨m, rfl⟩ : ∃ m : Nat, i = m + 1 := ⟨p + d, by omega⟩
    have hcm : crn F k h a p m := ⟨hc.1, by omega, hc.2.2.1, hc.2.2.2.1, fun m2 x1 x2 => hc.2.2.2.2 m2 x1 (by omega)⟩
    have ham : a ≤ m := by have := hc.1; omega
    obtain ⟨q1, s0, q2, q3⟩ := crn_T w d m (by omega) (by omega) hcm
    by_cases c : isL (F 0 m)
    · have e1 := ce_l w.ce ham (by omega) c q2
      rw [hs] at e1
      obtain rfl := some_i e1
      obtain ⟨j, l, g1, g2, g3, g4, g5, g6, g7, g8⟩ := crn_M w hu d m (by omega) (by omega) hcm s n x q2 hx hm
      refine ⟨j, l, g1, by omega, g3, g4, g5, g6, g7, ?_⟩
      rw [← g8]
      obtain ⟨o, ho, h33, hr⟩ := w.tr m ham (by omega)
      rcases hr with ⟨-, L, -, -, -, -, l5, -⟩ | ⟨n13, n14, -⟩
      · unfold lnF; rw [l5]
      · rw [ho] at c
        rcases isL_nI h33 c with z | z
        · exact absurd z n13
        · exact absurd z n14
    · have hal : (h m).2.2.2.1 ≠ 0 := (cA_n (h := fun j => lnp (h j)) c).mp q1
      obtain ⟨o, h33, ho, hk, p1, p2, p3, p4⟩ := lnW_1 w ham (by omega) c hal q2
      obtain ⟨o2, o3, o4, o5⟩ := (hc.2.2.2.2 m (by omega) (by omega)).resolve_left c
      obtain rfl : o = o2 := nI_33 h33 o3 (ho.symm.trans o4)
      have hop := ce_op w.ce ham (by omega) q2 ho h33
      rcases mk_step hs hx hm o o5 hop with ⟨z1, z2⟩ | ⟨rfl, z2, l, z3, z4, z5⟩
      · obtain ⟨j, l, g1, g2, g3, g4, g5, g6, g7, g8⟩ := crn_M w hu d m (by omega) (by omega) hcm s0 n x q2 z1 hm
        refine ⟨j, l, g1, by omega, g3, g4, g5, g6, g7, ?_⟩
        rw [← g8]
        rcases p4 with ⟨-, -, y3⟩ | ⟨-, x9, y2⟩
        · rw [y3]
        · rcases y2 with ⟨-, -, y4⟩ | ⟨-, -, y4⟩
          · rw [y4]; exact pk_uLn (by omega)
          · rw [y4]
      · obtain ⟨x9, b1, b2, -, -⟩ := lnW_Bx w ham (by omega) ho z3 z4 q1
        refine ⟨m, l, ham, by omega, ho, z3, z4, z5, ⟨s0, q2⟩, ?_⟩
        have hv : wl s0 ≤ 211 := Nat.le_trans wl_vl_le (w.v211 m s0 ham (by omega) q2)
        rcases b2 with ⟨-, -, y4⟩ | ⟨y1, -, -⟩
        · rw [y4, b1, z2, q3]; exact pk_uLs
        · omega
end
end
-- d5.t1.lean.txt
section
/-- the table of types out of the class's rows: yp shapes, yt types; references to T are 10000 + 2 * T, 10001 + 2 * T -/
def yF (F X : tF) (yp yt : Nat) : qY :=
  (fun t => if 10000 ≤ t ∧ t < 30000 then 5 + t % 2 else if 4 ≤ t ∧ t < 4 + yp then (if F 20 t = 3 then 3 else if cN (X 1 ((t - 4) * 12)) = 0 then 0 else 2) else if 34 ≤ t ∧ t < yt ∧ F 20 t = 4 then 4 else 0,
   fun t => if 10000 ≤ t then (t - 10000) / 2 else cN (F 21 t),
   fun t => cN (X 0 (t - 4)),
   fun t g => cN (X 1 ((t - 4) * 12 + g)),
   fun t g j => cN (X 2 (((t - 4) * 12 + g) * 12 + j)))
def zF (F X : tF) (yt : Nat) : qZ := (fun t => if t < yt then max 1 (min 16 (cN (F 22 t))) else 1, fun t g j => cN (X 3 (((t - 4) * 12 + g) * 12 + j)))
theorem lyP_1 {hd r : Nat} {fs fpt : Nat → Int32} (h : hd ≤ 17) : ∀ k : Nat, lyP hd r fs fpt k ≤ 17 ∧ lyP hd r fs fpt k ≤ lyP hd r fs fpt (k + 1)
  | 0 => by
    show hd ≤ 17 ∧ hd ≤ min (hd + szP fs fpt (r * 12 + 0)) 17
    omega
  | k + 1 => by
    have q := lyP_1 (r := r) (fs := fs) (fpt := fpt) h k
    refine ⟨by show min _ 17 ≤ 17; omega, ?_⟩
    show lyP hd r fs fpt (k + 1) ≤ min (lyP hd r fs fpt (k + 1) + szP fs fpt (r * 12 + (k + 1))) 17
    have : lyP hd r fs fpt (k + 1) ≤ 17 := by show min _ 17 ≤ 17; omega
    omega
theorem lyP_m {hd r : Nat} {fs fpt : Nat → Int32} (h : hd ≤ 17) {k : Nat} : ∀ d : Nat, lyP hd r fs fpt k ≤ lyP hd r fs fpt (k + d)
  | 0 => Nat.le_refl _
  | d + 1 => Nat.le_trans (lyP_m h d) (lyP_1 h (k + d)).2
theorem lyP_S {hd r k : Nat} {fs fpt : Nat → Int32} (h : lyP hd r fs fpt (k + 1) ≤ 16) : lyP hd r fs fpt (k + 1) = lyP hd r fs fpt k + szP fs fpt (r * 12 + k) := by
  have e : lyP hd r fs fpt (k + 1) = min (lyP hd r fs fpt k + szP fs fpt (r * 12 + k)) 17 := rfl
  omega
/-- a row of parts lies as it should -/
theorem yz_row {F X : tF} {yp yt sh g : Nat} (hty : tyOK yp (yt, F 20, F 21, F 22, F 23, F 24, F 25, F 26)) (hsq : shQ yp yt (F 20) X) (hsz : szI yp yp (F 22)) (hms : msI yp (F 20) (X 0) (X 1) (F 22) (X 2) (X 3)) (hsh : sh < yp) (hg : g < cN (X 0 sh)) : (∀ j : Nat, j < cN (X 1 (sh * 12 + g)) → cN (X 2 ((sh * 12 + g) * 12 + j)) < yt ∧ (if F 20 (4 + sh) = 3 then 1 else 0) ≤ cN (X 3 ((sh * 12 + g) * 12 + j)) ∧ cN (X 3 ((sh * 12 + g) * 12 + j)) + (zF F X yt).1 (cN (X 2 ((sh * 12 + g) * 12 + j))) ≤ (zF F X yt).1 (4 + sh)) ∧ ∀ i j : Nat, i < j → j < cN (X 1 (sh * 12 + g)) → cN (X 3 ((sh * 12 + g) * 12 + i)) + (zF F X yt).1 (cN (X 2 ((sh * 12 + g) * 12 + i))) ≤ cN (X 3 ((sh * 12 + g) * 12 + j)) := by
  obtain ⟨z, z1, z2, z3⟩ := hsz sh hsh
  have h34 : 34 ≤ yt := hty.1
  have hyp : yp ≤ 30 := hty.2.2.1
  have hzz : (zF F X yt).1 (4 + sh) = z := by
    show (if 4 + sh < yt then max 1 (min 16 (cN (F 22 (4 + sh)))) else 1) = z
    rw [if_pos (by omega), z1, cN_nI (by omega)]; omega
  rw [hzz]
  obtain ⟨mo, m1, m2, m3⟩ := (hms sh hsh).resolve_left (fun e => by
    rw [z1] at e
    have : z = 0 := (nI_eq (a := z) (b := 0) (by omega) (by decide)).mp e
    omega)
  obtain rfl : mo = z := (nI_eq (a := mo) (b := z) (by omega) (by omega)).mp (m2.symm.trans z1)
  obtain ⟨n, n1, n2, n3, n4, n5⟩ := hsq sh hsh
  have hcn : cN (X 0 sh) = n := by rw [n1, cN_nI (by omega)]
  rw [hcn] at hg
  obtain ⟨pm, p1, p2, p3⟩ := n5 g hg
  have hpm : cN (X 1 (sh * 12 + g)) = pm := by rw [p1, cN_nI (by omega)]
  rw [hpm]
  have hhd : (if F 20 (4 + sh) = 3 then 1 else 0) ≤ 17 := by split <;> omega
  obtain ⟨q1, q2⟩ := m3 g (show g < pcR (X 0) sh from by show g < cN (X 0 sh); rw [hcn]; exact hg)
  rw [show pcR (X 1) (sh * 12 + g) = pm from hpm] at q1 q2
  have key : ∀ j : Nat, j < pm → cN (X 2 ((sh * 12 + g) * 12 + j)) < yt ∧ cN (X 3 ((sh * 12 + g) * 12 + j)) = lyP (if F 20 (4 + sh) = 3 then 1 else 0) (sh * 12 + g) (F 22) (X 2) j ∧ lyP (if F 20 (4 + sh) = 3 then 1 else 0) (sh * 12 + g) (F 22) (X 2) j + (zF F X yt).1 (cN (X 2 ((sh * 12 + g) * 12 + j))) = lyP (if F 20 (4 + sh) = 3 then 1 else 0) (sh * 12 + g) (F 22) (X 2) (j + 1) := fun j hj => by
    obtain ⟨u, u1, u2, u3⟩ := p3 j hj
    obtain ⟨w1, w2⟩ := q2 j hj
    have hu : cN (X 2 ((sh * 12 + g) * 12 + j)) = u := by rw [u1, cN_nI (by have := hty.2.1; omega)]
    have hle : lyP (if F 20 (4 + sh) = 3 then 1 else 0) (sh * 12 + g) (F 22) (X 2) (j + 1) ≤ 16 := by
      have := lyP_m (r := sh * 12 + g) (fs := F 22) (fpt := X 2) hhd (k := j + 1) (pm - (j + 1))
      rw [show j + 1 + (pm - (j + 1)) = pm by omega] at this
      omega
    have hl0 : lyP (if F 20 (4 + sh) = 3 then 1 else 0) (sh * 12 + g) (F 22) (X 2) j ≤ 17 := (lyP_1 hhd j).1
    refine ⟨by omega, by rw [w1, cN_nI (by omega)], ?_⟩
    have hs16 := lyP_S hle
    rw [lyP_S hle]
    have e1 : szP (F 22) (X 2) ((sh * 12 + g) * 12 + j) = cN (F 22 (cN (X 2 ((sh * 12 + g) * 12 + j)))) := rfl
    have e2 : (zF F X yt).1 (cN (X 2 ((sh * 12 + g) * 12 + j))) = szP (F 22) (X 2) ((sh * 12 + g) * 12 + j) := by
      rw [e1]
      rw [e1] at w2 hs16
      show (if cN (X 2 ((sh * 12 + g) * 12 + j)) < yt then max 1 (min 16 (cN (F 22 (cN (X 2 ((sh * 12 + g) * 12 + j)))))) else 1) = _
      rw [if_pos (by omega)]; omega
    rw [e2]
  refine ⟨fun j hj => ?_, fun i j hij hj => ?_⟩
  · obtain ⟨k1, k2, k3⟩ := key j hj
    refine ⟨k1, ?_, ?_⟩
    · rw [k2]
      have := lyP_m (r := sh * 12 + g) (fs := F 22) (fpt := X 2) hhd (k := 0) j
      rw [Nat.zero_add] at this
      exact this
    · rw [k2, k3]
      have := lyP_m (r := sh * 12 + g) (fs := F 22) (fpt := X 2) hhd (k := j + 1) (pm - (j + 1))
      rw [show j + 1 + (pm - (j + 1)) = pm by omega] at this
      omega
  · obtain ⟨k1, k2, k3⟩ := key i (by omega)
    obtain ⟨l1, l2, l3⟩ := key j hj
    rw [k2, k3, l2]
    have := lyP_m (r := sh * 12 + g) (fs := F 22) (fpt := X 2) hhd (k := i + 1) (j - (i + 1))
    rw [show i + 1 + (j - (i + 1)) = j by omega] at this
    exact this
theorem yF_2 {F X : tF} {yp yt t : Nat} (h : (yF F X yp yt).1 t = 2) : 4 ≤ t ∧ t < 4 + yp ∧ F 20 t ≠ 3 ∧ cN (X 1 ((t - 4) * 12)) ≠ 0 := by
  have h : (if 10000 ≤ t ∧ t < 30000 then 5 + t % 2 else if 4 ≤ t ∧ t < 4 + yp then (if F 20 t = 3 then 3 else if cN (X 1 ((t - 4) * 12)) = 0 then 0 else 2) else if 34 ≤ t ∧ t < yt ∧ F 20 t = 4 then 4 else 0) = 2 := h
  by_cases c : 10000 ≤ t ∧ t < 30000
  · rw [if_pos c] at h; omega
  · rw [if_neg c] at h
    by_cases c2 : 4 ≤ t ∧ t < 4 + yp
    · rw [if_pos c2] at h
      by_cases c3 : F 20 t = 3
      · rw [if_pos c3] at h; omega
      · rw [if_neg c3] at h
        by_cases c4 : cN (X 1 ((t - 4) * 12)) = 0
        · rw [if_pos c4] at h; omega
        · exact ⟨c2.1, c2.2, c3, c4⟩
    · rw [if_neg c2] at h
      split at h <;> omega
theorem yF_3 {F X : tF} {yp yt t : Nat} (h : (yF F X yp yt).1 t = 3) : 4 ≤ t ∧ t < 4 + yp ∧ F 20 t = 3 := by
  have h : (if 10000 ≤ t ∧ t < 30000 then 5 + t % 2 else if 4 ≤ t ∧ t < 4 + yp then (if F 20 t = 3 then 3 else if cN (X 1 ((t - 4) * 12)) = 0 then 0 else 2) else if 34 ≤ t ∧ t < yt ∧ F 20 t = 4 then 4 else 0) = 3 := h
  by_cases c : 10000 ≤ t ∧ t < 30000
  · rw [if_pos c] at h; omega
  · rw [if_neg c] at h
    by_cases c2 : 4 ≤ t ∧ t < 4 + yp
    · rw [if_pos c2] at h
      by_cases c3 : F 20 t = 3
      · exact ⟨c2.1, c2.2, c3⟩
      · rw [if_neg c3] at h
        split at h <;> omega
    · rw [if_neg c2] at h
      split at h <;> omega
theorem yF_56 {F X : tF} {yp yt t : Nat} : ((yF F X yp yt).1 t = 5 ∨ (yF F X yp yt).1 t = 6) ↔ 10000 ≤ t ∧ t < 30000 := by
  show ((if 10000 ≤ t ∧ t < 30000 then 5 + t % 2 else if 4 ≤ t ∧ t < 4 + yp then (if F 20 t = 3 then 3 else if cN (X 1 ((t - 4) * 12)) = 0 then 0 else 2) else if 34 ≤ t ∧ t < yt ∧ F 20 t = 4 then 4 else 0) = 5 ∨ (if 10000 ≤ t ∧ t < 30000 then 5 + t % 2 else if 4 ≤ t ∧ t < 4 + yp then (if F 20 t = 3 then 3 else if cN (X 1 ((t - 4) * 12)) = 0 then 0 else 2) else if 34 ≤ t ∧ t < yt ∧ F 20 t = 4 then 4 else 0) = 6) ↔ _
  by_cases c : 10000 ≤ t ∧ t < 30000
  · rw [if_pos c]; omega
  · rw [if_neg c]
    refine ⟨fun h => absurd h ?_, fun h => absurd h c⟩
    split
    · split
      · omega
      · split <;> omega
    · split <;> omega
/-- the tables keep what is asked of them -/
theorem yz_ok {F X : tF} {yp yt : Nat} (hty : tyOK yp (yt, F 20, F 21, F 22, F 23, F 24, F 25, F 26)) (hsq : shQ yp yt (F 20) X) (hsz : szI yp yp (F 22)) (hms : msI yp (F 20) (X 0) (X 1) (F 22) (X 2) (X 3)) : qLy (yF F X yp yt) (zF F X yt) ∧ qZ1 (zF F X yt) ∧ qCr (yF F X yp yt) ∧ qRf (yF F X yp yt) := by
  have h34 : 34 ≤ yt := hty.1
  have h30 : yt ≤ 3040 := hty.2.1
  have hrow := fun (sh g : Nat) => yz_row (sh := sh) (g := g) hty hsq hsz hms
  refine ⟨⟨fun t => ?_, fun t j h2 hj => ?_, fun t i j h2 hij hj => ?_, fun t g j h3 hg hj => ?_, fun t g i j h3 hg hij hj => ?_⟩, ⟨?_, fun T => ⟨?_, ?_⟩⟩, fun T hT => ⟨?_, ?_, ?_, ?_⟩, fun t h => ?_⟩
  · show 1 ≤ if t < yt then max 1 (min 16 (cN (F 22 t))) else 1
    split <;> omega
  · obtain ⟨a1, a2, a3, a4⟩ := yF_2 h2
    obtain ⟨n, n1, n2, n3, n4, n5⟩ := hsq (t - 4) (by omega)
    have q := ((hrow (t - 4) 0 (by omega) (by rw [n1, cN_nI (by omega)]; omega)).1 j hj).2.2
    rw [show 4 + (t - 4) = t by omega] at q
    exact q
  · obtain ⟨a1, a2, a3, a4⟩ := yF_2 h2
    obtain ⟨n, n1, n2, n3, n4, n5⟩ := hsq (t - 4) (by omega)
    exact (hrow (t - 4) 0 (by omega) (by rw [n1, cN_nI (by omega)]; omega)).2 i j hij hj
  · obtain ⟨a1, a2, a3⟩ := yF_3 h3
    have q := ((hrow (t - 4) g (by omega) hg).1 j hj).2
    rw [show 4 + (t - 4) = t by omega, if_pos a3] at q
    exact q
  · obtain ⟨a1, a2, a3⟩ := yF_3 h3
    exact (hrow (t - 4) g (by omega) hg).2 i j hij hj
  · show (if 1 < yt then max 1 (min 16 (cN (F 22 1))) else 1) = 1
    rw [if_pos (by omega), hty.2.2.2.2.1.2.1]; rfl
  · show (if 10000 + 2 * T < yt then max 1 (min 16 (cN (F 22 (10000 + 2 * T)))) else 1) = 1
    rw [if_neg (by omega)]
  · show (if 10001 + 2 * T < yt then max 1 (min 16 (cN (F 22 (10001 + 2 * T)))) else 1) = 1
    rw [if_neg (by omega)]
  · show (if 10000 ≤ 10000 + 2 * T ∧ 10000 + 2 * T < 30000 then 5 + (10000 + 2 * T) % 2 else _) = 5
    rw [if_pos (by omega)]; omega
  · show (if 10000 ≤ 10000 + 2 * T then (10000 + 2 * T - 10000) / 2 else _) = T
    rw [if_pos (by omega)]; omega
  · show (if 10000 ≤ 10001 + 2 * T ∧ 10001 + 2 * T < 30000 then 5 + (10001 + 2 * T) % 2 else _) = 6
    rw [if_pos (by omega)]; omega
  · show (if 10000 ≤ 10001 + 2 * T then (10001 + 2 * T - 10000) / 2 else _) = T
    rw [if_pos (by omega)]; omega
  · have h1 := yF_56.mp h
    have h2 : (yF F X yp yt).2.1 t = (t - 10000) / 2 := if_pos h1.1
    rw [h2]
    have h3 : ¬ ((yF F X yp yt).1 ((t - 10000) / 2) = 5 ∨ (yF F X yp yt).1 ((t - 10000) / 2) = 6) := fun q => by
      have := yF_56.mp q
      omega
    exact ⟨fun q => h3 (Or.inl q), fun q => h3 (Or.inr q)⟩
end
-- d5.t2.lean.txt
section
theorem nI_bv (a : Nat) : (nI a).toBitVec = BitVec.ofNat 32 a := rfl
theorem nI_ofb {x : Int32} {a : Nat} (h : x.toBitVec = BitVec.ofNat 32 a) : x = nI a := Int32.toBitVec_inj.mp (h.trans (nI_bv a).symm)
theorem sh5 (k : Nat) (h : k < 32) : ((nI k &&& 31 : Int32).toBitVec.smod 32).toNat = k := by
  have : ∀ v : Fin 32, ((nI v.1 &&& 31 : Int32).toBitVec.smod 32).toNat = v.1 := by decide
  exact this ⟨k, h⟩
theorem nI_shl {a k : Nat} (h : k < 32) : nI a <<< (nI k &&& 31) = nI (a * 2 ^ k) := by
  refine nI_ofb ?_
  rw [Int32.toBitVec_shiftLeft, BitVec.shiftLeft_eq', sh5 k h, nI_bv]
  apply BitVec.eq_of_toNat_eq
  rw [BitVec.toNat_shiftLeft, BitVec.toNat_ofNat, BitVec.toNat_ofNat, Nat.shiftLeft_eq]
  rw [Nat.mod_mul_mod]
theorem nI_and15 (a : Nat) : nI a &&& 15 = nI (a % 16) := by
  refine nI_ofb ?_
  rw [Int32.toBitVec_and, nI_bv]
  apply BitVec.eq_of_toNat_eq
  rw [BitVec.toNat_and, BitVec.toNat_ofNat, BitVec.toNat_ofNat]
  show (a % 2 ^ 32) &&& 15 = a % 16 % 2 ^ 32
  rw [show (15 : Nat) = 2 ^ 4 - 1 by decide, Nat.and_two_pow_sub_one_eq_mod]
  omega
theorem nI_or {a c k : Nat} (h : a < 2 ^ k) : nI a ||| nI (c * 2 ^ k) = nI (a + c * 2 ^ k) := by
  refine nI_ofb ?_
  rw [Int32.toBitVec_or, nI_bv, nI_bv, ← BitVec.ofNat_or]
  congr 1
  have := Nat.shiftLeft_add_eq_or_of_lt h c
  rw [Nat.shiftLeft_eq] at this
  rw [Nat.or_comm, ← this, Nat.add_comm]
theorem nI_shr {a k : Nat} (ha : a < 2 ^ 31) (h : k < 32) : nI a >>> (nI k &&& 31) = nI (a / 2 ^ k) := by
  refine nI_ofb ?_
  rw [Int32.toBitVec_shiftRight, nI_bv]
  apply BitVec.eq_of_toNat_eq
  rw [BitVec.sshiftRight_eq', sh5 k h]
  rw [BitVec.sshiftRight_eq_of_msb_false (by rw [BitVec.msb_eq_decide]; simp; omega)]
  rw [BitVec.toNat_ushiftRight, BitVec.toNat_ofNat, BitVec.toNat_ofNat, Nat.shiftRight_eq_div_pow, Nat.mod_eq_of_lt (by omega : a < 2 ^ 32)]
  have : a / 2 ^ k ≤ a := Nat.div_le_self _ _
  rw [Nat.mod_eq_of_lt (by omega)]
end
-- d5.t3.lean.txt
section
/-- a place's way, a digit a step: 13 a star, j + 1 member j -/
def dgP : List Nat → Nat
  | [] => 0
  | d :: ds => d + 16 * dgP ds
def stO (d : Nat) : Nat × Nat := if d = 13 then (1, 0) else (0, d - 1)
theorem dgP_app {c : Nat} : ∀ ds : List Nat, dgP (ds ++ [c]) = dgP ds + c * 16 ^ ds.length
  | [] => by show c + 16 * 0 = 0 + c * 16 ^ 0; omega
  | d :: ds => by
    show d + 16 * dgP (ds ++ [c]) = d + 16 * dgP ds + c * 16 ^ (ds.length + 1)
    rw [dgP_app ds, Nat.pow_succ, Nat.mul_add, ← Nat.mul_assoc c, Nat.mul_comm (c * 16 ^ ds.length) 16]; omega
theorem dgP_lt : ∀ {ds : List Nat}, (∀ d : Nat, d ∈ ds → d < 16) → dgP ds < 16 ^ ds.length
  | [], _ => by show 0 < 16 ^ 0; decide
  | d :: ds, h => by
    have h1 := h d List.mem_cons_self
    have h2 := dgP_lt (ds := ds) (fun x hx => h x (List.mem_cons_of_mem _ hx))
    show d + 16 * dgP ds < 16 ^ (ds.length + 1)
    rw [Nat.pow_succ]; omega
/-- the address by a route: os the offsets ahead of each star, o behind the last -/
def rA (c : Nat → Int) : Nat → List Nat → Nat → Nat
  | a, [], o => a + o
  | a, x :: os, o => rA c (c (a + x)).toNat os o
theorem rA_app {c : Nat → Int} {o o2 : Nat} : ∀ {os : List Nat} {a : Nat}, rA c a (os ++ [o]) o2 = (c (rA c a os o)).toNat + o2
  | [], a => rfl
  | x :: os, a => by
    show rA c (c (a + x)).toNat (os ++ [o]) o2 = _
    rw [rA_app]; rfl
theorem rA_o {c : Nat → Int} {o o2 : Nat} : ∀ {os : List Nat} {a : Nat}, rA c a os (o + o2) = rA c a os o + o2
  | [], a => by show a + (o + o2) = a + o + o2; omega
  | x :: os, a => by
    show rA c (c (a + x)).toNat os (o + o2) = rA c (c (a + x)).toNat os o + o2
    exact rA_o (os := os)
/-- a way of the table from type T0 to T, its route -/
def pD (F X : tF) (yp yt T0 : Nat) (π : lLc) (T : Nat) (os : List Nat) (o : Nat) : Prop := qW (yF F X yp yt) T0 π T ∧ (∀ (c : Nat → Int) (a : Nat), qA (yF F X yp yt) (zF F X yt) c T0 a π = rA c a os o) ∧ (∀ x : Nat, x ∈ os → x ≤ 15) ∧ o + (zF F X yt).1 T ≤ 16 ∧ tyN yp (F 20) T ∧ T < yt
/-- what is known of the types -/
def tbO (F X : tF) (yp yt : Nat) : Prop := tyOK yp (yt, F 20, F 21, F 22, F 23, F 24, F 25, F 26) ∧ shQ yp yt (F 20) X ∧ szI yp yp (F 22) ∧ msI yp (F 20) (X 0) (X 1) (F 22) (X 2) (X 3)
theorem zF_16 {F X : tF} {yp yt T : Nat} (h : tbO F X yp yt) (hT : tyN yp (F 20) T) (hy : T < yt) : (zF F X yt).1 T ≤ 16 ∧ 1 ≤ (zF F X yt).1 T := by
  obtain ⟨hty, hsq, hsz, hms⟩ := h
  have e : (zF F X yt).1 T = max 1 (min 16 (cN (F 22 T))) := if_pos hy
  rw [e]
  refine ⟨?_, by omega⟩
  obtain ⟨z0, z1, z2, z3⟩ := hty.2.2.2.2.1
  rcases hT with hT | hT | hT
  · rcases hT with rfl | rfl | rfl
    · have z1 : F 22 1 = 1 := z1
      rw [z1]; decide
    · have z2 : F 22 2 = 1 := z2
      rw [z2]; decide
    · have z3 : F 22 3 = 1 := z3
      rw [z3]; decide
  · obtain ⟨z, q1, q2, q3⟩ := hsz (T - 4) (by omega)
    rw [show 4 + (T - 4) = T by omega] at q1
    rw [q1, cN_nI (by omega)]; omega
  · have q : F 22 T = 1 := (hty.2.2.2.2.2.2.2.1 T hT.1 hy).2.1
    rw [q]; decide
theorem yF_4 {F X : tF} {yp yt T : Nat} (h34 : 34 ≤ T) (hyp : yp ≤ 30) (hT : T < yt) (hy : yt ≤ 3040) (hk : F 20 T = 4) : (yF F X yp yt).1 T = 4 := by
  show (if 10000 ≤ T ∧ T < 30000 then 5 + T % 2 else if 4 ≤ T ∧ T < 4 + yp then (if F 20 T = 3 then 3 else if cN (X 1 ((T - 4) * 12)) = 0 then 0 else 2) else if 34 ≤ T ∧ T < yt ∧ F 20 T = 4 then 4 else 0) = 4
  rw [if_neg (by omega), if_neg (by omega), if_pos ⟨h34, hT, hk⟩]
theorem yF_s {F X : tF} {yp yt T : Nat} (h4 : 4 ≤ T) (hT : T < 4 + yp) (hyp : yp ≤ 30) (hk : F 20 T = 2) (hn : cN (X 1 ((T - 4) * 12)) ≠ 0) : (yF F X yp yt).1 T = 2 := by
  show (if 10000 ≤ T ∧ T < 30000 then 5 + T % 2 else if 4 ≤ T ∧ T < 4 + yp then (if F 20 T = 3 then 3 else if cN (X 1 ((T - 4) * 12)) = 0 then 0 else 2) else if 34 ≤ T ∧ T < yt ∧ F 20 T = 4 then 4 else 0) = 2
  rw [if_neg (by omega), if_pos ⟨h4, hT⟩, if_neg (by rw [hk]; decide), if_neg hn]
theorem tyN_4 {F X : tF} {yp yt T : Nat} (h : tbO F X yp yt) (hT : tyN yp (F 20) T) (hk : F 20 T = 4) : 34 ≤ T := by
  obtain ⟨k0, k1, k2, k3⟩ := h.1.2.2.2.1
  rcases hT with hT | hT | hT
  · rcases hT with rfl | rfl | rfl
    · have k1 : F 20 1 = 0 := k1
      rw [k1] at hk; exact absurd hk (by decide)
    · have k2 : F 20 2 = 0 := k2
      rw [k2] at hk; exact absurd hk (by decide)
    · have k3 : F 20 3 = 1 := k3
      rw [k3] at hk; exact absurd hk (by decide)
  · have := h.1.2.2.2.2.2.2.1 (T - 4) (by omega)
    rw [show 4 + (T - 4) = T by omega] at this
    rcases this with q | q <;> rw [hk] at q <;> exact absurd q (by decide)
  · exact hT.1
theorem tyN_2 {F X : tF} {yp yt T : Nat} (h : tbO F X yp yt) (hT : tyN yp (F 20) T) (hk : F 20 T = 2) : 4 ≤ T ∧ T < 4 + yp := by
  obtain ⟨k0, k1, k2, k3⟩ := h.1.2.2.2.1
  rcases hT with hT | hT | hT
  · rcases hT with rfl | rfl | rfl
    · have k1 : F 20 1 = 0 := k1
      rw [k1] at hk; exact absurd hk (by decide)
    · have k2 : F 20 2 = 0 := k2
      rw [k2] at hk; exact absurd hk (by decide)
    · have k3 : F 20 3 = 1 := k3
      rw [k3] at hk; exact absurd hk (by decide)
  · exact hT
  · rw [hT.2] at hk; exact absurd hk (by decide)
theorem tyN_nr {F X : tF} {yp yt T : Nat} (h : tbO F X yp yt) (hT : tyN yp (F 20) T) : F 20 T ≠ 5 ∧ F 20 T ≠ 6 := by
  obtain ⟨k0, k1, k2, k3⟩ := h.1.2.2.2.1
  rcases hT with hT | hT | hT
  · rcases hT with rfl | rfl | rfl
    · have k1 : F 20 1 = 0 := k1
      rw [k1]; decide
    · have k2 : F 20 2 = 0 := k2
      rw [k2]; decide
    · have k3 : F 20 3 = 1 := k3
      rw [k3]; decide
  · have := h.1.2.2.2.2.2.2.1 (T - 4) (by omega)
    rw [show 4 + (T - 4) = T by omega] at this
    rcases this with q | q <;> rw [q] <;> decide
  · rw [hT.2]; decide
theorem pD_0 {F X : tF} {yp yt T : Nat} (h : tbO F X yp yt) (hT : tyN yp (F 20) T) (hy : T < yt) : pD F X yp yt T [] T [] 0 :=
  ⟨rfl, fun c a => rfl, fun x hx => by simp at hx, by have := (zF_16 h hT hy).1; omega, hT, hy⟩
/-- one star more -/
theorem pD_s {F X : tF} {yp yt T0 T U o : Nat} {π : lLc} {os : List Nat} (h : tbO F X yp yt) (hp : pD F X yp yt T0 π T os o) (hk : F 20 T = 4) (hU : F 21 T = nI U) (hU2 : U < 2 ^ 31) : pD F X yp yt T0 (π ++ [(1, 0)]) U (os ++ [o]) 0 := by
  obtain ⟨p1, p2, p3, p4, p5, p6⟩ := hp
  have h34 := tyN_4 h p5 hk
  have hyp : yp ≤ 30 := h.1.2.2.1
  have hyt : yt ≤ 3040 := h.1.2.1
  obtain ⟨q1, q2, q3, u, u1, u2, u3⟩ := h.1.2.2.2.2.2.2.2.1 T h34 p6
  obtain rfl : U = u := (nI_eq (a := U) (b := u) (by omega) (by omega)).mp (hU.symm.trans u2)
  have e4 := yF_4 (X := X) h34 hyp p6 hyt hk
  have eo : (yF F X yp yt).2.1 T = U := by
    show (if 10000 ≤ T then (T - 10000) / 2 else cN (F 21 T)) = U
    rw [if_neg (by omega), hU, cN_nI hU2]
  have hw : qW (yF F X yp yt) T [(1, 0)] U := ⟨rfl, e4, eo.symm⟩
  refine ⟨qW_app p1 hw, fun c a => ?_, fun x hx => ?_, by have := (zF_16 h u3 (by omega)).1; omega, u3, by omega⟩
  · rw [qA_app p1, p2 c a, rA_app]
    show (c (rA c a os o)).toNat = _
    omega
  · rcases List.mem_append.mp hx with z | z
    · exact p3 x z
    · rw [List.mem_singleton.mp z]
      have := (zF_16 h p5 p6).2
      omega
/-- one member more -/
theorem pD_m {F X : tF} {yp yt T0 T U o j : Nat} {π : lLc} {os : List Nat} (h : tbO F X yp yt) (hp : pD F X yp yt T0 π T os o) (hk : F 20 T = 2) (hj : j < 12) (hjn : nI j < X 1 ((T - 4) * 12)) (hU : X 2 ((T - 4) * 12 * 12 + j) = nI U) (hU2 : U < 2 ^ 31) : pD F X yp yt T0 (π ++ [(0, j)]) U os (o + cN (X 3 ((T - 4) * 12 * 12 + j))) := by
  obtain ⟨p1, p2, p3, p4, p5, p6⟩ := hp
  obtain ⟨h4, h4y⟩ := tyN_2 h p5 hk
  have hyp : yp ≤ 30 := h.1.2.2.1
  obtain ⟨n, n1, n2, n3, n4, n5⟩ := h.2.1 (T - 4) (by omega)
  obtain ⟨m, m1, m2, m3⟩ := n5 0 (by omega)
  rw [Nat.add_zero] at m1 m3
  have hcm : cN (X 1 ((T - 4) * 12)) = m := by rw [m1, cN_nI (by omega)]
  have hjm : j < m := by
    rw [m1] at hjn
    exact (nI_ltI (by omega) (by omega)).mp hjn
  obtain ⟨u, u1, u2, u3⟩ := m3 j hjm
  have hyt : yt ≤ 3040 := h.1.2.1
  obtain rfl : U = u := (nI_eq (a := U) (b := u) (by omega) (by omega)).mp (hU.symm.trans u1)
  have e2 := yF_s (yt := yt) (X := X) h4 h4y hyp hk (by omega)
  have ep : (yF F X yp yt).2.2.2.2 T 0 j = U := by
    show cN (X 2 (((T - 4) * 12 + 0) * 12 + j)) = U
    rw [Nat.add_zero, hU, cN_nI hU2]
  have hw : qW (yF F X yp yt) T [(0, j)] U := ⟨e2, by show j < cN (X 1 ((T - 4) * 12 + 0)); rw [Nat.add_zero, hcm]; exact hjm, ep.symm⟩
  have hr := (yz_row (sh := T - 4) (g := 0) h.1 h.2.1 h.2.2.1 h.2.2.2 (by omega) (by rw [n1, cN_nI (by omega)]; omega)).1 j (by rw [Nat.add_zero, hcm]; exact hjm)
  rw [Nat.add_zero, show 4 + (T - 4) = T by omega, hU, cN_nI hU2] at hr
  refine ⟨qW_app p1 hw, fun c a => ?_, p3, by omega, u2, u3⟩
  rw [qA_app p1, p2 c a, rA_o]
  show rA c a os o + cN (X 3 (((T - 4) * 12 + 0) * 12 + j)) = _
  rw [Nat.add_zero]
end
-- d5.t4.lean.txt
section
/-- the way of place (pa, ro): its digits ds; os, o its route -/
def pW (ds os : List Nat) (o n : Nat) (pa ro : Int32) : Prop := ds.length = n ∧ (∀ d : Nat, d ∈ ds → 1 ≤ d ∧ d ≤ 13) ∧ pa = nI (dgP ds) ∧ ro = nI (os.length + 16 * dgP (os ++ [o])) ∧ os.length ≤ n ∧ (∀ x : Nat, x ∈ os → x ≤ 15) ∧ o ≤ 15
theorem pow16 (n : Nat) : (16 : Nat) ^ n = 2 ^ (n * 4) := by
  rw [show (16 : Nat) = 2 ^ 4 by decide, ← Nat.pow_mul, Nat.mul_comm]
theorem dg_or {ds : List Nat} {n c : Nat} (hn : ds.length = n) (hd : ∀ d : Nat, d ∈ ds → 1 ≤ d ∧ d ≤ 13) (h4 : n < 8) : nI (dgP ds) ||| (nI c <<< (nI (n * 4) &&& 31)) = nI (dgP (ds ++ [c])) := by
  have h1 := dgP_lt (ds := ds) (fun d hd9 => by have := hd d hd9; omega)
  rw [hn, pow16] at h1
  rw [nI_shl (by omega), nI_or h1, dgP_app, hn, pow16]
theorem pW_0 : pW [] [] 0 0 0 0 := ⟨rfl, fun d hd => by simp at hd, rfl, rfl, Nat.le_refl _, fun d hd => by simp at hd, by omega⟩
theorem dgP_lt6 {os : List Nat} {o : Nat} (h : ∀ x : Nat, x ∈ os → x ≤ 15) (ho : o ≤ 15) : dgP (os ++ [o]) < 16 ^ (os.length + 1) := by
  have := dgP_lt (ds := os ++ [o]) (fun d hd => by
    rcases List.mem_append.mp hd with z | z
    · have := h d z; omega
    · rw [List.mem_singleton.mp z]; omega)
  rw [List.length_append] at this
  exact this
theorem pW_s {ds os : List Nat} {o n : Nat} {pa ro : Int32} (h : pW ds os o n pa ro) (hn : n < 4) : pW (ds ++ [13]) (os ++ [o]) 0 (n + 1) (pa ||| ((13 : Int32) <<< (nI (n * 4) &&& 31))) (ro + 1) := by
  obtain ⟨h1, h2, h3, h4, h5, h6, h7⟩ := h
  refine ⟨by rw [List.length_append, h1]; rfl, fun d hd => ?_, ?_, ?_, by rw [List.length_append]; show os.length + 1 ≤ n + 1; omega, fun x hx => ?_, by omega⟩
  · rcases List.mem_append.mp hd with z | z
    · exact h2 d z
    · rw [List.mem_singleton.mp z]; omega
  · rw [h3]; exact dg_or (c := 13) h1 h2 (by omega)
  · rw [h4, dgP_app (os ++ [o]), Nat.zero_mul, Nat.add_zero, List.length_append]
    show nI (os.length + 16 * dgP (os ++ [o])) + 1 = nI (os.length + 1 + 16 * dgP (os ++ [o]))
    rw [nI_1]; congr 1; omega
  · rcases List.mem_append.mp hx with z | z
    · exact h6 x z
    · rw [List.mem_singleton.mp z]; exact h7
theorem pW_m {ds os : List Nat} {o n j x : Nat} {pa ro : Int32} (h : pW ds os o n pa ro) (hn : n < 4) (hj : j < 12) (hx : o + x ≤ 15) : pW (ds ++ [j + 1]) os (o + x) (n + 1) (pa ||| (nI (j + 1) <<< (nI (n * 4) &&& 31))) (ro + (nI x <<< ((4 + 4 * (ro &&& 15)) &&& 31))) := by
  obtain ⟨h1, h2, h3, h4, h5, h6, h7⟩ := h
  refine ⟨by rw [List.length_append, h1]; rfl, fun d hd => ?_, ?_, ?_, by omega, h6, hx⟩
  · rcases List.mem_append.mp hd with z | z
    · exact h2 d z
    · rw [List.mem_singleton.mp z]; omega
  · rw [h3]; exact dg_or h1 h2 (by omega)
  · have e1 : ro &&& 15 = nI os.length := by
      rw [h4, nI_and15]; congr 1; omega
    have e2 : (4 : Int32) + 4 * (ro &&& 15) = nI (4 + 4 * os.length) := by
      rw [e1]
      have : ∀ v : Fin 5, (4 : Int32) + 4 * nI v.1 = nI (4 + 4 * v.1) := by decide
      exact this ⟨os.length, by omega⟩
    rw [e2, nI_shl (by omega), h4, nI_add]
    congr 1
    rw [dgP_app, dgP_app, Nat.add_mul, pow16]
    have e3 : 2 ^ (4 + 4 * os.length) = 16 * 2 ^ (os.length * 4) := by rw [Nat.pow_add, Nat.mul_comm 4 os.length]
    rw [e3, Nat.mul_add, Nat.mul_add, ← Nat.mul_assoc x 16, Nat.mul_comm x 16, Nat.mul_assoc 16 x]
    omega
/-- a place: the reference itself; or it lies on a variable that is no reference; or behind one -/
def pK (F X : tF) (yp yt T0 T : Nat) (mu : Int32) (ds os : List Nat) (o : Nat) : Prop :=
  (ds = [] ∧ os = [] ∧ o = 0 ∧ T = T0 ∧ 34 ≤ T0 ∧ T0 < yt ∧ (F 20 T0 = 5 ∨ F 20 T0 = 6)) ∨
  (tyN yp (F 20) T0 ∧ pD F X yp yt T0 (ds.map stO) T os o) ∨
  (34 ≤ T0 ∧ T0 < yt ∧ (F 20 T0 = 5 ∨ F 20 T0 = 6) ∧ (mu ≠ 0 → F 20 T0 = 6) ∧ ∃ (U : Nat) (ds' os' : List Nat), F 21 T0 = nI U ∧ U < yt ∧ ds = 13 :: ds' ∧ os = 0 :: os' ∧ pD F X yp yt U (ds'.map stO) T os' o)
theorem x3_nI {F X : tF} {yp yt T j : Nat} (h : tbO F X yp yt) (hT : tyN yp (F 20) T) (hk : F 20 T = 2) (hj : j < 12) (hjn : nI j < X 1 ((T - 4) * 12)) : X 3 ((T - 4) * 12 * 12 + j) = nI (cN (X 3 ((T - 4) * 12 * 12 + j))) := by
  obtain ⟨h4, h4y⟩ := tyN_2 h hT hk
  have hyp : yp ≤ 30 := h.1.2.2.1
  obtain ⟨n, n1, n2, n3, n4, n5⟩ := h.2.1 (T - 4) (by omega)
  obtain ⟨m, m1, m2, m3⟩ := n5 0 (by omega)
  rw [Nat.add_zero] at m1 m3
  have hjm : j < m := by
    rw [m1] at hjn
    exact (nI_ltI (by omega) (by omega)).mp hjn
  obtain ⟨z, z1, z2, z3⟩ := h.2.2.1 (T - 4) (by omega)
  obtain ⟨mo, q1, q2, q3⟩ := (h.2.2.2 (T - 4) (by omega)).resolve_left (fun e => by
    rw [z1] at e
    have : z = 0 := (nI_eq (a := z) (b := 0) (by omega) (by decide)).mp e
    omega)
  have hp : pcR (X 0) (T - 4) = n := by show cN (X 0 (T - 4)) = n; rw [n1, cN_nI (by omega)]
  obtain ⟨w1, w2⟩ := q3 0 (by omega)
  rw [Nat.add_zero] at w1 w2
  have hp2 : pcR (X 1) ((T - 4) * 12) = m := by show cN (X 1 ((T - 4) * 12)) = m; rw [m1, cN_nI (by omega)]
  have e := (w2 j (by omega)).1
  have hle := (lyP_1 (r := (T - 4) * 12) (fs := F 22) (fpt := X 2) (show (if F 20 (4 + (T - 4)) = 3 then 1 else 0) ≤ 17 by split <;> omega) j).1
  rw [e, cN_nI (by omega)]
theorem stO_13 : stO 13 = (1, 0) := rfl
theorem stO_m {j : Nat} (h : j < 12) : stO (j + 1) = (0, j) := by
  unfold stO
  rw [if_neg (by omega)]; rfl
theorem pl_way {F X : tF} {yp yt v T0 : Nat} (h : tbO F X yp yt) (hv : F 15 v = nI T0) (hT0 : tyV yp yt (F 20) T0) : ∀ (n : Nat) (pa ro : Int32) (T : Nat) (mu : Int32), n ≤ 4 → T < 3040 → plS F X 3040 v n pa ro T mu → ∃ (ds os : List Nat) (o : Nat), pW ds os o n pa ro ∧ pK F X yp yt T0 T mu ds os o
  | 0, pa, ro, T, mu, hn, hT, hp => by
    obtain ⟨rfl, rfl, p3, p4⟩ := hp
    have hyt : yt ≤ 3040 := h.1.2.1
    obtain rfl : T = T0 := (nI_eq (a := T) (b := T0) (by omega) (by have := hT0.2; omega)).mp (p3.symm.trans hv)
    refine ⟨[], [], 0, pW_0, ?_⟩
    rcases hT0 with ⟨h1 | h1, h2⟩
    · exact Or.inr (Or.inl ⟨h1, pD_0 h h1 h2⟩)
    · exact Or.inl ⟨rfl, rfl, rfl, rfl, h1.1, h2, h1.2⟩
  | n + 1, pa, ro, T, mu, hn, hT, hp => by
    obtain ⟨pa1, ro1, T1, mu1, q1, q2, q3, q4⟩ := hp
    obtain ⟨ds, os, o, w1, w2⟩ := pl_way h hv hT0 n pa1 ro1 T1 mu1 (by omega) (by omega) q1
    have hyt : yt ≤ 3040 := h.1.2.1
    rcases q4 with ⟨rfl, rfl, s3, s4⟩ | ⟨j, s1, s2, s3, rfl, rfl, s6, rfl⟩
    · have hW := pW_s w1 (by omega)
      refine ⟨ds ++ [13], os ++ [o], 0, hW, ?_⟩
      rcases w2 with ⟨rfl, rfl, rfl, rfl, w5, w6, w7⟩ | ⟨w3, w4⟩ | ⟨w3, w4, w5, w6, U, ds', os', w7, w8, rfl, rfl, w9⟩
      · obtain ⟨-, -, -, u, u1, u2, u3⟩ := h.1.2.2.2.2.2.2.2.1 T1 w5 w6
        obtain rfl : T = u := (nI_eq (a := T) (b := u) (by omega) (by omega)).mp (s3.symm.trans u2)
        refine Or.inr (Or.inr ⟨w5, w6, w7, fun z => ?_, T, [], [], s3, by omega, rfl, rfl, pD_0 h u3 (by omega)⟩)
        rcases s4 with s4 | s4 | s4
        · rcases w7 with w7 | w7 <;> rw [w7] at s4 <;> exact absurd s4.1 (by decide)
        · exact absurd s4.2 z
        · exact s4.1
      · have hnr := tyN_nr h w4.2.2.2.2.1
        have h4 : F 20 T1 = 4 := by
          rcases s4 with s4 | s4 | s4
          · exact s4.1
          · exact absurd s4.1 hnr.1
          · exact absurd s4.1 hnr.2
        refine Or.inr (Or.inl ⟨w3, ?_⟩)
        rw [List.map_append]
        exact pD_s h w4 h4 s3 (by omega)
      · have hnr := tyN_nr h w9.2.2.2.2.1
        have h4 : F 20 T1 = 4 ∧ mu = mu1 := by
          rcases s4 with s4 | s4 | s4
          · exact s4
          · exact absurd s4.1 hnr.1
          · exact absurd s4.1 hnr.2
        refine Or.inr (Or.inr ⟨w3, w4, w5, fun z => w6 (by rw [← h4.2]; exact z), U, ds' ++ [13], os' ++ [o], w7, w8, rfl, rfl, ?_⟩)
        rw [List.map_append]
        exact pD_s h w9 h4.1 s3 (by omega)
    · rcases w2 with ⟨rfl, rfl, rfl, rfl, w5, w6, w7⟩ | ⟨w3, w4⟩ | ⟨w3, w4, w5, w6, U, ds', os', w7, w8, rfl, rfl, w9⟩
      · rcases w7 with w7 | w7 <;> rw [w7] at s1 <;> exact absurd s1 (by decide)
      · have hm := pD_m h w4 s1 s2 s3 s6 (by omega)
        have hx : o + cN (X 3 ((T1 - 4) * 12 * 12 + j)) ≤ 15 := by
          have e1 := hm.2.2.2.1
          have e2 := (zF_16 h hm.2.2.2.2.1 hm.2.2.2.2.2).2
          omega
        have hX3 : X 3 ((T1 - 4) * 12 * 12 + j) = nI (cN (X 3 ((T1 - 4) * 12 * 12 + j))) := x3_nI h w4.2.2.2.2.1 s1 s2 s3
        generalize cN (X 3 ((T1 - 4) * 12 * 12 + j)) = x at hm hx hX3
        refine ⟨ds ++ [j + 1], os, o + x, ?_, Or.inr (Or.inl ⟨w3, ?_⟩)⟩
        · rw [hX3]
          have := pW_m w1 (by omega) s2 hx
          exact this
        · rw [List.map_append]
          show pD F X yp yt T0 (ds.map stO ++ [stO (j + 1)]) T os _
          rw [stO_m s2]; exact hm
      · have hm := pD_m h w9 s1 s2 s3 s6 (by omega)
        have hx : o + cN (X 3 ((T1 - 4) * 12 * 12 + j)) ≤ 15 := by
          have e1 := hm.2.2.2.1
          have e2 := (zF_16 h hm.2.2.2.2.1 hm.2.2.2.2.2).2
          omega
        have hX3 : X 3 ((T1 - 4) * 12 * 12 + j) = nI (cN (X 3 ((T1 - 4) * 12 * 12 + j))) := x3_nI h w9.2.2.2.2.1 s1 s2 s3
        generalize cN (X 3 ((T1 - 4) * 12 * 12 + j)) = x at hm hx hX3
        refine ⟨13 :: ds' ++ [j + 1], 0 :: os', o + x, ?_, Or.inr (Or.inr ⟨w3, w4, w5, w6, U, ds' ++ [j + 1], os', w7, w8, rfl, rfl, ?_⟩)⟩
        · rw [hX3]
          exact pW_m w1 (by omega) s2 hx
        · rw [List.map_append]
          show pD F X yp yt U (ds'.map stO ++ [stO (j + 1)]) T os' _
          rw [stO_m s2]; exact hm
end
