theorem lnSd_fi {n L : Nat} {s t : lnT} {rv : Int32} (h : lnSd n L s t rv) : t.2.2.2.2.2.1 = s.2.2.2.2.2.1 := by rw [h.2.2.2.1]
theorem lnPo_fi {k : Nat} {s t : lnT} (h : lnPo k s t) : t.2.2.2.2.2.1 = s.2.2.2.2.2.1 := by
  obtain ⟨x, h1, h2⟩ := h
  rw [h2]; rfl
/-- the others tell nothing -/
theorem lnLk_fi {F : tF} {C : lnC} {Q : lnQ} {i : Nat} {s t : lnT} : ∀ o : Nat, o < 33 → o ≠ 2 → o ≠ 3 → o ≠ 4 → o ≠ 26 → o ≠ 32 → o ≠ 22 → lnLk F C Q i s t o → t.2.2.2.2.2.1 < 0 → s.2.2.2.2.2.1 < 0
  | 0, _, _, _, _, _, _, _, h, q => by
    obtain ⟨gt, tn2, h1, rfl⟩ := h
    exact q
  | 1, _, _, _, _, _, _, _, h, q => by
    obtain ⟨gt, tn2, h1, rfl⟩ := h
    exact q
  | 2, _, e, _, _, _, _, _, _, _ => absurd rfl e
  | 3, _, _, e, _, _, _, _, _, _ => absurd rfl e
  | 4, _, _, _, e, _, _, _, _, _ => absurd rfl e
  | 5, _, _, _, _, _, _, _, h, q => by
    have h : t = s := h
    rw [h] at q; exact q
  | 6, _, _, _, _, _, _, _, h, q => by
    have h : t = s := h
    rw [h] at q; exact q
  | 7, _, _, _, _, _, _, _, h, q => by rw [lnPo_fi h] at q; exact q
  | 8, _, _, _, _, _, _, _, h, q => by
    have h : t = s := h
    rw [h] at q; exact q
  | 9, _, _, _, _, _, _, _, h, q => by
    obtain ⟨gt, tn2, h1, rfl⟩ := h
    exact q
  | 10, _, _, _, _, _, _, _, h, q => by rw [lnPo_fi h] at q; exact q
  | 11, _, _, _, _, _, _, _, h, q => by
    obtain ⟨gt, tn2, h1, rfl⟩ := h
    exact q
  | 12, _, _, _, _, _, _, _, h, q => by
    obtain ⟨n, h1, h2, h3⟩ := h
    rw [lnPo_fi h3] at q; exact q
  | 13, _, _, _, _, _, _, _, h, q => by
    have h : t = s := h
    rw [h] at q; exact q
  | 14, _, _, _, _, _, _, _, h, q => by
    have h : t = s := h
    rw [h] at q; exact q
  | 15, _, _, _, _, _, _, _, h, q => by
    obtain ⟨L, u, rv, q1, q2, q3, rfl⟩ := h
    have q : u.2.2.2.2.2.1 < 0 := q
    rw [lnSd_fi q3] at q; exact q
  | 16, _, _, _, _, _, _, _, h, q => by
    obtain ⟨L, u, rv, q1, q2, q3, rfl⟩ := h
    have q : u.2.2.2.2.2.1 < 0 := q
    rw [lnSd_fi q3] at q; exact q
  | 17, _, _, _, _, _, _, _, h, q => by
    obtain ⟨L, u, rv, q1, q2, q3, q4⟩ := h
    rw [lnSd_fi q4, lnPo_fi q3] at q; exact q
  | 18, _, _, _, _, _, _, _, h, q => by
    obtain ⟨L, u, rv, q1, q2, q3, q4⟩ := h
    rw [lnSd_fi q4, lnPo_fi q3] at q; exact q
  | 19, _, _, _, _, _, _, _, h, q => by
    obtain ⟨L, u, rv, q1, q2, q3, q4⟩ := h
    rw [lnSd_fi q4, lnPo_fi q3] at q; exact q
  | 20, _, _, _, _, _, _, _, h, q => by
    obtain ⟨tb, c, u, v, q1, q2, q3, q4, q5, q6, rfl⟩ := h
    have q : v.2.2.2.2.2.1 < 0 := q
    rw [(lnSw_ag q6).1, lnPo_fi q5] at q; exact q
  | 21, _, _, _, _, _, _, _, h, q => by
    obtain ⟨g, h1, h2, n, x, t1, gt, tn2, q1, q2, q3, q4, rfl⟩ := h
    exact q
  | 22, _, _, _, _, _, _, e, _, _ => absurd rfl e
  | 23, _, _, _, _, _, _, _, h, q => by
    have h : t = s := h
    rw [h] at q; exact q
  | 24, _, _, _, _, _, _, _, h, q => by
    obtain ⟨v, x, tn2, h1, h2, h3, rfl⟩ := h
    exact q
  | 25, _, _, _, _, _, _, _, h, q => by
    obtain ⟨v, h1, h2, rfl⟩ := h
    exact q
  | 26, _, _, _, _, e, _, _, _, _ => absurd rfl e
  | 27, _, _, _, _, _, _, _, h, q => by rw [lnPo_fi h] at q; exact q
  | 28, _, _, _, _, _, _, _, h, q => by rw [lnPo_fi h] at q; exact q
  | 29, _, _, _, _, _, _, _, h, q => by
    obtain ⟨v, h1, h2, rfl⟩ := h
    exact q
  | 30, _, _, _, _, _, _, _, h, q => by
    obtain ⟨v, b, h1, h2, h3, h4, rfl⟩ := h
    exact q
  | 31, _, _, _, _, _, _, _, h, q => by
    have h : t = s := h
    rw [h] at q; exact q
  | 32, _, _, _, _, _, e, _, _, _ => absurd rfl e
  | n + 33, h, _, _, _, _, _, _, _, _ => absurd h (by omega)
/-- places that an instruction may tell are at least 0 -/
def whO (F : tF) (i o : Nat) : Prop := (o = 2 ∨ o = 3 ∨ o = 4 ∨ o = 26 → ∀ p : Nat, F 1 i = nI p → p < 3001 → ¬ F 11 p < 0) ∧ (o = 22 ∨ o = 32 → ¬ F 4 i < 0) ∧ (o = 22 → F 2 i = 1 → ¬ F 3 i < 0)
theorem wh_of {F X : tF} {G : Nat → Nat → Nat} {rs i : Nat} {k : Nat → Option (List tE)} {J K : Int32 → List tE → Prop} {s : List tE} {o : Nat} (h : iOp F X G rs k J K i s o) : whO F i o := by
  have hp : ∀ p q : Nat, F 1 i = nI p → p < 3001 → F 1 i = nI q → q < 3001 → ¬ F 11 q < 0 → ¬ F 11 p < 0 := fun p q h1 h2 h3 h4 h5 => by
    rw [(nI_eq (a := p) (b := q) (by omega) (by omega)).mp (h1.symm.trans h3)]; exact h5
  refine ⟨fun e p p1 p2 => ?_, fun e => ?_, fun e => ?_⟩
  · rcases e with rfl | rfl | rfl | rfl
    · obtain ⟨q, T, mu, h1, ⟨v, n, pa, ro, h2⟩, -⟩ := h
      exact hp p q p1 p2 h1 h2.1.1 h2.1.2
    · obtain ⟨q, T, h1, ⟨v, n, pa, ro, mu, h2, -⟩, -⟩ := h
      exact hp p q p1 p2 h1 h2.1.1 h2.1.2
    · obtain ⟨q, T, b, m, mu, h1, ⟨v, n, pa, ro, h2⟩, -⟩ := h
      exact hp p q p1 p2 h1 h2.1.1 h2.1.2
    · obtain ⟨q, v, n, T, pa, ro, mu, r, h1, h2, -⟩ := h
      exact hp p q p1 p2 h1 h2.1.1 h2.1.2
  · rcases e with rfl | rfl
    · obtain ⟨T, O, -, h2, -⟩ := h
      exact h2.2.1
    · obtain ⟨v0, v1, O, r, h1, -⟩ := h
      exact h1.2
  · subst e
    obtain ⟨T, O, -, h2, -⟩ := h
    exact h2.2.2
/-- the value that is given back holds x -/
def lnX (F : tF) (i : Nat) (s : lnT) (x : Int64) : Prop := (F 2 i = 1 ∧ ∃ g8 : Nat, (g8, x) = popF (lnF s) 1 (lnN s) 0) ∨ (F 2 i ≠ 1 ∧ x = 0)
/-- what Loans told nothing of at instruction i of code o -/
def lnO (F : tF) (C : lnC) (Q : lnQ) (i : Nat) (s : lnT) (o : Nat) : Prop :=
  (o = 2 → ∀ p v : Nat, F 1 i = nI p → p < 3001 → F 6 p = nI v → v < 40 → acO F C i p v 0 s.1 (lnF s) (lnN s)) ∧
  (o = 3 → ∀ p v : Nat, F 1 i = nI p → p < 3001 → F 6 p = nI v → v < 40 → acO F C i p v 1 s.1 (lnF s) (lnN s)) ∧
  (o = 4 → ∀ p v : Nat, F 1 i = nI p → p < 3001 → F 6 p = nI v → v < 40 → acO F C i p v (if F 3 i = 1 then 1 else 0) s.1 (lnF s) (lnN s)) ∧
  (o = 26 → ∀ p v : Nat, F 1 i = nI p → p < 3001 → F 6 p = nI v → v < 40 → ¬ rfB Q.1 (F 10 p) → acO F C i p v 1 s.1 (lnF s) (lnN s - 1)) ∧
  (o = 32 → ∀ v0 v1 : Nat, F 1 i = nI v0 → F 2 i = nI v1 → v0 ≤ v1 → v1 ≤ 40 → ∀ v l : Nat, v0 ≤ v → v < v1 → ¬ rfB Q.1 (Q.2.1 v) → l < 64 → lbit (C.2.1 v) l = true → ¬ ((∃ m : Nat, m < lnN s ∧ lbit (lnF s m) l = true) ∨ ∃ u : Nat, u < C.2.2.2.2.2 ∧ (u < v0 ∨ v1 ≤ u) ∧ lbit (C.1 i) u = true ∧ lbit (s.1 u) l = true)) ∧
  (o = 22 → ∀ x : Int64, lnX F i s x → (∀ r : Nat, Q.2.2.2.2.1 = nI r → r < 8 → ∀ l : Nat, 54 ≤ l → l < 64 → lbit x l = true → l = 54 + r) ∧ ∀ v l : Nat, v < C.2.2.2.2.2 → Q.2.2.1 v ≤ nI i → nI i < Q.2.2.2.1 v → ¬ rfB Q.1 (Q.2.1 v) → lbit (C.2.1 v) l = true → lbit x l = false)
theorem lnX_u {F : tF} {i : Nat} {s : lnT} {x z : Int64} (h1 : lnX F i s x) (h2 : lnX F i s z) : x = z := by
  rcases h1 with ⟨q1, g1, e1⟩ | ⟨q1, e1⟩
  · rcases h2 with ⟨q2, g2, e2⟩ | ⟨q2, e2⟩
    · have := e1.trans e2.symm
      exact congrArg Prod.snd this
    · exact absurd q1 q2
  · rcases h2 with ⟨q2, g2, e2⟩ | ⟨q2, e2⟩
    · exact absurd q2 q1
    · rw [e1, e2]
theorem sh54 (x : Int64) (k : Nat) (hk : k < 64) : lbit ((((x.toUInt64 >>> ((54 : Int32).toInt64.toUInt64 &&& Int64.toUInt64 63)).toInt64) <<< ((54 : Int32).toInt64 &&& 63))) k = (decide (54 ≤ k) && lbit x k) := by
  have e1 : ∀ j : Nat, lbit ((x.toUInt64 >>> ((54 : Int32).toInt64.toUInt64 &&& Int64.toUInt64 63)).toInt64) j = lbit x (54 + j) := fun j => lbit_shr x 54 j (by decide)
  have e2 : lbit ((((x.toUInt64 >>> ((54 : Int32).toInt64.toUInt64 &&& Int64.toUInt64 63)).toInt64) <<< ((54 : Int32).toInt64 &&& 63))) k = (decide (54 ≤ k) && lbit ((x.toUInt64 >>> ((54 : Int32).toInt64.toUInt64 &&& Int64.toUInt64 63)).toInt64) (k - 54)) := by
    unfold lbit
    rw [Int64.toBitVec_shiftLeft, BitVec.shiftLeft_eq', show (((54 : Int32).toInt64 &&& 63).toBitVec.smod 64).toNat = 54 by decide, BitVec.getLsbD_shiftLeft]
    by_cases c : 54 ≤ k
    · rw [decide_eq_true hk, decide_eq_false (by omega : ¬ k < 54), decide_eq_true c]; rfl
    · rw [decide_eq_true (by omega : k < 54), decide_eq_false c]; simp
  rw [e2]
  by_cases c : 54 ≤ k
  · rw [decide_eq_true c, e1, show 54 + (k - 54) = k by omega]
  · rw [decide_eq_false c]; rfl
theorem lnLk_no {F : tF} {C : lnC} {Q : lnQ} {i : Nat} {s t : lnT} (hn : C.2.2.2.2.2 ≤ 40) (h54 : C.2.2.2.2.1 ≤ 54) {o : Nat} (h33 : o < 33) (hk : lnLk F C Q i s t o) (hw : whO F i o) (ht : t.2.2.2.2.2.1 < 0) : s.2.2.2.2.2.1 < 0 ∧ lnO F C Q i s o := by
  have hpl : ∀ p v q w : Nat, F 1 i = nI p → p < 3001 → F 6 p = nI v → v < 40 → F 1 i = nI q → q < 3001 → F 6 q = nI w → w < 40 → p = q ∧ v = w := fun p v q w h1 h2 h3 h4 h5 h6 h7 h8 => by
    obtain rfl : p = q := (nI_eq (a := p) (b := q) (by omega) (by omega)).mp (h1.symm.trans h5)
    exact ⟨rfl, (nI_eq (a := v) (b := w) (by omega) (by omega)).mp (h3.symm.trans h7)⟩
  by_cases e2 : o = 2
  · subst e2
    obtain ⟨p, v, u, h1, h2, h3, h4, rfl, h5⟩ := hk
    have hf : lnAc F C i p v 0 s < 0 := by
      rcases h5 with ⟨-, gt, tn2, -, rfl⟩ | ⟨-, gt, tn2, -, rfl⟩ <;> exact ht
    obtain ⟨q1, q2⟩ := lnAc_no hn h54 (hw.1 (Or.inl rfl) p h1 h2) hf
    refine ⟨q1, fun _ p2 v2 g1 g2 g3 g4 => ?_, fun e => absurd e (by decide), fun e => absurd e (by decide), fun e => absurd e (by decide), fun e => absurd e (by decide), fun e => absurd e (by decide)⟩
    obtain ⟨rfl, rfl⟩ := hpl p2 v2 p v g1 g2 g3 g4 h1 h2 h3 h4
    exact q2
  by_cases e3 : o = 3
  · subst e3
    obtain ⟨p, v, u, h1, h2, h3, h4, rfl, h5⟩ := hk
    have hf : lnAc F C i p v 1 s < 0 := by
      rcases h5 with ⟨-, gt, tn2, -, rfl⟩ | ⟨-, gt, tn2, -, rfl⟩ <;> exact ht
    obtain ⟨q1, q2⟩ := lnAc_no hn h54 (hw.1 (Or.inr (Or.inl rfl)) p h1 h2) hf
    refine ⟨q1, fun e => absurd e (by decide), fun _ p2 v2 g1 g2 g3 g4 => ?_, fun e => absurd e (by decide), fun e => absurd e (by decide), fun e => absurd e (by decide), fun e => absurd e (by decide)⟩
    obtain ⟨rfl, rfl⟩ := hpl p2 v2 p v g1 g2 g3 g4 h1 h2 h3 h4
    exact q2
  by_cases e4 : o = 4
  · subst e4
    obtain ⟨p, v, b, x, gt, tn2, h1, h2, h3, h4, h5, h6, h7, h8, rfl⟩ := hk
    obtain ⟨q1, q2⟩ := lnAc_no hn h54 (hw.1 (Or.inr (Or.inr (Or.inl rfl))) p h1 h2) (show lnAc F C i p v (if F 3 i = 1 then 1 else 0) s < 0 from ht)
    refine ⟨q1, fun e => absurd e (by decide), fun e => absurd e (by decide), fun _ p2 v2 g1 g2 g3 g4 => ?_, fun e => absurd e (by decide), fun e => absurd e (by decide), fun e => absurd e (by decide)⟩
    obtain ⟨rfl, rfl⟩ := hpl p2 v2 p v g1 g2 g3 g4 h1 h2 h3 h4
    exact q2
  by_cases e26 : o = 26
  · subst e26
    obtain ⟨p, v, x, tn2, h1, h2, h3, h4, h5, h6⟩ := hk
    have en : tn2 = lnN s - 1 := popF_e h5
    rcases h6 with ⟨z, rfl⟩ | ⟨z, rfl⟩
    · refine ⟨ht, fun e => absurd e (by decide), fun e => absurd e (by decide), fun e => absurd e (by decide), fun _ p2 v2 g1 g2 g3 g4 g5 => ?_, fun e => absurd e (by decide), fun e => absurd e (by decide)⟩
      obtain ⟨rfl, rfl⟩ := hpl p2 v2 p v g1 g2 g3 g4 h1 h2 h3 h4
      exact absurd z g5
    · obtain ⟨q1, q2⟩ := lnAc_no hn h54 (hw.1 (Or.inr (Or.inr (Or.inr rfl))) p h1 h2) (show lnAc F C i p v 1 (lnSt s s.1 s.2.2.2.2.2.1 s.2.2.2.2.2.2.1 tn2 s.2.2.2.2.2.2.2.2) < 0 from ht)
      refine ⟨q1, fun e => absurd e (by decide), fun e => absurd e (by decide), fun e => absurd e (by decide), fun _ p2 v2 g1 g2 g3 g4 g5 => ?_, fun e => absurd e (by decide), fun e => absurd e (by decide)⟩
      obtain ⟨rfl, rfl⟩ := hpl p2 v2 p v g1 g2 g3 g4 h1 h2 h3 h4
      rw [← en]; exact q2
  by_cases e32 : o = 32
  · subst e32
    obtain ⟨v0, v1, g1, g6, h1, h2, h3, h4, h5, rfl⟩ := hk
    obtain ⟨q1, -, q3⟩ := lnLv_no hn (hw.2.1 (Or.inr rfl)) (v1 - v0) _ _ h5 ht
    refine ⟨q1, fun e => absurd e (by decide), fun e => absurd e (by decide), fun e => absurd e (by decide), fun e => absurd e (by decide), fun _ u0 u1 k1 k2 k3 k4 v l v2 v3 v4 v5 v6 => ?_, fun e => absurd e (by decide)⟩
    obtain rfl : u0 = v0 := (nI_eq (a := u0) (b := v0) (by omega) (by omega)).mp (k1.symm.trans h1)
    obtain rfl : u1 = v1 := (nI_eq (a := u1) (b := v1) (by omega) (by omega)).mp (k2.symm.trans h2)
    have := q3 v l v2 (by omega) v4 v5 v6
    rw [show u0 + (u1 - u0) = u1 by omega] at this
    exact this
  by_cases e22 : o = 22
  · subst e22
    obtain ⟨x, f1, g6, g8, h1, h2, h3, rfl⟩ := hk
    obtain ⟨q1, q2⟩ := lnGv_no (hw.2.1 (Or.inl rfl)) _ _ _ h3 ht
    have hx : lnX F i s x := by
      rcases h1 with ⟨z, h1⟩ | ⟨z, -, h1⟩
      · exact Or.inl ⟨z, g8, h1⟩
      · exact Or.inr ⟨z, h1⟩
    have key : s.2.2.2.2.2.1 < 0 ∧ ∀ r : Nat, Q.2.2.2.2.1 = nI r → r < 8 → ∀ l : Nat, 54 ≤ l → l < 64 → lbit x l = true → l = 54 + r := by
      by_cases c : Q.2.2.2.2.1 < 0
      · rw [if_pos c] at h2
        rw [← h2]
        exact ⟨q1, fun r r1 r2 => by rw [r1] at c; exact absurd c (nI_pos (by omega))⟩
      · rw [if_neg c, if_neg c] at h2
        by_cases c2 : lg_cmp ((((x.toUInt64 >>> ((54 : Int32).toInt64.toUInt64 &&& Int64.toUInt64 63)).toInt64) <<< ((54 : Int32).toInt64 &&& 63)) &&& (((1 : Int64) <<< ((54 + Q.2.2.2.2.1).toInt64 &&& 63)) ^^^ -1)) 0 = 0
        · rw [if_pos c2] at h2
          rw [← h2]
          refine ⟨q1, fun r r1 r2 l l1 l2 l3 => ?_⟩
          have e := lgc0.mp c2
          have e2 := congrArg (fun z => lbit z l) e
          have e2 : lbit ((((x.toUInt64 >>> ((54 : Int32).toInt64.toUInt64 &&& Int64.toUInt64 63)).toInt64) <<< ((54 : Int32).toInt64 &&& 63)) &&& (((1 : Int64) <<< ((54 + Q.2.2.2.2.1).toInt64 &&& 63)) ^^^ -1)) l = lbit 0 l := e2
          rw [lbit_and, sh54 x l l2, l3, decide_eq_true l1, Bool.true_and, Bool.true_and, lbit_not _ _ l2, lbit_0] at e2
          have e3 : ((1 : Int64) <<< ((54 + Q.2.2.2.2.1).toInt64 &&& 63)) = bt (54 + r) := by
            unfold bt
            rw [r1]
            have e4 : (54 : Int32) + nI r = nI (54 + r) := by
              have : ∀ q : Fin 8, (54 : Int32) + nI q.1 = nI (54 + q.1) := by decide
              exact this ⟨r, r2⟩
            rw [e4]
          rw [e3, lbit_bt _ _ (by omega) l2] at e2
          cases e5 : decide (l = 54 + r) with
          | true => exact of_decide_eq_true e5
          | false => rw [e5] at e2; exact absurd e2 (by decide)
        · rw [if_neg c2] at h2
          exfalso
          rcases h1 with ⟨z, h1⟩ | ⟨z, -, h1⟩
          · rw [h2] at q1; exact tlF_ge (hw.2.2 rfl z) q1
          · apply c2
            rw [lgc0, h1]
            refine lbit_eq (fun k hk => ?_)
            rw [lbit_and, sh54 _ _ hk, lbit_0, Bool.and_false, Bool.false_and]
    refine ⟨key.1, fun e => absurd e (by decide), fun e => absurd e (by decide), fun e => absurd e (by decide), fun e => absurd e (by decide), fun e => absurd e (by decide), fun _ z hz => ?_⟩
    rw [lnX_u hz hx]
    exact ⟨key.2, q2⟩
  · refine ⟨?_, fun e => absurd e e2, fun e => absurd e e3, fun e => absurd e e4, fun e => absurd e e26, fun e => absurd e e32, fun e => absurd e e22⟩
    exact lnLk_fi o h33 e2 e3 e4 e26 e32 e22 hk ht
section
variable {F X : tF} {G : Nat → Nat → Nat} {rs a b : Nat} {k : Nat → Option (List tE)} {C : lnC} {Q : lnQ} {h : Nat → lnT}
/-- nothing was told at all -/
theorem lnW_fi (w : lnW F X G rs a b k C Q h) (h54 : C.2.2.2.2.1 ≤ 54) (hf : (h b).2.2.2.2.2.1 < 0) : ∀ d i : Nat, a ≤ i → i + d = b → (h i).2.2.2.2.2.1 < 0
  | 0, i, ha, e => by rw [show i = b by omega]; exact hf
  | d + 1, i, ha, e => by
    have q := lnW_fi w h54 hf d (i + 1) (by omega) (by omega)
    obtain ⟨o, ho, h33, hr⟩ := w.tr i ha (by omega)
    rcases hr with ⟨hl, L, l1, l2, l3, l4, l5, -⟩ | ⟨n13, n14, hr⟩
    · rw [l5] at q; exact q
    · rcases hr with ⟨-, hr⟩ | ⟨hz, hr⟩
      · rw [hr] at q; exact q
      · obtain ⟨s, hs⟩ := w.al i ha (by omega) hz
        exact (lnLk_no w.n40 h54 h33 hr (wh_of (ce_op w.ce ha (by omega) hs ho h33)) q).1
theorem lnW_O (w : lnW F X G rs a b k C Q h) (h54 : C.2.2.2.2.1 ≤ 54) (hf : (h b).2.2.2.2.2.1 < 0) {i o : Nat} (ha : a ≤ i) (hb : i < b) (hl : ¬ isL (F 0 i)) (hA : cA F (fun j => lnp (h j)) i) (ho : F 0 i = nI o) (h33 : o < 33) : lnLk F C Q i (h i) (h (i + 1)) o ∧ lnO F C Q i (h i) o := by
  have hz : (h i).2.2.2.1 ≠ 0 := (cA_n (h := fun j => lnp (h j)) hl).mp hA
  have q := lnW_fi w h54 hf (b - (i + 1)) (i + 1) (by omega) (by omega)
  obtain ⟨s, hs⟩ := w.al i ha hb hz
  obtain ⟨o2, g1, g2, g3, -⟩ := lnW_1 w ha hb hl hz hs
  obtain rfl : o = o2 := nI_33 h33 g1 (ho.symm.trans g2)
  exact ⟨g3, (lnLk_no w.n40 h54 h33 g3 (wh_of (ce_op w.ce ha hb hs ho h33)) q).2⟩
end
