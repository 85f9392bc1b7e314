/-- what is known of Moves' last pass h over the code from a to b -/
def mvW (F X : tF) (G : Nat → Nat → Nat) (rs a b : Nat) (k : Nat → Option (List tE)) (n : Nat) (et em az : Nat → Int32) (h : Nat → mvT) : Prop :=
  (ceI F X G rs a b k) ∧
  (n ≤ 40) ∧
  (∀ i : Nat, a ≤ i → i < b → mvR F n et em az i (h i) (h (i + 1))) ∧
  (∀ i : Nat, a ≤ i → i < b → (h i).2.2.2.1 ≠ 0 → ∃ s : List tE, k i = some s) ∧
  ((h b).2.2.2.2.1 = 0) ∧
  ((h b).2.2.2.2.2 < 0)
theorem mvW.ce {F X : tF} {G : Nat → Nat → Nat} {rs a b : Nat} {k : Nat → Option (List tE)} {n : Nat} {et em az : Nat → Int32} {h : Nat → mvT} (w : mvW F X G rs a b k n et em az h) : ceI F X G rs a b k := w.1
theorem mvW.n40 {F X : tF} {G : Nat → Nat → Nat} {rs a b : Nat} {k : Nat → Option (List tE)} {n : Nat} {et em az : Nat → Int32} {h : Nat → mvT} (w : mvW F X G rs a b k n et em az h) : n ≤ 40 := w.2.1
theorem mvW.tr {F X : tF} {G : Nat → Nat → Nat} {rs a b : Nat} {k : Nat → Option (List tE)} {n : Nat} {et em az : Nat → Int32} {h : Nat → mvT} (w : mvW F X G rs a b k n et em az h) : ∀ i : Nat, a ≤ i → i < b → mvR F n et em az i (h i) (h (i + 1)) := w.2.2.1
theorem mvW.al {F X : tF} {G : Nat → Nat → Nat} {rs a b : Nat} {k : Nat → Option (List tE)} {n : Nat} {et em az : Nat → Int32} {h : Nat → mvT} (w : mvW F X G rs a b k n et em az h) : ∀ i : Nat, a ≤ i → i < b → (h i).2.2.2.1 ≠ 0 → ∃ s : List tE, k i = some s := w.2.2.2.1
theorem mvW.ag {F X : tF} {G : Nat → Nat → Nat} {rs a b : Nat} {k : Nat → Option (List tE)} {n : Nat} {et em az : Nat → Int32} {h : Nat → mvT} (w : mvW F X G rs a b k n et em az h) : (h b).2.2.2.2.1 = 0 := w.2.2.2.2.1
theorem mvW.fi {F X : tF} {G : Nat → Nat → Nat} {rs a b : Nat} {k : Nat → Option (List tE)} {n : Nat} {et em az : Nat → Int32} {h : Nat → mvT} (w : mvW F X G rs a b k n et em az h) : (h b).2.2.2.2.2 < 0 := w.2.2.2.2.2
/-- what Moves told nothing of: the cells of the place aren't without a value -/
def mvO (F : tF) (i : Nat) (st : Nat → Int32) (o : Nat) : Prop := ∀ p v : Nat, F 1 i = nI p → p < 3001 → F 6 p = nI v → v < 40 → (o = 2 ∨ o = 3 ∨ o = 4 ∨ (o = 26 ∧ (0 : Int32) < F 9 p &&& 15)) → st v &&& F 12 p = 0
theorem mvUs_no {F : tF} {p v : Nat} {s : mvT} (hw : ¬ F 11 p < 0) (h : mvUs F p v s < 0) : s.2.2.2.2.2 < 0 ∧ s.1 v &&& F 12 p = 0 := by
  unfold mvUs at h
  by_cases c : s.1 v &&& F 12 p = 0
  · rw [if_pos c] at h; exact ⟨h, c⟩
  · rw [if_neg c] at h; exact absurd h (tlF_ge hw)
theorem mvFl_fi {F : tF} {n i : Nat} {s t : mvT} {o : Nat} (h : mvFl F n i s t o) : t.2.2.2.2.2 = s.2.2.2.2.2 := by
  by_cases e15 : o = 15
  · subst e15
    obtain ⟨L, u, rv, q1, q2, q3, q4, q5, q6, q7⟩ := h
    exact q7
  by_cases e16 : o = 16
  · subst e16
    obtain ⟨L, u, rv, q1, q2, q3, rfl⟩ := h
    rfl
  by_cases e17 : o = 17
  · subst e17
    obtain ⟨L, rv, q1, q2, q3⟩ := h
    rw [q3.2.2.2.1]
  by_cases e18 : o = 18
  · subst e18
    obtain ⟨L, rv, q1, q2, q3⟩ := h
    rw [q3.2.2.2.1]
  by_cases e19 : o = 19
  · subst e19
    obtain ⟨L, rv, q1, q2, q3⟩ := h
    rw [q3.2.2.2.1]
  by_cases e20 : o = 20
  · subst e20
    obtain ⟨tb, c, u, q1, q2, q3, q4, q5, rfl⟩ := h
    show u.2.2.2.2.2 = _
    rw [(mvSw_ag q5).1]
  by_cases e22 : o = 22
  · subst e22
    have h : t = (s.1, s.2.1, s.2.2.1, 0, s.2.2.2.2) := h
    rw [h]
  · rw [mvFl_o o e15 e16 e17 e18 e19 e20 e22 h]
theorem mvLk_no {F : tF} {n i : Nat} {et em az : Nat → Int32} {s t : mvT} {o : Nat} (hk : mvLk F n et em az i s t o) (hw : whO F i o) (ht : t.2.2.2.2.2 < 0) : s.2.2.2.2.2 < 0 ∧ mvO F i s.1 o := by
  have hpl : ∀ p v q w : Nat, F 1 i = nI p → p < 3001 → F 6 p = nI v → v < 40 → F 1 i = nI q → q < 3001 → F 6 q = nI w → w < 40 → p = q ∧ v = w := fun p v q w h1 h2 h3 h4 h5 h6 h7 h8 => by
    obtain rfl : p = q := (nI_eq (a := p) (b := q) (by omega) (by omega)).mp (h1.symm.trans h5)
    exact ⟨rfl, (nI_eq (a := v) (b := w) (by omega) (by omega)).mp (h3.symm.trans h7)⟩
  by_cases e2 : o = 2 ∨ o = 4
  · have hk2 : ∃ p v : Nat, (F 1 i = nI p ∧ p < 3001) ∧ F 6 p = nI v ∧ v < 40 ∧ t = mvSt s s.1 (mvUs F p v s) := by
      rcases e2 with rfl | rfl <;> exact hk
    obtain ⟨p, v, ⟨h1, h2⟩, h3, h4, rfl⟩ := hk2
    obtain ⟨q1, q2⟩ := mvUs_no (hw.1 (by omega) p h1 h2) ht
    refine ⟨q1, fun p2 v2 g1 g2 g3 g4 _ => ?_⟩
    obtain ⟨rfl, rfl⟩ := hpl p2 v2 p v g1 g2 g3 g4 h1 h2 h3 h4
    exact q2
  by_cases e3 : o = 3
  · subst e3
    obtain ⟨p, v, ⟨h1, h2⟩, h3, h4, rfl⟩ := hk
    obtain ⟨q1, q2⟩ := mvUs_no (hw.1 (by omega) p h1 h2) ht
    refine ⟨q1, fun p2 v2 g1 g2 g3 g4 _ => ?_⟩
    obtain ⟨rfl, rfl⟩ := hpl p2 v2 p v g1 g2 g3 g4 h1 h2 h3 h4
    exact q2
  by_cases e26 : o = 26
  · subst e26
    obtain ⟨p, v, ⟨h1, h2⟩, h3, h4, h5⟩ := hk
    rcases h5 with ⟨z, rfl⟩ | ⟨z, rfl⟩
    · obtain ⟨q1, q2⟩ := mvUs_no (hw.1 (by omega) p h1 h2) ht
      refine ⟨q1, fun p2 v2 g1 g2 g3 g4 _ => ?_⟩
      obtain ⟨rfl, rfl⟩ := hpl p2 v2 p v g1 g2 g3 g4 h1 h2 h3 h4
      exact q2
    · have ht : (if F 8 p = 0 ∧ em v = 0 ∧ hiS (s.1 v) ≠ 0 then tlF s.2.2.2.2.2 (F 11 p) else s.2.2.2.2.2) < 0 := ht
      refine ⟨?_, fun p2 v2 g1 g2 g3 g4 g5 => ?_⟩
      · by_cases c : F 8 p = 0 ∧ em v = 0 ∧ hiS (s.1 v) ≠ 0
        · rw [if_pos c] at ht; exact absurd ht (tlF_ge (hw.1 (by omega) p h1 h2))
        · rw [if_neg c] at ht; exact ht
      · obtain ⟨rfl, rfl⟩ := hpl p2 v2 p v g1 g2 g3 g4 h1 h2 h3 h4
        rcases g5 with g5 | g5 | g5 | ⟨-, g5⟩
        · exact absurd g5 (by decide)
        · exact absurd g5 (by decide)
        · exact absurd g5 (by decide)
        · exact absurd g5 z
  · refine ⟨?_, fun p v _ _ _ _ e => by omega⟩
    by_cases e24 : o = 24 ∨ o = 29 ∨ o = 30
    · have hk2 : ∃ v : Nat, F 1 i = nI v ∧ v < 40 ∧ t = mvSt s (upd s.1 v (fuV et az v <<< ((16 : Int32) &&& 31))) s.2.2.2.2.2 := by
        rcases e24 with rfl | rfl | rfl <;> exact hk
      obtain ⟨v, h1, h2, rfl⟩ := hk2
      exact ht
    by_cases e25 : o = 25
    · subst e25
      obtain ⟨v, h1, h2, rfl⟩ := hk
      exact ht
    · rcases mvLk_o o hk with h | ⟨h, -⟩
      · rw [mvFl_fi h] at ht; exact ht
      · omega
section
variable {F X : tF} {G : Nat → Nat → Nat} {rs a b : Nat} {k : Nat → Option (List tE)} {n : Nat} {et em az : Nat → Int32} {h : Nat → mvT}
theorem mvW_p (w : mvW F X G rs a b k n et em az h) : ∀ i : Nat, a ≤ i → i < b → pS iS F n i (mvp (h i)) (mvp (h (i + 1))) := fun i h1 h2 => pR_S (or := fun x y => x ||| y) iS_rf iS_tr iS_l iS_r w.n40 (mvR_p (w.tr i h1 h2))
theorem mvW_fi (w : mvW F X G rs a b k n et em az h) : ∀ d i : Nat, a ≤ i → i + d = b → (h i).2.2.2.2.2 < 0
  | 0, i, ha, e => by rw [show i = b by omega]; exact w.fi
  | d + 1, i, ha, e => by
    have q := mvW_fi w d (i + 1) (by omega) (by omega)
    obtain ⟨o, ho, h33, hr⟩ := w.tr i ha (by omega)
    rcases hr with ⟨hl, L, l1, l2, l3, l4, l5, -⟩ | ⟨n13, n14, hr⟩
    · rw [l5] at q; exact q
    · rcases hr with ⟨-, hr⟩ | ⟨hz, hr⟩
      · rw [hr] at q; exact q
      · obtain ⟨s, hs⟩ := w.al i ha (by omega) hz
        exact (mvLk_no hr (wh_of (ce_op w.ce ha (by omega) hs ho h33)) q).1
theorem mvW_O (w : mvW F X G rs a b k n et em az h) {i o : Nat} (ha : a ≤ i) (hb : i < b) (hl : ¬ isL (F 0 i)) (hA : cA F (fun j => mvp (h j)) i) (ho : F 0 i = nI o) (h33 : o < 33) : mvLk F n et em az i (h i) (h (i + 1)) o ∧ mvO F i (h i).1 o := by
  have hz : (h i).2.2.2.1 ≠ 0 := (cA_n (h := fun j => mvp (h j)) hl).mp hA
  have q := mvW_fi w (b - (i + 1)) (i + 1) (by omega) (by omega)
  obtain ⟨s, hs⟩ := w.al i ha hb hz
  obtain ⟨o2, g1, g2, hr⟩ := w.tr i ha hb
  obtain rfl : o = o2 := nI_33 h33 g2 (ho.symm.trans g1)
  rcases hr with ⟨hl2, -⟩ | ⟨n13, n14, hr⟩
  · exact absurd (by rw [ho]; rcases hl2 with z | z <;> rw [z]; exact Or.inl rfl; exact Or.inr rfl) hl
  · rcases hr with ⟨hr, -⟩ | ⟨-, hr⟩
    · exact absurd hr hz
    · exact ⟨hr, (mvLk_no hr (wh_of (ce_op w.ce ha hb hs ho h33)) q).2⟩
/-- nothing jumps ahead to a head -/
theorem ce_ntg (hc : ceI F X G rs a b k) {m j L : Nat} {s : List tE} (hm : a ≤ m) (hmb : m < b) (hs : k m = some s) (hj : a ≤ j) (hjb : j < b) (h14 : F 0 j = 14) (hjL : F 1 j = nI L) : ¬ tgt F m L := fun q => by
  have key : ∀ (x : Int32) (y : List tE), x = nI L → False ∨ tJm F G k m b x y → False := fun x y e z => by
    obtain ⟨j2, ⟨j1, -⟩, j3, j4, j5, -⟩ := z.resolve_left id
    have := ce_one hc hj hjb (Or.inr h14) (show a ≤ j2 by omega) j3 (Or.inl j4) hjL (j5.trans e)
    rw [this, j4] at h14
    exact absurd h14 (by decide)
  rcases q with ⟨q, q2⟩ | ⟨q, tb, c, g, q1, q2, q3, q4, q5, q6⟩
  · rcases q with q | q | q | q
    · exact key _ s q2 (ce_op (o := 16) hc hm hmb hs q (by decide)).2
    · obtain ⟨r, -, -, u⟩ := ce_op (o := 17) hc hm hmb hs q (by decide)
      exact key _ r q2 u
    · obtain ⟨r, -, -, u⟩ := ce_op (o := 18) hc hm hmb hs q (by decide)
      exact key _ s q2 u
    · obtain ⟨r, -, -, u⟩ := ce_op (o := 19) hc hm hmb hs q (by decide)
      exact key _ s q2 u
  · obtain ⟨sh, n9, tb2, r, u1, u2, u3, u4, u5, u6, ⟨u7, -⟩, u8⟩ := ce_op (o := 20) hc hm hmb hs q (by decide)
    obtain rfl : tb = tb2 := (nI_eq (a := tb) (b := tb2) (by omega) (by omega)).mp (q1.symm.trans u5)
    obtain rfl : c = n9 := (nI_eq (a := c) (b := n9) (by omega) (by omega)).mp (q2.symm.trans u7)
    rcases u8 with ⟨w1, w2, w3⟩ | ⟨q9, m9, w0, w1, w2, w3⟩
    · exact key _ _ q6 (w3 g q5)
    · exact key _ _ q6 (w3 g q5)
end
