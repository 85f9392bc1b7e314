/-- what is known of Loans' last pass h over the code from a to b -/
def lnW (F X : tF) (G : Nat → Nat → Nat) (rs a b : Nat) (k : Nat → Option (List tE)) (C : lnC) (Q : lnQ) (h : Nat → lnT) : Prop :=
  (ceI F X G rs a b k) ∧
  (∀ (i : Nat) (s : List tE), a ≤ i → i < b → k i = some s → vl s ≤ 211) ∧
  (C.2.2.2.2.2 ≤ 40) ∧
  (∀ i : Nat, a ≤ i → i < b → lnR F C Q i (h i) (h (i + 1))) ∧
  (∀ i : Nat, a ≤ i → i < b → (h i).2.2.2.1 ≠ 0 → ∃ s : List tE, k i = some s) ∧
  (∀ i : Nat, a ≤ i → i < b → rcK F k a b (h i).2.2.1) ∧
  (∀ g : Nat, g < Q.2.2.2.2.2.1 → Q.2.2.2.2.2.2.1 g 3 = nI (G g 0) ∧ G g 0 ≤ 12) ∧
  (Q.2.2.2.2.2.1 ≤ 40) ∧
  (lnN (h a) = 0) ∧
  ((h b).2.2.2.2.1 = 0)
theorem lnW.ce {F X : tF} {G : Nat → Nat → Nat} {rs a b : Nat} {k : Nat → Option (List tE)} {C : lnC} {Q : lnQ} {h : Nat → lnT} (w : lnW F X G rs a b k C Q h) : ceI F X G rs a b k := w.1
theorem lnW.v211 {F X : tF} {G : Nat → Nat → Nat} {rs a b : Nat} {k : Nat → Option (List tE)} {C : lnC} {Q : lnQ} {h : Nat → lnT} (w : lnW F X G rs a b k C Q h) : ∀ (i : Nat) (s : List tE), a ≤ i → i < b → k i = some s → vl s ≤ 211 := w.2.1
theorem lnW.n40 {F X : tF} {G : Nat → Nat → Nat} {rs a b : Nat} {k : Nat → Option (List tE)} {C : lnC} {Q : lnQ} {h : Nat → lnT} (w : lnW F X G rs a b k C Q h) : C.2.2.2.2.2 ≤ 40 := w.2.2.1
theorem lnW.tr {F X : tF} {G : Nat → Nat → Nat} {rs a b : Nat} {k : Nat → Option (List tE)} {C : lnC} {Q : lnQ} {h : Nat → lnT} (w : lnW F X G rs a b k C Q h) : ∀ i : Nat, a ≤ i → i < b → lnR F C Q i (h i) (h (i + 1)) := w.2.2.2.1
theorem lnW.al {F X : tF} {G : Nat → Nat → Nat} {rs a b : Nat} {k : Nat → Option (List tE)} {C : lnC} {Q : lnQ} {h : Nat → lnT} (w : lnW F X G rs a b k C Q h) : ∀ i : Nat, a ≤ i → i < b → (h i).2.2.2.1 ≠ 0 → ∃ s : List tE, k i = some s := w.2.2.2.2.1
theorem lnW.rk {F X : tF} {G : Nat → Nat → Nat} {rs a b : Nat} {k : Nat → Option (List tE)} {C : lnC} {Q : lnQ} {h : Nat → lnT} (w : lnW F X G rs a b k C Q h) : ∀ i : Nat, a ≤ i → i < b → rcK F k a b (h i).2.2.1 := w.2.2.2.2.2.1
theorem lnW.hG {F X : tF} {G : Nat → Nat → Nat} {rs a b : Nat} {k : Nat → Option (List tE)} {C : lnC} {Q : lnQ} {h : Nat → lnT} (w : lnW F X G rs a b k C Q h) : ∀ g : Nat, g < Q.2.2.2.2.2.1 → Q.2.2.2.2.2.2.1 g 3 = nI (G g 0) ∧ G g 0 ≤ 12 := w.2.2.2.2.2.2.1
theorem lnW.nb40 {F X : tF} {G : Nat → Nat → Nat} {rs a b : Nat} {k : Nat → Option (List tE)} {C : lnC} {Q : lnQ} {h : Nat → lnT} (w : lnW F X G rs a b k C Q h) : Q.2.2.2.2.2.1 ≤ 40 := w.2.2.2.2.2.2.2.1
theorem lnW.t0 {F X : tF} {G : Nat → Nat → Nat} {rs a b : Nat} {k : Nat → Option (List tE)} {C : lnC} {Q : lnQ} {h : Nat → lnT} (w : lnW F X G rs a b k C Q h) : lnN (h a) = 0 := w.2.2.2.2.2.2.2.2.1
theorem lnW.ag {F X : tF} {G : Nat → Nat → Nat} {rs a b : Nat} {k : Nat → Option (List tE)} {C : lnC} {Q : lnQ} {h : Nat → lnT} (w : lnW F X G rs a b k C Q h) : (h b).2.2.2.2.1 = 0 := w.2.2.2.2.2.2.2.2.2
section
variable {F X : tF} {G : Nat → Nat → Nat} {rs a b : Nat} {k : Nat → Option (List tE)} {C : lnC} {Q : lnQ} {h : Nat → lnT}
theorem lnW_p (w : lnW F X G rs a b k C Q h) : ∀ i : Nat, a ≤ i → i < b → pS lS F C.2.2.2.2.2 i (lnp (h i)) (lnp (h (i + 1))) := fun i h1 h2 => pR_S (or := fun x y => x ||| y) lS_rf (fun x y z => lS_tr) lS_orl (fun x y q hq hb => by rw [lbit_or, hb, Bool.or_true]) w.n40 (lnR_p (w.tr i h1 h2))
theorem ce_lb (hc : ceI F X G rs a b k) : ∀ i : Nat, a ≤ i → i < b → isL (F 0 i) → ∃ L : Nat, L < 1100 ∧ F 1 i = nI L := fun i h1 h2 h3 => by
  obtain ⟨L, l1, l2, -⟩ := hc.2.2 i h1 h2 h3
  exact ⟨L, l1, l2⟩
/-- a label's stack goes on -/
theorem ce_l (hc : ceI F X G rs a b k) {i : Nat} {s : List tE} (h1 : a ≤ i) (h2 : i < b) (hl : isL (F 0 i)) (hs : k i = some s) : k (i + 1) = some s := by
  rcases hl with z | z
  · exact ce_op (o := 13) hc h1 h2 hs z (by decide)
  · exact ce_op (o := 14) hc h1 h2 hs z (by decide)
theorem isL_nI {o : Nat} (ho : o < 33) (h : isL (nI o)) : o = 13 ∨ o = 14 := by
  rcases h with z | z
  · exact Or.inl (nI_33 ho (by omega) z)
  · exact Or.inr (nI_33 ho (by omega) z)
/-- one instruction, not a label, that is reached -/
theorem lnW_1 (w : lnW F X G rs a b k C Q h) {i : Nat} {s : List tE} (h1 : a ≤ i) (h2 : i < b) (hl : ¬ isL (F 0 i)) (ha : (h i).2.2.2.1 ≠ 0) (hs : k i = some s) : ∃ o : Nat, o < 33 ∧ F 0 i = nI o ∧ lnLk F C Q i (h i) (h (i + 1)) o ∧ po F G i o ≤ wl s ∧ (nu o → ∀ r : List tE, k (i + 1) = some r → wl r + po F G i o = wl s + psh o) ∧ (¬ nu o → wl s ≤ po F G i o) ∧ ((psh o = 0 ∧ lnN (h (i + 1)) = lnN (h i) - po F G i o ∧ lnF (h (i + 1)) = lnF (h i)) ∨ (psh o = 1 ∧ ∃ x : Int64, psR (lnF (h i)) (lnN (h i) - po F G i o) x (lnF (h (i + 1))) (lnN (h (i + 1))))) := by
  obtain ⟨o, ho, h33, hr⟩ := w.tr i h1 h2
  rcases hr with ⟨hl2, -⟩ | ⟨n13, n14, hr⟩
  · exact absurd (by rw [ho]; rcases hl2 with z | z <;> rw [z]; exact Or.inl rfl; exact Or.inr rfl) hl
  · rcases hr with ⟨z, -⟩ | ⟨-, hk⟩
    · exact absurd z ha
    · have hop := ce_op w.ce h1 h2 hs ho h33
      obtain ⟨q1, q2, q3⟩ := wl_step o hop
      refine ⟨o, h33, ho, hk, q1, q2, q3, lnE w.hG (fun e => ?_) (fun g hg => by have := w.nb40; omega) o ho h33 hk⟩
      have e22 : o = 22 := nI_33 h33 (by omega) (ho.symm.trans e)
      subst e22
      obtain ⟨T, O, -, -, -, h4, -⟩ := hop
      rcases h4 with ⟨q, -⟩ | ⟨q, -⟩
      · exact Or.inr q
      · exact Or.inl q
theorem nu_sh {o : Nat} (ho : o < 33) (h : ¬ nu o) : psh o = 0 := by
  by_cases e1 : o = 15
  · rw [e1]; rfl
  by_cases e2 : o = 16
  · rw [e2]; rfl
  by_cases e3 : o = 20
  · rw [e3]; rfl
  by_cases e4 : o = 22
  · rw [e4]; rfl
  exact absurd ⟨e1, e2, e3, e4⟩ h
/-- of temps there are at most as many as values stand in the stack; where no way comes: none -/
theorem lnW_T (w : lnW F X G rs a b k C Q h) : ∀ d i : Nat, i = a + d → i ≤ b → ((h i).2.2.2.1 ≠ 0 → ∀ s : List tE, i < b → k i = some s → lnN (h i) ≤ wl s) ∧ ((h i).2.2.2.1 = 0 → lnN (h i) = 0)
  | 0, i, e, hb => by
    rw [show i = a by omega, w.t0]
    exact ⟨fun _ s _ _ => Nat.zero_le _, fun _ => rfl⟩
  | d + 1, i, e, hb => by
    obtain ⟨j, rfl⟩ : ∃ j : Nat, i = j + 1 := ⟨a + d, by omega⟩
    obtain ⟨q1, q2⟩ := lnW_T w d j (by omega) (by omega)
    have hj1 : a ≤ j := by omega
    have hj2 : j < b := by omega
    by_cases c : isL (F 0 j)
    · obtain ⟨o, ho, h33, hr⟩ := w.tr j hj1 hj2
      rcases hr with ⟨hl2, L, l1, l2, l3, l4, l5, hr⟩ | ⟨n13, n14, hr⟩
      · have en : lnN (h (j + 1)) = lnN (h j) := by unfold lnN; rw [l5]
        rw [en]
        rcases hr with ⟨r1, r2⟩ | ⟨r1, r2, r3⟩
        · rw [r2]
          refine ⟨fun z s z2 z3 => ?_, q2⟩
          obtain ⟨s0, hs0⟩ := w.al j hj1 hj2 z
          have := ce_l w.ce hj1 hj2 c hs0
          rw [z3] at this
          rw [some_i this]
          exact q1 z s0 hj2 hs0
        · refine ⟨fun _ s z2 z3 => ?_, fun z => absurd z (by rw [r3]; decide)⟩
          by_cases z : (h j).2.2.2.1 = 0
          · rw [q2 z]; exact Nat.zero_le _
          · obtain ⟨s0, hs0⟩ := w.al j hj1 hj2 z
            have := ce_l w.ce hj1 hj2 c hs0
            rw [z3] at this
            rw [some_i this]
            exact q1 z s0 hj2 hs0
      · rw [ho] at c
        rcases isL_nI h33 c with z | z
        · exact absurd z n13
        · exact absurd z n14
    · by_cases z : (h j).2.2.2.1 = 0
      · have e9 := (lnW_p w j hj1 hj2).2.2.2.1 c z
        obtain ⟨o, ho, h33, hr⟩ := w.tr j hj1 hj2
        rcases hr with ⟨hl2, -⟩ | ⟨n13, n14, hr⟩
        · exact absurd (by rw [ho]; rcases hl2 with z | z <;> rw [z]; exact Or.inl rfl; exact Or.inr rfl) c
        · rcases hr with ⟨-, hr⟩ | ⟨hr, -⟩
          · rw [hr]; exact ⟨fun y => absurd z y, q2⟩
          · exact absurd z hr
      · obtain ⟨s, hs⟩ := w.al j hj1 hj2 z
        obtain ⟨o, h33, ho, hk, p1, p2, p3, p4⟩ := lnW_1 w hj1 hj2 c z hs
        have hn := q1 z s hj2 hs
        have hpn := (lnW_p w j hj1 hj2).2.2.2.2.2.2.2 c z o h33 ho
        refine ⟨fun y r hb2 hr => ?_, fun y => ?_⟩
        · have hu : nu o := by
            by_cases q : nu o
            · exact q
            · exact absurd (hpn.2 q) y
          have e1 := p2 hu r hr
          rcases p4 with ⟨g1, g2, -⟩ | ⟨g1, x, g2⟩
          · omega
          · rcases g2 with ⟨g2, g3, -⟩ | ⟨g2, g3, -⟩ <;> omega
        · have hu : ¬ nu o := fun q => hpn.1 q y
          have e1 := p3 hu
          have e2 := nu_sh h33 hu
          rcases p4 with ⟨g1, g2, -⟩ | ⟨g1, -⟩ <;> omega
/-- from p, where no value stands, the code up to i goes on without a jump -/
def crn (F : tF) (k : Nat → Option (List tE)) (h : Nat → lnT) (a p i : Nat) : Prop := a ≤ p ∧ p ≤ i ∧ cA F (fun j => lnp (h j)) p ∧ (∃ s : List tE, k p = some s ∧ wl s = 0) ∧ ∀ m : Nat, p ≤ m → m < i → isL (F 0 m) ∨ ∃ o : Nat, o < 33 ∧ F 0 m = nI o ∧ nu o
/-- there the temps are as many as the values -/
theorem crn_T (w : lnW F X G rs a b k C Q h) {p : Nat} : ∀ d i : Nat, i = p + d → i < b → crn F k h a p i → cA F (fun j => lnp (h j)) i ∧ ∃ s : List tE, k i = some s ∧ lnN (h i) = wl s
  | 0, i, e, hb, hc => by
    obtain rfl : i = p := by omega
    obtain ⟨h1, h2, h3, ⟨s, h4, h5⟩, h6⟩ := hc
    refine ⟨h3, s, h4, ?_⟩
    obtain ⟨q1, q2⟩ := lnW_T w (i - a) i (by omega) (by omega)
    by_cases z : (h i).2.2.2.1 = 0
    · rw [q2 z, h5]
    · have := q1 z s hb h4
      omega
  | d + 1, i, e, hb, hc => by
    obtain ⟨j, rfl⟩ : ∃ j : Nat, i = j + 1 := ⟨p + d, by omega⟩
    obtain ⟨h1, h2, h3, h4, h6⟩ := hc
    have hj2 : j < b := by omega
    obtain ⟨q1, s, q2, q3⟩ := crn_T w d j (by omega) hj2 ⟨h1, by omega, h3, h4, fun m m1 m2 => h6 m m1 (by omega)⟩
    have hfall := c_fall (le := lS) (h := fun j => lnp (h j)) lS_rf (lnW_p w) (ce_lb w.ce) (show a ≤ j by omega) hb q1 (fun hn => (h6 j (by omega) (by omega)).resolve_left hn)
    refine ⟨hfall.1, ?_⟩
    by_cases c : isL (F 0 j)
    · refine ⟨s, ce_l w.ce (by omega) hj2 c q2, ?_⟩
      obtain ⟨o, ho, h33, hr⟩ := w.tr j (by omega) hj2
      rcases hr with ⟨hl2, L, l1, l2, l3, l4, l5, hr⟩ | ⟨n13, n14, hr⟩
      · rw [← q3]; unfold lnN; rw [l5]
      · rw [ho] at c
        rcases isL_nI h33 c with z | z
        · exact absurd z n13
        · exact absurd z n14
    · have hal : (h j).2.2.2.1 ≠ 0 := (cA_n (h := fun j => lnp (h j)) c).mp q1
      obtain ⟨o, h33, ho, hk, p1, p2, p3, p4⟩ := lnW_1 w (by omega) hj2 c hal q2
      obtain ⟨o2, o3, o4, o5⟩ := (h6 j (by omega) (by omega)).resolve_left c
      obtain rfl : o = o2 := nI_33 h33 o3 (ho.symm.trans o4)
      have hv : wl s ≤ 211 := Nat.le_trans wl_vl_le (w.v211 j s (by omega) hj2 q2)
      obtain ⟨r, hr⟩ : ∃ r : List tE, k (j + 1) = some r := by
        cases e9 : k (j + 1) with
        | some r => exact ⟨r, rfl⟩
        | none =>
          rcases iOp_nx e9 o (ce_op w.ce (by omega) hj2 q2 ho h33) with z | z | z | z
          · exact absurd z o5.1
          · exact absurd z o5.2.1
          · exact absurd z o5.2.2.1
          · exact absurd z o5.2.2.2
      refine ⟨r, hr, ?_⟩
      have e1 := p2 o5 r hr
      rcases p4 with ⟨g1, g2, -⟩ | ⟨g1, x, g2⟩
      · omega
      · rcases g2 with ⟨g2, g3, -⟩ | ⟨g2, g3, -⟩ <;> omega
/-- a short cut: over code that keeps the n values below -/
theorem crn_J (w : lnW F X G rs a b k C Q h) {p i n : Nat} (hp : crn F k h a p (i + 1)) : ∀ d j : Nat, j = i + 1 + d → j < b → rgn F G k i j n → crn F k h a p j ∧ ∀ m : Nat, m + 1 < n → lnF (h j) m = lnF (h (i + 1)) m
  | 0, j, e, hb, hr => by
    obtain rfl : j = i + 1 := by omega
    exact ⟨hp, fun _ _ => rfl⟩
  | d + 1, j, e, hb, hr => by
    obtain ⟨m, rfl⟩ : ∃ m : Nat, j = m + 1 := ⟨i + 1 + d, by omega⟩
    have hm2 : m < b := by omega
    obtain ⟨q1, q2⟩ := crn_J w hp d m (by omega) hm2 (fun m2 o s g1 g2 => hr m2 o s g1 (by omega))
    obtain ⟨t1, s, t2, t3⟩ := crn_T w (m - p) m (by have := q1.2.1; omega) hm2 q1
    have ham : a ≤ m := by have := q1.1; have := q1.2.1; omega
    by_cases c : isL (F 0 m)
    · refine ⟨⟨q1.1, by have := q1.2.1; omega, q1.2.2.1, q1.2.2.2.1, fun m2 g1 g2 => ?_⟩, fun m2 g1 => ?_⟩
      · by_cases e9 : m2 = m
        · rw [e9]; exact Or.inl c
        · exact q1.2.2.2.2 m2 g1 (by omega)
      · rw [← q2 m2 g1]
        obtain ⟨o, ho, h33, hr9⟩ := w.tr m ham hm2
        rcases hr9 with ⟨hl2, L, l1, l2, l3, l4, l5, -⟩ | ⟨n13, n14, -⟩
        · unfold lnF; rw [l5]
        · rw [ho] at c
          rcases isL_nI h33 c with z | z
          · exact absurd z n13
          · exact absurd z n14
    · have hal : (h m).2.2.2.1 ≠ 0 := (cA_n (h := fun j => lnp (h j)) c).mp t1
      obtain ⟨o, h33, ho, hk, p1, p2, p3, p4⟩ := lnW_1 w ham hm2 c hal t2
      obtain ⟨g1, g2⟩ := hr m o s (by omega) (by omega) t2 h33 ho
      refine ⟨⟨q1.1, by have := q1.2.1; omega, q1.2.2.1, q1.2.2.2.1, fun m2 x1 x2 => ?_⟩, fun m2 x1 => ?_⟩
      · by_cases e9 : m2 = m
        · rw [e9]; exact Or.inr ⟨o, h33, ho, g2⟩
        · exact q1.2.2.2.2 m2 x1 (by omega)
      · rw [← q2 m2 x1]
        rcases p4 with ⟨-, -, y3⟩ | ⟨-, x, y2⟩
        · rw [y3]
        · rcases y2 with ⟨-, -, y4⟩ | ⟨-, -, y4⟩
          · rw [y4]; exact pk_uLn (by omega)
          · rw [y4]
end
