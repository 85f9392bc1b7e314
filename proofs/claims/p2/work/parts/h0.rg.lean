/-- the functions' heads, as the class's rows tell them; beyond nb a result that is no type -/
def gG (nb : Nat) (fc : Nat → Nat → Int32) (fr : Nat → Nat → Nat → Int32) (g k : Nat) : Nat := if g < nb then (if k = 0 then cN (fc g 3) else if k = 1 then cN (fc g 5) else cN (fr g 3 (k - 2))) else 5000
section
variable {fk fi fn lF : Nat → Int32} {ps : Nat → Nat} {nq tt mq yp nb yt : Nat} {fm fst fv fpa fpt fof ak ao az ad ab ah au : Nat → Int32} {fc : Nat → Nat → Int32} {fr : Nat → Nat → Nat → Int32} {mi : Int32}
/-- a shape's item -/
theorem nSg_on : ∀ (mq s : Nat), (∀ j : Nat, j < mq → fi j = nI (ps j) ∧ ps j < 3002) → s + nFn fk fi mq < mq → ∃ j : Nat, j < mq ∧ fk (ps j) ≠ 7 ∧ j - nFn fk fi j = s
  | 0, s, _, h => absurd h (Nat.not_lt_zero _)
  | m + 1, s, hf, h => by
    have e := nFn_at (fk := fk) (fi := fi) (ps := ps) (j := m) (hf m (by omega)).1 (hf m (by omega)).2
    have h0 := nFn_0 (fk := fk) (fi := fi) m
    by_cases c : fk (ps m) = 7
    · rw [if_pos c] at e
      obtain ⟨j, j1, j2, j3⟩ := nSg_on m s (fun j hj => hf j (by omega)) (by omega)
      exact ⟨j, by omega, j2, j3⟩
    · rw [if_neg c] at e
      by_cases e2 : s = m - nFn fk fi m
      · exact ⟨m, by omega, c, e2.symm⟩
      · obtain ⟨j, j1, j2, j3⟩ := nSg_on m s (fun j hj => hf j (by omega)) (by omega)
        exact ⟨j, by omega, j2, j3⟩
theorem gG_0 {g : Nat} (h : g < nb) : gG nb fc fr g 0 = cN (fc g 3) := by unfold gG; rw [if_pos h, if_pos rfl]
theorem gG_1 {g : Nat} (h : g < nb) : gG nb fc fr g 1 = cN (fc g 5) := by unfold gG; rw [if_pos h, if_neg (by decide), if_pos rfl]
theorem gG_2 {g j : Nat} (h : g < nb) : gG nb fc fr g (j + 2) = cN (fr g 3 j) := by unfold gG; rw [if_pos h, if_neg (by omega), if_neg (by omega), show j + 2 - 2 = j by omega]
theorem gG_b {g : Nat} (h : gG nb fc fr g 1 < 3040) : g < nb := by
  rcases Nat.lt_or_ge g nb with q | q
  · exact q
  · have e : gG nb fc fr g 1 = 5000 := by unfold gG; rw [if_neg (by omega)]
    rw [e] at h; omega
/-- what Declarations tell of function g -/
theorem dc_fn (h : dcI fk fi fn lF ps nq tt mq yp nb yt fm fst fv fpa fpt fof ak ao az ad ab ah au fc fr mi) (hps : ∀ j : Nat, j < mq → fi j = nI (ps j) ∧ ps j + 1 < tt) (htt : tt ≤ 3001) {g : Nat} (hg : g < nb) : ∃ j : Nat, j < mq ∧ nFn fk fi j = g ∧ itF yp yt (ps (j + 1) + 1) ak fk lF (fc g) (fr g) (ps j + 1) := by
  obtain ⟨⟨r1, r2, r3, r4⟩, -⟩ := h
  obtain ⟨j, j1, j2, j3⟩ := nFn_on (fk := fk) (fi := fi) (ps := ps) mq g (fun j hj => ⟨(hps j hj).1, by have := (hps j hj).2; omega⟩) (by omega)
  obtain ⟨kn, a1, a2, a3⟩ := r4 j j1
  refine ⟨j, j1, j3, ?_⟩
  rcases a3 with ⟨-, -, a3⟩ | ⟨q, -⟩
  · rw [if_pos j1, j3] at a3; exact a3
  · exact absurd j2 q
theorem dc_ok (h : dcI fk fi fn lF ps nq tt mq yp nb yt fm fst fv fpa fpt fof ak ao az ad ab ah au fc fr mi) (hps : ∀ j : Nat, j < mq → fi j = nI (ps j) ∧ ps j + 1 < tt) (hin : ∀ j : Nat, j < mq → ps j < ps (j + 1)) (hend : ps mq < tt) (htt : tt ≤ 3001) : hdI nb (gG nb fc fr) fc fr ∧
    (∀ g : Nat, g < nb → (gG nb fc fr g 1 = 0 ∨ tyV yp yt ak (gG nb fc fr g 1)) ∧ ∀ j : Nat, j < gG nb fc fr g 0 → tyV yp yt ak (gG nb fc fr g (j + 2))) ∧
    (∃ lo hi : Nat → Nat, (∀ g : Nat, g < nb → ∃ p q b v lv : Nat, fc g 1 = nI p ∧ lo g < p ∧ q ≤ hi g ∧ b ≤ 54 ∧ gG nb fc fr g 0 + v ≤ 40 ∧ gBlk fk 16 lF p q b v ∧ fc g 2 = nI lv ∧ fc g 7 = nI (gG nb fc fr g 0) ∧ fc g 8 = 0 ∧ fc g 13 = 0 ∧ opI (gG nb fc fr g 0) (fr g 7)) ∧ (∀ g g2 : Nat, g < g2 → g2 < nb → hi g ≤ lo g2) ∧ ∀ g : Nat, g < nb → hi g < tt) ∧
    (∀ g : Nat, g < nb → (∀ q : Nat, q < gG nb fc fr g 0 → fr g 1 q < 0 ∨ ∃ w : Nat, w < 8 ∧ fr g 1 q = nI w) ∧ (fc g 6 < 0 ∨ ∃ w : Nat, w < 8 ∧ fc g 6 = nI w)) ∧
    (∃ m9 : Nat, m9 < nb ∧ mi = nI m9 ∧ gG nb fc fr m9 0 = 0) ∧ ∀ X : tF, X 0 = fv → X 1 = fpa → X 2 = fpt → shQ yp yt ak X := by
  have hyt : yt ≤ 3040 := h.2.1.2.1
  -- a function's numbers
  have key : ∀ g : Nat, g < nb → ∃ j lv np : Nat, j < mq ∧ nFn fk fi j = g ∧ fnG (fc g) (ps j + 1) lv np ∧ fnH yp yt (ps j + 1 - 1) (ps (j + 1) + 1) ak fk lF lv np (fr g 3) (fr g 1) (fc g 5) (fc g 6) (fc g 1) ∧ opI np (fr g 7) ∧ gG nb fc fr g 0 = np := fun g hg => by
    obtain ⟨j, j1, j2, lv, np, f1, f2, f3⟩ := dc_fn h hps htt hg
    have h12 := f2.2.1
    exact ⟨j, lv, np, j1, j2, f1, f2, f3, by rw [gG_0 hg, f1.2.2.1, cN_nI (by omega)]⟩
  have lf8 : ∀ (lv : Nat) (x : Int32), lv ≤ 8 → lfI lv x → x < 0 ∨ ∃ w : Nat, w < 8 ∧ x = nI w := fun lv x h8 hx => by
    rcases hx with q | ⟨w, w1, w2⟩
    · left; rw [q]; decide
    · exact Or.inr ⟨w, by omega, w2⟩
  refine ⟨fun g hg => ?_, fun g hg => ?_, ?_, fun g hg => ?_, ?_, fun X x0 x1 x2 sh hsh => ?_⟩
  · obtain ⟨j, lv, np, j1, j2, f1, ⟨g1, g2, g3, g4, -⟩, f3, e0⟩ := key g hg
    refine ⟨by rw [e0]; exact g2, ?_, by rw [e0]; exact f1.2.2.1, ?_, fun q hq => ?_⟩
    · rw [gG_1 hg]
      rcases g4 with ⟨q, -⟩ | ⟨⟨u, q, q2⟩, -⟩
      · rw [q]; decide
      · have := q2.2
        rw [q, cN_nI (by omega)]; omega
    · rw [gG_1 hg]
      rcases g4 with ⟨q, -⟩ | ⟨⟨u, q, q2⟩, -⟩
      · rw [q]; rfl
      · have := q2.2
        rw [q, cN_nI (by omega)]
    · rw [e0] at hq
      obtain ⟨⟨u, q1, q2⟩, -⟩ := g3 q hq
      have := q2.2
      rw [gG_2 hg, q1, cN_nI (by omega)]
      exact ⟨by omega, rfl⟩
  · obtain ⟨j, lv, np, j1, j2, f1, ⟨g1, g2, g3, g4, -⟩, f3, e0⟩ := key g hg
    refine ⟨?_, fun q hq => ?_⟩
    · rw [gG_1 hg]
      rcases g4 with ⟨q, -⟩ | ⟨⟨u, q, q2⟩, -⟩
      · left; rw [q]; rfl
      · right
        have := q2.2
        rw [q, cN_nI (by omega)]; exact q2
    · rw [e0] at hq
      obtain ⟨⟨u, q1, q2⟩, -⟩ := g3 q hq
      have := q2.2
      rw [gG_2 hg, q1, cN_nI (by omega)]; exact q2
  · have hch : ∀ g : Nat, ∃ j : Nat, g < nb → j < mq ∧ nFn fk fi j = g ∧ ∃ lv np : Nat, fnG (fc g) (ps j + 1) lv np ∧ fnH yp yt (ps j + 1 - 1) (ps (j + 1) + 1) ak fk lF lv np (fr g 3) (fr g 1) (fc g 5) (fc g 6) (fc g 1) ∧ opI np (fr g 7) ∧ gG nb fc fr g 0 = np := fun g => by
      by_cases hg : g < nb
      · obtain ⟨j, lv, np, j1, j2, f1, f2, f3, e0⟩ := key g hg
        exact ⟨j, fun _ => ⟨j1, j2, lv, np, f1, f2, f3, e0⟩⟩
      · exact ⟨0, fun q => absurd q hg⟩
    obtain ⟨jj, hj⟩ := Classical.axiomOfChoice hch
    have mono : ∀ a b : Nat, a ≤ b → b ≤ mq → ps a ≤ ps b := fun a b => by
      induction b with
      | zero => intro h1 _; rw [show a = 0 by omega]; exact Nat.le_refl _
      | succ b ih =>
        intro h1 h2
        by_cases e : a = b + 1
        · rw [e]; exact Nat.le_refl _
        · have := ih (by omega) (by omega)
          have := hin b (by omega)
          omega
    refine ⟨fun g => ps (jj g), fun g => ps (jj g + 1), fun g hg => ?_, fun g g2 h1 h2 => ?_, fun g hg => ?_⟩
    · obtain ⟨j1, j2, lv, np, f1, ⟨-, -, -, -, p, q, b, v, b1, b2, b3, b4, b5, b6, b7⟩, f3, e0⟩ := hj g hg
      rw [e0]
      exact ⟨p, q, b, v, lv, b1, (show ps (jj g) < p by omega), (show q ≤ ps (jj g + 1) by omega), b5, b6, b7, f1.2.1, f1.2.2.2.1, f1.2.2.2.2.1, f1.2.2.2.2.2, f3⟩
    · obtain ⟨j1, j2, -⟩ := hj g (by omega)
      obtain ⟨k1, k2, -⟩ := hj g2 h2
      have hlt : jj g < jj g2 := by
        rcases Nat.lt_or_ge (jj g) (jj g2) with q | q
        · exact q
        · have := (nFn_up (fk := fk) (fi := fi) q).1
          omega
      exact mono _ _ (by omega) (by omega)
    · obtain ⟨j1, -⟩ := hj g hg
      have := mono (jj g + 1) mq (by omega) (Nat.le_refl _)
      show ps (jj g + 1) < tt
      omega
  · obtain ⟨j, lv, np, j1, j2, f1, ⟨g1, g2, g3, g4, -⟩, f3, e0⟩ := key g hg
    refine ⟨fun q hq => ?_, ?_⟩
    · rw [e0] at hq
      exact lf8 lv _ g1 (g3 q hq).2
    · rcases g4 with ⟨-, q⟩ | ⟨-, q⟩
      · left; rw [q]; decide
      · exact lf8 lv _ g1 q
  · obtain ⟨m9, m1, m2, -, m4, -⟩ := h.2.2.2.2
    exact ⟨m9, m1, m2, by rw [gG_0 m1, m4]; rfl⟩
  · obtain ⟨⟨r1, r2, r3, r4⟩, hty, -⟩ := h
    obtain ⟨j, j1, j2, j3⟩ := nSg_on (fk := fk) (fi := fi) (ps := ps) mq sh (fun j hj => ⟨(hps j hj).1, by have := (hps j hj).2; omega⟩) (by omega)
    obtain ⟨kn, -, -, a3⟩ := r4 j j1
    rcases a3 with ⟨q, -⟩ | ⟨-, -, -, b1, b2⟩
    · exact absurd q j2
    · rw [if_pos j1, j3] at b2
      rw [j3] at b1
      obtain ⟨n, ⟨n1, n2⟩, n3, n4, n5⟩ := b2
      refine ⟨n, by rw [x0]; exact n4, n1, n3, fun h2 => n2 ?_, fun g hg => ?_⟩
      · by_cases c : fk (ps j) = 5
        · exact c
        · rw [if_neg c, h2] at b1; exact absurd b1 (by decide)
      · obtain ⟨m, m1, m2, m3⟩ := n5 g hg
        exact ⟨m, by rw [x1]; exact m2, m1, fun q hq => by rw [x2]; exact m3 q hq⟩
end
