/-- a pass over the code: of variables, of labels' rows, which labels are reached, is the place reached, again -/
abbrev pT (α : Type) := (Nat → α) × (Nat → α) × (Nat → Int32) × Int32 × Int32
/-- instruction i may jump ahead to label L -/
def tgt (F : tF) (i L : Nat) : Prop := ((F 0 i = 16 ∨ F 0 i = 17 ∨ F 0 i = 18 ∨ F 0 i = 19) ∧ F 1 i = nI L) ∨ (F 0 i = 20 ∧ ∃ tb c g : Nat, F 1 i = nI tb ∧ F 3 i = nI c ∧ tb ≤ 3002 ∧ c ≤ 12 ∧ g < c ∧ F 13 (tb + g) = nI L)
/-- one instruction of a pass: what is common -/
def pS {α : Type} (le : α → α → Prop) (F : tF) (n i : Nat) (s t : pT α) : Prop :=
  (∀ j : Nat, le (s.2.1 j) (t.2.1 j)) ∧ (∀ L : Nat, s.2.2.1 L ≠ 0 → t.2.2.1 L ≠ 0) ∧
  (isL (F 0 i) → ∀ L : Nat, L < 1100 → F 1 i = nI L → t.2.1 = s.2.1 ∧ t.2.2.1 = s.2.2.1 ∧ t.2.2.2.2 = s.2.2.2.2 ∧ (s.2.2.1 L = 0 → t.1 = s.1 ∧ t.2.2.2.1 = s.2.2.2.1) ∧ (s.2.2.1 L ≠ 0 → t.2.2.2.1 ≠ 0 ∧ ∀ v : Nat, v < n → le (s.2.1 (L * 40 + v)) (t.1 v) ∧ (s.2.2.2.1 ≠ 0 → le (s.1 v) (t.1 v)))) ∧
  (¬ isL (F 0 i) → s.2.2.2.1 = 0 → t = s) ∧
  (¬ isL (F 0 i) → s.2.2.2.1 ≠ 0 → ∀ L : Nat, L < 1100 → tgt F i L → t.2.2.1 L ≠ 0 ∧ ∀ v : Nat, v < n → le (s.1 v) (t.2.1 (L * 40 + v))) ∧
  (s.2.2.2.1 ≠ 0 → F 0 i = 15 → t.2.2.2.2 = 0 → ∀ L : Nat, L < 1100 → F 1 i = nI L → s.2.2.1 L ≠ 0 ∧ ∀ v : Nat, v < n → le (s.1 v) (s.2.1 (L * 40 + v))) ∧
  (t.2.2.2.2 = 0 → s.2.2.2.2 = 0 ∧ ∀ L : Nat, L < 1100 → ¬ tgt F i L → (∀ v : Nat, v < n → t.2.1 (L * 40 + v) = s.2.1 (L * 40 + v)) ∧ (t.2.2.1 L ≠ 0 → s.2.2.1 L ≠ 0)) ∧
  (¬ isL (F 0 i) → s.2.2.2.1 ≠ 0 → ∀ o : Nat, o < 33 → F 0 i = nI o → (nu o → t.2.2.2.1 ≠ 0) ∧ (¬ nu o → t.2.2.2.1 = 0))
section
variable {α : Type} {le : α → α → Prop} {F : tF} {n a b : Nat} {h : Nat → pT α}
theorem pS_ag (hp : ∀ i : Nat, a ≤ i → i < b → pS le F n i (h i) (h (i + 1))) (h0 : (h b).2.2.2.2 = 0) : ∀ d i : Nat, a ≤ i → i + d = b → (h i).2.2.2.2 = 0
  | 0, i, _, e => by rw [show i = b by omega]; exact h0
  | d + 1, i, ha, e => ((hp i ha (by omega)).2.2.2.2.2.2.1 (pS_ag hp h0 d (i + 1) (by omega) (by omega))).1
theorem pS_gr (hrf : ∀ x : α, le x x) (htr : ∀ x y z : α, le x y → le y z → le x z) (hp : ∀ i : Nat, a ≤ i → i < b → pS le F n i (h i) (h (i + 1))) : ∀ d i : Nat, a ≤ i → i + d ≤ b → (∀ j : Nat, le ((h i).2.1 j) ((h (i + d)).2.1 j)) ∧ ∀ L : Nat, (h i).2.2.1 L ≠ 0 → (h (i + d)).2.2.1 L ≠ 0
  | 0, i, _, _ => ⟨fun j => hrf _, fun L q => q⟩
  | d + 1, i, ha, e => by
    obtain ⟨q1, q2⟩ := pS_gr hrf htr hp d i ha (by omega)
    have q := hp (i + d) (by omega) (by omega)
    exact ⟨fun j => htr _ _ _ (q1 j) (q.1 j), fun L z => q.2.1 L (q2 L z)⟩
/-- the state ahead of instruction i, behind its join if it is a label -/
def cS (F : tF) (h : Nat → pT α) (i : Nat) : Nat → α := if F 0 i = 13 ∨ F 0 i = 14 then (h (i + 1)).1 else (h i).1
def cA (F : tF) (h : Nat → pT α) (i : Nat) : Prop := (if F 0 i = 13 ∨ F 0 i = 14 then (h (i + 1)).2.2.2.1 else (h i).2.2.2.1) ≠ 0
theorem cS_l {i : Nat} (q : isL (F 0 i)) : cS F h i = (h (i + 1)).1 := if_pos q
theorem cS_n {i : Nat} (q : ¬ isL (F 0 i)) : cS F h i = (h i).1 := if_neg q
theorem cA_l {i : Nat} (q : isL (F 0 i)) : cA F h i ↔ (h (i + 1)).2.2.2.1 ≠ 0 := by unfold cA; rw [if_pos (show F 0 i = 13 ∨ F 0 i = 14 from q)]
theorem cA_n {i : Nat} (q : ¬ isL (F 0 i)) : cA F h i ↔ (h i).2.2.2.1 ≠ 0 := by unfold cA; rw [if_neg (show ¬ (F 0 i = 13 ∨ F 0 i = 14) from q)]
/-- what comes behind instruction i goes into the next one -/
theorem c_fall (hrf : ∀ x : α, le x x) (hp : ∀ i : Nat, a ≤ i → i < b → pS le F n i (h i) (h (i + 1))) (hlb : ∀ i : Nat, a ≤ i → i < b → isL (F 0 i) → ∃ L : Nat, L < 1100 ∧ F 1 i = nI L) {i : Nat} (ha : a ≤ i) (hb : i + 1 < b) (hA : cA F h i) (hn : ¬ isL (F 0 i) → ∃ o : Nat, o < 33 ∧ F 0 i = nI o ∧ nu o) : cA F h (i + 1) ∧ ∀ v : Nat, v < n → le ((h (i + 1)).1 v) (cS F h (i + 1) v) := by
  have hi : (h (i + 1)).2.2.2.1 ≠ 0 := by
    by_cases c : isL (F 0 i)
    · exact (cA_l c).mp hA
    · obtain ⟨o, o1, o2, o3⟩ := hn c
      exact ((hp i ha (by omega)).2.2.2.2.2.2.2 c ((cA_n c).mp hA) o o1 o2).1 o3
  by_cases c : isL (F 0 (i + 1))
  · obtain ⟨L, l1, l2⟩ := hlb (i + 1) (by omega) hb c
    obtain ⟨-, -, -, q1, q2⟩ := (hp (i + 1) (by omega) hb).2.2.1 c L l1 l2
    rw [cA_l c, cS_l c]
    by_cases e : (h (i + 1)).2.2.1 L = 0
    · obtain ⟨e1, e2⟩ := q1 e
      rw [e2, e1]; exact ⟨hi, fun v _ => hrf _⟩
    · obtain ⟨e1, e2⟩ := q2 e
      exact ⟨e1, fun v hv => (e2 v hv).2 hi⟩
  · rw [cA_n c, cS_n c]; exact ⟨hi, fun v _ => hrf _⟩
/-- a jump ahead -/
theorem c_jump (hrf : ∀ x : α, le x x) (htr : ∀ x y z : α, le x y → le y z → le x z) (hp : ∀ i : Nat, a ≤ i → i < b → pS le F n i (h i) (h (i + 1))) {i j L : Nat} (ha : a ≤ i) (hij : i < j) (hb : j < b) (hA : cA F h i) (hn : ¬ isL (F 0 i)) (hL : L < 1100) (ht : tgt F i L) (hj : isL (F 0 j)) (hjL : F 1 j = nI L) : cA F h j ∧ ∀ v : Nat, v < n → le (cS F h i v) (cS F h j v) := by
  obtain ⟨q1, q2⟩ := (hp i ha (by omega)).2.2.2.2.1 hn ((cA_n hn).mp hA) L hL ht
  obtain ⟨g1, g2⟩ := pS_gr hrf htr hp (j - (i + 1)) (i + 1) (by omega) (by omega)
  rw [show i + 1 + (j - (i + 1)) = j by omega] at g1 g2
  obtain ⟨-, -, -, -, w2⟩ := (hp j (by omega) hb).2.2.1 hj L hL hjL
  obtain ⟨e1, e2⟩ := w2 (g2 L q1)
  rw [cA_l hj, cS_l hj, cS_n hn]
  exact ⟨e1, fun v hv => htr _ _ _ (q2 v hv) (htr _ _ _ (g1 _) (e2 v hv).1)⟩
/-- rows of a label that nothing jumps ahead to stay -/
theorem pS_kp (hp : ∀ i : Nat, a ≤ i → i < b → pS le F n i (h i) (h (i + 1))) (h0 : (h b).2.2.2.2 = 0) {L : Nat} (hL : L < 1100) (hno : ∀ i : Nat, a ≤ i → i < b → ¬ isL (F 0 i) → (h i).2.2.2.1 ≠ 0 → ¬ tgt F i L) (hlb : ∀ i : Nat, a ≤ i → i < b → isL (F 0 i) → ∃ M : Nat, M < 1100 ∧ F 1 i = nI M) : ∀ d i : Nat, a ≤ i → i + d ≤ b → (∀ v : Nat, v < n → (h (i + d)).2.1 (L * 40 + v) = (h i).2.1 (L * 40 + v)) ∧ ((h (i + d)).2.2.1 L ≠ 0 → (h i).2.2.1 L ≠ 0)
  | 0, i, _, _ => ⟨fun _ _ => rfl, fun q => q⟩
  | d + 1, i, ha, e => by
    obtain ⟨q1, q2⟩ := pS_kp hp h0 hL hno hlb d i ha (by omega)
    have q := hp (i + d) (by omega) (by omega)
    have key : (∀ v : Nat, v < n → (h (i + d + 1)).2.1 (L * 40 + v) = (h (i + d)).2.1 (L * 40 + v)) ∧ ((h (i + d + 1)).2.2.1 L ≠ 0 → (h (i + d)).2.2.1 L ≠ 0) := by
      by_cases c : isL (F 0 (i + d))
      · obtain ⟨M, m1, m2⟩ := hlb (i + d) (by omega) (by omega) c
        obtain ⟨e1, e2, -⟩ := q.2.2.1 c M m1 m2
        rw [e1, e2]; exact ⟨fun _ _ => rfl, fun z => z⟩
      · by_cases c2 : (h (i + d)).2.2.2.1 = 0
        · rw [q.2.2.2.1 c c2]; exact ⟨fun _ _ => rfl, fun z => z⟩
        · exact (q.2.2.2.2.2.2.1 (pS_ag hp h0 (b - (i + d + 1)) (i + d + 1) (by omega) (by omega))).2 L hL (hno (i + d) (by omega) (by omega) c c2)
    exact ⟨fun v hv => (key.1 v hv).trans (q1 v hv), fun z => q2 (key.2 z)⟩
/-- the way back of a loop -/
theorem c_loop (hrf : ∀ x : α, le x x) (htr : ∀ x y z : α, le x y → le y z → le x z) (hp : ∀ i : Nat, a ≤ i → i < b → pS le F n i (h i) (h (i + 1))) (h0 : (h b).2.2.2.2 = 0) (hlb : ∀ i : Nat, a ≤ i → i < b → isL (F 0 i) → ∃ M : Nat, M < 1100 ∧ F 1 i = nI M) {i j L : Nat} (hno : ∀ m : Nat, a ≤ m → m < b → ¬ isL (F 0 m) → (h m).2.2.2.1 ≠ 0 → ¬ tgt F m L) (ha : a ≤ j) (hji : j ≤ i) (hb : i < b) (hA : cA F h i) (h15 : F 0 i = 15) (hL : L < 1100) (hiL : F 1 i = nI L) (hj : isL (F 0 j)) (hjL : F 1 j = nI L) : cA F h j ∧ ∀ v : Nat, v < n → le (cS F h i v) (cS F h j v) := by
  have hn : ¬ isL (F 0 i) := by rw [h15]; unfold isL; decide
  obtain ⟨q1, q2⟩ := (hp i (by omega) hb).2.2.2.2.2.1 ((cA_n hn).mp hA) h15 (pS_ag hp h0 (b - (i + 1)) (i + 1) (by omega) (by omega)) L hL hiL
  obtain ⟨g1, g2⟩ := pS_kp hp h0 hL hno hlb (i - j) j ha (by omega)
  rw [show j + (i - j) = i by omega] at g1 g2
  obtain ⟨-, -, -, -, w2⟩ := (hp j ha (by omega)).2.2.1 hj L hL hjL
  obtain ⟨e1, e2⟩ := w2 (g2 q1)
  rw [cA_l hj, cS_l hj, cS_n hn]
  exact ⟨e1, fun v hv => htr _ _ _ (q2 v hv) (by rw [g1 v hv]; exact (e2 v hv).1)⟩
end
