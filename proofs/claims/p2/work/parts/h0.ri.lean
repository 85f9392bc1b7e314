/-- one function was looked over -/
def lkD (nb : Nat) (G : Nat → Nat → Nat) (fc : Nat → Nat → Int32) (fr : Nat → Nat → Nat → Int32) (Z T : tgS) (a b : Nat) (k : Nat → Option (List tE)) (g : Nat) : Prop := ∃ (em : Nat → Int32) (r8 r9 : Int32), mvF (gF Z T) k a b (T.1 4) (G g 0) (T.2 15) em (Z.2 22) r8 ∧ r8 < 0 ∧ lnFa (gF Z T) k a b (T.1 4) (G g 0) (T.1 5) nb (Z.2 20) (T.2 15) (T.2 18) (T.2 19) (fr g 1) (nI (G g 1)) (fc g 6) fc fr r9 ∧ r9 < 0
/-- what is known while the functions are looked over, up to i -/
def lkP (yp nb tt : Nat) (X : tF) (G : Nat → Nat → Nat) (lo : Nat → Nat) (fc : Nat → Nat → Int32) (fr : Nat → Nat → Nat → Int32) (Z : tgS) (T : Nat → tgS) (aa bb lf lt : Nat → Nat) (kk : Nat → Nat → Option (List tE)) (i : Nat) : Prop :=
  (pgI yp nb tt nb X G lo fc fr Z ∧ nb ≤ 40 ∧ (szI yp yp (X 5) ∧ msI yp (X 7) (X 0) (X 1) (X 5) (X 2) (X 3) ∧ shQ yp (cN (X 6 0)) (X 7) X ∧ 34 ≤ cN (X 6 0)) ∧ hdI nb G fc fr ∧ (∀ g : Nat, g < nb → G g 1 = 0 ∨ tyV yp (Z.1 7) (Z.2 20) (G g 1)) ∧ (∀ g : Nat, g < 40 → G g 1 < 3040 → g < nb)) ∧
  (∀ g : Nat, g < nb → (∀ q : Nat, q < G g 0 → fr g 1 q < 0 ∨ ∃ w : Nat, w < 8 ∧ fr g 1 q = nI w) ∧ (fc g 6 < 0 ∨ ∃ w : Nat, w < 8 ∧ fc g 6 = nI w) ∧ ∃ lv : Nat, fc g 2 = nI lv) ∧
  (∀ g : Nat, g < nb → gC yp X G g (fc g) (fr g) Z (T g) (aa g) (bb g) (lf g) (lt g) (kk g)) ∧ i ≤ nb ∧ ∀ g : Nat, g < i → lkD nb G fc fr Z (T g) (aa g) (bb g) (kk g) g
section
variable {yp nb tt i : Nat} {X : tF} {G : Nat → Nat → Nat} {lo : Nat → Nat} {fc : Nat → Nat → Int32} {fr : Nat → Nat → Nat → Int32} {Z : tgS} {T : Nat → tgS} {aa bb lf lt : Nat → Nat} {kk : Nat → Nat → Option (List tE)}
theorem lkP_O (h : lkP yp nb tt X G lo fc fr Z T aa bb lf lt kk nb) : lkO yp nb tt X G lo fc fr Z := by
  obtain ⟨⟨h1, h2, h3, h4, h5, h6⟩, h7, h8, -, h9⟩ := h
  exact ⟨h1, h2, h3, h4, h5, h6, h7, T, aa, bb, lf, lt, kk, h8, h9⟩
theorem lkP_S (h : lkP yp nb tt X G lo fc fr Z T aa bb lf lt kk i) (hi : i < nb) (hd : lkD nb G fc fr Z (T i) (aa i) (bb i) (kk i) i) : lkP yp nb tt X G lo fc fr Z T aa bb lf lt kk (i + 1) := by
  obtain ⟨h1, h7, h8, -, h9⟩ := h
  refine ⟨h1, h7, h8, hi, fun g hg => ?_⟩
  by_cases e : g = i
  · rw [e]; exact hd
  · exact h9 g (by omega)
/-- reached calls and variants, for Loans -/
theorem lk_12 {F : tF} {rs a b : Nat} {k : Nat → Option (List tE)} (hc : ceI F X G rs a b k) (hGb : ∀ g : Nat, g < 40 → G g 1 < 3040 → g < nb) : ∀ i : Nat, a ≤ i → i < b → (∃ r : List tE, k i = some r) → (F 0 i = 12 → ∃ n : Nat, n ≤ 12 ∧ F 2 i = nI n) ∧ (F 0 i = 21 → ∃ g : Nat, F 1 i = nI g ∧ g < nb) := fun i ha hb hk => by
  obtain ⟨s, hs⟩ := hk
  refine ⟨fun ho => ?_, fun ho => ?_⟩
  · obtain ⟨sh, g, n, r, -, -, -, -, -, h12, h2, -⟩ := ce_op hc ha hb hs (show F 0 i = nI 12 from ho) (by decide)
    exact ⟨n, h12, h2⟩
  · obtain ⟨g, r, ⟨h1, h2⟩, h3, -⟩ := ce_op hc ha hb hs (show F 0 i = nI 21 from ho) (by decide)
    exact ⟨g, h3, hGb g h1 h2⟩
/-- the functions' codes, chosen -/
theorem lk_beg (hp : pgI yp nb tt nb X G lo fc fr Z) (htt : tt ≤ 1300) (hnb : nb ≤ 40) (hs : szI yp yp (X 5) ∧ msI yp (X 7) (X 0) (X 1) (X 5) (X 2) (X 3) ∧ shQ yp (cN (X 6 0)) (X 7) X ∧ 34 ≤ cN (X 6 0)) (hd : hdI nb G fc fr) (hG : ∀ g : Nat, g < nb → G g 1 = 0 ∨ tyV yp (cN (X 6 0)) (X 7) (G g 1)) (hGb : ∀ g : Nat, g < 40 → G g 1 < 3040 → g < nb) (hlf : ∀ g : Nat, g < nb → (∀ q : Nat, q < G g 0 → fr g 1 q < 0 ∨ ∃ w : Nat, w < 8 ∧ fr g 1 q = nI w) ∧ (fc g 6 < 0 ∨ ∃ w : Nat, w < 8 ∧ fc g 6 = nI w) ∧ ∃ lv : Nat, fc g 2 = nI lv) : ∃ (T : Nat → tgS) (aa bb lf lt : Nat → Nat) (kk : Nat → Nat → Option (List tE)), lkP yp nb tt X G lo fc fr Z T aa bb lf lt kk 0 := by
  have hch : ∀ g : Nat, ∃ w : tgS × Nat × Nat × Nat × Nat × (Nat → Option (List tE)), g < nb → gC yp X G g (fc g) (fr g) Z w.1 w.2.1 w.2.2.1 w.2.2.2.1 w.2.2.2.2.1 w.2.2.2.2.2 := fun g => by
    by_cases hg : g < nb
    · obtain ⟨T, a, b, lf, lt, k, h, -⟩ := gC_of hp htt hg
      exact ⟨(T, a, b, lf, lt, k), fun _ => h⟩
    · exact ⟨(Z, 0, 0, 0, 0, fun _ => none), fun q => absurd q hg⟩
  obtain ⟨w, hw⟩ := Classical.axiomOfChoice hch
  have hp2 := hp
  obtain ⟨-, -, -, -, -, -, z1, z2⟩ := hp2
  refine ⟨fun g => (w g).1, fun g => (w g).2.1, fun g => (w g).2.2.1, fun g => (w g).2.2.2.1, fun g => (w g).2.2.2.2.1, fun g => (w g).2.2.2.2.2, ⟨hp, hnb, hs, hd, fun g hg => (hG g hg).imp id (fun q => tyV_up q (fun t ht => (z2 t ht).2) z1), hGb⟩, hlf, hw, Nat.zero_le _, fun g hg => absurd hg (Nat.not_lt_zero _)⟩
end
