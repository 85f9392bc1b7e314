/-- to a label: rv: whether it learnt something -/
def pSd {α : Type} (or : α → α → α) (n L : Nat) (s t : pT α) (rv : Int32) : Prop := t.1 = s.1 ∧ (∀ j : Nat, t.2.1 j = if L * 40 ≤ j ∧ j < L * 40 + n then or (s.2.1 j) (s.1 (j - L * 40)) else s.2.1 j) ∧ t.2.2.1 L ≠ 0 ∧ (∀ M : Nat, M ≠ L → t.2.2.1 M = s.2.2.1 M) ∧ t.2.2.2 = s.2.2.2 ∧ (rv = 0 → s.2.2.1 L ≠ 0 ∧ ∀ v : Nat, v < n → or (s.2.1 (L * 40 + v)) (s.1 v) = s.2.1 (L * 40 + v))
def pSw {α : Type} (or : α → α → α) (F : tF) (n tb : Nat) : Nat → pT α → pT α → Prop
  | 0, s, t => t = s
  | k + 1, s, t => ∃ (u : pT α) (L : Nat) (rv : Int32), pSw or F n tb k s u ∧ F 13 (tb + k) = nI L ∧ L < 1100 ∧ pSd or n L u t rv
def pFl {α : Type} (or : α → α → α) (F : tF) (n i : Nat) (s t : pT α) (o : Nat) : Prop :=
  (o = 15 → ∃ (L : Nat) (u : pT α) (rv : Int32), F 1 i = nI L ∧ L < 1100 ∧ pSd or n L s u rv ∧ t = (u.1, u.2.1, u.2.2.1, 0, if rv = 0 then (if s.2.2.2.2 = 0 then 0 else 1) else 1)) ∧
  (o = 16 → ∃ (L : Nat) (u : pT α) (rv : Int32), F 1 i = nI L ∧ L < 1100 ∧ pSd or n L s u rv ∧ t = (u.1, u.2.1, u.2.2.1, 0, s.2.2.2.2)) ∧
  (o = 17 ∨ o = 18 ∨ o = 19 → ∃ (L : Nat) (rv : Int32), F 1 i = nI L ∧ L < 1100 ∧ pSd or n L s t rv) ∧
  (o = 20 → ∃ (tb c : Nat) (u : pT α), F 1 i = nI tb ∧ F 3 i = nI c ∧ tb ≤ 3002 ∧ c ≤ 12 ∧ pSw or F n tb c s u ∧ t = (u.1, u.2.1, u.2.2.1, 0, s.2.2.2.2)) ∧
  (o = 22 → t.2 = (s.2.1, s.2.2.1, 0, s.2.2.2.2)) ∧
  (o ≠ 15 → o ≠ 16 → o ≠ 17 → o ≠ 18 → o ≠ 19 → o ≠ 20 → o ≠ 22 → t.2 = s.2)
def pR {α : Type} (or : α → α → α) (F : tF) (n i : Nat) (s t : pT α) : Prop := ∃ o : Nat, F 0 i = nI o ∧ o < 33 ∧ (((o = 13 ∨ o = 14) ∧ ∃ L : Nat, F 1 i = nI L ∧ L < 1100 ∧ t.2.1 = s.2.1 ∧ t.2.2.1 = s.2.2.1 ∧ t.2.2.2.2 = s.2.2.2.2 ∧ ((s.2.2.1 L = 0 ∧ t = s) ∨ (s.2.2.1 L ≠ 0 ∧ (∀ v : Nat, v < n → t.1 v = if s.2.2.2.1 = 0 then s.2.1 (L * 40 + v) else or (s.1 v) (s.2.1 (L * 40 + v))) ∧ t.2.2.2.1 = 1))) ∨ (o ≠ 13 ∧ o ≠ 14 ∧ ((s.2.2.2.1 = 0 ∧ t = s) ∨ (s.2.2.2.1 ≠ 0 ∧ pFl or F n i s t o))))
section
variable {α : Type} {or : α → α → α} {le : α → α → Prop} {F : tF} {n : Nat}
theorem pSd_ge (hrf : ∀ x : α, le x x) (h1 : ∀ x y : α, le x (or x y)) {L : Nat} {s t : pT α} {rv : Int32} (h : pSd or n L s t rv) : (∀ j : Nat, le (s.2.1 j) (t.2.1 j)) ∧ ∀ M : Nat, s.2.2.1 M ≠ 0 → t.2.2.1 M ≠ 0 := by
  refine ⟨fun j => ?_, fun M hM => ?_⟩
  · rw [h.2.1 j]
    by_cases c : L * 40 ≤ j ∧ j < L * 40 + n
    · rw [if_pos c]; exact h1 _ _
    · rw [if_neg c]; exact hrf _
  · by_cases e : M = L
    · rw [e]; exact h.2.2.1
    · rw [h.2.2.2.1 M e]; exact hM
theorem pSd_at (h2 : ∀ x y : α, le y (or x y)) {L : Nat} {s t : pT α} {rv : Int32} (h : pSd or n L s t rv) : ∀ v : Nat, v < n → le (s.1 v) (t.2.1 (L * 40 + v)) := fun v hv => by
  rw [h.2.1 (L * 40 + v), if_pos (by omega), show L * 40 + v - L * 40 = v by omega]
  exact h2 _ _
theorem pSd_ne (hn : n ≤ 40) {L M : Nat} {s t : pT α} {rv : Int32} (h : pSd or n L s t rv) (e : M ≠ L) : (∀ v : Nat, v < n → t.2.1 (M * 40 + v) = s.2.1 (M * 40 + v)) ∧ t.2.2.1 M = s.2.2.1 M :=
  ⟨fun v hv => by rw [h.2.1, if_neg (by omega)], h.2.2.2.1 M e⟩
theorem pSw_al (hrf : ∀ x : α, le x x) (htr : ∀ x y z : α, le x y → le y z → le x z) (h1 : ∀ x y : α, le x (or x y)) (h2 : ∀ x y : α, le y (or x y)) (hn : n ≤ 40) {tb : Nat} : ∀ {c : Nat} {s t : pT α}, pSw or F n tb c s t → t.1 = s.1 ∧ t.2.2.2 = s.2.2.2 ∧ (∀ j : Nat, le (s.2.1 j) (t.2.1 j)) ∧ (∀ M : Nat, s.2.2.1 M ≠ 0 → t.2.2.1 M ≠ 0) ∧ (∀ g L : Nat, g < c → F 13 (tb + g) = nI L → L < 1100 → t.2.2.1 L ≠ 0 ∧ ∀ v : Nat, v < n → le (s.1 v) (t.2.1 (L * 40 + v))) ∧ ∀ M : Nat, M < 1100 → (∀ g : Nat, g < c → F 13 (tb + g) ≠ nI M) → (∀ v : Nat, v < n → t.2.1 (M * 40 + v) = s.2.1 (M * 40 + v)) ∧ t.2.2.1 M = s.2.2.1 M
  | 0, s, t, h => by
    obtain rfl : t = s := h
    exact ⟨rfl, rfl, fun _ => hrf _, fun _ q => q, fun g L hg => absurd hg (by omega), fun _ _ _ => ⟨fun _ _ => rfl, rfl⟩⟩
  | c + 1, s, t, h => by
    obtain ⟨u, L, rv, g1, g2, g3, g4⟩ := h
    obtain ⟨e1, e2, e3, e4, e5, e6⟩ := pSw_al hrf htr h1 h2 hn g1
    have k := pSd_ge hrf h1 g4
    refine ⟨g4.1.trans e1, g4.2.2.2.2.1.trans e2, fun j => htr _ _ _ (e3 j) (k.1 j), fun M q => k.2 M (e4 M q), fun g M hg hM hM2 => ?_, fun M hM q => ?_⟩
    · by_cases e : M = L
      · subst e
        exact ⟨g4.2.2.1, fun v hv => by have := pSd_at h2 g4 v hv; rw [e1] at this; exact this⟩
      · have hgc : g < c := by
          rcases Nat.lt_or_ge g c with z | z
          · exact z
          · rw [show g = c by omega] at hM
            exact absurd ((nI_eq (a := L) (b := M) (by omega) (by omega)).mp (g2.symm.trans hM)).symm e
        obtain ⟨x1, x2⟩ := e5 g M hgc hM hM2
        obtain ⟨y1, y2⟩ := pSd_ne hn g4 e
        exact ⟨by rw [y2]; exact x1, fun v hv => by rw [y1 v hv]; exact x2 v hv⟩
    · have e : M ≠ L := fun z => q c (by omega) (by rw [g2, z])
      obtain ⟨x1, x2⟩ := e6 M hM (fun g hg => q g (by omega))
      obtain ⟨y1, y2⟩ := pSd_ne hn g4 e
      exact ⟨fun v hv => (y1 v hv).trans (x1 v hv), y2.trans x2⟩
theorem nI_33 {o p : Nat} (h1 : o < 33) (h2 : p < 33) (h : nI o = nI p) : o = p := (nI_eq (by omega) (by omega)).mp h
theorem pR_S (hrf : ∀ x : α, le x x) (htr : ∀ x y z : α, le x y → le y z → le x z) (h1 : ∀ x y : α, le x (or x y)) (h2 : ∀ x y : α, le y (or x y)) (hn : n ≤ 40) {i : Nat} {s t : pT α} (h : pR or F n i s t) : pS le F n i s t := by
  obtain ⟨o, ho, h33, h⟩ := h
  rcases h with ⟨hl, L, L1, L2, r1, r2, r3, h⟩ | ⟨n13, n14, h⟩
  · have hil : isL (F 0 i) := by rcases hl with z | z <;> rw [ho, z]; exact Or.inl rfl; exact Or.inr rfl
    have hng : ∀ M : Nat, ¬ tgt F i M := fun M q => by
      rcases q with ⟨q, -⟩ | ⟨q, -⟩
      · rw [ho] at q
        rcases hl with z | z <;> rw [z] at q <;> exact absurd q (by decide)
      · rw [ho] at q
        rcases hl with z | z <;> rw [z] at q <;> exact absurd q (by decide)
    refine ⟨fun j => by rw [r1]; exact hrf _, fun M q => by rw [r2]; exact q, fun _ M m1 m2 => ?_, fun q => absurd hil q, fun q => absurd hil q, fun _ q => ?_, fun q => ⟨by rw [← r3]; exact q, fun M m1 m2 => ⟨fun v hv => by rw [r1], fun z => by rw [← r2]; exact z⟩⟩, fun q => absurd hil q⟩
    · obtain rfl : L = M := (nI_eq (a := L) (b := M) (by omega) (by omega)).mp (L1.symm.trans m2)
      refine ⟨r1, r2, r3, fun z => ?_, fun z => ?_⟩
      · rcases h with ⟨-, h⟩ | ⟨h, -⟩
        · rw [h]; exact ⟨rfl, rfl⟩
        · exact absurd z h
      · rcases h with ⟨h, -⟩ | ⟨-, g1, g2⟩
        · exact absurd h z
        · refine ⟨by rw [g2]; decide, fun v hv => ?_⟩
          rw [g1 v hv]
          by_cases c : s.2.2.2.1 = 0
          · rw [if_pos c]; exact ⟨hrf _, fun q => absurd c q⟩
          · rw [if_neg c]; exact ⟨h2 _ _, fun _ => h1 _ _⟩
    · rw [q] at hil; rcases hil with z | z <;> exact absurd z (by decide)
  · have hil : ¬ isL (F 0 i) := fun q => by
      rw [ho] at q
      rcases q with z | z
      · exact n13 (nI_33 h33 (by omega) z)
      · exact n14 (nI_33 h33 (by omega) z)
    rcases h with ⟨hz, rfl⟩ | ⟨hz, hf⟩
    · exact ⟨fun j => hrf _, fun M q => q, fun q => absurd q hil, fun _ _ => rfl, fun _ q => absurd hz q, fun q => absurd hz q, fun q => ⟨q, fun M _ _ => ⟨fun v hv => rfl, fun z => z⟩⟩, fun _ q => absurd hz q⟩
    · obtain ⟨f15, f16, f17, f20, f22, fo⟩ := hf
      have ho2 : ∀ p : Nat, p < 33 → F 0 i = nI p → o = p := fun p hp e => nI_33 h33 hp (ho.symm.trans e)
      -- the targets
      have tg1 : ∀ M : Nat, tgt F i M → o ≠ 16 → o ≠ 17 → o ≠ 18 → o ≠ 19 → o ≠ 20 → False := fun M q a1 a2 a3 a4 a5 => by
        rcases q with ⟨q, -⟩ | ⟨q, -⟩
        · rcases q with q | q | q | q
          · exact a1 (ho2 16 (by omega) q)
          · exact a2 (ho2 17 (by omega) q)
          · exact a3 (ho2 18 (by omega) q)
          · exact a4 (ho2 19 (by omega) q)
        · exact a5 (ho2 20 (by omega) q)
      have nuo : ∀ p : Nat, p < 33 → F 0 i = nI p → nu o → nu p := fun p hp e q => by rw [← ho2 p hp e]; exact q
      by_cases e15 : o = 15
      · obtain ⟨L, u, rv, l1, l2, l3, l4⟩ := f15 e15
        obtain ⟨k1, k2⟩ := pSd_ge hrf h1 l3
        have kr : t.2.2.2.2 = 0 → rv = 0 ∧ s.2.2.2.2 = 0 := fun q => by
          rw [l4] at q
          have q : (if rv = 0 then (if s.2.2.2.2 = 0 then (0 : Int32) else 1) else 1) = 0 := q
          by_cases c : rv = 0
          · rw [if_pos c] at q
            by_cases c2 : s.2.2.2.2 = 0
            · exact ⟨c, c2⟩
            · rw [if_neg c2] at q; exact absurd q (by decide)
          · rw [if_neg c] at q; exact absurd q (by decide)
        refine ⟨fun j => by rw [l4]; exact k1 j, fun M q => by rw [l4]; exact k2 M q, fun q => absurd q hil, fun _ q => absurd q hz, fun _ _ M _ q => absurd (tg1 M q (by omega) (by omega) (by omega) (by omega) (by omega)) id, fun _ _ q M m1 m2 => ?_, fun q => ⟨(kr q).2, fun M m1 m2 => ?_⟩, fun _ _ p hp e => ⟨fun q => absurd (ho2 p hp e) (by have := q.1; omega), fun _ => by rw [l4]⟩⟩
        · obtain rfl : L = M := (nI_eq (a := L) (b := M) (by omega) (by omega)).mp (l1.symm.trans m2)
          obtain ⟨w1, w2⟩ := l3.2.2.2.2.2 (kr q).1
          exact ⟨w1, fun v hv => by rw [← w2 v hv]; exact h2 _ _⟩
        · rw [l4]
          by_cases e : M = L
          · subst e
            obtain ⟨w1, w2⟩ := l3.2.2.2.2.2 (kr q).1
            refine ⟨fun v hv => ?_, fun _ => w1⟩
            show u.2.1 (M * 40 + v) = _
            rw [l3.2.1, if_pos (by omega), show M * 40 + v - M * 40 = v by omega]
            exact w2 v hv
          · obtain ⟨y1, y2⟩ := pSd_ne hn l3 e
            exact ⟨y1, fun z => by rw [← y2]; exact z⟩
      by_cases e16 : o = 16
      · obtain ⟨L, u, rv, l1, l2, l3, l4⟩ := f16 e16
        obtain ⟨k1, k2⟩ := pSd_ge hrf h1 l3
        refine ⟨fun j => by rw [l4]; exact k1 j, fun M q => by rw [l4]; exact k2 M q, fun q => absurd q hil, fun _ q => absurd q hz, fun _ _ M m1 q => ?_, fun _ q => absurd (ho2 15 (by omega) q) e15, fun q => ⟨by rw [l4] at q; exact q, fun M m1 m2 => ?_⟩, fun _ _ p hp e => ⟨fun q => absurd (ho2 p hp e) (by have := q.2.1; omega), fun _ => by rw [l4]⟩⟩
        · rcases q with ⟨-, q⟩ | ⟨q, -⟩
          · obtain rfl : L = M := (nI_eq (a := L) (b := M) (by omega) (by omega)).mp (l1.symm.trans q)
            rw [l4]
            exact ⟨l3.2.2.1, fun v hv => pSd_at h2 l3 v hv⟩
          · exact absurd (ho2 20 (by omega) q) (by omega)
        · rw [l4]
          obtain ⟨y1, y2⟩ := pSd_ne hn l3 (M := M) (fun e => m2 (Or.inl ⟨Or.inl (by rw [ho, e16]; rfl), by rw [l1, e]⟩))
          exact ⟨y1, fun z => by rw [← y2]; exact z⟩
      by_cases e17 : o = 17 ∨ o = 18 ∨ o = 19
      · obtain ⟨L, rv, l1, l2, l3⟩ := f17 e17
        obtain ⟨k1, k2⟩ := pSd_ge hrf h1 l3
        have ht : ∀ M : Nat, F 1 i = nI M → tgt F i M := fun M q => Or.inl ⟨by rcases e17 with z | z | z <;> rw [ho, z]; exact Or.inr (Or.inl rfl); exact Or.inr (Or.inr (Or.inl rfl)); exact Or.inr (Or.inr (Or.inr rfl)), q⟩
        refine ⟨k1, k2, fun q => absurd q hil, fun _ q => absurd q hz, fun _ _ M m1 q => ?_, fun _ q => absurd (ho2 15 (by omega) q) e15, fun q => ⟨by rw [← l3.2.2.2.2.1]; exact q, fun M m1 m2 => ?_⟩, fun _ _ p hp e => ⟨fun _ => by rw [l3.2.2.2.2.1]; exact hz, fun q => ?_⟩⟩
        · rcases q with ⟨-, q⟩ | ⟨q, -⟩
          · obtain rfl : L = M := (nI_eq (a := L) (b := M) (by omega) (by omega)).mp (l1.symm.trans q)
            exact ⟨l3.2.2.1, pSd_at h2 l3⟩
          · exact absurd (ho2 20 (by omega) q) (by omega)
        · obtain ⟨y1, y2⟩ := pSd_ne hn l3 (M := M) (fun e => m2 (ht M (by rw [l1, e])))
          exact ⟨y1, fun z => by rw [← y2]; exact z⟩
        · exact absurd (show nu p by rw [← ho2 p hp e]; exact ⟨e15, e16, by omega, by omega⟩) q
      by_cases e20 : o = 20
      · obtain ⟨tb, c, u, l1, l2, l3, l4, l5, l6⟩ := f20 e20
        obtain ⟨k1, k2, k3, k4, k5, k6⟩ := pSw_al hrf htr h1 h2 hn l5
        refine ⟨fun j => by rw [l6]; exact k3 j, fun M q => by rw [l6]; exact k4 M q, fun q => absurd q hil, fun _ q => absurd q hz, fun _ _ M m1 q => ?_, fun _ q => absurd (ho2 15 (by omega) q) e15, fun q => ⟨by rw [l6] at q; exact q, fun M m1 m2 => ?_⟩, fun _ _ p hp e => ⟨fun q => absurd (ho2 p hp e) (by have := q.2.2.1; omega), fun _ => by rw [l6]⟩⟩
        · rcases q with ⟨q, -⟩ | ⟨-, tb2, c2, g, q1, q2, q3, q4, q5, q6⟩
          · rcases q with q | q | q | q
            · exact absurd (ho2 16 (by omega) q) (by omega)
            · exact absurd (ho2 17 (by omega) q) (by omega)
            · exact absurd (ho2 18 (by omega) q) (by omega)
            · exact absurd (ho2 19 (by omega) q) (by omega)
          · obtain rfl : tb = tb2 := (nI_eq (a := tb) (b := tb2) (by omega) (by omega)).mp (l1.symm.trans q1)
            obtain rfl : c = c2 := (nI_eq (a := c) (b := c2) (by omega) (by omega)).mp (l2.symm.trans q2)
            rw [l6]
            exact k5 g M q5 q6 m1
        · rw [l6]
          obtain ⟨y1, y2⟩ := k6 M m1 (fun g hg z => m2 (Or.inr ⟨by rw [ho, e20]; rfl, tb, c, g, l1, l2, l3, l4, hg, z⟩))
          exact ⟨y1, fun z => by rw [← y2]; exact z⟩
      by_cases e22 : o = 22
      · have e := f22 e22
        refine ⟨fun j => by rw [e]; exact hrf _, fun M q => by rw [e]; exact q, fun q => absurd q hil, fun _ q => absurd q hz, fun _ _ M m1 q => absurd (tg1 M q (by omega) (by omega) (by omega) (by omega) (by omega)) id, fun _ q => absurd (ho2 15 (by omega) q) e15, fun q => ⟨by rw [e] at q; exact q, fun M m1 m2 => by rw [e]; exact ⟨fun _ _ => rfl, fun z => z⟩⟩, fun _ _ p hp e9 => ⟨fun q => absurd (ho2 p hp e9) (by have := q.2.2.2; omega), fun _ => by rw [e]⟩⟩
      · have e := fo e15 e16 (fun z => e17 (Or.inl z)) (fun z => e17 (Or.inr (Or.inl z))) (fun z => e17 (Or.inr (Or.inr z))) e20 e22
        refine ⟨fun j => by rw [e]; exact hrf _, fun M q => by rw [e]; exact q, fun q => absurd q hil, fun _ q => absurd q hz, fun _ _ M m1 q => absurd (tg1 M q (by omega) (by omega) (by omega) (by omega) (by omega)) id, fun _ q => absurd (ho2 15 (by omega) q) e15, fun q => ⟨by rw [e] at q; exact q, fun M m1 m2 => by rw [e]; exact ⟨fun _ _ => rfl, fun z => z⟩⟩, fun _ _ p hp e9 => ⟨fun _ => by rw [e]; exact hz, fun q => absurd (show nu p by rw [← ho2 p hp e9]; exact ⟨e15, e16, e20, e22⟩) q⟩⟩
end
