/-- a row of 70 by 70 as a relation -/
def hB (f : Nat → Int32) (i j : Nat) : Prop := f (70 * i + j) ≠ 0
/-- closed over the middles below k -/
def wC (n k : Nat) (f : Nat → Int32) : Prop := ∀ i m j : Nat, i < n → m < n → j < n → m < k → hB f i m → hB f m j → hB f i j
/-- within round k, the pairs before (a, b) are done -/
def wI (n k a b : Nat) (f0 f : Nat → Int32) : Prop := (∀ i j : Nat, i < n → j < n → hB f0 i j → hB f i j) ∧ (∀ i j : Nat, i < n → j < n → hB f i j → hB f0 i j ∨ (hB f0 i k ∧ hB f0 k j)) ∧ ∀ i j : Nat, i < n → j < n → (i < a ∨ (i = a ∧ j < b)) → hB f0 i k → hB f0 k j → hB f i j
theorem wI_0 {n k : Nat} {f : Nat → Int32} : wI n k 0 0 f f := ⟨fun _ _ _ _ h => h, fun _ _ _ _ h => Or.inl h, fun i j _ _ h => absurd h (by omega)⟩
theorem wI_k {n k a b : Nat} {f0 f : Nat → Int32} (h : wI n k a b f0 f) (hk : k < n) {i : Nat} (hi : i < n) : hB f i k → hB f0 i k := fun q => (h.2.1 i k hi hk q).elim id (fun z => z.1)
theorem wI_k2 {n k a b : Nat} {f0 f : Nat → Int32} (h : wI n k a b f0 f) (hk : k < n) {j : Nat} (hj : j < n) : hB f k j → hB f0 k j := fun q => (h.2.1 k j hk hj q).elim id (fun z => z.2)
/-- the pair (a, b) is set -/
theorem wI_set {n k a b : Nat} {f0 f : Nat → Int32} (h : wI n k a b f0 f) (hn : n ≤ 70) (hk : k < n) (ha : a < n) (hb : b < n) (h1 : hB f a k) (h2 : hB f k b) : wI n k a (b + 1) f0 (upd f (70 * a + b) 1) := by
  have g1 := wI_k h hk ha h1
  have g2 := wI_k2 h hk hb h2
  have hu : ∀ i j : Nat, i < n → j < n → (hB (upd f (70 * a + b) 1) i j ↔ ((i = a ∧ j = b) ∨ hB f i j)) := fun i j hi hj => by
    unfold hB
    by_cases e : 70 * i + j = 70 * a + b
    · rw [e, pk_us]
      refine ⟨fun _ => Or.inl ⟨by omega, by omega⟩, fun _ => by decide⟩
    · rw [pk_un e]
      exact ⟨Or.inr, fun q => q.elim (fun z => absurd (by rw [z.1, z.2]) e) id⟩
  refine ⟨fun i j hi hj q => (hu i j hi hj).mpr (Or.inr (h.1 i j hi hj q)), fun i j hi hj q => ?_, fun i j hi hj q q1 q2 => ?_⟩
  · rcases (hu i j hi hj).mp q with ⟨e1, e2⟩ | q
    · rw [e1, e2]; exact Or.inr ⟨g1, g2⟩
    · exact h.2.1 i j hi hj q
  · by_cases e : i = a ∧ j = b
    · exact (hu i j hi hj).mpr (Or.inl e)
    · exact (hu i j hi hj).mpr (Or.inr (h.2.2 i j hi hj (by omega) q1 q2))
/-- the pair (a, b) has nothing to be set -/
theorem wI_no {n k a b : Nat} {f0 f : Nat → Int32} (h : wI n k a b f0 f) (hk : k < n) (ha : a < n) (hb : b < n) (hno : ¬ hB f a k ∨ ¬ hB f k b) : wI n k a (b + 1) f0 f := by
  refine ⟨h.1, h.2.1, fun i j hi hj q q1 q2 => ?_⟩
  by_cases e : i = a ∧ j = b
  · exfalso
    rw [e.1] at q1; rw [e.2] at q2
    exact hno.elim (fun z => z (h.1 a k ha hk q1)) (fun z => z (h.1 k b hk hb q2))
  · exact h.2.2 i j hi hj (by omega) q1 q2
theorem wI_row {n k a : Nat} {f0 f : Nat → Int32} (h : wI n k a n f0 f) : wI n k (a + 1) 0 f0 f := ⟨h.1, h.2.1, fun i j hi hj q q1 q2 => h.2.2 i j hi hj (by omega) q1 q2⟩
/-- a round is done: closed over one middle more -/
theorem wC_s {n k : Nat} {f0 f : Nat → Int32} (h0 : wC n k f0) (h : wI n k n 0 f0 f) (hk : k < n) : wC n (k + 1) f := by
  have hup : ∀ i j : Nat, i < n → j < n → hB f0 i k → hB f0 k j → hB f i j := fun i j hi hj => h.2.2 i j hi hj (Or.inl hi)
  intro i m j hi hm hj hmk q1 q2
  by_cases e : m = k
  · subst e
    exact hup i j hi hj (wI_k h hk hi q1) (wI_k2 h hk hj q2)
  · have hmk : m < k := by omega
    rcases h.2.1 i m hi hm q1 with a1 | ⟨a1, a2⟩
    · rcases h.2.1 m j hm hj q2 with b1 | ⟨b1, b2⟩
      · exact h.1 i j hi hj (h0 i m j hi hm hj hmk a1 b1)
      · exact hup i j hi hj (h0 i m k hi hm hk hmk a1 b1) b2
    · rcases h.2.1 m j hm hj q2 with b1 | ⟨b1, b2⟩
      · exact hup i j hi hj a1 (h0 k m j hk hm hj hmk a2 b1)
      · exact hup i j hi hj a1 b2
/-- how many j below n are held by i -/
def hN (f : Nat → Int32) (i : Nat) : Nat → Nat
  | 0 => 0
  | n + 1 => hN f i n + (if f (70 * i + n) = 0 then 0 else 1)
theorem hN_le {f : Nat → Int32} {i : Nat} : ∀ n : Nat, hN f i n ≤ n
  | 0 => Nat.le_refl _
  | n + 1 => by
    have := hN_le (f := f) (i := i) n
    show hN f i n + _ ≤ n + 1
    split <;> omega
theorem hN_mono {f : Nat → Int32} {i j : Nat} : ∀ n : Nat, (∀ l : Nat, l < n → hB f j l → hB f i l) → hN f j n ≤ hN f i n
  | 0, _ => Nat.le_refl _
  | n + 1, h => by
    have h1 := hN_mono n (fun l hl => h l (by omega))
    show hN f j n + _ ≤ hN f i n + _
    by_cases e : f (70 * j + n) = 0
    · rw [if_pos e]; omega
    · rw [if_neg e, if_neg (h n (by omega) e)]; omega
theorem hN_lt {f : Nat → Int32} {i j : Nat} : ∀ n l0 : Nat, l0 < n → (∀ l : Nat, l < n → hB f j l → hB f i l) → hB f i l0 → ¬ hB f j l0 → hN f j n < hN f i n
  | 0, _, h, _, _, _ => absurd h (by omega)
  | n + 1, l0, hl, h, h1, h2 => by
    show hN f j n + _ < hN f i n + _
    by_cases e : l0 = n
    · subst e
      have h3 := hN_mono (f := f) (i := i) (j := j) l0 (fun l hl => h l (by omega))
      have e1 : f (70 * j + l0) = 0 := Classical.byContradiction h2
      rw [if_pos e1, if_neg h1]; omega
    · have h3 := hN_lt n l0 (by omega) (fun l hl => h l (by omega)) h1 h2
      by_cases e : f (70 * j + n) = 0
      · rw [if_pos e]; omega
      · rw [if_neg e, if_neg (h n (by omega) e)]; omega
/-- i holds no circle -/
def noC (n : Nat) (f : Nat → Int32) (i : Nat) : Prop := ¬ hB f i i ∧ ∀ j : Nat, j < n → hB f i j → ¬ hB f j j
/-- what an item holds that holds no circle has fewer below it -/
theorem noC_dn {n : Nat} {f : Nat → Int32} {i j : Nat} (h : wC n n f) (hi : i < n) (hj : j < n) (hc : noC n f i) (hij : hB f i j) : noC n f j ∧ hN f j n < hN f i n := by
  have hjj := hc.2 j hj hij
  refine ⟨⟨hjj, fun l hl q => hc.2 l hl (h i j l hi hj hl hj hij q)⟩, hN_lt n j hj (fun l hl q => h i j l hi hj hl hj hij q) hij hjj⟩
