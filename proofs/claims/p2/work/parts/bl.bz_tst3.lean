theorem g1e {fk lF : Nat → Int32} {k p q b v : Nat} {c d : Int32} (h : gq (gq (gTok fk c) (gAny (gEx fk k 1))) (gTok fk d) lF p q b v) : ∃ (r : Nat) (ip : Int32), gE fk lF k 1 (p + 1) r b ip ∧ q = r + 1 ∧ fk p = c ∧ fk r = d ∧ v = 0 := by
  obtain ⟨r, b1, v1, b2, v2, ⟨r2, b3, v3, b4, v4, ⟨rfl, h1, rfl, rfl⟩, ⟨ip, rfl, h2⟩, rfl, rfl⟩, ⟨rfl, h3, rfl, rfl⟩, rfl, rfl⟩ := h
  exact ⟨r, ip, by rw [Nat.zero_add, Nat.add_zero]; exact h2, rfl, h1, h3, rfl⟩
theorem ret_of {fk lF : Nat → Int32} {k p q b v : Nat} (h : sRet fk (gEx fk k 1) lF p q b v) : fk p = 14 ∧ v = 0 ∧ ((fk (p + 1) = 59 ∧ q = p + 2 ∧ b = 0) ∨ (fk (p + 1) ≠ 59 ∧ ∃ (r : Nat) (ip : Int32), gE fk lF k 1 (p + 1) r b ip ∧ fk r = 59 ∧ q = r + 1)) := by
  obtain ⟨r, b1, v1, b2, v2, ⟨r2, b3, v3, b4, v4, ⟨rfl, h1, rfl, rfl⟩, h2, rfl, rfl⟩, ⟨rfl, h3, rfl, rfl⟩, rfl, rfl⟩ := h
  rcases h2 with ⟨h2, rfl, rfl, rfl⟩ | ⟨h2, ip, rfl, h4⟩
  · exact ⟨h1, rfl, Or.inl ⟨h2, rfl, rfl⟩⟩
  · exact ⟨h1, rfl, Or.inr ⟨h2, r, ip, by rw [Nat.zero_add, Nat.add_zero]; exact h4, h3, rfl⟩⟩
theorem seqP_fn {R : gP} {lF : Nat → Int32} : ∀ (n p q b v : Nat), seqP R n lF p q b v → ∃ P B V : Nat → Nat, P 0 = p ∧ P n = q ∧ B 0 = 0 ∧ B n = b ∧ V 0 = 0 ∧ V n = v ∧ ∀ i : Nat, i < n → ∃ c w : Nat, R lF (P i) (P (i + 1)) c w ∧ B (i + 1) = B i + c ∧ V (i + 1) = V i + w
  | 0, p, q, b, v, h => by
    obtain ⟨h1, h2, h3⟩ := h
    exact ⟨fun _ => p, fun _ => 0, fun _ => 0, rfl, h1.symm, rfl, h2.symm, rfl, h3.symm, fun i hi => absurd hi (Nat.not_lt_zero i)⟩
  | n + 1, p, q, b, v, h => by
    obtain ⟨r, b1, v1, b2, v2, h1, h2, h3, h4⟩ := h
    obtain ⟨P, B, V, p0, pn, c0, cn, w0, wn, hs⟩ := seqP_fn n p r b1 v1 h1
    have e : ∀ (f : Nat → Nat) (x i : Nat), i ≤ n → (if i ≤ n then f i else x) = f i := fun f x i hi => if_pos hi
    have z : ∀ (f : Nat → Nat) (x : Nat), (if n + 1 ≤ n then f (n + 1) else x) = x := fun f x => if_neg (by omega)
    refine ⟨fun i => if i ≤ n then P i else q, fun i => if i ≤ n then B i else b, fun i => if i ≤ n then V i else v, (e P q 0 (by omega)).trans p0, z P q, (e B b 0 (by omega)).trans c0, z B b, (e V v 0 (by omega)).trans w0, z V v, fun i hi => ?_⟩
    rcases Nat.lt_or_ge i n with c | c
    · obtain ⟨c9, w9, g1, g2, g3⟩ := hs i c
      refine ⟨c9, w9, ?_, ?_, ?_⟩
      · show R lF (if i ≤ n then P i else q) (if i + 1 ≤ n then P (i + 1) else q) c9 w9
        rw [e P q i (by omega), e P q (i + 1) (by omega)]; exact g1
      · show (if i + 1 ≤ n then B (i + 1) else b) = (if i ≤ n then B i else b) + c9
        rw [e B b i (by omega), e B b (i + 1) (by omega)]; exact g2
      · show (if i + 1 ≤ n then V (i + 1) else v) = (if i ≤ n then V i else v) + w9
        rw [e V v i (by omega), e V v (i + 1) (by omega)]; exact g3
    · have ei : i = n := by omega
      subst ei
      refine ⟨b2, v2, ?_, ?_, ?_⟩
      · show R lF (if i ≤ i then P i else q) (if i + 1 ≤ i then P (i + 1) else q) b2 v2
        rw [e P q i (Nat.le_refl _), z P q, pn]; exact h2
      · show (if i + 1 ≤ i then B (i + 1) else b) = (if i ≤ i then B i else b) + b2
        rw [e B b i (Nat.le_refl _), z B b, cn]; exact h3
      · show (if i + 1 ≤ i then V (i + 1) else v) = (if i ≤ i then V i else v) + v2
        rw [e V v i (Nat.le_refl _), z V v, wn]; exact h4
theorem up_lt {n : Nat} {P : Nat → Nat} (h : ∀ i : Nat, i < n → P i < P (i + 1)) : ∀ i j : Nat, i + j = n → P i + j ≤ P n
  | i, 0, e => by rw [show i = n by omega]; omega
  | i, j + 1, e => by
    have h1 := h i (by omega)
    have h2 := up_lt h (i + 1) j (by omega)
    omega
theorem up_lt0 {n : Nat} {P : Nat → Nat} (h : ∀ i : Nat, i < n → P i < P (i + 1)) : ∀ i : Nat, i ≤ n → P 0 + i ≤ P i
  | 0, _ => by omega
  | i + 1, hi => by
    have h1 := h i (by omega)
    have h2 := up_lt0 h i (by omega)
    omega
theorem up_le {n : Nat} {P : Nat → Nat} (h : ∀ i : Nat, i < n → P i ≤ P (i + 1)) : ∀ i j : Nat, i + j = n → P i ≤ P n
  | i, 0, e => by rw [show i = n by omega]; omega
  | i, j + 1, e => by
    have h1 := h i (by omega)
    have h2 := up_le h (i + 1) j (by omega)
    omega
theorem gStm_lt {fk lF : Nat → Int32} {k p q b v : Nat} (h : gStm fk k lF p q b v) : p < q := (gSB_lt k).1 _ _ _ _ _ h
theorem blk_fn {fk lF : Nat → Int32} {k p q b v : Nat} (h : gBlk fk k lF p q b v) : ∃ (k0 n : Nat) (P B V : Nat → Nat), k = k0 + 1 ∧ fk p = 123 ∧ P 0 = p + 1 ∧ fk (P n) = 125 ∧ q = P n + 1 ∧ B 0 = 0 ∧ B n = b ∧ V 0 = 0 ∧ V n = v ∧ (∀ i : Nat, i < n → ∃ c w : Nat, fk (P i) ≠ 125 ∧ gStm fk k0 lF (P i) (P (i + 1)) c w ∧ B (i + 1) = B i + c ∧ V (i + 1) = V i + w) ∧ ∀ i : Nat, i ≤ n → p + 1 + i ≤ P i ∧ P i + (n - i) ≤ P n ∧ B i ≤ b ∧ V i ≤ v := by
  cases k with
  | zero => exact absurd h id
  | succ k0 =>
    rw [gBlk_s fk rfl] at h
    obtain ⟨n, r, b1, v1, b2, v2, ⟨r2, b3, v3, b4, v4, ⟨rfl, h1, rfl, rfl⟩, h2, rfl, rfl⟩, ⟨rfl, h3, rfl, rfl⟩, rfl, rfl⟩ := h
    obtain ⟨P, B, V, p0, pn, c0, cn, w0, wn, hs⟩ := seqP_fn n (p + 1) r b4 v4 h2
    have l1 : ∀ i : Nat, i < n → P i < P (i + 1) := fun i hi => by obtain ⟨c, w, g1, -⟩ := hs i hi; exact gStm_lt g1.2
    have l2 : ∀ i : Nat, i < n → B i ≤ B (i + 1) := fun i hi => by obtain ⟨c, w, -, g2, -⟩ := hs i hi; omega
    have l3 : ∀ i : Nat, i < n → V i ≤ V (i + 1) := fun i hi => by obtain ⟨c, w, -, -, g3⟩ := hs i hi; omega
    refine ⟨k0, n, P, B, V, rfl, h1, p0, by rw [pn]; exact h3, by rw [pn], c0, by omega, w0, by omega, fun i hi => ?_, fun i hi => ?_⟩
    · obtain ⟨c, w, g1, g2, g3⟩ := hs i hi
      exact ⟨c, w, g1.1, g1.2, g2, g3⟩
    · have u1 := up_lt l1 i (n - i) (by omega)
      have u2 := up_lt0 l1 i hi
      have u3 := up_le l2 i (n - i) (by omega)
      have u4 := up_le l3 i (n - i) (by omega)
      omega
theorem gBlk_2 {fk lF : Nat → Int32} {k p q b v : Nat} (h : gBlk fk k lF p q b v) : p + 2 ≤ q := by
  obtain ⟨k0, n, P, B, V, -, -, -, -, h5, -, -, -, -, -, h11⟩ := blk_fn h
  have := h11 n (Nat.le_refl _)
  omega
theorem tSs_z {yp rs tt p n9 : Nat} {X : tF} {G : Nat → Nat → Nat} {ft : Int32} {s : tgS} {qt qv ql : Nat} {qp qm : Int32} (hn : n9 < tt) (hf : ft ≠ 0 → n9 = tt - 1) (hJ : tJ s) (hQ : tQ qt qv ql qp qm) (hI : ft = 0 → n9 = p ∧ tI yp X s) : tSs 0 yp X G rs tt p p n9 0 0 ft ft s s 0 qt qv ql qp qm := by
  refine ⟨⟨hn, hf, hJ, hQ, by omega, by omega, Or.inl rfl⟩, fun z => ?_⟩
  obtain ⟨e, hi⟩ := hI z
  subst e
  exact ((tSs_0 (X := X) (G := G) (rs := rs) hn hf hJ hQ (fun _ => hi)).2 z)
/-- room behind statements -/
theorem tSs_cp {c yp rs tt nw nw1 p p2 q n1 b v : Nat} {X : tF} {G : Nat → Nat → Nat} {ft f1 : Int32} {s u : tgS} {r : Int32} {qt qv ql : Nat} {qp qm : Int32} (h : tSs c yp X G rs tt nw1 p n1 b v ft f1 s u r qt qv ql qp qm) (hf : f1 = 0) (hcp : tCq X nw q s) (h1 : nw < nw1) (h2 : nw1 ≤ p) (h3 : p ≤ p2) (h4 : p2 ≤ q) : tCp X p p2 u ∧ tXt s u := by
  obtain ⟨-, -, -, N, -, a5⟩ := h.2 hf
  obtain ⟨c0, c1, c2, c3, c7⟩ := hcp
  obtain ⟨r0, r1, r2, r3, r7⟩ := a5.2.2.1
  have l1 := cL_le (X := X) (Nat.le_of_lt h1); have l2 := cL_le (X := X) h2; have l3 := cL_le (X := X) h3; have l4 := cL_le (X := X) h4
  refine ⟨?_, a5.1⟩
  unfold tCp; omega
theorem g1b {fk lF : Nat → Int32} {k p q b v : Nat} {c : Int32} (h : gq (gq (gTok fk c) (gAny (gEx fk k 1))) (gBlk fk k) lF p q b v) : ∃ (r b1 b2 : Nat) (ip : Int32), gE fk lF k 1 (p + 1) r b1 ip ∧ gBlk fk k lF r q b2 v ∧ fk p = c ∧ b = b1 + b2 := by
  obtain ⟨r, b1, v1, b2, v2, ⟨r2, b3, v3, b4, v4, ⟨rfl, h1, rfl, rfl⟩, ⟨ip, rfl, h2⟩, rfl, rfl⟩, h3, rfl, rfl⟩ := h
  have h3' : gBlk fk k lF r q b2 (0 + 0 + v2) := by rw [show 0 + 0 + v2 = v2 by omega]; exact h3
  exact ⟨r, b4, b2, ip, h2, h3', h1, by omega⟩
theorem stm_8 {fk lF : Nat → Int32} {d p q b v : Nat} {E : Int32 → gP} {B NB : gP} (h : stmF fk d E B NB lF p q b v) (hk : fk p = 8) : sLet fk d E lF p q b v := by
  rcases h with ⟨z, h⟩ | ⟨z, h⟩ | ⟨z, h⟩ | ⟨z, h⟩ | ⟨z, h⟩ | ⟨z, h⟩ | ⟨z, h⟩ | ⟨⟨z1, z2, z3, z4, z5, z6, z7⟩, h⟩
  all_goals first | exact h | (exfalso; rw [hk] at z; revert z; decide) | exact absurd hk z1 | exact absurd hk z2 | exact absurd hk z3 | exact absurd hk z4 | exact absurd hk z5 | exact absurd hk z6 | exact absurd hk z7
theorem stm_10 {fk lF : Nat → Int32} {d p q b v : Nat} {E : Int32 → gP} {B NB : gP} (h : stmF fk d E B NB lF p q b v) (hk : fk p = 10) : sIf fk E B lF p q b v := by
  rcases h with ⟨z, h⟩ | ⟨z, h⟩ | ⟨z, h⟩ | ⟨z, h⟩ | ⟨z, h⟩ | ⟨z, h⟩ | ⟨z, h⟩ | ⟨⟨z1, z2, z3, z4, z5, z6, z7⟩, h⟩
  all_goals first | exact h | (exfalso; rw [hk] at z; revert z; decide) | exact absurd hk z1 | exact absurd hk z2 | exact absurd hk z3 | exact absurd hk z4 | exact absurd hk z5 | exact absurd hk z6 | exact absurd hk z7
theorem stm_13 {fk lF : Nat → Int32} {d p q b v : Nat} {E : Int32 → gP} {B NB : gP} (h : stmF fk d E B NB lF p q b v) (hk : fk p = 13) : sMatch fk E NB lF p q b v := by
  rcases h with ⟨z, h⟩ | ⟨z, h⟩ | ⟨z, h⟩ | ⟨z, h⟩ | ⟨z, h⟩ | ⟨z, h⟩ | ⟨z, h⟩ | ⟨⟨z1, z2, z3, z4, z5, z6, z7⟩, h⟩
  all_goals first | exact h | (exfalso; rw [hk] at z; revert z; decide) | exact absurd hk z1 | exact absurd hk z2 | exact absurd hk z3 | exact absurd hk z4 | exact absurd hk z5 | exact absurd hk z6 | exact absurd hk z7
theorem stm_123 {fk lF : Nat → Int32} {d p q b v : Nat} {E : Int32 → gP} {B NB : gP} (h : stmF fk d E B NB lF p q b v) (hk : fk p = 123) : B lF p q b v := by
  rcases h with ⟨z, h⟩ | ⟨z, h⟩ | ⟨z, h⟩ | ⟨z, h⟩ | ⟨z, h⟩ | ⟨z, h⟩ | ⟨z, h⟩ | ⟨⟨z1, z2, z3, z4, z5, z6, z7⟩, h⟩
  all_goals first | exact h | (exfalso; rw [hk] at z; revert z; decide) | exact absurd hk z1 | exact absurd hk z2 | exact absurd hk z3 | exact absurd hk z4 | exact absurd hk z5 | exact absurd hk z6 | exact absurd hk z7
theorem stm_12 {fk lF : Nat → Int32} {d p q b v : Nat} {E : Int32 → gP} {B NB : gP} (h : stmF fk d E B NB lF p q b v) (hk : fk p = 12) : gq (gq (gTok fk 12) (gAny E)) B lF p q b v := by
  rcases h with ⟨z, h⟩ | ⟨z, h⟩ | ⟨z, h⟩ | ⟨z, h⟩ | ⟨z, h⟩ | ⟨z, h⟩ | ⟨z, h⟩ | ⟨⟨z1, z2, z3, z4, z5, z6, z7⟩, h⟩
  all_goals first | exact h | (exfalso; rw [hk] at z; revert z; decide) | exact absurd hk z1 | exact absurd hk z2 | exact absurd hk z3 | exact absurd hk z4 | exact absurd hk z5 | exact absurd hk z6 | exact absurd hk z7
theorem stm_14 {fk lF : Nat → Int32} {d p q b v : Nat} {E : Int32 → gP} {B NB : gP} (h : stmF fk d E B NB lF p q b v) (hk : fk p = 14) : sRet fk E lF p q b v := by
  rcases h with ⟨z, h⟩ | ⟨z, h⟩ | ⟨z, h⟩ | ⟨z, h⟩ | ⟨z, h⟩ | ⟨z, h⟩ | ⟨z, h⟩ | ⟨⟨z1, z2, z3, z4, z5, z6, z7⟩, h⟩
  all_goals first | exact h | (exfalso; rw [hk] at z; revert z; decide) | exact absurd hk z1 | exact absurd hk z2 | exact absurd hk z3 | exact absurd hk z4 | exact absurd hk z5 | exact absurd hk z6 | exact absurd hk z7
theorem stm_15 {fk lF : Nat → Int32} {d p q b v : Nat} {E : Int32 → gP} {B NB : gP} (h : stmF fk d E B NB lF p q b v) (hk : fk p = 15) : gq (gq (gTok fk 15) (gAny E)) (gTok fk 59) lF p q b v := by
  rcases h with ⟨z, h⟩ | ⟨z, h⟩ | ⟨z, h⟩ | ⟨z, h⟩ | ⟨z, h⟩ | ⟨z, h⟩ | ⟨z, h⟩ | ⟨⟨z1, z2, z3, z4, z5, z6, z7⟩, h⟩
  all_goals first | exact h | (exfalso; rw [hk] at z; revert z; decide) | exact absurd hk z1 | exact absurd hk z2 | exact absurd hk z3 | exact absurd hk z4 | exact absurd hk z5 | exact absurd hk z6 | exact absurd hk z7
theorem stm_0 {fk lF : Nat → Int32} {d p q b v : Nat} {E : Int32 → gP} {B NB : gP} (h : stmF fk d E B NB lF p q b v) (h1 : fk p ≠ 8) (h2 : fk p ≠ 10) (h3 : fk p ≠ 13) (h4 : fk p ≠ 123) (h5 : fk p ≠ 12) (h6 : fk p ≠ 14) (h7 : fk p ≠ 15) : sAsg fk E lF p q b v := by
  rcases h with ⟨z, h⟩ | ⟨z, h⟩ | ⟨z, h⟩ | ⟨z, h⟩ | ⟨z, h⟩ | ⟨z, h⟩ | ⟨z, h⟩ | ⟨-, h⟩
  · exact absurd z h1
  · exact absurd z h2
  · exact absurd z h3
  · exact absurd z h4
  · exact absurd z h5
  · exact absurd z h6
  · exact absurd z h7
  · exact h
theorem asg_of {fk lF : Nat → Int32} {k p q b v : Nat} (h : sAsg fk (gEx fk k 1) lF p q b v) : v = 0 ∧ ((∃ (r p2 b1 b2 : Nat) (ip : Int32), lF p = nI r ∧ p < r ∧ r < 3001 ∧ gE fk lF k 1 p r b1 1 ∧ fk r = 61 ∧ gE fk lF k 1 (r + 1) p2 b2 ip ∧ fk p2 = 59 ∧ q = p2 + 1 ∧ b = b1 + b2) ∨ (lF p = 0 ∧ ∃ (r : Nat) (ip : Int32), gE fk lF k 1 p r b ip ∧ fk r = 59 ∧ q = r + 1)) := by
  rcases h with ⟨r, h1, h2, h3, r1, b1, v1, b2, v2, ⟨rfl, rfl, h4⟩, ⟨r2, b3, v3, b4, v4, ⟨r3, b5, v5, b6, v6, ⟨rfl, h5, rfl, rfl⟩, ⟨ip, rfl, h6⟩, rfl, rfl⟩, ⟨rfl, h7, rfl, rfl⟩, rfl, rfl⟩, rfl, rfl⟩ | ⟨h1, r, b1, v1, b2, v2, ⟨ip, rfl, h2⟩, ⟨rfl, h3, rfl, rfl⟩, rfl, rfl⟩
  · exact ⟨rfl, Or.inl ⟨r1, r2, b1, b6, ip, h1, h2, h3, h4, h5, h6, h7, rfl, by omega⟩⟩
  · exact ⟨rfl, Or.inr ⟨h1, r, ip, h2, h3, rfl⟩⟩
