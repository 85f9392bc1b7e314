-- bl.bz_tst3.lean.txt
section
theorem g1e {fk lF : Nat → Int32} {k p q b v : Nat} {c d : Int32} (h : gq (gq (gTok fk c) (gAny (gEx fk k 1))) (gTok fk d) lF p q b v) : ∃ (r : Nat) (ip : Int32), gE fk lF k 1 (p + 1) r b ip ∧ q = r + 1 ∧ fk p = c ∧ fk r = d ∧ v = 0 := by
  obtain ⟨r, b1, v1, b2, v2, ⟨r2, b3, v3, b4, v4, ⟨rfl, h1, rfl, rfl⟩, ⟨ip, rfl, h2⟩, rfl, rfl⟩, ⟨rfl, h3, rfl, rfl⟩, rfl, rfl⟩ := h
  exact ⟨r, ip, by rw [Nat.zero_add, Nat.add_zero]; exact h2, rfl, h1, h3, rfl⟩
theorem ret_of {fk lF : Nat → Int32} {k p q b v : Nat} (h : sRet fk (gEx fk k 1) lF p q b v) : fk p = 14 ∧ v = 0 ∧ ((fk (p + 1) = 59 ∧ q = p + 2 ∧ b = 0) ∨ (fk (p + 1) ≠ 59 ∧ ∃ (r : Nat) (ip : Int32), gE fk lF k 1 (p + 1) r b ip ∧ fk r = 59 ∧ q = r + 1)) := by
  obtain ⟨r, b1, v1, b2, v2, ⟨r2, b3, v3, b4, v4, ⟨rfl, h1, rfl, rfl⟩, h2, rfl, rfl⟩, ⟨rfl, h3, rfl, rfl⟩, rfl, rfl⟩ := h
  rcases h2 with ⟨h2, rfl, rfl, rfl⟩ | ⟨h2, ip, rfl, h4⟩
  · exact ⟨h1, rfl, Or.inl ⟨h2, rfl, rfl⟩⟩
  · exact ⟨h1, rfl, Or.inr ⟨h2, r, ip, by rw [Nat.zero_add, Nat.add_zero]; exact h4, h3, rfl⟩⟩
theorem seqP_fn {R : gP} {lF : Nat → Int32} : ∀ (n p q b v : Nat), seqP R n lF p q b v → ∃ P B V : Nat → Nat, P 0 = p ∧ P n = q ∧ B 0 = 0 ∧ B n = b ∧ V 0 = 0 ∧ V n = v ∧ ∀ i : Nat, i < n → ∃ c w : Nat, R lF (P i) (P (i + 1)) c w ∧ B (i + 1) = B i + c ∧ V (i + 1) = V i + w
  | 0, p, q, b, v, h => by
    obtain ⟨h1, h2, h3⟩ := h
    exact ⟨fun _ => p, fun _ => 0, fun _ => 0, rfl, h1.symm, rfl, h2.symm, rfl, h3.symm, fun i hi => absurd hi (Nat.not_lt_zero i)⟩
  | n + 1, p, q, b, v, h => by
    obtain ⟨r, b1, v1, b2, v2, h1, h2, h3, h4⟩ := h
    obtain ⟨P, B, V, p0, pn, c0, cn, w0, wn, hs⟩ := seqP_fn n p r b1 v1 h1
    have e : ∀ (f : Nat → Nat) (x i : Nat), i ≤ n → (if i ≤ n then f i else x) = f i := fun f x i hi => if_pos hi
    have z : ∀ (f : Nat → Nat) (x : Nat), (if n + 1 ≤ n then f (n + 1) else x) = x := fun f x => if_neg (by omega)
    refine ⟨fun i => if i ≤ n then P i else q, fun i => if i ≤ n then B i else b, fun i => if i ≤ n then V i else v, (e P q 0 (by omega)).trans p0, z P q, (e B b 0 (by omega)).trans c0, z B b, (e V v 0 (by omega)).trans w0, z V v, fun i hi => ?_⟩
    rcases Nat.lt_or_ge i n with c | c
    · obtain ⟨c9, w9, g1, g2, g3⟩ := hs i c
      refine ⟨c9, w9, ?_, ?_, ?_⟩
      · show R lF (if i ≤ n then P i else q) (if i + 1 ≤ n then P (i + 1) else q) c9 w9
        rw [e P q i (by omega), e P q (i + 1) (by omega)]; exact g1
      · show (if i + 1 ≤ n then B (i + 1) else b) = (if i ≤ n then B i else b) + c9
        rw [e B b i (by omega), e B b (i + 1) (by omega)]; exact g2
      · show (if i + 1 ≤ n then V (i + 1) else v) = (if i ≤ n then V i else v) + w9
        rw [e V v i (by omega), e V v (i + 1) (by omega)]; exact g3
    · have ei : i = n := by omega
      subst ei
      refine ⟨b2, v2, ?_, ?_, ?_⟩
      · show R lF (if i ≤ i then P i else q) (if i + 1 ≤ i then P (i + 1) else q) b2 v2
        rw [e P q i (Nat.le_refl _), z P q, pn]; exact h2
      · show (if i + 1 ≤ i then B (i + 1) else b) = (if i ≤ i then B i else b) + b2
        rw [e B b i (Nat.le_refl _), z B b, cn]; exact h3
      · show (if i + 1 ≤ i then V (i + 1) else v) = (if i ≤ i then V i else v) + v2
        rw [e V v i (Nat.le_refl _), z V v, wn]; exact h4
theorem up_lt {n : Nat} {P : Nat → Nat} (h : ∀ i : Nat, i < n → P i < P (i + 1)) : ∀ i j : Nat, i + j = n → P i + j ≤ P n
  | i, 0, e => by rw [show i = n by omega]; omega
  | i, j + 1, e => by
    have h1 := h i (by omega)
    have h2 := up_lt h (i + 1) j (by omega)
    omega
theorem up_lt0 {n : Nat} {P : Nat → Nat} (h : ∀ i : Nat, i < n → P i < P (i + 1)) : ∀ i : Nat, i ≤ n → P 0 + i ≤ P i
  | 0, _ => by omega
  | i + 1, hi => by
    have h1 := h i (by omega)
    have h2 := up_lt0 h i (by omega)
    omega
theorem up_le {n : Nat} {P : Nat → Nat} (h : ∀ i : Nat, i < n → P i ≤ P (i + 1)) : ∀ i j : Nat, i + j = n → P i ≤ P n
  | i, 0, e => by rw [show i = n by omega]; omega
  | i, j + 1, e => by
    have h1 := h i (by omega)
    have h2 := up_le h (i + 1) j (by omega)
    omega
theorem gStm_lt {fk lF : Nat → Int32} {k p q b v : Nat} (h : gStm fk k lF p q b v) : p < q := (gSB_lt k).1 _ _ _ _ _ h
theorem blk_fn {fk lF : Nat → Int32} {k p q b v : Nat} (h : gBlk fk k lF p q b v) : ∃ (k0 n : Nat) (P B V : Nat → Nat), k = k0 + 1 ∧ fk p = 123 ∧ P 0 = p + 1 ∧ fk (P n) = 125 ∧ q = P n + 1 ∧ B 0 = 0 ∧ B n = b ∧ V 0 = 0 ∧ V n = v ∧ (∀ i : Nat, i < n → ∃ c w : Nat, fk (P i) ≠ 125 ∧ gStm fk k0 lF (P i) (P (i + 1)) c w ∧ B (i + 1) = B i + c ∧ V (i + 1) = V i + w) ∧ ∀ i : Nat, i ≤ n → p + 1 + i ≤ P i ∧ P i + (n - i) ≤ P n ∧ B i ≤ b ∧ V i ≤ v := by
  cases k with
  | zero => exact absurd h id
  | succ k0 =>
    rw [gBlk_s fk rfl] at h
    obtain ⟨n, r, b1, v1, b2, v2, ⟨r2, b3, v3, b4, v4, ⟨rfl, h1, rfl, rfl⟩, h2, rfl, rfl⟩, ⟨rfl, h3, rfl, rfl⟩, rfl, rfl⟩ := h
    obtain ⟨P, B, V, p0, pn, c0, cn, w0, wn, hs⟩ := seqP_fn n (p + 1) r b4 v4 h2
    have l1 : ∀ i : Nat, i < n → P i < P (i + 1) := fun i hi => by obtain ⟨c, w, g1, -⟩ := hs i hi; exact gStm_lt g1.2
    have l2 : ∀ i : Nat, i < n → B i ≤ B (i + 1) := fun i hi => by obtain ⟨c, w, -, g2, -⟩ := hs i hi; omega
    have l3 : ∀ i : Nat, i < n → V i ≤ V (i + 1) := fun i hi => by obtain ⟨c, w, -, -, g3⟩ := hs i hi; omega
    refine ⟨k0, n, P, B, V, rfl, h1, p0, by rw [pn]; exact h3, by rw [pn], c0, by omega, w0, by omega, fun i hi => ?_, fun i hi => ?_⟩
    · obtain ⟨c, w, g1, g2, g3⟩ := hs i hi
      exact ⟨c, w, g1.1, g1.2, g2, g3⟩
    · have u1 := up_lt l1 i (n - i) (by omega)
      have u2 := up_lt0 l1 i hi
      have u3 := up_le l2 i (n - i) (by omega)
      have u4 := up_le l3 i (n - i) (by omega)
      omega
theorem gBlk_2 {fk lF : Nat → Int32} {k p q b v : Nat} (h : gBlk fk k lF p q b v) : p + 2 ≤ q := by
  obtain ⟨k0, n, P, B, V, -, -, -, -, h5, -, -, -, -, -, h11⟩ := blk_fn h
  have := h11 n (Nat.le_refl _)
  omega
theorem tSs_z {yp rs tt p n9 : Nat} {X : tF} {G : Nat → Nat → Nat} {ft : Int32} {s : tgS} {qt qv ql : Nat} {qp qm : Int32} (hn : n9 < tt) (hf : ft ≠ 0 → n9 = tt - 1) (hJ : tJ s) (hQ : tQ qt qv ql qp qm) (hI : ft = 0 → n9 = p ∧ tI yp X s) : tSs 0 yp X G rs tt p p n9 0 0 ft ft s s 0 qt qv ql qp qm := by
  refine ⟨⟨hn, hf, hJ, hQ, by omega, by omega, Or.inl rfl⟩, fun z => ?_⟩
  obtain ⟨e, hi⟩ := hI z
  subst e
  exact ((tSs_0 (X := X) (G := G) (rs := rs) hn hf hJ hQ (fun _ => hi)).2 z)
/-- room behind statements -/
theorem tSs_cp {c yp rs tt nw nw1 p p2 q n1 b v : Nat} {X : tF} {G : Nat → Nat → Nat} {ft f1 : Int32} {s u : tgS} {r : Int32} {qt qv ql : Nat} {qp qm : Int32} (h : tSs c yp X G rs tt nw1 p n1 b v ft f1 s u r qt qv ql qp qm) (hf : f1 = 0) (hcp : tCq X nw q s) (h1 : nw < nw1) (h2 : nw1 ≤ p) (h3 : p ≤ p2) (h4 : p2 ≤ q) : tCp X p p2 u ∧ tXt s u := by
  obtain ⟨-, -, -, N, -, a5⟩ := h.2 hf
  obtain ⟨c0, c1, c2, c3, c7⟩ := hcp
  obtain ⟨r0, r1, r2, r3, r7⟩ := a5.2.2.1
  have l1 := cL_le (X := X) (Nat.le_of_lt h1); have l2 := cL_le (X := X) h2; have l3 := cL_le (X := X) h3; have l4 := cL_le (X := X) h4
  refine ⟨?_, a5.1⟩
  unfold tCp; omega
theorem g1b {fk lF : Nat → Int32} {k p q b v : Nat} {c : Int32} (h : gq (gq (gTok fk c) (gAny (gEx fk k 1))) (gBlk fk k) lF p q b v) : ∃ (r b1 b2 : Nat) (ip : Int32), gE fk lF k 1 (p + 1) r b1 ip ∧ gBlk fk k lF r q b2 v ∧ fk p = c ∧ b = b1 + b2 := by
  obtain ⟨r, b1, v1, b2, v2, ⟨r2, b3, v3, b4, v4, ⟨rfl, h1, rfl, rfl⟩, ⟨ip, rfl, h2⟩, rfl, rfl⟩, h3, rfl, rfl⟩ := h
  have h3' : gBlk fk k lF r q b2 (0 + 0 + v2) := by rw [show 0 + 0 + v2 = v2 by omega]; exact h3
  exact ⟨r, b4, b2, ip, h2, h3', h1, by omega⟩
theorem stm_8 {fk lF : Nat → Int32} {d p q b v : Nat} {E : Int32 → gP} {B NB : gP} (h : stmF fk d E B NB lF p q b v) (hk : fk p = 8) : sLet fk d E lF p q b v := by
  rcases h with ⟨z, h⟩ | ⟨z, h⟩ | ⟨z, h⟩ | ⟨z, h⟩ | ⟨z, h⟩ | ⟨z, h⟩ | ⟨z, h⟩ | ⟨⟨z1, z2, z3, z4, z5, z6, z7⟩, h⟩
  all_goals first | exact h | (exfalso; rw [hk] at z; revert z; decide) | exact absurd hk z1 | exact absurd hk z2 | exact absurd hk z3 | exact absurd hk z4 | exact absurd hk z5 | exact absurd hk z6 | exact absurd hk z7
theorem stm_10 {fk lF : Nat → Int32} {d p q b v : Nat} {E : Int32 → gP} {B NB : gP} (h : stmF fk d E B NB lF p q b v) (hk : fk p = 10) : sIf fk E B lF p q b v := by
  rcases h with ⟨z, h⟩ | ⟨z, h⟩ | ⟨z, h⟩ | ⟨z, h⟩ | ⟨z, h⟩ | ⟨z, h⟩ | ⟨z, h⟩ | ⟨⟨z1, z2, z3, z4, z5, z6, z7⟩, h⟩
  all_goals first | exact h | (exfalso; rw [hk] at z; revert z; decide) | exact absurd hk z1 | exact absurd hk z2 | exact absurd hk z3 | exact absurd hk z4 | exact absurd hk z5 | exact absurd hk z6 | exact absurd hk z7
theorem stm_13 {fk lF : Nat → Int32} {d p q b v : Nat} {E : Int32 → gP} {B NB : gP} (h : stmF fk d E B NB lF p q b v) (hk : fk p = 13) : sMatch fk E NB lF p q b v := by
  rcases h with ⟨z, h⟩ | ⟨z, h⟩ | ⟨z, h⟩ | ⟨z, h⟩ | ⟨z, h⟩ | ⟨z, h⟩ | ⟨z, h⟩ | ⟨⟨z1, z2, z3, z4, z5, z6, z7⟩, h⟩
  all_goals first | exact h | (exfalso; rw [hk] at z; revert z; decide) | exact absurd hk z1 | exact absurd hk z2 | exact absurd hk z3 | exact absurd hk z4 | exact absurd hk z5 | exact absurd hk z6 | exact absurd hk z7
theorem stm_123 {fk lF : Nat → Int32} {d p q b v : Nat} {E : Int32 → gP} {B NB : gP} (h : stmF fk d E B NB lF p q b v) (hk : fk p = 123) : B lF p q b v := by
  rcases h with ⟨z, h⟩ | ⟨z, h⟩ | ⟨z, h⟩ | ⟨z, h⟩ | ⟨z, h⟩ | ⟨z, h⟩ | ⟨z, h⟩ | ⟨⟨z1, z2, z3, z4, z5, z6, z7⟩, h⟩
  all_goals first | exact h | (exfalso; rw [hk] at z; revert z; decide) | exact absurd hk z1 | exact absurd hk z2 | exact absurd hk z3 | exact absurd hk z4 | exact absurd hk z5 | exact absurd hk z6 | exact absurd hk z7
theorem stm_12 {fk lF : Nat → Int32} {d p q b v : Nat} {E : Int32 → gP} {B NB : gP} (h : stmF fk d E B NB lF p q b v) (hk : fk p = 12) : gq (gq (gTok fk 12) (gAny E)) B lF p q b v := by
  rcases h with ⟨z, h⟩ | ⟨z, h⟩ | ⟨z, h⟩ | ⟨z, h⟩ | ⟨z, h⟩ | ⟨z, h⟩ | ⟨z, h⟩ | ⟨⟨z1, z2, z3, z4, z5, z6, z7⟩, h⟩
  all_goals first | exact h | (exfalso; rw [hk] at z; revert z; decide) | exact absurd hk z1 | exact absurd hk z2 | exact absurd hk z3 | exact absurd hk z4 | exact absurd hk z5 | exact absurd hk z6 | exact absurd hk z7
theorem stm_14 {fk lF : Nat → Int32} {d p q b v : Nat} {E : Int32 → gP} {B NB : gP} (h : stmF fk d E B NB lF p q b v) (hk : fk p = 14) : sRet fk E lF p q b v := by
  rcases h with ⟨z, h⟩ | ⟨z, h⟩ | ⟨z, h⟩ | ⟨z, h⟩ | ⟨z, h⟩ | ⟨z, h⟩ | ⟨z, h⟩ | ⟨⟨z1, z2, z3, z4, z5, z6, z7⟩, h⟩
  all_goals first | exact h | (exfalso; rw [hk] at z; revert z; decide) | exact absurd hk z1 | exact absurd hk z2 | exact absurd hk z3 | exact absurd hk z4 | exact absurd hk z5 | exact absurd hk z6 | exact absurd hk z7
theorem stm_15 {fk lF : Nat → Int32} {d p q b v : Nat} {E : Int32 → gP} {B NB : gP} (h : stmF fk d E B NB lF p q b v) (hk : fk p = 15) : gq (gq (gTok fk 15) (gAny E)) (gTok fk 59) lF p q b v := by
  rcases h with ⟨z, h⟩ | ⟨z, h⟩ | ⟨z, h⟩ | ⟨z, h⟩ | ⟨z, h⟩ | ⟨z, h⟩ | ⟨z, h⟩ | ⟨⟨z1, z2, z3, z4, z5, z6, z7⟩, h⟩
  all_goals first | exact h | (exfalso; rw [hk] at z; revert z; decide) | exact absurd hk z1 | exact absurd hk z2 | exact absurd hk z3 | exact absurd hk z4 | exact absurd hk z5 | exact absurd hk z6 | exact absurd hk z7
theorem stm_0 {fk lF : Nat → Int32} {d p q b v : Nat} {E : Int32 → gP} {B NB : gP} (h : stmF fk d E B NB lF p q b v) (h1 : fk p ≠ 8) (h2 : fk p ≠ 10) (h3 : fk p ≠ 13) (h4 : fk p ≠ 123) (h5 : fk p ≠ 12) (h6 : fk p ≠ 14) (h7 : fk p ≠ 15) : sAsg fk E lF p q b v := by
  rcases h with ⟨z, h⟩ | ⟨z, h⟩ | ⟨z, h⟩ | ⟨z, h⟩ | ⟨z, h⟩ | ⟨z, h⟩ | ⟨z, h⟩ | ⟨-, h⟩
  · exact absurd z h1
  · exact absurd z h2
  · exact absurd z h3
  · exact absurd z h4
  · exact absurd z h5
  · exact absurd z h6
  · exact absurd z h7
  · exact h
theorem asg_of {fk lF : Nat → Int32} {k p q b v : Nat} (h : sAsg fk (gEx fk k 1) lF p q b v) : v = 0 ∧ ((∃ (r p2 b1 b2 : Nat) (ip : Int32), lF p = nI r ∧ p < r ∧ r < 3001 ∧ gE fk lF k 1 p r b1 1 ∧ fk r = 61 ∧ gE fk lF k 1 (r + 1) p2 b2 ip ∧ fk p2 = 59 ∧ q = p2 + 1 ∧ b = b1 + b2) ∨ (lF p = 0 ∧ ∃ (r : Nat) (ip : Int32), gE fk lF k 1 p r b ip ∧ fk r = 59 ∧ q = r + 1)) := by
  rcases h with ⟨r, h1, h2, h3, r1, b1, v1, b2, v2, ⟨rfl, rfl, h4⟩, ⟨r2, b3, v3, b4, v4, ⟨r3, b5, v5, b6, v6, ⟨rfl, h5, rfl, rfl⟩, ⟨ip, rfl, h6⟩, rfl, rfl⟩, ⟨rfl, h7, rfl, rfl⟩, rfl, rfl⟩, rfl, rfl⟩ | ⟨h1, r, b1, v1, b2, v2, ⟨ip, rfl, h2⟩, ⟨rfl, h3, rfl, rfl⟩, rfl, rfl⟩
  · exact ⟨rfl, Or.inl ⟨r1, r2, b1, b6, ip, h1, h2, h3, h4, h5, h6, h7, rfl, by omega⟩⟩
  · exact ⟨rfl, Or.inr ⟨h1, r, ip, h2, h3, rfl⟩⟩
end
-- bl.bz_tst4.lean.txt
section
theorem lbU_sb {s t : tgS} {x0 : Int32} {L M : Nat} (h : lbU s L) (ha : tSb s t x0 M) (hc : s.1 0 < 6000) (hne : M ≠ L) (hM : M < 2 ^ 31) (hL : L < 2 ^ 31) : lbU t L := by
  obtain ⟨a1, a2, a5, b0, b1, -⟩ := ha
  obtain ⟨e, b0⟩ := insA_lt b0 hc
  have b1 := (insA_lt b1 hc).2
  refine ⟨by rw [a1 1 (by decide)]; exact h.1, fun i hi hj => ?_⟩
  by_cases z : i = s.1 0
  · subst z
    rw [b1, pk_us]
    exact fun q => hne ((nI_eq hM hL).mp q)
  · rw [b0, pk_un z] at hj
    rw [b1, pk_un z]
    exact h.2 i (by omega) hj
theorem nl_x {s t : tgS} {L : Nat} (h : tNl s t L) (hs : s.1 1 < 1100) {lo : Nat} : tOK lo 0 2 0 0 0 s t (fun _ a b => b = a) ∧ L = s.1 1 ∧ t.1 1 = s.1 1 + 1 := ⟨tOK_up1 (tNl_up h hs).1, (tNl_up h hs).2, (tNl_up h hs).1.2.1⟩
theorem sg_any {F X : tF} {G : Nat → Nat → Nat} {rs a b : Nat} {J : Int32 → List tE → Prop} {x O : List tE} {r : Int32} (h : sg F X G rs J a b (some x) (if r = 1 then none else some O)) (hab : a ≤ b) (hO : vl O ≤ 211) : sg F X G rs J a b (some x) (some O) := by
  by_cases e : r = 1
  · rw [if_pos e] at h
    have hlt : a < b := by
      rcases Nat.lt_or_ge a b with c | c
      · exact c
      · exfalso
        obtain ⟨k, e1, e2, -⟩ := h
        rw [show b = a by omega, e1] at e2
        exact absurd e2 (by simp)
    exact sg_none h hlt (vs hO)
  · rw [if_neg e] at h
    exact h
/-- while -/
theorem l_loop {yp rs k tt nw p1 p2 q n1 n2 b1 b2 v2 L1 L2 T : Nat} {X : tF} {G : Nat → Nat → Nat} {ft f1 f2 r : Int32} {s a1 a2 a3 a4 a5 a6 a7 a8 t : tgS} {qv ql qt2 qv2 ql2 : Nat} {qp qm qp2 qm2 : Int32} (h1 : tNl s a1 L1) (h2 : tNl a1 a2 L2) (h3 : tSb a2 a3 14 L1) (h4 : tAd a3 a4 23 0 0 0 (-1)) (hc : tRw yp X G (rs + 4096 * k) tt p1 p2 n1 b1 ft f1 a4 a5 T qv ql qp qm) (hT : f1 = 0 → T = 2) (h6 : tAd a5 a6 17 (nI L2) 0 0 (-1)) (hb : tBs 3 yp X G rs tt p2 q n2 b2 v2 (a6.1 4) f1 f2 a6 a7 r qt2 qv2 ql2 qp2 qm2) (h8 : tAd a7 a8 15 (nI L1) 0 0 (-1)) (h9 : tSb a8 t 13 L2) (hJ : tJ t) (hrs : rs < 4096) (hk : k ≤ 16) (hp : p1 = nw + 1 ∧ p1 < p2 ∧ p2 + 2 ≤ q) (hcL : cL X (nw + 1) = cL X nw + 2) (hcp : ft = 0 → tCq X nw q s) (hI : ft = 0 → tI yp X s) : tSs 1 yp X G rs tt nw q n2 (b1 + b2) v2 ft f2 s t 0 qt2 qv2 ql2 qp2 qm2 := by
  obtain ⟨⟨c1, c2, c3, c4, c5, c6⟩, hc2⟩ := hc
  obtain ⟨⟨d1, d2, d3, d4, d5, d6, d7⟩, hd2⟩ := hb
  have x4 : a6.1 4 = s.1 4 := by rw [h6.1 4 (by decide), c5, h4.1 4 (by decide), h3.1 4 (by decide), h2.2.1 4 (by decide), h1.2.1 4 (by decide)]
  have x5 : a4.1 5 = s.1 5 := by rw [h4.1 5 (by decide), h3.1 5 (by decide), h2.2.1 5 (by decide), h1.2.1 5 (by decide)]
  have x65 := h6.1 5 (by decide)
  have x44 : a4.1 4 = s.1 4 := by rw [h4.1 4 (by decide), h3.1 4 (by decide), h2.2.1 4 (by decide), h1.2.1 4 (by decide)]
  have t4 : t.1 4 = a7.1 4 := by rw [h9.1 4 (by decide), h8.1 4 (by decide)]
  have t5 : t.1 5 = a7.1 5 := by rw [h9.1 5 (by decide), h8.1 5 (by decide)]
  refine ⟨⟨d1, d2, hJ, d4, by omega, by omega, Or.inl rfl⟩, fun z => ?_⟩
  obtain ⟨g1, g2, g3, g4⟩ := hd2 z
  obtain ⟨e1, e2, e3, e4, e5⟩ := hc2 g1
  rw [x44] at e5
  obtain ⟨w0, w1, w2, w3, w7⟩ := hcp e1
  obtain ⟨rfl, p3, p4⟩ := hp
  have l1 := cL_le (X := X) (show nw + 1 ≤ p2 by omega); have l2 := cL_le (X := X) (show p2 ≤ q by omega)
  have hI0 := hI e1
  obtain ⟨o1, q1, m1⟩ := nl_x (lo := s.1 1) h1 (by omega)
  obtain ⟨o2, q2, m2⟩ := nl_x (lo := s.1 1) h2 (by omega)
  have u1 := (tNl_up h1 (by omega)).1; have u2 := (tNl_up h2 (by omega)).1
  have s0 : a2.1 0 = s.1 0 := by rw [h2.2.1 0 (by decide), h1.2.1 0 (by decide)]
  have ha2 : a2.1 0 < 6000 := by omega
  have a31 : a3.1 1 = a2.1 1 := h3.1 1 (by decide)
  have a30 : a3.1 0 = a2.1 0 + 1 := (insA_lt h3.2.2.2.1 ha2).1
  have ha3 : a3.1 0 < 6000 := by omega
  have a40 : a4.1 0 = a3.1 0 + 1 := (insA_lt h4.2.2.1 ha3).1
  have a41 : a4.1 1 = a3.1 1 := h4.1 1 (by decide)
  obtain ⟨r0, r1, r2, r3, r7⟩ := e5.2.2.1
  have ha5 : a5.1 0 < 6000 := by omega
  have a60 : a6.1 0 = a5.1 0 + 1 := (insA_lt h6.2.2.1 ha5).1
  have a61 : a6.1 1 = a5.1 1 := h6.1 1 (by decide)
  have hbk := tOKb_ok (g4.1 [] (nwI_0 (Nat.le_refl _)))
  obtain ⟨y0, y1, y2, y3, y7⟩ := hbk.2.2.1
  have ha7 : a7.1 0 < 6000 := by omega
  have a80 : a8.1 0 = a7.1 0 + 1 := (insA_lt h8.2.2.1 ha7).1
  have a81 : a8.1 1 = a7.1 1 := h8.1 1 (by decide)
  have ha8 : a8.1 0 < 6000 := by omega
  have a51 := e5.1.1 1 (by decide); have a71 := hbk.1.1 1 (by decide)
  have x2 : a4.1 2 = s.1 2 := by rw [h4.1 2 (by decide), h3.1 2 (by decide), h2.2.1 2 (by decide), h1.2.1 2 (by decide)]
  have x3 : a4.1 3 = s.1 3 := by rw [h4.1 3 (by decide), h3.1 3 (by decide), h2.2.1 3 (by decide), h1.2.1 3 (by decide)]
  have x7 : a4.1 7 = s.1 7 := by rw [h4.1 7 (by decide), h3.1 7 (by decide), h2.2.1 7 (by decide), h1.2.1 7 (by decide)]
  have x62 := h6.1 2 (by decide); have x63 := h6.1 3 (by decide); have x67 := h6.1 7 (by decide)
  have hU : lbU a2 L2 := by rw [q2]; exact lbU_new (tI_up hI0 u1 (Or.inr (Or.inl rfl))).2.1 u2 (by omega)
  have hU3 := lbU_sb hU h3 ha2 (by omega) (by omega) (by omega)
  have hU4 := lbU_x (lo := L2 + 1) hU3 (tOK_ad (lo := L2 + 1) h4 ha3 (by unfold isL; decide)) (by omega) (by omega)
  have hU5 := lbU_x hU4 (tOK_lo (lo2 := L2 + 1) e5 (by omega)) (by omega) (by omega)
  have hU6 := lbU_x (lo := L2 + 1) hU5 (tOK_ad (lo := L2 + 1) h6 ha5 (by unfold isL; decide)) (by omega) (by omega)
  have hU7 := lbU_x hU6 (tOK_lo (lo2 := L2 + 1) hbk (by omega)) (by omega) (by omega)
  have hU8 := lbU_x (lo := L2 + 1) hU7 (tOK_ad (lo := L2 + 1) h8 ha7 (by unfold isL; decide)) (by omega) (by omega)
  have hIt := tI_sb (tI_ad g3 h8 ha7 (by unfold isL; decide)) hU8 h9 ha8 (by omega)
  have K := tOK_seq (tOK_seq (tOK_seq (tOK_seq (tOK_seq (tOK_seq (tOK_seq (tOK_seq o1 o2) (tOK_sb (lo := s.1 1) h3 ha2 (by omega) (by omega))) (tOK_ad (lo := s.1 1) h4 ha3 (by unfold isL; decide))) (tOK_lo (lo2 := s.1 1) e5 (by omega))) (tOK_ad (lo := s.1 1) h6 ha5 (by unfold isL; decide))) (tOK_lo (lo2 := s.1 1) hbk (by omega))) (tOK_ad (lo := s.1 1) h8 ha7 (by unfold isL; decide))) (tOK_sb (lo := s.1 1) h9 ha8 (by omega) hU8.1)
  have K9 := tOK_seq (tOK_ad (lo := s.1 1) h8 ha7 (by unfold isL; decide)) (tOK_sb (lo := s.1 1) h9 ha8 (by omega) hU8.1)
  have hcl9 : nwC (s.1 4) t [] := by rw [← x4]; exact nwC_x g4.2 K9.1 K9.2.1.2 (by omega)
  refine ⟨e1, g2, hIt, [], ⟨tnwA_nil, hcl9⟩, tOK_mn K (Nat.le_refl _) (by omega) (fun F hF hz J O hO => ?_)⟩
  obtain ⟨j8, j8a, j8b, ⟨j7, j7a, j7b, ⟨j6, j6a, j6b, ⟨j5, j5a, j5b, ⟨j4, j4a, j4b, ⟨j3, j3a, j3b, ⟨j2, j2a, j2b, ⟨j1, j1a, j1b, y1', y2'⟩, y3'⟩, y4'⟩, y5'⟩, y6'⟩, y7'⟩, y8'⟩, y9'⟩ := hz
  have y1' : j1 = s.1 0 := y1'
  have y2' : j2 = j1 := y2'
  obtain ⟨z3, f30, f31, -⟩ := y3'
  obtain ⟨z4, f40, -⟩ := y4'
  obtain ⟨z6, f60, f61, -⟩ := y6'
  obtain ⟨z8, f80, f81, -⟩ := y8'
  obtain ⟨z9, f90, f91, -⟩ := y9'
  have hv0 := scI_vl hO.1
  have hvO : vl O ≤ 211 := by omega
  have hT2 := hT g1
  subst hT2
  have eT : tNf F 2 = (0, 2, 0) := tF_low (t := t) hIt.1 hF.2.2.2 (Or.inr (Or.inr rfl))
  have L1b : L1 < 1100 := by omega
  have L2b : L2 < 1100 := by omega
  rw [if_neg (by decide)]
  show sg F X G rs J (s.1 0) (t.1 0) (some O) (some O)
  rw [z9, ← y1', ← y2']
  have b1' : sg F X G rs (fun M st => J M st ∨ (M = nI L2 ∧ st = O)) j3 j4 (some O) (some O) := by
    rw [z4]; exact sg_one (o := 23) f40 (show 23 < 33 by decide) hvO (vs hvO) (fun k9 hk9 => hk9)
  have b2' := s_val (J := fun M st => J M st ∨ (M = nI L2 ∧ st = O)) hrs hk y5' (scJ_sub hO (show s.1 0 ≤ j4 by omega) (Nat.le_refl _))
  have b3' : sg F X G rs (fun M st => J M st ∨ (M = nI L2 ∧ st = O)) j5 j6 (some (tNf F 2 :: O)) (some O) := by
    rw [z6, eT]
    exact sg_one (o := 17) f60 ⟨L2, f61, L2b⟩ (by rw [eT] at b2'; exact sg_end b2' (by omega)) (vs hvO) (fun k9 hk9 => ⟨O, rfl, ⟨hk9, scI_vl hO.1⟩, Or.inr ⟨f61, rfl⟩⟩)
  have b4' : sg F X G rs (fun M st => J M st ∨ (M = nI L2 ∧ st = O)) j6 j7 (some O) (some O) := sg_any (y7' (fun M st => J M st ∨ (M = nI L2 ∧ st = O)) O (by rw [x4]; exact scJ_sub hO (show s.1 0 ≤ j6 by omega) (show j7 ≤ t.1 0 by omega))) (by omega) hvO
  have b5' := sg_app (sg_app (sg_app b1' b2' (by omega) (by omega)) b3' (by omega) (by omega)) b4' (by omega) (by omega)
  have b6' := sg_loop (a := j2) (L := nI L1) f30 ⟨L1, j8, f31, L1b, by have := hJ.1; omega, f90, by rw [f91, show L2 = L1 + 1 by omega]⟩ f31 (by rw [← z3]; exact b5') (by omega) f80 ⟨L1, f81, L1b⟩ f81 ⟨L1, L1b, f31, by rw [← z8]; exact f90, by rw [← z8, f91, show L2 = L1 + 1 by omega]⟩ (scI_vl hO.1)
  rw [← z8] at b6'
  exact sg_lab (j := j8) (L := nI L2) (r := O) (sg_none b6' (by omega) (vs hvO)) (sg_one (o := 13) f90 ⟨L2, f91, L2b⟩ hvO (vs hvO) (fun k9 hk9 => hk9)) (by omega) (Nat.lt_succ_self _) f90 f91 (scI_vl hO.1)
end
-- bl.bz_tst5.lean.txt
section
/-- an assignment: the value, then the place, then the instruction -/
theorem l_asg {yp rs k tt nw r p2 q n1 n2 n3 b1 b2 T qt2 qv2 ql2 : Nat} {X : tF} {G : Nat → Nat → Nat} {ft f1 f2 f3 : Int32} {s u x y w t : tgS} {qv ql : Nat} {qp qm qp2 qa2 qr2 qm2 qf : Int32} (hv : tRw yp X G (rs + 4096 * k) tt (r + 1) p2 n1 b2 ft f1 s u T qv ql qp qm) (hrs : rs < 4096) (hk : k ≤ 16) (hS : x = u ∨ ∃ v z : Nat, tSe u x v T z ∧ v < u.1 4 ∧ u.2 15 v = -1 ∧ (f3 = 0 → tyV yp (u.1 7) (u.2 20) T) ∧ u.2 22 T = nI z ∧ z ≤ 17) (hl : tRs yp X G (rs + 4096 * k) tt nw r n2 b1 1 f1 f2 x y qt2 qv2 ql2 qp2 qa2 qr2 qm2) (hP : tPl y w (nI qv2) qa2 (nI ql2) qr2 (nI qt2) (y.2 22 qt2) (aN qf)) (hA : tAd w t 26 (nI (y.1 2)) 0 0 (-1)) (hJ : tJ t) (hJx : tJ x) (h4 : s.1 4 ≤ 40) (hn : n3 < tt) (hf : f3 ≠ 0 → n3 = tt - 1) (h2 : f3 = 0 → f2 = 0 ∧ n3 = q ∧ T = qt2 ∧ (ql2 = 0 ∨ qm2 ≠ 0)) (hp : f3 = 0 → nw < r ∧ r + 1 < p2 ∧ p2 < q) (hcp : ft = 0 → tCq X nw q s) : tSs 1 yp X G rs tt nw q n3 (b1 + b2) 0 ft f3 s t 0 qt2 qv2 ql2 qp2 qm2 := by
  obtain ⟨⟨a1, a2, a3, a4, a5, a6⟩, h5⟩ := hv
  obtain ⟨⟨c1, c2, c3, c4, c5, c6⟩, h6⟩ := hl
  have x45 : x.1 4 = u.1 4 ∧ x.1 5 = u.1 5 := by
    rcases hS with rfl | ⟨v, z, hS, -⟩
    · exact ⟨rfl, rfl⟩
    · exact ⟨hS.2.1 4 (by decide), hS.2.1 5 (by decide)⟩
  have t4 : t.1 4 = y.1 4 := by rw [hA.1 4 (by decide), hP.1 4 (by decide)]
  have t5 : t.1 5 = y.1 5 := by rw [hA.1 5 (by decide), hP.1 5 (by decide)]
  refine ⟨⟨hn, hf, hJ, c4, by omega, by omega, Or.inl rfl⟩, fun z => ?_⟩
  obtain ⟨y1, y2, y3, y4⟩ := h2 z
  obtain ⟨p1, p3, p4⟩ := hp z
  obtain ⟨g1, g2, g3, g4, g5⟩ := h6 y1
  obtain ⟨e1, e2, e3, e4, e5⟩ := h5 g1
  obtain ⟨w0, w1, w2, w3, w7⟩ := hcp e1
  have hq1 := g4 rfl
  obtain ⟨-, rfl, hpl⟩ : qp2 = 1 ∧ y = x ∧ plV yp X x qv2 ql2 qa2 qr2 qt2 qm2 := g5.elim id (fun q9 => absurd (hq1.symm.trans q9.1) (by decide))
  have cl1 := cL_le (X := X) (show nw ≤ r + 1 by omega); have cl2 := cL_le (X := X) (show r + 1 ≤ p2 by omega); have cl3 := cL_le (X := X) (show p2 ≤ q by omega)
  obtain ⟨r0, r1, r2, r3, r7⟩ := e5.2.2.1
  have ox : tOK (s.1 1) 0 0 0 0 0 u y (fun _ a b => b = a) := by
    rcases hS with rfl | ⟨v, zz, hS, hv1, hv2, -⟩
    · exact tOK_mn tOK_rf (Nat.le_refl _) (by omega) (fun F hF y => rfl)
    · exact tOK_se (lo := s.1 1) hS hv2
  have x0 : y.1 0 = u.1 0 ∧ y.1 2 = u.1 2 := by
    rcases hS with rfl | ⟨v, zz, hS, -⟩
    · exact ⟨rfl, rfl⟩
    · exact ⟨hS.2.1 0 (by decide), hS.2.1 2 (by decide)⟩
  have hy2 : y.1 2 < 3001 := by omega
  have hw0e := hP.1 0 (by decide)
  have hw0 : w.1 0 < 6000 := by omega
  have hIw := tI_pl g3 hP
  have hIt := tI_ad hIw hA hw0 (by unfold isL; decide)
  have t0 : t.1 0 = w.1 0 + 1 := (insA_lt hA.2.2.1 hw0).1
  have k1 := tOK_nc e5 ox
  have k2 := tOK_seq (tOK_seq k1 (tOK_pl (lo := s.1 1) hP hy2)) (tOK_ad (lo := s.1 1) hA hw0 (by unfold isL; decide))
  refine ⟨e1, y2, hIt, [], nwI_0 (by omega), tOK_mn k2 (Nat.le_refl _) (by omega) (fun F hF hz J O hO => ?_)⟩
  obtain ⟨m, m1, m2, ⟨m', m3, m4, v1, v2⟩, v3⟩ := hz
  obtain ⟨rfl, f6, f7, f8, f9, f10, f11, f12⟩ := v2
  obtain ⟨b1', k0, kk1, -⟩ := v3
  have hv0 := scI_vl hO.1
  have x1 := s_val (J := J) hrs hk v1 hO
  have hFt := hF.2.2.2
  have hxy : tXt y t := tXt_tr (tOK_pl (lo := 0) hP hy2).1 (tXt_ad hA hw0)
  have hFy := tFu_dn hFt hxy
  have h7 : y.1 7 ≤ 3040 := hJx.2.2.2.2.2.2.1
  have hT9 : qt2 < y.1 7 := hpl.2.2.2.2
  have k22 := hFy.1 22 (by decide) (by decide) qt2 hT9
  have hpi : plI F X (y.1 2) qv2 ql2 qt2 qa2 qr2 qm2 := ⟨⟨hy2, by rw [f11]; exact aN_ge _⟩, c4.2.1, c4.2.2.1, by omega, f6, f7, f8, f9, f10, by rw [f12, k22], plS_F hpl.1 hpl.2.1.1 hFy h7 _ _ _ _ _ hpl.2.2.1⟩
  have hop9 := (tOK_seq (tOK_pl (lo := 0) hP hy2) (tOK_ad (lo := 0) hA hw0 (by unfold isL; decide))).2.1.2
  have su0 := e5.1.1 0 (by decide)
  have hm9 : (8, qv2, 0) ∈ O := sc_mem hO.2 hxy hop9 hFt hpl.1 (by omega) hpl.2.1.2 (by omega)
  rw [if_neg (by decide), b1']
  rw [y3] at x1
  exact sg_app x1 (sg_one (o := 26) k0 ⟨y.1 2, qv2, kk1, hy2, f6, c4.2.1⟩ (sg_end x1 m3) (vs (show vl O ≤ 211 by omega)) (fun k9 hk9 => ⟨y.1 2, qv2, ql2, qt2, qa2, qr2, qm2, O, kk1, hpi, y4, rfl, hk9⟩) (hvi := Or.inr (vIs_pl (o := 26) k0 (Or.inr (Or.inr (Or.inr rfl))) kk1 hy2 f6 c4.2.1 (List.mem_cons_of_mem _ hm9)))) m3 (Nat.le_succ _)
end
-- bl.bz_tst6.lean.txt
section
theorem sg_dead {F X : tF} {G : Nat → Nat → Nat} {rs a : Nat} {o : Nat} {J : Int32 → List tE → Prop} (h0 : F 0 a = nI o) (hB : iBo F a o) (h14 : nI o ≠ 14 := by decide) : sg F X G rs J a (a + 1) none none := ⟨fun _ => none, rfl, rfl, fun i ha hb s hs => absurd hs (by simp), fun i ha hb => ⟨by rw [show i = a by omega]; exact ⟨⟨o, h0, hB⟩, fun z => absurd (h0.symm.trans z) h14⟩, fun s hs => absurd hs (by simp)⟩⟩
/-- arms of an if so far: z: whether all of them return; Le: the label behind the if -/
def tIm (X : tF) (G : Nat → Nat → Nat) (rs n Le : Nat) (z : Int32) : tR := fun F a b => ∀ (J : Int32 → List tE → Prop) (O : List tE), scJ F n a b O → sg F X G rs (fun M st => J M st ∨ (z ≠ 1 ∧ M = nI Le ∧ st = O)) a b (some O) (some O)
/-- one arm -/
theorem l_arm {yp rs k tt p1 p2 p3 n1 n2 b1 b2 v2 L Le T : Nat} {X : tF} {G : Nat → Nat → Nat} {f0 f1 f2 r : Int32} {a0 a1 a2 a3 a4 a5 a6 : tgS} {qv ql qt2 qv2 ql2 : Nat} {qp qm qp2 qm2 : Int32} (hc : tRw yp X G (rs + 4096 * k) tt p1 p2 n1 b1 f0 f1 a0 a1 T qv ql qp qm) (hT : f1 = 0 → T = 2) (h2 : tNl a1 a2 L) (h3 : tAd a2 a3 17 (nI L) 0 0 (-1)) (hb : tBs 3 yp X G rs tt p2 p3 n2 b2 v2 (a3.1 4) f1 f2 a3 a4 r qt2 qv2 ql2 qp2 qm2) (h5 : tAd a4 a5 16 (nI Le) 0 0 (-1)) (h6 : tSb a5 a6 13 L) (hrs : rs < 4096) (hk : k ≤ 16) (hp : p1 < p2 ∧ p2 + 2 ≤ p3) (hLe : Le < 1100) (hcp : f0 = 0 → a0.1 0 + 2 * (p3 - p1) ≤ 6000 ∧ 2 * a0.1 1 + 2 * (cL X p3 - cL X p1) + 2 ≤ 2200) (z : f2 = 0) : f0 = 0 ∧ n2 = p3 ∧ tI yp X a6 ∧ tOK (a0.1 1) (2 * (p3 - p1) - 1) (2 + 2 * (cL X p3 - cL X p1)) (p3 - p1) (2 * (p3 - p1)) (p3 - p1) a0 a6 (tIm X G rs (a0.1 4) Le r) ∧ nwC (a0.1 4) a6 [] := by
  obtain ⟨⟨c1, c2, c3, c4, c5, c6⟩, hc2⟩ := hc
  obtain ⟨⟨d1, d2, d3, d4, d5, d6, d7⟩, hd2⟩ := hb
  obtain ⟨g1, g2, g3, g4⟩ := hd2 z
  obtain ⟨e1, e2, e3, e4, e5⟩ := hc2 g1
  obtain ⟨w0, w1⟩ := hcp e1
  obtain ⟨p4, p5⟩ := hp
  have l1 := cL_le (X := X) (show p1 ≤ p2 by omega); have l2 := cL_le (X := X) (show p2 ≤ p3 by omega)
  obtain ⟨r0, r1, r2, r3, r7⟩ := e5.2.2.1
  obtain ⟨o2, q2, m2⟩ := nl_x (lo := a0.1 1) h2 (by omega)
  have u2 := (tNl_up h2 (by omega)).1
  have a20 : a2.1 0 = a1.1 0 := h2.2.1 0 (by decide)
  have ha2 : a2.1 0 < 6000 := by omega
  have a30 : a3.1 0 = a2.1 0 + 1 := (insA_lt h3.2.2.1 ha2).1
  have a31 : a3.1 1 = a2.1 1 := h3.1 1 (by decide)
  have a34 : a3.1 4 = a0.1 4 := by rw [h3.1 4 (by decide), h2.2.1 4 (by decide), c5]
  have a32 : a3.1 2 = a1.1 2 := by rw [h3.1 2 (by decide), h2.2.1 2 (by decide)]
  have a33 : a3.1 3 = a1.1 3 := by rw [h3.1 3 (by decide), h2.2.1 3 (by decide)]
  have a37 : a3.1 7 = a1.1 7 := by rw [h3.1 7 (by decide), h2.2.1 7 (by decide)]
  have hbk := tOKb_ok (g4.1 [] (nwI_0 (Nat.le_refl _)))
  obtain ⟨y0, y1, y2, y3, y7⟩ := hbk.2.2.1
  have ha4 : a4.1 0 < 6000 := by omega
  have a50 : a5.1 0 = a4.1 0 + 1 := (insA_lt h5.2.2.1 ha4).1
  have a51 : a5.1 1 = a4.1 1 := h5.1 1 (by decide)
  have ha5 : a5.1 0 < 6000 := by omega
  have a11 := e5.1.1 1 (by decide); have a41 := hbk.1.1 1 (by decide)
  have hU : lbU a2 L := by rw [q2]; exact lbU_new e3.2.1 u2 (by omega)
  have hU3 := lbU_x (lo := L + 1) hU (tOK_ad (lo := L + 1) h3 ha2 (by unfold isL; decide)) (by omega) (by omega)
  have hU4 := lbU_x hU3 (tOK_lo (lo2 := L + 1) hbk (by omega)) (by omega) (by omega)
  have hU5 := lbU_x (lo := L + 1) hU4 (tOK_ad (lo := L + 1) h5 ha4 (by unfold isL; decide)) (by omega) (by omega)
  have hI6 := tI_sb (tI_ad g3 h5 ha4 (by unfold isL; decide)) hU5 h6 ha5 (by omega)
  have K := tOK_seq (tOK_seq (tOK_seq (tOK_seq (tOK_seq e5 o2) (tOK_ad (lo := a0.1 1) h3 ha2 (by unfold isL; decide))) (tOK_lo (lo2 := a0.1 1) hbk (by omega))) (tOK_ad (lo := a0.1 1) h5 ha4 (by unfold isL; decide))) (tOK_sb (lo := a0.1 1) h6 ha5 (by omega) hU5.1)
  have K9 := tOK_seq (tOK_ad (lo := a0.1 1) h5 ha4 (by unfold isL; decide)) (tOK_sb (lo := a0.1 1) h6 ha5 (by omega) hU5.1)
  have hcl9 : nwC (a0.1 4) a6 [] := by rw [← a34]; exact nwC_x g4.2 K9.1 K9.2.1.2 (by rw [h6.1 4 (by decide), h5.1 4 (by decide)]; exact Nat.le_refl _)
  refine ⟨e1, g2, hI6, tOK_mn K (Nat.le_refl _) (by omega) (fun F hF hz J O hO => ?_), hcl9⟩
  obtain ⟨j5, j5a, j5b, ⟨j4, j4a, j4b, ⟨j3, j3a, j3b, ⟨j2, j2a, j2b, ⟨j1, j1a, j1b, y1', y2'⟩, y3'⟩, y4'⟩, y5'⟩, y6'⟩ := hz
  have y2' : j2 = j1 := y2'
  obtain ⟨z3, f30, f31, -⟩ := y3'
  obtain ⟨z5, f50, f51, -⟩ := y5'
  obtain ⟨z6, f60, f61, -⟩ := y6'
  have hv0 := scI_vl hO.1
  have hvO : vl O ≤ 211 := by omega
  have hT2 := hT g1
  subst hT2
  have eT : tNf F 2 = (0, 2, 0) := tF_low (t := a6) hI6.1 hF.2.2.2 (Or.inr (Or.inr rfl))
  have Lb : L < 1100 := by omega
  rw [z6]
  have b1' := s_val (J := fun M st => (J M st ∨ (r ≠ 1 ∧ M = nI Le ∧ st = O)) ∨ (M = nI L ∧ st = O)) hrs hk y1' (scJ_sub hO (Nat.le_refl _) (Nat.le_refl _))
  have b2' : sg F X G rs (fun M st => (J M st ∨ (r ≠ 1 ∧ M = nI Le ∧ st = O)) ∨ (M = nI L ∧ st = O)) j2 j3 (some (tNf F 2 :: O)) (some O) := by
    rw [z3, eT]
    exact sg_one (o := 17) f30 ⟨L, f31, Lb⟩ (by rw [eT] at b1'; exact sg_end b1' (by omega)) (vs hvO) (fun k9 hk9 => ⟨O, rfl, ⟨hk9, scI_vl hO.1⟩, Or.inr ⟨f31, rfl⟩⟩)
  rw [y2'] at b2'
  have b3' : sg F X G rs (fun M st => (J M st ∨ (r ≠ 1 ∧ M = nI Le ∧ st = O)) ∨ (M = nI L ∧ st = O)) j3 j4 (some O) (if r = 1 then none else some O) := y4' _ O (by rw [a34]; exact scJ_sub hO (by omega) (by omega))
  have b4' : sg F X G rs (fun M st => (J M st ∨ (r ≠ 1 ∧ M = nI Le ∧ st = O)) ∨ (M = nI L ∧ st = O)) j4 j5 (if r = 1 then none else some O) none := by
    rw [z5]
    by_cases e : r = 1
    · rw [if_pos e]; exact sg_dead (o := 16) f50 ⟨Le, f51, hLe⟩
    · rw [if_neg e]
      exact sg_one (o := 16) f50 ⟨Le, f51, hLe⟩ hvO (fun r9 hr9 => absurd hr9 (by simp)) (fun k9 hk9 => ⟨scI_vl hO.1, Or.inl (Or.inr ⟨e, f51, rfl⟩)⟩)
  have b5' := sg_app (sg_app (sg_app b1' b2' (by omega) (by omega)) b3' (by omega) (by omega)) b4' (by omega) (by omega)
  exact sg_lab (j := j5) (L := nI L) (r := O) (sg_none b5' (by omega) (vs hvO)) (sg_one (o := 13) f60 ⟨L, f61, Lb⟩ hvO (vs hvO) (fun k9 hk9 => hk9)) (by omega) (Nat.lt_succ_self _) f60 f61 (scI_vl hO.1)
/-- arms read so far, from nw to pos; s: behind the making of Le -/
def tIs (yp : Nat) (X : tF) (G : Nat → Nat → Nat) (rs tt nw pos n9 b8 v8 Le : Nat) (ft f9 : Int32) (s t : tgS) (z : Int32) (qt qv ql : Nat) (qp qm : Int32) : Prop := tSb0 tt n9 b8 v8 f9 s t z qt qv ql qp qm ∧ (f9 = 0 → ft = 0 ∧ n9 = pos ∧ tI yp X t ∧ tOK (s.1 1) (2 * (pos - nw) - 3) (2 * (cL X pos - cL X nw) - 2) (pos - nw) (2 * (pos - nw)) (pos - nw) s t (tIm X G rs (s.1 4) Le z) ∧ nwC (s.1 4) t [])
theorem tIs_0 {yp rs tt nw n9 Le : Nat} {X : tF} {G : Nat → Nat → Nat} {ft : Int32} {s : tgS} {qt qv ql : Nat} {qp qm : Int32} (hn : n9 < tt) (hf : ft ≠ 0 → n9 = tt - 1) (hJ : tJ s) (hQ : tQ qt qv ql qp qm) (hI : ft = 0 → n9 = nw ∧ tI yp X s) : tIs yp X G rs tt nw nw n9 0 0 Le ft ft s s 1 qt qv ql qp qm := by
  refine ⟨⟨hn, hf, hJ, hQ, by omega, by omega, Or.inr rfl⟩, fun z => ⟨z, (hI z).1, (hI z).2, tOK_mn tOK_rf (Nat.le_refl _) (by omega) (fun F hF y J O hO => ?_), nwC_0 (Nat.le_refl _)⟩⟩
  have hv := scI_vl hO.1
  exact sg_nil (vs (show vl O ≤ 211 by omega))
/-- one arm more: from the word if at A to E; then the cursor goes on to E2 -/
theorem tIs_S {yp rs tt nw A E E2 n9 n2 n3 b8 v8 bb vv Le : Nat} {X : tF} {G : Nat → Nat → Nat} {ft f9 f2 : Int32} {s t a6 : tgS} {z r z2 : Int32} {qt qv ql qt2 qv2 ql2 : Nat} {qp qm qp2 qm2 : Int32} (h : tIs yp X G rs tt nw A n9 b8 v8 Le ft f9 s t z qt qv ql qp qm) (hf : f2 = 0 → f9 = 0) (h2 : f2 = 0 → tI yp X a6 ∧ tOK (t.1 1) (2 * (E - (A + 1)) - 1) (2 + 2 * (cL X E - cL X (A + 1))) (E - (A + 1)) (2 * (E - (A + 1))) (E - (A + 1)) t a6 (tIm X G rs (t.1 4) Le r) ∧ nwC (t.1 4) a6 []) (hb : n3 < tt ∧ (f2 ≠ 0 → n3 = tt - 1) ∧ tJ a6 ∧ tQ qt2 qv2 ql2 qp2 qm2 ∧ (t.1 4 ≤ a6.1 4 ∧ a6.1 4 ≤ t.1 4 + vv) ∧ a6.1 5 ≤ t.1 5 + bb) (hr : r = 0 ∨ r = 1) (hz : z2 = if z = 1 then r else 0) (hp : f2 = 0 → nw ≤ A ∧ A + 3 ≤ E ∧ E ≤ E2 ∧ n3 = E2) (hcK : f2 = 0 → cL X (A + 1) = cL X A + 2) : tIs yp X G rs tt nw E2 n3 (b8 + bb) (v8 + vv) Le ft f2 s a6 z2 qt2 qv2 ql2 qp2 qm2 := by
  obtain ⟨⟨a1, a2, a3, a4, a5, a6', a7⟩, ha⟩ := h
  obtain ⟨b1, b2, b3, b4, b5, b6⟩ := hb
  refine ⟨⟨b1, b2, b3, b4, by omega, by omega, ?_⟩, fun y => ?_⟩
  · rw [hz]
    by_cases e : z = 1
    · rw [if_pos e]; exact hr
    · rw [if_neg e]; exact Or.inl rfl
  obtain ⟨c1, c2, c3, c4, c5⟩ := ha (hf y)
  obtain ⟨d1, d2, d3⟩ := h2 y
  obtain ⟨p1, p2, p3, p4⟩ := hp y
  have hK := hcK y
  have l1 := cL_le (X := X) p1; have l2 := cL_le (X := X) (show A + 1 ≤ E by omega); have l3 := cL_le (X := X) p3
  have hlo := c4.1.1 1 (by decide); have h04 := c4.1.1 4 (by decide)
  refine ⟨c1, p4, d1, tOK_sq c4 (tOK_lo (lo2 := s.1 1) d2 hlo) (by omega) (fun F hF y1 y2 J O hO => ?_), nwC_cat (M := []) (N := []) c5 d3 d2.1 d2.2.1.2⟩
  have m1 := c4.1.1 0 (by decide); have m2 := d2.1.1 0 (by decide)
  have x1 := y1 J O (scJ_sub hO (Nat.le_refl _) m2)
  have x2 := y2 J O ⟨scI_sub hO.1 h04 m1 (Nat.le_refl _), scX_nw (N := []) hO.2 c5 (tFu_dn hF.2.2.2 d2.1) m1⟩
  refine sg_app (sg_wk x1 (fun M st q => q.imp id (fun q => ⟨?_, q.2⟩))) (sg_wk x2 (fun M st q => q.imp id (fun q => ⟨?_, q.2⟩))) m1 m2
  · rw [hz, if_neg q.1]; decide
  · rw [hz]
    by_cases e : z = 1
    · rw [if_pos e]; exact q.1
    · rw [if_neg e]; decide
/-- the same, as the walk has it -/
theorem tIs_S2 {yp rs tt nw pos A c E E2 n9 n2 n4 n3 b8 v8 b1 b2 vv Le : Nat} {X : tF} {G : Nat → Nat → Nat} {ft f9 f1 f2 rt : Int32} {s t a1 a3 a4 a6 : tgS} {z r z2 : Int32} {qt qv ql qt2 qv2 ql2 : Nat} {qp qm qp2 qm2 : Int32} (hps : pos = A) (h : tIs yp X G rs tt nw pos n9 b8 v8 Le ft f9 s t z qt qv ql qp qm) (hf : f9 = 0) (h2 : f2 = 0 → f1 = 0 ∧ n2 = E ∧ tI yp X a6 ∧ tOK (t.1 1) (2 * (E - (A + 1)) - 1) (2 + 2 * (cL X E - cL X (A + 1))) (E - (A + 1)) (2 * (E - (A + 1))) (E - (A + 1)) t a6 (tIm X G rs (t.1 4) Le r) ∧ nwC (t.1 4) a6 []) (hut : n3 < tt ∧ (f2 ≠ 0 → n3 = tt - 1 ∧ rt = 0)) (hJ : tJ a6) (hb : tSb0 tt n4 b2 vv f2 a3 a4 r qt2 qv2 ql2 qp2 qm2) (e1 : a3.1 4 = a1.1 4) (e2 : a3.1 5 = a1.1 5) (e3 : a1.1 4 = t.1 4) (e4 : a1.1 5 ≤ t.1 5 + b1) (e5 : a6.1 4 = a4.1 4) (e6 : a6.1 5 = a4.1 5) (hz : z2 = if z = 1 then r else 0) (hw : nw ≤ A) (hl : A + 1 < c) (hl2 : c + 2 ≤ E) (hE2 : f2 = 0 → E ≤ E2 ∧ n3 = E2) (hcK : cL X (A + 1) = cL X A + 2) : tIs yp X G rs tt nw E2 n3 (b8 + (b1 + b2)) (v8 + vv) Le ft f2 s a6 z2 qt2 qv2 ql2 qp2 qm2 := by
  subst hps
  obtain ⟨g1, g2, g3, g4, g5, g6, g7⟩ := hb
  exact tIs_S (n2 := 0) h (fun _ => hf) (fun y => ⟨(h2 y).2.2.1, (h2 y).2.2.2⟩) ⟨hut.1, fun y => (hut.2 y).1, hJ, g4, by omega, by omega⟩ g7 hz (fun y => ⟨hw, by omega, (hE2 y).1, (hE2 y).2⟩) (fun _ => hcK)
/-- the end of an if without else -/
theorem l_if0 {yp rs tt nw q n9 b v Le : Nat} {X : tF} {G : Nat → Nat → Nat} {ft f9 : Int32} {S s t u : tgS} {z : Int32} {qt qv ql : Nat} {qp qm : Int32} (h0 : tNl S s Le) (h : tIs yp X G rs tt nw q n9 b v Le ft f9 s t z qt qv ql qp qm) (h9 : tSb t u 13 Le) (hJ : tJ u) (hp : f9 = 0 → nw + 3 ≤ q) (hcK : f9 = 0 → cL X nw + 2 ≤ cL X q) (hcp : ft = 0 → tCq X nw q S) (hI : ft = 0 → tI yp X S) : tSs 1 yp X G rs tt nw q n9 b v ft f9 S u 0 qt qv ql qp qm := by
  obtain ⟨⟨a1, a2, a3, a4, a5, a6, a7⟩, ha⟩ := h
  have s4 := h0.2.1 4 (by decide); have s5 := h0.2.1 5 (by decide); have u4 := h9.1 4 (by decide); have u5 := h9.1 5 (by decide)
  refine ⟨⟨a1, a2, hJ, a4, by omega, by omega, Or.inl rfl⟩, fun y => ?_⟩
  obtain ⟨c1, c2, c3, c4, c5⟩ := ha y
  obtain ⟨w0, w1, w2, w3, w7⟩ := hcp c1
  have p1 := hp y
  have hK := hcK y
  obtain ⟨o1, q1, m1⟩ := nl_x (lo := S.1 1) h0 (by omega)
  have u1 := (tNl_up h0 (by omega)).1
  have s0 := h0.2.1 0 (by decide)
  obtain ⟨r0, r1, r2, r3, r7⟩ := c4.2.2.1
  have ht0 : t.1 0 < 6000 := by omega
  have hU : lbU s Le := by rw [q1]; exact lbU_new (hI c1).2.1 u1 (by omega)
  have hUt := lbU_x hU c4 (by omega) (by omega)
  have hIu := tI_sb c3 hUt h9 ht0 (by omega)
  have K := tOK_seq (tOK_seq o1 (tOK_lo (lo2 := S.1 1) c4 (by omega))) (tOK_sb (lo := S.1 1) h9 ht0 (by omega) hUt.1)
  have K9 := tOK_sb (lo := S.1 1) h9 ht0 (by omega) hUt.1
  have hcl9 : nwC (S.1 4) u [] := by rw [← s4]; exact nwC_x c5 K9.1 K9.2.1.2 (by omega)
  refine ⟨c1, c2, hIu, [], ⟨tnwA_nil, hcl9⟩, tOK_mn K (Nat.le_refl _) (by omega) (fun F hF hz J O hO => ?_)⟩
  obtain ⟨j2, j2a, j2b, ⟨j1, j1a, j1b, y1, y2⟩, y3⟩ := hz
  have y1 : j1 = S.1 0 := y1
  obtain ⟨z3, f30, f31, -⟩ := y3
  have hv0 := scI_vl hO.1
  have hvO : vl O ≤ 211 := by omega
  rw [if_neg (by decide), z3]
  show sg F X G rs J (S.1 0) (j2 + 1) (some O) (some O)
  have x1 := y2 J O (by rw [s4]; exact scJ_sub hO (by omega) (by omega))
  rw [y1] at x1
  exact sg_lab (j := j2) (L := nI Le) (r := O) (sg_wk x1 (fun M st q => q.imp id (fun q => q.2))) (sg_one (o := 13) f30 ⟨Le, f31, by omega⟩ hvO (vs hvO) (fun k9 hk9 => hk9)) (by omega) (Nat.lt_succ_self _) f30 f31 (scI_vl hO.1)
/-- the end of an if with else -/
theorem l_if1 {yp rs tt nw E q n9 n2 b v b2 v2 Le : Nat} {X : tF} {G : Nat → Nat → Nat} {ft f9 f2 : Int32} {S s t w u : tgS} {z r z2 : Int32} {qt qv ql qt2 qv2 ql2 : Nat} {qp qm qp2 qm2 : Int32} (h0 : tNl S s Le) (h : tIs yp X G rs tt nw E n9 b v Le ft f9 s t z qt qv ql qp qm) (hb : tBs 3 yp X G rs tt E q n2 b2 v2 (t.1 4) f9 f2 t w r qt2 qv2 ql2 qp2 qm2) (h9 : tSb w u 13 Le) (hJ : tJ u) (hz : z2 = if z = 1 then r else 0) (hp : f9 = 0 → nw + 3 ≤ E ∧ E + 2 ≤ q) (hcK : f9 = 0 → cL X nw + 2 ≤ cL X E) (hcp : ft = 0 → tCq X nw q S) (hI : ft = 0 → tI yp X S) : tSs 1 yp X G rs tt nw q n2 (b + b2) (v + v2) ft f2 S u z2 qt2 qv2 ql2 qp2 qm2 := by
  obtain ⟨⟨a1, a2, a3, a4, a5, a6, a7⟩, ha⟩ := h
  obtain ⟨⟨d1, d2, d3, d4, d5, d6, d7⟩, hd2⟩ := hb
  have s4 := h0.2.1 4 (by decide); have s5 := h0.2.1 5 (by decide); have u4 := h9.1 4 (by decide); have u5 := h9.1 5 (by decide)
  refine ⟨⟨d1, d2, hJ, d4, by omega, by omega, ?_⟩, fun y => ?_⟩
  · rw [hz]
    by_cases e : z = 1
    · rw [if_pos e]; exact d7
    · rw [if_neg e]; exact Or.inl rfl
  obtain ⟨g1, g2, g3, g4⟩ := hd2 y
  obtain ⟨c1, c2, c3, c4, c5⟩ := ha g1
  obtain ⟨w0, w1, w2, w3, w7⟩ := hcp c1
  obtain ⟨p1, p2⟩ := hp g1
  have hK := hcK g1
  have l1 := cL_le (X := X) (show E ≤ q by omega)
  obtain ⟨o1, q1, m1⟩ := nl_x (lo := S.1 1) h0 (by omega)
  have u1 := (tNl_up h0 (by omega)).1
  have s0 := h0.2.1 0 (by decide)
  obtain ⟨r0, r1, r2, r3, r7⟩ := c4.2.2.1
  have hbk := tOKb_ok (g4.1 [] (nwI_0 (Nat.le_refl _)))
  obtain ⟨y0, y1, y2, y3, y7⟩ := hbk.2.2.1
  have hw0 : w.1 0 < 6000 := by omega
  have t1 := c4.1.1 1 (by decide); have t4 := c4.1.1 4 (by decide)
  have hU : lbU s Le := by rw [q1]; exact lbU_new (hI c1).2.1 u1 (by omega)
  have hUt := lbU_x hU c4 (by omega) (by omega)
  have hUw := lbU_x hUt (tOK_lo (lo2 := s.1 1) hbk (by omega)) (by omega) (by omega)
  have hIu := tI_sb g3 hUw h9 hw0 (by omega)
  have K := tOK_seq (tOK_seq (tOK_seq o1 (tOK_lo (lo2 := S.1 1) c4 (by omega))) (tOK_lo (lo2 := S.1 1) hbk (by omega))) (tOK_sb (lo := S.1 1) h9 hw0 (by omega) hUw.1)
  have K9 := tOK_sb (lo := S.1 1) h9 hw0 (by omega) hUw.1
  have hcl9 : nwC (S.1 4) u [] := by rw [← s4]; exact nwC_x (nwC_cat (M := []) (N := []) c5 g4.2 hbk.1 hbk.2.1.2) K9.1 K9.2.1.2 (by omega)
  refine ⟨c1, g2, hIu, [], ⟨tnwA_nil, hcl9⟩, tOK_mn K (Nat.le_refl _) (by omega) (fun F hF hz9 J O hO => ?_)⟩
  have hFs := tAg_r hF o1.1
  have hFst := tAg_l hFs (tXt_tr hbk.1 K9.1) c4.1
  have hFt := tAg_r hFs c4.1
  have x2 := c4.2.2.2 F hFst
  have x3 := hbk.2.2.2 F (tAg_l hFt K9.1 hbk.1)
  obtain ⟨z3, f30, f31, -⟩ := K9.2.2.2 F (tAg_r hFt hbk.1)
  have j2a := c4.1.1 0 (by decide); have j3a := hbk.1.1 0 (by decide)
  have hv0 := scI_vl hO.1
  have hvO : vl O ≤ 211 := by omega
  have hLe : Le < 1100 := by omega
  rw [z3]
  have v1 := x2 J O (by rw [s4]; exact scJ_sub hO (by omega) (by omega))
  rw [s0] at v1
  have hsc : scJ F (t.1 4) (t.1 0) (w.1 0) O := ⟨scI_sub hO.1 (by omega) (by omega) (by omega), scX_nw (N := []) (n := s.1 4) (by rw [s4]; exact hO.2) c5 hFst.2.2.2 (by omega)⟩
  by_cases e : z2 = 1
  · rw [if_pos e]
    have ez : z = 1 := by
      by_cases e2 : z = 1
      · exact e2
      · rw [hz, if_neg e2] at e; exact absurd e (by decide)
    have er : r = 1 := by rw [hz, if_pos ez] at e; exact e
    have v2' : sg F X G rs J (S.1 0) (t.1 0) (some O) (some O) := sg_wk v1 (fun M st q => q.elim id (fun q => absurd ez q.1))
    have v3 : sg F X G rs J (t.1 0) (w.1 0) (some O) (if r = 1 then none else some O) := x3 J O hsc
    rw [if_pos er] at v3
    exact sg_app (sg_app v2' v3 (by omega) (by omega)) (sg_dead (o := 13) f30 ⟨Le, f31, hLe⟩) (by omega) (Nat.le_succ _)
  · rw [if_neg e]
    show sg F X G rs J (S.1 0) ((w.1 0) + 1) (some O) (some O)
    have v3 : sg F X G rs (fun M st => J M st ∨ (M = nI Le ∧ st = O)) (t.1 0) (w.1 0) (some O) (some O) := sg_any (x3 _ O hsc) (by omega) hvO
    exact sg_lab (j := (w.1 0)) (L := nI Le) (r := O) (sg_app (sg_wk v1 (fun M st q => q.imp id (fun q => q.2))) v3 (by omega) (by omega)) (sg_one (o := 13) f30 ⟨Le, f31, hLe⟩ hvO (vs hvO) (fun k9 hk9 => hk9)) (by omega) (Nat.lt_succ_self _) f30 f31 (scI_vl hO.1)
theorem l_cl3 {X : tF} {p0 nw pos : Nat} (e : p0 = nw) (h1 : cL X (p0 + 1) = cL X p0 + 2) (h2 : cL X (p0 + 1) ≤ cL X pos) : cL X nw + 2 ≤ cL X pos := by
  subst e
  omega
def armR (fk lF : Nat → Int32) (k A E : Nat) (x w : Nat) : Prop := ∃ (c b1 b2 : Nat) (ip : Int32), fk A = 10 ∧ gE fk lF k 1 (A + 1) c b1 ip ∧ gBlk fk k lF c E b2 w ∧ x = b1 + b2
theorem arm_of {fk lF : Nat → Int32} {k p q b v : Nat} (h : sArmI fk (gEx fk k 1) (gBlk fk k) lF p q b v) : armR fk lF k p q b v := by
  obtain ⟨r, b1, v1, b2, v2, ⟨r2, b3, v3, b4, v4, ⟨rfl, h1, rfl, rfl⟩, ⟨ip, rfl, h2⟩, rfl, rfl⟩, h3, rfl, rfl⟩ := h
  have h3' : gBlk fk k lF r q b2 (0 + 0 + v2) := by rw [show 0 + 0 + v2 = v2 by omega]; exact h3
  exact ⟨r, b4, b2, ip, h1, h2, h3', by omega⟩
theorem arm_lt {fk lF : Nat → Int32} {k A E x w : Nat} (h : armR fk lF k A E x w) : A + 4 ≤ E := by
  obtain ⟨c, b1, b2, ip, -, h1, h2, -⟩ := h
  have := gE_lt _ _ _ _ _ _ h1
  have := gBlk_2 h2
  omega
theorem if_fn {fk lF : Nat → Int32} {k p q b v : Nat} (h : sIf fk (gEx fk k 1) (gBlk fk k) lF p q b v) : ∃ (n r : Nat) (P E B V : Nat → Nat), P 0 = p ∧ B 0 = 0 ∧ V 0 = 0 ∧ E n = r ∧ (∀ j : Nat, j ≤ n → ∃ x w : Nat, armR fk lF k (P j) (E j) x w ∧ B (j + 1) = B j + x ∧ V (j + 1) = V j + w ∧ (j < n → fk (E j) = 11 ∧ P (j + 1) = E j + 1)) ∧ ((fk r ≠ 11 ∧ q = r ∧ b = B (n + 1) ∧ v = V (n + 1)) ∨ (fk r = 11 ∧ fk (r + 1) ≠ 10 ∧ ∃ b3 w3 : Nat, gBlk fk k lF (r + 1) q b3 w3 ∧ b = B (n + 1) + b3 ∧ v = V (n + 1) + w3)) ∧ ∀ j : Nat, j ≤ n → p + 4 * j ≤ P j ∧ P j + 4 * (n - j) + 4 ≤ r ∧ B (j + 1) ≤ b ∧ V (j + 1) ≤ v := by
  obtain ⟨n, r0, b1, v1, b2, v2, h1, ⟨r, b3, v3, b4, v4, h2, h3, rfl, rfl⟩, rfl, rfl⟩ := h
  obtain ⟨P, B, V, p0, pn, c0, cn, w0, wn, hs⟩ := seqP_fn n p r0 b1 v1 h1
  have ha := arm_of h2
  have hP : ∀ i : Nat, i < n → ∃ x w : Nat, armR fk lF k (P i) (P (i + 1) - 1) x w ∧ B (i + 1) = B i + x ∧ V (i + 1) = V i + w ∧ fk (P (i + 1) - 1) = 11 ∧ P (i + 1) = P (i + 1) - 1 + 1 := fun i hi => by
    obtain ⟨c, w, ⟨rr, x1, y1, x2, y2, g1, ⟨g2, g3, g4, g5⟩, g6, g7⟩, g8, g9⟩ := hs i hi
    have e : P (i + 1) - 1 = rr := by omega
    rw [e]
    exact ⟨x1, y1, arm_of g1, by omega, by omega, g3, by omega⟩
  have e1 : ∀ (f : Nat → Nat) (x i : Nat), i ≤ n → (if i ≤ n then f i else x) = f i := fun f x i hi => if_pos hi
  have e2 : ∀ (f : Nat → Nat) (x : Nat), (if n + 1 ≤ n then f (n + 1) else x) = x := fun f x => if_neg (by omega)
  have hE : ∀ (x i : Nat), i < n → (if i < n then P (i + 1) - 1 else x) = P (i + 1) - 1 := fun x i hi => if_pos hi
  have up : ∀ i : Nat, i < n → P i + 4 ≤ P (i + 1) := fun i hi => by obtain ⟨x, w, g1, -, -, -, g5⟩ := hP i hi; have := arm_lt g1; omega
  have up1 : ∀ i : Nat, i ≤ n → p + 4 * i ≤ P i := by
    intro i
    induction i with
    | zero => intro _; omega
    | succ i ih => intro hi; have := ih (by omega); have := up i (by omega); omega
  have up2 : ∀ j i : Nat, i + j = n → P i + 4 * j ≤ r0 := by
    intro j
    induction j with
    | zero => intro i hi; rw [show i = n by omega, pn]; omega
    | succ j ih => intro i hi; have := ih (i + 1) (by omega); have := up i (by omega); omega
  have bm := up_le (n := n) (P := B) (fun i hi => by obtain ⟨x, w, -, g, -⟩ := hP i hi; omega)
  have vm := up_le (n := n) (P := V) (fun i hi => by obtain ⟨x, w, -, -, g, -⟩ := hP i hi; omega)
  have har := arm_lt ha
  have hlast : (fk r ≠ 11 ∧ q = r ∧ b4 = 0 ∧ v4 = 0) ∨ (fk r = 11 ∧ fk (r + 1) ≠ 10 ∧ gBlk fk k lF (r + 1) q b4 v4) := by
    rcases h3 with ⟨g1, rfl, rfl, rfl⟩ | ⟨r9, x1, y1, x2, y2, ⟨rfl, g1, rfl, rfl⟩, ⟨g2, g3⟩, g4, g5⟩
    · exact Or.inl ⟨g1, rfl, rfl, rfl⟩
    · exact Or.inr ⟨g1, g2, by rw [g4, g5, Nat.zero_add, Nat.zero_add]; exact g3⟩
  refine ⟨n, r, P, fun i => if i < n then P (i + 1) - 1 else r, fun i => if i ≤ n then B i else b1 + b3, fun i => if i ≤ n then V i else v1 + v3, p0, (e1 B _ 0 (by omega)).trans c0, (e1 V _ 0 (by omega)).trans w0, if_neg (by omega), fun j hj => ?_, ?_, fun j hj => ?_⟩
  · rcases Nat.lt_or_ge j n with c | c
    · obtain ⟨x, w, g1, g2, g3, g4, g5⟩ := hP j c
      refine ⟨x, w, ?_, ?_, ?_, fun _ => ⟨?_, ?_⟩⟩
      · show armR fk lF k (P j) (if j < n then P (j + 1) - 1 else r) x w
        rw [hE r j c]; exact g1
      · show (if j + 1 ≤ n then B (j + 1) else b1 + b3) = (if j ≤ n then B j else b1 + b3) + x
        rw [e1 B _ j hj, e1 B _ (j + 1) (by omega)]; exact g2
      · show (if j + 1 ≤ n then V (j + 1) else v1 + v3) = (if j ≤ n then V j else v1 + v3) + w
        rw [e1 V _ j hj, e1 V _ (j + 1) (by omega)]; exact g3
      · show fk (if j < n then P (j + 1) - 1 else r) = 11
        rw [hE r j c]; exact g4
      · show P (j + 1) = (if j < n then P (j + 1) - 1 else r) + 1
        rw [hE r j c]; exact g5
    · have ej : j = n := by omega
      subst ej
      refine ⟨b3, v3, ?_, ?_, ?_, fun q9 => absurd q9 (by omega)⟩
      · show armR fk lF k (P j) (if j < j then P (j + 1) - 1 else r) b3 v3
        rw [if_neg (Nat.lt_irrefl j), pn]; exact ha
      · show (if j + 1 ≤ j then B (j + 1) else b1 + b3) = (if j ≤ j then B j else b1 + b3) + b3
        rw [e2 B, e1 B _ j hj, cn]
      · show (if j + 1 ≤ j then V (j + 1) else v1 + v3) = (if j ≤ j then V j else v1 + v3) + v3
        rw [e2 V, e1 V _ j hj, wn]
  · show (fk r ≠ 11 ∧ q = r ∧ b1 + (b3 + b4) = (if n + 1 ≤ n then B (n + 1) else b1 + b3) ∧ v1 + (v3 + v4) = (if n + 1 ≤ n then V (n + 1) else v1 + v3)) ∨ _
    rcases hlast with ⟨g1, g2, g3, g4⟩ | ⟨g1, g2, g3⟩
    · exact Or.inl ⟨g1, g2, by rw [e2 B]; omega, by rw [e2 V]; omega⟩
    · exact Or.inr ⟨g1, g2, b4, v4, g3, by show b1 + (b3 + b4) = (if n + 1 ≤ n then B (n + 1) else b1 + b3) + b4; rw [e2 B]; omega, by show v1 + (v3 + v4) = (if n + 1 ≤ n then V (n + 1) else v1 + v3) + v4; rw [e2 V]; omega⟩
  · have u1 := up1 j hj
    have u2 := up2 (n - j) j (by omega)
    have hB : (if j + 1 ≤ n then B (j + 1) else b1 + b3) ≤ b1 + (b3 + b4) := by
      by_cases c : j + 1 ≤ n
      · rw [if_pos c]; have := bm (j + 1) (n - (j + 1)) (by omega); omega
      · rw [if_neg c]; omega
    have hV : (if j + 1 ≤ n then V (j + 1) else v1 + v3) ≤ v1 + (v3 + v4) := by
      by_cases c : j + 1 ≤ n
      · rw [if_pos c]; have := vm (j + 1) (n - (j + 1)) (by omega); omega
      · rw [if_neg c]; omega
    exact ⟨u1, by omega, hB, hV⟩
end
