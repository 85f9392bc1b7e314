theorem lnSd_1 {n L : Nat} {s t : lnT} {rv : Int32} (h : lnSd n L s t rv) : t.1 = s.1 := h.1
theorem lnPo_1 {k : Nat} {s t : lnT} (h : lnPo k s t) : t.1 = s.1 := by
  obtain ⟨x, h1, h2⟩ := h
  rw [h2]; rfl
theorem lnSw_1 {F : tF} {n tb : Nat} : ∀ {k : Nat} {s t : lnT}, lnSw F n tb k s t → t.1 = s.1
  | 0, s, t, h => by
    have h : t = s := h
    rw [h]
  | k + 1, s, t, h => by
    obtain ⟨u, L, rv, h1, h2, h3, h4⟩ := h
    exact (lnSd_1 h4).trans (lnSw_1 h1)
theorem lnLk_1 {F : tF} {C : lnC} {Q : lnQ} {i : Nat} {s t : lnT} : ∀ o : Nat, o < 33 → o ≠ 24 → o ≠ 25 → o ≠ 26 → o ≠ 29 → o ≠ 30 → o ≠ 32 → lnLk F C Q i s t o → t.1 = s.1
  | 0, _, _, _, _, _, _, _, h => by
    obtain ⟨gt, tn2, h1, rfl⟩ := h
    rfl
  | 1, _, _, _, _, _, _, _, h => by
    obtain ⟨gt, tn2, h1, rfl⟩ := h
    rfl
  | 2, _, _, _, _, _, _, _, h => by
    obtain ⟨p, v, u, h1, h2, h3, h4, rfl, h5⟩ := h
    rcases h5 with ⟨-, gt, tn2, h6, rfl⟩ | ⟨-, gt, tn2, h6, rfl⟩
    · rfl
    · rfl
  | 3, _, _, _, _, _, _, _, h => by
    obtain ⟨p, v, u, h1, h2, h3, h4, rfl, h5⟩ := h
    rcases h5 with ⟨-, gt, tn2, h6, rfl⟩ | ⟨-, gt, tn2, h6, rfl⟩
    · rfl
    · rfl
  | 4, _, _, _, _, _, _, _, h => by
    obtain ⟨p, v, b, x, gt, tn2, h1, h2, h3, h4, h5, h6, h7, h8, rfl⟩ := h
    rfl
  | 5, _, _, _, _, _, _, _, h => by
    have h : t = s := h
    rw [h]
  | 6, _, _, _, _, _, _, _, h => by
    have h : t = s := h
    rw [h]
  | 7, _, _, _, _, _, _, _, h => lnPo_1 h
  | 8, _, _, _, _, _, _, _, h => by
    have h : t = s := h
    rw [h]
  | 9, _, _, _, _, _, _, _, h => by
    obtain ⟨gt, tn2, h1, rfl⟩ := h
    rfl
  | 10, _, _, _, _, _, _, _, h => lnPo_1 h
  | 11, _, _, _, _, _, _, _, h => by
    obtain ⟨gt, tn2, h1, rfl⟩ := h
    rfl
  | 12, _, _, _, _, _, _, _, h => by
    obtain ⟨n, h1, h2, h3⟩ := h
    exact lnPo_1 h3
  | 13, _, _, _, _, _, _, _, h => by
    have h : t = s := h
    rw [h]
  | 14, _, _, _, _, _, _, _, h => by
    have h : t = s := h
    rw [h]
  | 15, _, _, _, _, _, _, _, h => by
    obtain ⟨L, u, rv, q1, q2, q3, rfl⟩ := h
    have e : u.1 = s.1 := lnSd_1 q3
    exact e
  | 16, _, _, _, _, _, _, _, h => by
    obtain ⟨L, u, rv, q1, q2, q3, rfl⟩ := h
    have e : u.1 = s.1 := lnSd_1 q3
    exact e
  | 17, _, _, _, _, _, _, _, h => by
    obtain ⟨L, u, rv, q1, q2, q3, q4⟩ := h
    exact (lnSd_1 q4).trans (lnPo_1 q3)
  | 18, _, _, _, _, _, _, _, h => by
    obtain ⟨L, u, rv, q1, q2, q3, q4⟩ := h
    exact (lnSd_1 q4).trans (lnPo_1 q3)
  | 19, _, _, _, _, _, _, _, h => by
    obtain ⟨L, u, rv, q1, q2, q3, q4⟩ := h
    exact (lnSd_1 q4).trans (lnPo_1 q3)
  | 20, _, _, _, _, _, _, _, h => by
    obtain ⟨tb, c, u, v, q1, q2, q3, q4, q5, q6, rfl⟩ := h
    have e : v.1 = u.1 := lnSw_1 q6
    exact e.trans (lnPo_1 q5)
  | 21, _, _, _, _, _, _, _, h => by
    obtain ⟨g, h1, h2, n, x, t1, gt, tn2, q1, q2, q3, q4, rfl⟩ := h
    rfl
  | 22, _, _, _, _, _, _, _, h => by
    obtain ⟨x, f1, g6, g8, h1, h2, h3, rfl⟩ := h
    rfl
  | 23, _, _, _, _, _, _, _, h => by
    have h : t = s := h
    rw [h]
  | 24, _, e, _, _, _, _, _, _ => absurd rfl e
  | 25, _, _, e, _, _, _, _, _ => absurd rfl e
  | 26, _, _, _, e, _, _, _, _ => absurd rfl e
  | 27, _, _, _, _, _, _, _, h => lnPo_1 h
  | 28, _, _, _, _, _, _, _, h => lnPo_1 h
  | 29, _, _, _, _, e, _, _, _ => absurd rfl e
  | 30, _, _, _, _, _, e, _, _ => absurd rfl e
  | 31, _, _, _, _, _, _, _, h => by
    have h : t = s := h
    rw [h]
  | 32, _, _, _, _, _, _, e, _ => absurd rfl e
  | n + 33, h, _, _, _, _, _, _, _ => absurd h (by omega)
theorem lbit_lt {x : Int64} {l : Nat} (h : lbit x l = true) : l < 64 := by
  rcases Nat.lt_or_ge l 64 with q | q
  · exact q
  · unfold lbit at h
    rw [BitVec.getLsbD_of_ge _ _ q] at h
    exact absurd h (by decide)
theorem lS_b {x y : Int64} {l : Nat} (h : lS x y) (hb : lbit x l = true) : lbit y l = true := h l (lbit_lt hb) hb
theorem bt_bv {b : Nat} (h : b < 64) : (bt b).toBitVec = BitVec.ofNat 64 (2 ^ b) := by
  apply BitVec.eq_of_getLsbD_eq
  intro k hk
  have e := lbit_bt b k h hk
  unfold lbit at e
  rw [e, BitVec.getLsbD_ofNat, Nat.testBit_two_pow]
  have : decide (k < 64) = true := decide_eq_true hk
  rw [this, Bool.true_and]
  by_cases q : k = b
  · rw [decide_eq_true q, decide_eq_true q.symm]
  · rw [decide_eq_false q, decide_eq_false (fun z => q z.symm)]
theorem bt_rng {v0 v1 u : Nat} (h : v0 ≤ v1) (h1 : v1 ≤ 40) (hu : u < 64) : lbit (bt v1 - bt v0) u = (decide (v0 ≤ u) && decide (u < v1)) := by
  have p0 : 2 ^ v0 ≤ 2 ^ v1 := Nat.pow_le_pow_right (by decide) h
  have p1 : 2 ^ v1 ≤ 2 ^ 40 := Nat.pow_le_pow_right (by decide) h1
  have e : (bt v1 - bt v0).toBitVec = BitVec.ofNat 64 ((2 ^ (v1 - v0) - 1) * 2 ^ v0) := by
    rw [Int64.toBitVec_sub, bt_bv (by omega), bt_bv (by omega)]
    apply BitVec.eq_of_toNat_eq
    rw [BitVec.toNat_sub, BitVec.toNat_ofNat, BitVec.toNat_ofNat, BitVec.toNat_ofNat]
    have e2 : (2 ^ (v1 - v0) - 1) * 2 ^ v0 = 2 ^ v1 - 2 ^ v0 := by
      rw [Nat.sub_mul, ← Nat.pow_add, Nat.one_mul, show v1 - v0 + v0 = v1 by omega]
    rw [e2]
    rw [Nat.mod_eq_of_lt (show 2 ^ v0 < 2 ^ 64 by omega), Nat.mod_eq_of_lt (show 2 ^ v1 < 2 ^ 64 by omega)]
    omega
  unfold lbit
  rw [e, BitVec.getLsbD_ofNat, tb_rng, decide_eq_true hu, Bool.true_and, show v0 + (v1 - v0) = v1 by omega]
theorem uaF_up {F : tF} {ua : Nat → Int64} {i : Nat} {x : Int64} : ∀ o : Nat, o < 33 → o ≠ 15 → o ≠ 16 → o ≠ 20 → o ≠ 22 → o ≠ 24 → o ≠ 25 → o ≠ 26 → o ≠ 29 → o ≠ 30 → o ≠ 32 → lS x (uaF F ua i x o) := fun o h33 h15 h16 h20 h22 h24 h25 h26 h29 h30 h32 => by
  by_cases a2 : o = 2
  · subst a2; exact lS_orl _ _
  by_cases a3 : o = 3
  · subst a3; exact lS_orl _ _
  by_cases a4 : o = 4
  · subst a4; exact lS_orl _ _
  by_cases a17 : o = 17
  · subst a17; exact lS_orl _ _
  by_cases a18 : o = 18
  · subst a18; exact lS_orl _ _
  by_cases a19 : o = 19
  · subst a19; exact lS_orl _ _
  rcases (show o = 0 ∨ o = 1 ∨ o = 5 ∨ o = 6 ∨ o = 7 ∨ o = 8 ∨ o = 9 ∨ o = 10 ∨ o = 11 ∨ o = 12 ∨ o = 13 ∨ o = 14 ∨ o = 21 ∨ o = 23 ∨ o = 27 ∨ o = 28 ∨ o = 31 by omega) with rfl | rfl | rfl | rfl | rfl | rfl | rfl | rfl | rfl | rfl | rfl | rfl | rfl | rfl | rfl | rfl | rfl <;> exact lS_rf _
theorem uaF_v {F : tF} {ua : Nat → Int64} {i p v : Nat} {x : Int64} {o : Nat} (ho : o = 2 ∨ o = 3 ∨ o = 4) (h1 : F 1 i = nI p) (hp : p < 3001) (h6 : F 6 p = nI v) (hv : v < 40) : lbit (uaF F ua i x o) v = true := by
  have e : uaF F ua i x o = x ||| bt v := by
    rcases ho with rfl | rfl | rfl
    · show x ||| bt (cN (F 6 (cN (F 1 i)))) = _
      rw [h1, cN_nI (by omega), h6, cN_nI (by omega)]
    · show x ||| bt (cN (F 6 (cN (F 1 i)))) = _
      rw [h1, cN_nI (by omega), h6, cN_nI (by omega)]
    · show x ||| bt (cN (F 6 (cN (F 1 i)))) = _
      rw [h1, cN_nI (by omega), h6, cN_nI (by omega)]
  rw [e, lbit_or, lbit_bt v v (by omega) (by omega), decide_eq_true rfl, Bool.or_true]
theorem lb_cut {x : Int64} {u v : Nat} (hv : v < 40) (hu : lbit x u = true) (h : u ≠ v) : lbit (x &&& (bt v ^^^ -1)) u = true := by
  have hu6 := lbit_lt hu
  rw [lbit_and, hu, lbit_not _ _ hu6, lbit_bt v u (by omega) hu6, decide_eq_false h]; rfl
theorem uaF_k {F : tF} {ua : Nat → Int64} {i v u : Nat} {x : Int64} {o : Nat} (ho : o = 24 ∨ o = 25 ∨ o = 29 ∨ o = 30) (h1 : F 1 i = nI v) (hv : v < 40) (hu : lbit x u = true) (h : u ≠ v) : lbit (uaF F ua i x o) u = true := by
  have e : uaF F ua i x o = x &&& (bt v ^^^ -1) := by
    rcases ho with rfl | rfl | rfl | rfl
    · show x &&& (bt (cN (F 1 i)) ^^^ -1) = _
      rw [h1, cN_nI (by omega)]
    · show x &&& (bt (cN (F 1 i)) ^^^ -1) = _
      rw [h1, cN_nI (by omega)]
    · show x &&& (bt (cN (F 1 i)) ^^^ -1) = _
      rw [h1, cN_nI (by omega)]
    · show x &&& (bt (cN (F 1 i)) ^^^ -1) = _
      rw [h1, cN_nI (by omega)]
  rw [e]; exact lb_cut hv hu h
theorem uaF_s {F : tF} {ua : Nat → Int64} {i v0 v1 u : Nat} {x : Int64} (h1 : F 1 i = nI v0) (h2 : F 2 i = nI v1) (hv : v0 ≤ v1) (hv4 : v1 ≤ 40) (hu : lbit x u = true) (h : u < v0 ∨ v1 ≤ u) : lbit (uaF F ua i x 32) u = true := by
  have hu6 := lbit_lt hu
  have e : uaF F ua i x 32 = x &&& ((bt v1 - bt v0) ^^^ -1) := by
    show x &&& ((bt (cN (F 2 i)) - bt (cN (F 1 i))) ^^^ -1) = _
    rw [h1, h2, cN_nI (by omega), cN_nI (by omega)]
  rw [e, lbit_and, hu, lbit_not _ _ hu6, bt_rng hv hv4 hu6]
  rcases h with h | h
  · rw [decide_eq_false (by omega)]; rfl
  · rw [decide_eq_false (show ¬ u < v1 by omega), Bool.and_false]; rfl
theorem uaF_a {F : tF} {ua : Nat → Int64} {i p v : Nat} {x : Int64} (h1 : F 1 i = nI p) (hp : p < 3001) (h6 : F 6 p = nI v) (hv : v < 40) : (∀ u : Nat, lbit x u = true → (F 8 p = 0 → ¬ (0 : Int32) < F 9 p &&& 15 → u ≠ v) → lbit (uaF F ua i x 26) u = true) ∧ ((0 : Int32) < F 9 p &&& 15 → lbit (uaF F ua i x 26) v = true) := by
  have e : uaF F ua i x 26 = if (0 : Int32) < F 9 p &&& 15 then x ||| bt v else if F 8 p = 0 then x &&& (bt v ^^^ -1) else x := by
    show (if (0 : Int32) < F 9 (cN (F 1 i)) &&& 15 then x ||| bt (cN (F 6 (cN (F 1 i)))) else if F 8 (cN (F 1 i)) = 0 then x &&& (bt (cN (F 6 (cN (F 1 i)))) ^^^ -1) else x) = _
    rw [h1, cN_nI (by omega), h6, cN_nI (by omega)]
  rw [e]
  constructor
  · intro u hu hn
    by_cases c1 : (0 : Int32) < F 9 p &&& 15
    · rw [if_pos c1, lbit_or, hu]; rfl
    · rw [if_neg c1]
      by_cases c2 : F 8 p = 0
      · rw [if_pos c2]; exact lb_cut hv hu (hn c2 c1)
      · rw [if_neg c2]; exact hu
  · intro c1
    rw [if_pos c1, lbit_or, lbit_bt v v (by omega) (by omega), decide_eq_true rfl, Bool.or_true]
/-- a function's loans, as the running looks at them: what is held, what is used ahead, what is reached -/
abbrev lK := (Nat → Nat → Nat → Prop) × (Nat → Nat → Prop) × (Nat → Prop)
def lkp (N : lK) (i j w : Nat) (E : Nat → Prop) : Prop := N.2.2 j ∧ (∀ u l : Nat, ¬ E u → (u < 40 ∨ (40 ≤ u ∧ u < 40 + w)) → N.1 i u l → N.1 j u l) ∧ ∀ u : Nat, u < 40 → ¬ E u → N.2.1 j u → N.2.1 i u
def a2N (N : lK) (j w : Nat) (u : Nat) : Prop := (u < 40 ∧ N.2.1 j u) ∨ (40 ≤ u ∧ u < 40 + w)
/-- the rules of an instruction -/
def lRu (F : tF) (G : Nat → Nat → Nat) (tb : lTb) (rl : Nat → Int32) (pl : Nat → Nat → Int32) (me : Int32) (k : Nat → Option (List tE)) (a b : Nat) (N : lK) (i : Nat) (s : List tE) (o : Nat) : Prop :=
  ((o = 0 ∨ o = 1 ∨ o = 5 ∨ o = 6 ∨ o = 8 ∨ o = 9 ∨ o = 11 ∨ o = 23 ∨ o = 31) → lkp N i (i + 1) (wl s) (fun _ => False)) ∧
  ((o = 13 ∨ o = 14) → lkp N i (i + 1) (wl s) (fun _ => False) ∧ ∀ l : Nat, N.1 i 300 l → N.1 (i + 1) 300 l) ∧
  ((o = 7 ∨ o = 10 ∨ o = 27 ∨ o = 28 ∨ o = 17 ∨ o = 18 ∨ o = 19) → lkp N i (i + 1) (wl s - 1) (fun _ => False)) ∧
  (o = 12 → ∀ n : Nat, F 2 i = nI n → n ≤ 12 → lkp N i (i + 1) (wl s - n) (fun _ => False)) ∧
  ((o = 2 ∨ o = 3) → lkp N i (i + 1) (wl s) (fun _ => False) ∧ ∀ p v : Nat, F 1 i = nI p → p < 3001 → F 6 p = nI v → v < 40 → (tb.2.2.2.2 v → N.2.1 i v) ∧ lCk tb (N.1 i) (a2N N (i + 1) (wl s)) v (wyF F p) (o = 2) ∧ (rfB (F 20) (F 10 p) → ∀ l : Nat, N.1 i v l → N.1 (i + 1) (40 + wl s) l)) ∧
  (o = 4 → lkp N i (i + 1) (wl s) (fun _ => False) ∧ ∀ p v c : Nat, F 1 i = nI p → p < 3001 → F 6 p = nI v → v < 40 → F 2 i = nI c → c < 54 → (tb.2.2.2.2 v → N.2.1 i v) ∧ lCk tb (N.1 i) (a2N N (i + 1) (wl s)) v (wyF F p) (F 3 i ≠ 1) ∧ N.1 (i + 1) (40 + wl s) c ∧ (rfB (F 20) (F 15 v) → ∀ l : Nat, N.1 i v l → N.1 (i + 1) (40 + wl s) l)) ∧
  (o = 24 → ∀ v : Nat, F 1 i = nI v → v < 40 → lkp N i (i + 1) (wl s - 1) (fun u => u = v) ∧ ∀ l : Nat, N.1 i (40 + (wl s - 1)) l → N.1 (i + 1) v l) ∧
  ((o = 25 ∨ o = 29) → ∀ v : Nat, F 1 i = nI v → v < 40 → lkp N i (i + 1) (wl s) (fun u => u = v)) ∧
  (o = 30 → ∀ v : Nat, F 1 i = nI v → v < 40 → lkp N i (i + 1) (wl s) (fun u => u = v) ∧ (∀ l : Nat, N.1 i 300 l → N.1 (i + 1) v l) ∧ ∀ l : Nat, N.1 i 300 l → N.1 (i + 1) 300 l) ∧
  (o = 26 → ∀ p v : Nat, F 1 i = nI p → p < 3001 → F 6 p = nI v → v < 40 → (rfB (F 20) (F 10 p) → lkp N i (i + 1) (wl s - 1) (fun u => u = v) ∧ ∀ l : Nat, N.1 i (40 + (wl s - 1)) l → N.1 (i + 1) v l) ∧ (¬ rfB (F 20) (F 10 p) → N.2.2 (i + 1) ∧ (∀ u l : Nat, (u < 40 ∨ (40 ≤ u ∧ u < 40 + (wl s - 1))) → N.1 i u l → N.1 (i + 1) u l) ∧ (∀ u : Nat, u < 40 → (F 8 p = 0 → ¬ (0 : Int32) < F 9 p &&& 15 → u ≠ v) → N.2.1 (i + 1) u → N.2.1 i u) ∧ ((0 : Int32) < F 9 p &&& 15 → tb.2.2.2.2 v → N.2.1 i v) ∧ lCk tb (N.1 i) (a2N N (i + 1) (wl s - 1)) v (wyF F p) False)) ∧
  (o = 32 → ∀ v0 v1 : Nat, F 1 i = nI v0 → F 2 i = nI v1 → v0 ≤ v1 → v1 ≤ 40 → lkp N i (i + 1) (wl s) (fun u => v0 ≤ u ∧ u < v1) ∧ ∀ u l : Nat, a2N N (i + 1) (wl s) u → (u < v0 ∨ v1 ≤ u) → N.1 i u l → ¬ tb.2.2.2.1 l → v0 ≤ tb.1 l → tb.1 l < v1 → tb.2.2.2.2 (tb.1 l)) ∧
  (o = 21 → ∀ g : Nat, F 1 i = nI g → g < 40 → lkp N i (i + 1) (wl s - G g 0) (fun _ => False) ∧ (rfB (F 20) (nI (G g 1)) → ∀ q l : Nat, q < G g 0 → (rl g < 0 ∨ pl g q = rl g) → N.1 i (40 + (wl s - G g 0) + q) l → N.1 (i + 1) (40 + (wl s - G g 0)) l)) ∧
  (o = 22 → F 2 i = 1 → (∀ l : Nat, N.1 i (40 + (wl s - 1)) l → ¬ tb.2.2.2.1 l → F 18 (tb.1 l) ≤ nI i → nI i < F 19 (tb.1 l) → tb.2.2.2.2 (tb.1 l)) ∧ (rfB (F 20) (F 1 i) → ∀ r l : Nat, me = nI r → r < 8 → tb.2.2.2.1 l → N.1 i (40 + (wl s - 1)) l → l = 54 + r)) ∧
  ((o = 16 ∨ o = 17 ∨ o = 18 ∨ o = 19) → ∀ (j : Nat) (r : List tE), tJm F G k i b (F 1 i) r → k j = some r → i < j → j < b → F 0 j = 13 → F 1 j = F 1 i → lkp N i j (wl s - 1) (fun _ => False)) ∧
  (o = 15 → ∀ (j : Nat), a ≤ j → j ≤ i → F 0 j = 14 → F 1 j = F 1 i → lkp N i j 0 (fun _ => False)) ∧
  (o = 20 → ∀ (j tc g : Nat) (r : List tE), F 1 i = nI tc → tc ≤ 3002 → F 13 (tc + g) = F 1 j → i < j → j < b → F 0 j = 13 → k j = some r → nI g < F 3 i → g < 12 → lkp N i j (wl s - 1) (fun _ => False) ∧ ∀ (q sh m : Nat) (r0 : List tE), (q = 1 ∨ q = 2) → s = (q, 4 + sh, m) :: r0 → r = (q + 4, sh * 12 + g, m) :: r0 → ∀ l : Nat, N.1 i (40 + wl r0) l → N.1 j 300 l) ∧
  (o = 23 → ∀ l : Nat, N.1 i 300 l → N.1 (i + 1) 300 l)
