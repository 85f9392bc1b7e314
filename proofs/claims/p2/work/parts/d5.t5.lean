theorem stO_inj {d e : Nat} (hd : 1 ≤ d ∧ d ≤ 13) (he : 1 ≤ e ∧ e ≤ 13) (h : stO d = stO e) : d = e := by
  unfold stO at h
  by_cases c : d = 13
  · rw [if_pos c] at h
    by_cases c2 : e = 13
    · omega
    · rw [if_neg c2] at h
      exact absurd (congrArg Prod.fst h) (by show ¬ ((1 : Nat) = 0); decide)
  · rw [if_neg c] at h
    by_cases c2 : e = 13
    · rw [if_pos c2] at h
      exact absurd (congrArg Prod.fst h) (by show ¬ ((0 : Nat) = 1); decide)
    · rw [if_neg c2] at h
      have : d - 1 = e - 1 := congrArg Prod.snd h
      omega
theorem stO_pre : ∀ {ds es : List Nat}, (∀ d : Nat, d ∈ ds → 1 ≤ d ∧ d ≤ 13) → (∀ d : Nat, d ∈ es → 1 ≤ d ∧ d ≤ 13) → lP (ds.map stO) (es.map stO) → ∃ t : List Nat, es = ds ++ t
  | [], es, _, _, _ => ⟨es, rfl⟩
  | d :: ds, [], _, _, h => by
    obtain ⟨s, h⟩ := h
    simp at h
  | d :: ds, e :: es, h1, h2, h => by
    obtain ⟨q1, q2⟩ := lP_cons (show lP (stO d :: ds.map stO) (stO e :: es.map stO) from h)
    have e1 := stO_inj (h1 d List.mem_cons_self) (h2 e List.mem_cons_self) q1
    obtain ⟨t, e2⟩ := stO_pre (fun x hx => h1 x (List.mem_cons_of_mem _ hx)) (fun x hx => h2 x (List.mem_cons_of_mem _ hx)) q2
    exact ⟨t, by rw [e1, e2]; rfl⟩
theorem dgP_cat {t : List Nat} : ∀ ds : List Nat, dgP (ds ++ t) = dgP ds + 16 ^ ds.length * dgP t
  | [] => by show dgP t = 0 + 16 ^ 0 * dgP t; omega
  | d :: ds => by
    show d + 16 * dgP (ds ++ t) = d + 16 * dgP ds + 16 ^ (ds.length + 1) * dgP t
    rw [dgP_cat ds, Nat.pow_succ, Nat.mul_add, Nat.mul_comm (16 ^ ds.length) 16, Nat.mul_assoc]; omega
theorem nI_xor (a b : Nat) : nI a ^^^ nI b = nI (a ^^^ b) := by
  refine nI_ofb ?_
  rw [Int32.toBitVec_xor, nI_bv, nI_bv, ← BitVec.ofNat_xor]
theorem nI_andN (a b : Nat) : nI a &&& nI b = nI (a &&& b) := by
  refine nI_ofb ?_
  rw [Int32.toBitVec_and, nI_bv, nI_bv, ← BitVec.ofNat_and]
theorem xor_lo {a b k : Nat} (h : a < 2 ^ k) : (a ^^^ (a + 2 ^ k * b)) &&& (2 ^ k - 1) = 0 := by
  rw [Nat.and_two_pow_sub_one_eq_mod, Nat.xor_mod_two_pow, Nat.add_mul_mod_self_left, Nat.mod_eq_of_lt h, Nat.xor_self]
theorem msk4 {n : Nat} (h : n ≤ 4) : ((1 : Int32) <<< ((4 * nI n) &&& 31)) - 1 = nI (2 ^ (4 * n) - 1) := by
  have : ∀ v : Fin 5, ((1 : Int32) <<< ((4 * nI v.1) &&& 31)) - 1 = nI (2 ^ (4 * v.1) - 1) := by decide
  exact this ⟨n, by omega⟩
/-- one lies on the other's way: told so -/
theorem ov_cmp {ds es : List Nat} {n m : Nat} (hd : ds.length = n) (he : es.length = m) (hn : n ≤ 4) (hm : m ≤ 4) (h1 : ∀ d : Nat, d ∈ ds → 1 ≤ d ∧ d ≤ 13) (h2 : ∀ d : Nat, d ∈ es → 1 ≤ d ∧ d ≤ 13) (h : lCmp (ds.map stO) (es.map stO)) : ovB (nI n) (nI m) (nI (dgP ds)) (nI (dgP es)) = 0 := by
  have pre : ∀ (a b : List Nat), (∀ d : Nat, d ∈ a → 1 ≤ d ∧ d ≤ 13) → (∀ d : Nat, d ∈ b → 1 ≤ d ∧ d ≤ 13) → lP (a.map stO) (b.map stO) → a.length ≤ b.length ∧ (dgP a ^^^ dgP b) &&& (2 ^ (4 * a.length) - 1) = 0 := fun a b q1 q2 q3 => by
    obtain ⟨t, rfl⟩ := stO_pre q1 q2 q3
    refine ⟨by rw [List.length_append]; omega, ?_⟩
    have hl := dgP_lt (ds := a) (fun d hd9 => by have := q1 d hd9; omega)
    rw [dgP_cat, pow16, Nat.mul_comm a.length 4]
    rw [pow16, Nat.mul_comm a.length 4] at hl
    exact xor_lo hl
  unfold ovB
  rw [nI_xor]
  rcases h with h | h
  · obtain ⟨q1, q2⟩ := pre ds es h1 h2 h
    rw [hd, he] at q1
    rw [hd] at q2
    rw [if_neg (fun z => absurd ((nI_ltI (a := m) (b := n) (by omega) (by omega)).mp z) (by omega)), msk4 hn, nI_andN, q2]; rfl
  · obtain ⟨q1, q2⟩ := pre es ds h2 h1 h
    rw [hd, he] at q1
    rw [he] at q2
    have e : (if nI m < nI n then nI m else nI n) = nI m := by
      by_cases c : nI m < nI n
      · rw [if_pos c]
      · rw [if_neg c]
        have : ¬ m < n := fun z => c ((nI_ltI (a := m) (b := n) (by omega) (by omega)).mpr z)
        rw [show n = m by omega]
    rw [e, msk4 hm, Nat.xor_comm, nI_andN, q2]; rfl
/-- loan l has a borrow in the code from a to b -/
def isB (F : tF) (k : Nat → Option (List tE)) (a b l : Nat) : Prop := ∃ (i : Nat) (s : List tE), a ≤ i ∧ i < b ∧ F 0 i = 4 ∧ F 2 i = nI l ∧ k i = some s
theorem ga_no {F : tF} {pof : Nat → Int32} {lon : Nat → Int64} {a b0 : Nat} (hB : ∀ i : Nat, a ≤ i → i < b0 → F 0 i = 4 → ∃ p v l : Nat, F 1 i = nI p ∧ p < 3001 ∧ F 6 p = nI v ∧ v < 40 ∧ F 2 i = nI l ∧ l < 54) : ∀ d l : Nat, a + d ≤ b0 → (∀ j : Nat, a ≤ j → j < a + d → F 0 j = 4 → F 2 j = nI l → False) → lbit (gaS F pof lon a d).2.2 l = false
  | 0, l, _, _ => lbit_0 l
  | d + 1, l, hd, h => by
    have ih := ga_no (pof := pof) (lon := lon) hB d l (by omega) (fun j g1 g2 => h j g1 (by omega))
    by_cases c : F 0 (a + d) = 4
    · obtain ⟨q, w, m, c1, c2, c3, c4, c5, c6⟩ := hB (a + d) (by omega) (by omega) c
      rw [gaS_4 c c1 (by omega) c3 (by omega) c5 (by omega)]
      show lbit ((gaS F pof lon a d).2.2 ||| _) l = false
      have hlm : l ≠ m := fun z => h (a + d) (by omega) (by omega) c (by rw [c5, z])
      rw [lbit_or, ih, Bool.false_or]
      by_cases z : F 3 (a + d) = 0
      · rw [if_pos z]
        rcases Nat.lt_or_ge l 64 with y | y
        · rw [lbit_bt m l (by omega) y, decide_eq_false hlm]
        · unfold lbit; exact BitVec.getLsbD_of_ge _ _ y
      · rw [if_neg z, lbit_0]
    · rw [gaS_n c]; exact ih
/-- what the loans' tables tell -/
theorem ga_tb {F : tF} {pof : Nat → Int32} {lon : Nat → Int64} {a b0 : Nat} (hB : ∀ i : Nat, a ≤ i → i < b0 → F 0 i = 4 → ∃ p v l : Nat, F 1 i = nI p ∧ p < 3001 ∧ F 6 p = nI v ∧ v < 40 ∧ F 2 i = nI l ∧ l < 54) : ∀ d : Nat, a + d ≤ b0 → (∀ i j : Nat, a ≤ i → i < a + d → a ≤ j → j < a + d → F 0 i = 4 → F 0 j = 4 → F 2 i = F 2 j → i = j) → ∀ i p v l : Nat, a ≤ i → i < a + d → F 0 i = 4 → F 1 i = nI p → p < 3001 → F 6 p = nI v → v < 40 → F 2 i = nI l → l < 54 → (gaS F pof lon a d).1 l = nI p ∧ lbit ((gaS F pof lon a d).2.1 v) l = true ∧ (lbit (gaS F pof lon a d).2.2 l = true ↔ F 3 i = 0)
  | 0, _, _, i, p, v, l, h1, h2, _, _, _, _, _, _, _ => absurd h2 (by omega)
  | d + 1, hdb, hu, i, p, v, l, h1, h2, h3, h4, h5, h6, h7, h8, h9 => by
    have hu2 : ∀ i j : Nat, a ≤ i → i < a + d → a ≤ j → j < a + d → F 0 i = 4 → F 0 j = 4 → F 2 i = F 2 j → i = j := fun i j g1 g2 g3 g4 => hu i j g1 (by omega) g3 (by omega)
    by_cases c : F 0 (a + d) = 4
    · obtain ⟨q, w, m, c1, c2, c3, c4, c5, c6⟩ := hB (a + d) (by omega) (by omega) c
      rw [gaS_4 c c1 (by omega) c3 (by omega) c5 (by omega)]
      by_cases e : i = a + d
      · subst e
        obtain rfl : p = q := (nI_eq (a := p) (b := q) (by omega) (by omega)).mp (h4.symm.trans c1)
        obtain rfl : v = w := (nI_eq (a := v) (b := w) (by omega) (by omega)).mp (h6.symm.trans c3)
        obtain rfl : l = m := (nI_eq (a := l) (b := m) (by omega) (by omega)).mp (h8.symm.trans c5)
        refine ⟨pk_us, ?_, ?_⟩
        · show lbit (vp_updL _ v _ v) l = true
          rw [pk_uLs, lbit_or, lbit_bt l l (by omega) (by omega), decide_eq_true rfl, Bool.or_true]
        · show lbit ((gaS F pof lon a d).2.2 ||| _) l = true ↔ _
          rw [lbit_or]
          have hn : lbit (gaS F pof lon a d).2.2 l = false := ga_no hB d l (by omega) (fun j g1 g2 g3 g4 => by
            have := hu (a + d) j (by omega) (by omega) g1 (by omega) c g3 (by rw [h8, g4])
            omega)
          rw [hn, Bool.false_or]
          by_cases z : F 3 (a + d) = 0
          · rw [if_pos z, lbit_bt l l (by omega) (by omega), decide_eq_true rfl]; exact ⟨fun _ => z, fun _ => rfl⟩
          · rw [if_neg z, lbit_0]; exact ⟨fun y => absurd y (by decide), fun y => absurd y z⟩
      · have hi : i < a + d := by omega
        have hlm : l ≠ m := fun z => e (hu i (a + d) h1 (by omega) (by omega) (by omega) h3 c (by rw [h8, c5, z]))
        obtain ⟨r1, r2, r3⟩ := ga_tb hB d (by omega) hu2 i p v l h1 hi h3 h4 h5 h6 h7 h8 h9
        refine ⟨by show upd _ m _ l = _; rw [pk_un hlm]; exact r1, ?_, ?_⟩
        · show lbit (vp_updL _ w _ v) l = true
          by_cases z : v = w
          · rw [z, pk_uLs, lbit_or, ← z, r2]; rfl
          · rw [pk_uLn z]; exact r2
        · show lbit ((gaS F pof lon a d).2.2 ||| _) l = true ↔ _
          rw [lbit_or]
          have : lbit (if F 3 (a + d) = 0 then bt m else 0) l = false := by
            by_cases z : F 3 (a + d) = 0
            · rw [if_pos z, lbit_bt m l (by omega) (by omega), decide_eq_false hlm]
            · rw [if_neg z, lbit_0]
          rw [this, Bool.or_false]; exact r3
    · rw [gaS_n c]
      have hi : i < a + d := by
        by_cases e : i = a + d
        · rw [e] at h3; exact absurd h3 c
        · omega
      exact ga_tb hB d (by omega) hu2 i p v l h1 hi h3 h4 h5 h6 h7 h8 h9
