theorem lbit_1 (k : Nat) : lbit 1 k = decide (k = 0) := by
  show (1#64).getLsbD k = decide (k = 0)
  rw [BitVec.getLsbD_one]; simp
theorem shN2 (v : Nat) (h : v < 64) : (((nI v : Int32).toInt64.toUInt64 &&& Int64.toUInt64 63).toBitVec % 64).toNat = v := by
  have : ∀ v : Fin 64, (((nI v.1 : Int32).toInt64.toUInt64 &&& Int64.toUInt64 63).toBitVec % 64).toNat = v.1 := by decide
  exact this ⟨v, h⟩
theorem shI2 (v : Nat) (h : v < 64) : (((nI v : Int32).toInt64 &&& 63).toBitVec.smod 64).toNat = v := by
  have : ∀ v : Fin 64, (((nI v.1 : Int32).toInt64 &&& 63).toBitVec.smod 64).toNat = v.1 := by decide
  exact this ⟨v, h⟩
theorem lbit_shr (ub : Int64) (v k : Nat) (h : v < 64) : lbit ((ub.toUInt64 >>> ((nI v : Int32).toInt64.toUInt64 &&& Int64.toUInt64 63)).toInt64) k = lbit ub (v + k) := by
  unfold lbit
  rw [UInt64.toBitVec_toInt64, UInt64.toBitVec_shiftRight, BitVec.ushiftRight_eq', shN2 v h, BitVec.getLsbD_ushiftRight]
  rfl
theorem usB_bit {ub : Int64} {v : Nat} (h : v < 64) : usB ub v = 0 ↔ lbit ub v = true := by
  unfold usB
  rw [lgc0]
  constructor
  · intro e
    have e2 := congrArg (fun x => lbit x 0) e
    have e2 : lbit (((ub.toUInt64 >>> ((nI v : Int32).toInt64.toUInt64 &&& Int64.toUInt64 63)).toInt64) &&& 1) 0 = lbit 1 0 := e2
    rw [lbit_and, lbit_shr ub v 0 h, lbit_1, Nat.add_zero] at e2
    simpa using e2
  · intro e
    refine lbit_eq (fun k hk => ?_)
    rw [lbit_and, lbit_shr ub v k h, lbit_1]
    by_cases c : k = 0
    · subst c; rw [Nat.add_zero, e]; rfl
    · rw [decide_eq_false c, Bool.and_false]
theorem lbit_bt (b k : Nat) (h : b < 64) (hk : k < 64) : lbit (bt b) k = decide (k = b) := by
  unfold lbit bt
  rw [Int64.toBitVec_shiftLeft, BitVec.shiftLeft_eq', shI2 b h, BitVec.getLsbD_shiftLeft]
  show (decide (k < 64) && !decide (k < b) && (1#64).getLsbD (k - b)) = decide (k = b)
  rw [BitVec.getLsbD_one]
  by_cases c : k = b
  · subst c; simp [hk]
  · rw [decide_eq_false c]
    by_cases c2 : k < b
    · simp [c2]
    · have : ¬ (k - b = 0) := by omega
      simp [this]
theorem lbit_not (x : Int64) (k : Nat) (hk : k < 64) : lbit (x ^^^ -1) k = !lbit x k := by
  unfold lbit
  rw [Int64.toBitVec_xor, BitVec.getLsbD_xor]
  have : (-1 : Int64).toBitVec.getLsbD k = true := by
    have : ∀ v : Fin 64, (-1 : Int64).toBitVec.getLsbD v.1 = true := by decide
    exact this ⟨k, hk⟩
  rw [this, Bool.xor_true]
/-- what n temps hold -/
theorem orT_bit {f : Nat → Int64} {l : Nat} : ∀ n : Nat, lbit (orT f n) l = true ↔ ∃ m : Nat, m < n ∧ lbit (f m) l = true
  | 0 => by
    show lbit 0 l = true ↔ _
    rw [lbit_0]
    exact ⟨fun h => absurd h (by decide), fun ⟨m, h, _⟩ => absurd h (by omega)⟩
  | n + 1 => by
    show lbit (orT f n ||| f n) l = true ↔ _
    rw [lbit_or, Bool.or_eq_true, orT_bit n]
    constructor
    · rintro (⟨m, h1, h2⟩ | h)
      · exact ⟨m, by omega, h2⟩
      · exact ⟨n, by omega, h⟩
    · rintro ⟨m, h1, h2⟩
      by_cases c : m = n
      · rw [c] at h2; exact Or.inr h2
      · exact Or.inl ⟨m, by omega, h2⟩
theorem orV_bit {ub x : Int64} {hd : Nat → Int64} {l : Nat} : ∀ n : Nat, n ≤ 64 → (lbit (orV ub hd x n) l = true ↔ lbit x l = true ∨ ∃ v : Nat, v < n ∧ lbit ub v = true ∧ lbit (hd v) l = true)
  | 0, _ => by
    show lbit x l = true ↔ _
    exact ⟨Or.inl, fun h => h.elim id (fun ⟨m, h, _⟩ => absurd h (by omega))⟩
  | n + 1, hn => by
    show lbit (if usB ub n = 0 then orV ub hd x n ||| hd n else orV ub hd x n) l = true ↔ _
    have ih := orV_bit (ub := ub) (x := x) (hd := hd) (l := l) n (by omega)
    have hu := usB_bit (ub := ub) (v := n) (by omega)
    by_cases c : usB ub n = 0
    · rw [if_pos c, lbit_or, Bool.or_eq_true, ih]
      constructor
      · rintro ((h | ⟨v, h1, h2, h3⟩) | h)
        · exact Or.inl h
        · exact Or.inr ⟨v, by omega, h2, h3⟩
        · exact Or.inr ⟨n, by omega, hu.mp c, h⟩
      · rintro (h | ⟨v, h1, h2, h3⟩)
        · exact Or.inl (Or.inl h)
        · by_cases e : v = n
          · rw [e] at h3; exact Or.inr h3
          · exact Or.inl (Or.inr ⟨v, by omega, h2, h3⟩)
    · rw [if_neg c, ih]
      constructor
      · rintro (h | ⟨v, h1, h2, h3⟩)
        · exact Or.inl h
        · exact Or.inr ⟨v, by omega, h2, h3⟩
      · rintro (h | ⟨v, h1, h2, h3⟩)
        · exact Or.inl h
        · by_cases e : v = n
          · rw [e] at h2; exact absurd (hu.mpr h2) c
          · exact Or.inr ⟨v, by omega, h2, h3⟩
/-- a fault that is told isn't below 0 -/
theorem tlF_ge {a w : Int32} (h : ¬ w < 0) : ¬ tlF a w < 0 := by
  unfold tlF
  by_cases c : a < 0
  · rw [if_pos c]; exact h
  · rw [if_neg c]
    by_cases c2 : w < a
    · rw [if_pos c2]; exact h
    · rw [if_neg c2]; exact c
theorem acF_no {near : Int64} {wh : Int32} {ov : Nat → Int32} {fi : Int32} (hw : ¬ wh < 0) : ∀ n : Nat, acF near wh ov fi n < 0 → fi < 0 ∧ ∀ l : Nat, l < n → ¬ (usB near l = 0 ∧ ov l = 0)
  | 0, h => ⟨h, fun l hl => absurd hl (by omega)⟩
  | n + 1, h => by
    have h : (if usB near n = 0 ∧ ov n = 0 then tlF (acF near wh ov fi n) wh else acF near wh ov fi n) < 0 := h
    by_cases c : usB near n = 0 ∧ ov n = 0
    · rw [if_pos c] at h; exact absurd h (tlF_ge hw)
    · rw [if_neg c] at h
      obtain ⟨q1, q2⟩ := acF_no hw n h
      refine ⟨q1, fun l hl => ?_⟩
      by_cases e : l = n
      · rw [e]; exact c
      · exact q2 l (by omega)
/-- loan l is held by one who is used behind i: a temp, or a variable -/
def lnA (C : lnC) (i : Nat) (hd ft : Nat → Int64) (tn l : Nat) : Prop := (∃ m : Nat, m < tn ∧ lbit (ft m) l = true) ∨ ∃ v : Nat, v < C.2.2.2.2.2 ∧ lbit (C.1 i) v = true ∧ lbit (hd v) l = true
theorem lnA_bit {C : lnC} {i : Nat} {hd ft : Nat → Int64} {tn l : Nat} (hn : C.2.2.2.2.2 ≤ 40) : lbit (orV (C.1 i) hd (orT ft tn) C.2.2.2.2.2) l = true ↔ lnA C i hd ft tn l := by
  rw [orV_bit _ (by omega), orT_bit]; rfl
/-- an access of place p on v that tells nothing -/
def acO (F : tF) (C : lnC) (i p v : Nat) (ms : Int32) (hd ft : Nat → Int64) (tn : Nat) : Prop := ∀ l : Nat, l < C.2.2.2.2.1 → lbit (C.2.1 v) l = true → (ms = 0 → lbit C.2.2.1 l = false) → lnA C i hd ft tn l → ovB (F 8 p) (F 8 (C.2.2.2.1 l).toNatClampNeg) (F 7 p) (F 7 (C.2.2.2.1 l).toNatClampNeg) ≠ 0
theorem lnAc_no {F : tF} {C : lnC} {i p v : Nat} {ms : Int32} {s : lnT} (hn : C.2.2.2.2.2 ≤ 40) (h54 : C.2.2.2.2.1 ≤ 54) (hw : ¬ F 11 p < 0) (h : lnAc F C i p v ms s < 0) : s.2.2.2.2.2.1 < 0 ∧ acO F C i p v ms s.1 (lnF s) (lnN s) := by
  unfold lnAc at h
  by_cases c : lg_cmp (acN ms (C.2.1 v) C.2.2.1) 0 = 0
  · rw [if_pos c] at h
    refine ⟨h, fun l l1 l2 l3 l4 => ?_⟩
    have e := lgc0.mp c
    have e2 : lbit (acN ms (C.2.1 v) C.2.2.1) l = false := by rw [e, lbit_0]
    unfold acN at e2
    by_cases c2 : ms ≠ 0
    · rw [if_pos c2, l2] at e2; exact absurd e2 (by decide)
    · rw [if_neg c2, lbit_and, l2, lbit_not _ _ (by omega), l3 (Classical.not_not.mp c2)] at e2; exact absurd e2 (by decide)
  · rw [if_neg c] at h
    obtain ⟨q1, q2⟩ := acF_no hw _ h
    refine ⟨q1, fun l l1 l2 l3 l4 ho => q2 l l1 ⟨(usB_bit (by omega)).mpr ?_, ho⟩⟩
    rw [lbit_and]
    have e2 : lbit (acN ms (C.2.1 v) C.2.2.1) l = true := by
      unfold acN
      by_cases c2 : ms ≠ 0
      · rw [if_pos c2]; exact l2
      · rw [if_neg c2, lbit_and, l2, lbit_not _ _ (by omega), l3 (Classical.not_not.mp c2)]; rfl
    rw [e2, Bool.true_and]
    exact (lnA_bit hn).mpr l4
/-- variables that go out of scope -/
theorem lnLv_no {F : tF} {C : lnC} {ak et : Nat → Int32} {i v0 : Nat} {ft : Nat → Int64} {tn : Nat} (hn : C.2.2.2.2.2 ≤ 40) (hw : ¬ F 4 i < 0) : ∀ (d : Nat) (s t : (Nat → Int64) × Int32), lnLv F C ak et i v0 ft tn d s t → t.2 < 0 → s.2 < 0 ∧ (∀ u : Nat, t.1 u = if v0 ≤ u ∧ u < v0 + d then 0 else s.1 u) ∧ ∀ v l : Nat, v0 ≤ v → v < v0 + d → ¬ rfB ak (et v) → l < 64 → lbit (C.2.1 v) l = true → ¬ ((∃ m : Nat, m < tn ∧ lbit (ft m) l = true) ∨ ∃ u : Nat, u < C.2.2.2.2.2 ∧ (u < v0 ∨ v0 + d ≤ u) ∧ lbit (C.1 i) u = true ∧ lbit (s.1 u) l = true)
  | 0, s, t, h, ht => by
    obtain rfl : t = s := h
    exact ⟨ht, fun u => (if_neg (by omega)).symm, fun v l h1 h2 => absurd h2 (by omega)⟩
  | d + 1, s, t, h, ht => by
    obtain ⟨f1, h1, h2⟩ := h
    obtain ⟨q1, q2, q3⟩ := lnLv_no hn hw d _ _ h2 ht
    have q1 : f1 < 0 := q1
    have hf : s.2 < 0 ∧ (¬ rfB ak (et (v0 + d)) → lg_cmp (C.2.1 (v0 + d) &&& orV (C.1 i) s.1 (orT ft tn) C.2.2.2.2.2) 0 = 0) := by
      rcases h1 with ⟨z, h1⟩ | ⟨z, h1⟩
      · rw [← h1]; exact ⟨q1, fun y => absurd z y⟩
      · by_cases c : lg_cmp (C.2.1 (v0 + d) &&& orV (C.1 i) s.1 (orT ft tn) C.2.2.2.2.2) 0 = 0
        · rw [if_pos c] at h1; rw [← h1]; exact ⟨q1, fun _ => c⟩
        · rw [if_neg c] at h1; rw [h1] at q1; exact absurd q1 (tlF_ge hw)
    refine ⟨hf.1, fun u => ?_, fun v l v1 v2 v3 l1 l2 hl => ?_⟩
    · rw [q2 u]
      show (if v0 ≤ u ∧ u < v0 + d then (0 : Int64) else vp_updL s.1 (v0 + d) 0 u) = _
      by_cases c : v0 ≤ u ∧ u < v0 + d
      · rw [if_pos c, if_pos (by omega)]
      · rw [if_neg c]
        by_cases c2 : u = v0 + d
        · rw [c2, pk_uLs, if_pos (by omega)]
        · rw [pk_uLn c2, if_neg (by omega)]
    · by_cases e : v = v0 + d
      · subst e
        have e9 := lgc0.mp (hf.2 v3)
        have e8 : lbit (C.2.1 (v0 + d) &&& orV (C.1 i) s.1 (orT ft tn) C.2.2.2.2.2) l = false := by rw [e9, lbit_0]
        rw [lbit_and, l2, Bool.true_and] at e8
        have e7 := (lnA_bit (C := C) (i := i) (hd := s.1) (ft := ft) (tn := tn) (l := l) hn).mpr (hl.imp id (fun ⟨u, u1, u2, u3, u4⟩ => ⟨u, u1, u3, u4⟩))
        rw [e7] at e8; exact absurd e8 (by decide)
      · refine q3 v l v1 (by omega) v3 l1 l2 (hl.imp id (fun ⟨u, u1, u2, u3, u4⟩ => ⟨u, u1, by omega, u3, ?_⟩))
        show lbit (vp_updL s.1 (v0 + d) 0 u) l = true
        rw [pk_uLn (by omega)]; exact u4
/-- a return's look at the variables in scope -/
theorem lnGv_no {F : tF} {C : lnC} {ak et ef ez : Nat → Int32} {i : Nat} {x : Int64} (hw : ¬ F 4 i < 0) : ∀ (d : Nat) (f g : Int32), lnGv F C ak et ef ez i x d f g → g < 0 → f < 0 ∧ ∀ v l : Nat, v < d → ef v ≤ nI i → nI i < ez v → ¬ rfB ak (et v) → lbit (C.2.1 v) l = true → lbit x l = false
  | 0, f, g, h, hg => by
    obtain rfl : g = f := h
    exact ⟨hg, fun v l hv => absurd hv (by omega)⟩
  | d + 1, f, g, h, hg => by
    obtain ⟨f1, h1, h2⟩ := h
    obtain ⟨q1, q2⟩ := lnGv_no hw d f1 g h2 hg
    rcases h1 with ⟨-, h1⟩ | ⟨c, h1⟩
    · rw [h1] at q1; exact absurd q1 (tlF_ge hw)
    · rw [h1] at q1
      refine ⟨q1, fun v l v1 v2 v3 v4 v5 => ?_⟩
      by_cases e : v = d
      · subst e
        cases e9 : lbit x l with
        | false => rfl
        | true =>
          refine absurd ⟨v2, v3, v4, fun q => ?_⟩ c
          have e8 := lgc0.mp q
          have e7 : lbit (C.2.1 v &&& x) l = false := by rw [e8, lbit_0]
          rw [lbit_and, v5, e9] at e7; exact absurd e7 (by decide)
      · exact q2 v l (by omega) v2 v3 v4 v5
