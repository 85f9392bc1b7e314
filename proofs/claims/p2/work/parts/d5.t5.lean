-- d5.t5.lean.txt
section
theorem stO_inj {d e : Nat} (hd : 1 ≤ d ∧ d ≤ 13) (he : 1 ≤ e ∧ e ≤ 13) (h : stO d = stO e) : d = e := by
  unfold stO at h
  by_cases c : d = 13
  · rw [if_pos c] at h
    by_cases c2 : e = 13
    · omega
    · rw [if_neg c2] at h
      exact absurd (congrArg Prod.fst h) (by show ¬ ((1 : Nat) = 0); decide)
  · rw [if_neg c] at h
    by_cases c2 : e = 13
    · rw [if_pos c2] at h
      exact absurd (congrArg Prod.fst h) (by show ¬ ((0 : Nat) = 1); decide)
    · rw [if_neg c2] at h
      have : d - 1 = e - 1 := congrArg Prod.snd h
      omega
theorem stO_pre : ∀ {ds es : List Nat}, (∀ d : Nat, d ∈ ds → 1 ≤ d ∧ d ≤ 13) → (∀ d : Nat, d ∈ es → 1 ≤ d ∧ d ≤ 13) → lP (ds.map stO) (es.map stO) → ∃ t : List Nat, es = ds ++ t
  | [], es, _, _, _ => ⟨es, rfl⟩
  | d :: ds, [], _, _, h => by
    obtain ⟨s, h⟩ := h
    simp at h
  | d :: ds, e :: es, h1, h2, h => by
    obtain ⟨q1, q2⟩ := lP_cons (show lP (stO d :: ds.map stO) (stO e :: es.map stO) from h)
    have e1 := stO_inj (h1 d List.mem_cons_self) (h2 e List.mem_cons_self) q1
    obtain ⟨t, e2⟩ := stO_pre (fun x hx => h1 x (List.mem_cons_of_mem _ hx)) (fun x hx => h2 x (List.mem_cons_of_mem _ hx)) q2
    exact ⟨t, by rw [e1, e2]; rfl⟩
theorem dgP_cat {t : List Nat} : ∀ ds : List Nat, dgP (ds ++ t) = dgP ds + 16 ^ ds.length * dgP t
  | [] => by show dgP t = 0 + 16 ^ 0 * dgP t; omega
  | d :: ds => by
    show d + 16 * dgP (ds ++ t) = d + 16 * dgP ds + 16 ^ (ds.length + 1) * dgP t
    rw [dgP_cat ds, Nat.pow_succ, Nat.mul_add, Nat.mul_comm (16 ^ ds.length) 16, Nat.mul_assoc]; omega
theorem nI_xor (a b : Nat) : nI a ^^^ nI b = nI (a ^^^ b) := by
  refine nI_ofb ?_
  rw [Int32.toBitVec_xor, nI_bv, nI_bv, ← BitVec.ofNat_xor]
theorem nI_andN (a b : Nat) : nI a &&& nI b = nI (a &&& b) := by
  refine nI_ofb ?_
  rw [Int32.toBitVec_and, nI_bv, nI_bv, ← BitVec.ofNat_and]
theorem xor_lo {a b k : Nat} (h : a < 2 ^ k) : (a ^^^ (a + 2 ^ k * b)) &&& (2 ^ k - 1) = 0 := by
  rw [Nat.and_two_pow_sub_one_eq_mod, Nat.xor_mod_two_pow, Nat.add_mul_mod_self_left, Nat.mod_eq_of_lt h, Nat.xor_self]
theorem msk4 {n : Nat} (h : n ≤ 4) : ((1 : Int32) <<< ((4 * nI n) &&& 31)) - 1 = nI (2 ^ (4 * n) - 1) := by
  have : ∀ v : Fin 5, ((1 : Int32) <<< ((4 * nI v.1) &&& 31)) - 1 = nI (2 ^ (4 * v.1) - 1) := by decide
  exact this ⟨n, by omega⟩
/-- one lies on the other's way: told so -/
theorem ov_cmp {ds es : List Nat} {n m : Nat} (hd : ds.length = n) (he : es.length = m) (hn : n ≤ 4) (hm : m ≤ 4) (h1 : ∀ d : Nat, d ∈ ds → 1 ≤ d ∧ d ≤ 13) (h2 : ∀ d : Nat, d ∈ es → 1 ≤ d ∧ d ≤ 13) (h : lCmp (ds.map stO) (es.map stO)) : ovB (nI n) (nI m) (nI (dgP ds)) (nI (dgP es)) = 0 := by
  have pre : ∀ (a b : List Nat), (∀ d : Nat, d ∈ a → 1 ≤ d ∧ d ≤ 13) → (∀ d : Nat, d ∈ b → 1 ≤ d ∧ d ≤ 13) → lP (a.map stO) (b.map stO) → a.length ≤ b.length ∧ (dgP a ^^^ dgP b) &&& (2 ^ (4 * a.length) - 1) = 0 := fun a b q1 q2 q3 => by
    obtain ⟨t, rfl⟩ := stO_pre q1 q2 q3
    refine ⟨by rw [List.length_append]; omega, ?_⟩
    have hl := dgP_lt (ds := a) (fun d hd9 => by have := q1 d hd9; omega)
    rw [dgP_cat, pow16, Nat.mul_comm a.length 4]
    rw [pow16, Nat.mul_comm a.length 4] at hl
    exact xor_lo hl
  unfold ovB
  rw [nI_xor]
  rcases h with h | h
  · obtain ⟨q1, q2⟩ := pre ds es h1 h2 h
    rw [hd, he] at q1
    rw [hd] at q2
    rw [if_neg (fun z => absurd ((nI_ltI (a := m) (b := n) (by omega) (by omega)).mp z) (by omega)), msk4 hn, nI_andN, q2]; rfl
  · obtain ⟨q1, q2⟩ := pre es ds h2 h1 h
    rw [hd, he] at q1
    rw [he] at q2
    have e : (if nI m < nI n then nI m else nI n) = nI m := by
      by_cases c : nI m < nI n
      · rw [if_pos c]
      · rw [if_neg c]
        have : ¬ m < n := fun z => c ((nI_ltI (a := m) (b := n) (by omega) (by omega)).mpr z)
        rw [show n = m by omega]
    rw [e, msk4 hm, Nat.xor_comm, nI_andN, q2]; rfl
/-- loan l has a borrow in the code from a to b -/
def isB (F : tF) (k : Nat → Option (List tE)) (a b l : Nat) : Prop := ∃ (i : Nat) (s : List tE), a ≤ i ∧ i < b ∧ F 0 i = 4 ∧ F 2 i = nI l ∧ k i = some s
theorem ga_no {F : tF} {pof : Nat → Int32} {lon : Nat → Int64} {a b0 : Nat} (hB : ∀ i : Nat, a ≤ i → i < b0 → F 0 i = 4 → ∃ p v l : Nat, F 1 i = nI p ∧ p < 3001 ∧ F 6 p = nI v ∧ v < 40 ∧ F 2 i = nI l ∧ l < 54) : ∀ d l : Nat, a + d ≤ b0 → (∀ j : Nat, a ≤ j → j < a + d → F 0 j = 4 → F 2 j = nI l → False) → lbit (gaS F pof lon a d).2.2 l = false
  | 0, l, _, _ => lbit_0 l
  | d + 1, l, hd, h => by
    have ih := ga_no (pof := pof) (lon := lon) hB d l (by omega) (fun j g1 g2 => h j g1 (by omega))
    by_cases c : F 0 (a + d) = 4
    · obtain ⟨q, w, m, c1, c2, c3, c4, c5, c6⟩ := hB (a + d) (by omega) (by omega) c
      rw [gaS_4 c c1 (by omega) c3 (by omega) c5 (by omega)]
      show lbit ((gaS F pof lon a d).2.2 ||| _) l = false
      have hlm : l ≠ m := fun z => h (a + d) (by omega) (by omega) c (by rw [c5, z])
      rw [lbit_or, ih, Bool.false_or]
      by_cases z : F 3 (a + d) = 0
      · rw [if_pos z]
        rcases Nat.lt_or_ge l 64 with y | y
        · rw [lbit_bt m l (by omega) y, decide_eq_false hlm]
        · unfold lbit; exact BitVec.getLsbD_of_ge _ _ y
      · rw [if_neg z, lbit_0]
    · rw [gaS_n c]; exact ih
/-- what the loans' tables tell -/
theorem ga_tb {F : tF} {pof : Nat → Int32} {lon : Nat → Int64} {a b0 : Nat} (hB : ∀ i : Nat, a ≤ i → i < b0 → F 0 i = 4 → ∃ p v l : Nat, F 1 i = nI p ∧ p < 3001 ∧ F 6 p = nI v ∧ v < 40 ∧ F 2 i = nI l ∧ l < 54) : ∀ d : Nat, a + d ≤ b0 → (∀ i j : Nat, a ≤ i → i < a + d → a ≤ j → j < a + d → F 0 i = 4 → F 0 j = 4 → F 2 i = F 2 j → i = j) → ∀ i p v l : Nat, a ≤ i → i < a + d → F 0 i = 4 → F 1 i = nI p → p < 3001 → F 6 p = nI v → v < 40 → F 2 i = nI l → l < 54 → (gaS F pof lon a d).1 l = nI p ∧ lbit ((gaS F pof lon a d).2.1 v) l = true ∧ (lbit (gaS F pof lon a d).2.2 l = true ↔ F 3 i = 0)
  | 0, _, _, i, p, v, l, h1, h2, _, _, _, _, _, _, _ => absurd h2 (by omega)
  | d + 1, hdb, hu, i, p, v, l, h1, h2, h3, h4, h5, h6, h7, h8, h9 => by
    have hu2 : ∀ i j : Nat, a ≤ i → i < a + d → a ≤ j → j < a + d → F 0 i = 4 → F 0 j = 4 → F 2 i = F 2 j → i = j := fun i j g1 g2 g3 g4 => hu i j g1 (by omega) g3 (by omega)
    by_cases c : F 0 (a + d) = 4
    · obtain ⟨q, w, m, c1, c2, c3, c4, c5, c6⟩ := hB (a + d) (by omega) (by omega) c
      rw [gaS_4 c c1 (by omega) c3 (by omega) c5 (by omega)]
      by_cases e : i = a + d
      · subst e
        obtain rfl : p = q := (nI_eq (a := p) (b := q) (by omega) (by omega)).mp (h4.symm.trans c1)
        obtain rfl : v = w := (nI_eq (a := v) (b := w) (by omega) (by omega)).mp (h6.symm.trans c3)
        obtain rfl : l = m := (nI_eq (a := l) (b := m) (by omega) (by omega)).mp (h8.symm.trans c5)
        refine ⟨pk_us, ?_, ?_⟩
        · show lbit (vp_updL _ v _ v) l = true
          rw [pk_uLs, lbit_or, lbit_bt l l (by omega) (by omega), decide_eq_true rfl, Bool.or_true]
        · show lbit ((gaS F pof lon a d).2.2 ||| _) l = true ↔ _
          rw [lbit_or]
          have hn : lbit (gaS F pof lon a d).2.2 l = false := ga_no hB d l (by omega) (fun j g1 g2 g3 g4 => by
            have := hu (a + d) j (by omega) (by omega) g1 (by omega) c g3 (by rw [h8, g4])
            omega)
          rw [hn, Bool.false_or]
          by_cases z : F 3 (a + d) = 0
          · rw [if_pos z, lbit_bt l l (by omega) (by omega), decide_eq_true rfl]; exact ⟨fun _ => z, fun _ => rfl⟩
          · rw [if_neg z, lbit_0]; exact ⟨fun y => absurd y (by decide), fun y => absurd y z⟩
      · have hi : i < a + d := by omega
        have hlm : l ≠ m := fun z => e (hu i (a + d) h1 (by omega) (by omega) (by omega) h3 c (by rw [h8, c5, z]))
        obtain ⟨r1, r2, r3⟩ := ga_tb hB d (by omega) hu2 i p v l h1 hi h3 h4 h5 h6 h7 h8 h9
        refine ⟨by show upd _ m _ l = _; rw [pk_un hlm]; exact r1, ?_, ?_⟩
        · show lbit (vp_updL _ w _ v) l = true
          by_cases z : v = w
          · rw [z, pk_uLs, lbit_or, ← z, r2]; rfl
          · rw [pk_uLn z]; exact r2
        · show lbit ((gaS F pof lon a d).2.2 ||| _) l = true ↔ _
          rw [lbit_or]
          have : lbit (if F 3 (a + d) = 0 then bt m else 0) l = false := by
            by_cases z : F 3 (a + d) = 0
            · rw [if_pos z, lbit_bt m l (by omega) (by omega), decide_eq_false hlm]
            · rw [if_neg z, lbit_0]
          rw [this, Bool.or_false]; exact r3
    · rw [gaS_n c]
      have hi : i < a + d := by
        by_cases e : i = a + d
        · rw [e] at h3; exact absurd h3 c
        · omega
      exact ga_tb hB d (by omega) hu2 i p v l h1 hi h3 h4 h5 h6 h7 h8 h9
end
-- d5.t6.lean.txt
section
/-- the digits of x, n of them -/
def dgs : Nat → Nat → List Nat
  | _, 0 => []
  | x, n + 1 => x % 16 :: dgs (x / 16) n
theorem dgs_P : ∀ {ds : List Nat}, (∀ d : Nat, d ∈ ds → d < 16) → dgs (dgP ds) ds.length = ds
  | [], _ => rfl
  | d :: ds, h => by
    have h1 := h d List.mem_cons_self
    show (d + 16 * dgP ds) % 16 :: dgs ((d + 16 * dgP ds) / 16) ds.length = d :: ds
    rw [show (d + 16 * dgP ds) % 16 = d by omega, show (d + 16 * dgP ds) / 16 = dgP ds by omega, dgs_P (fun x hx => h x (List.mem_cons_of_mem _ hx))]
/-- the way of place p -/
def wyF (F : tF) (p : Nat) : lLc := (dgs (cN (F 7 p)) (cN (F 8 p))).map stO
/-- place p has the digits ds -/
def pG (F : tF) (p : Nat) (ds : List Nat) : Prop := ∃ n : Nat, n ≤ 4 ∧ F 8 p = nI n ∧ ds.length = n ∧ (∀ d : Nat, d ∈ ds → 1 ≤ d ∧ d ≤ 13) ∧ F 7 p = nI (dgP ds)
theorem pG_wy {F : tF} {p : Nat} {ds : List Nat} (h : pG F p ds) : wyF F p = ds.map stO := by
  obtain ⟨n, h1, h2, h3, h4, h5⟩ := h
  have hl := dgP_lt (ds := ds) (fun d hd => by have := h4 d hd; omega)
  have h16 : (16 : Nat) ^ ds.length ≤ 16 ^ 4 := Nat.pow_le_pow_right (by decide) (by omega)
  unfold wyF
  rw [h2, h5, cN_nI (by omega), cN_nI (by have : (16 : Nat) ^ 4 = 65536 := by decide
                                          omega), ← h3, dgs_P (fun d hd => by have := h4 d hd; omega)]
theorem pG_of {F X : tF} {yp yt p v n T T0 : Nat} {pa ro mu : Int32} (h : tbO F X yp yt) (hv : F 15 v = nI T0) (hT0 : tyV yp yt (F 20) T0) (hp : plI F X p v n T pa ro mu) : ∃ (ds os : List Nat) (o : Nat), pG F p ds ∧ pW ds os o n pa ro ∧ pK F X yp yt T0 T mu ds os o := by
  obtain ⟨p1, p2, p3, p4, p5, p6, p7, p8, p9, p10, p11⟩ := hp
  obtain ⟨ds, os, o, w1, w2⟩ := pl_way h hv hT0 n pa ro T mu p3 p4 p11
  exact ⟨ds, os, o, ⟨n, p3, p7, w1.1, w1.2.1, by rw [p6]; exact w1.2.2.1⟩, w1, w2⟩
theorem pG_ov {F : tF} {p q : Nat} {ds es : List Nat} (h1 : pG F p ds) (h2 : pG F q es) (h : lCmp (wyF F q) (wyF F p)) : ovB (F 8 p) (F 8 q) (F 7 p) (F 7 q) = 0 := by
  rw [pG_wy h1, pG_wy h2] at h
  obtain ⟨n, a1, a2, a3, a4, a5⟩ := h1
  obtain ⟨m, b1, b2, b3, b4, b5⟩ := h2
  rw [a2, a5, b2, b5]
  exact ov_cmp a3 b3 a1 b1 a4 b4 (lCmp_sym h)
/-- the loans of a function: gp places, gs the shared ones -/
def tbF (F : tF) (gp : Nat → Int32) (gs : Int64) : lTb := (fun l => cN (F 6 (cN (gp l))), fun l => wyF F (cN (gp l)), fun l => lbit gs l = true, fun l => 54 ≤ l, fun w => F 20 (cN (F 15 w)) = 5 ∨ F 20 (cN (F 15 w)) = 6)
/-- a borrow that is reached -/
theorem bo_pl {F X : tF} {G : Nat → Nat → Nat} {rs a b i : Nat} {k : Nat → Option (List tE)} {s : List tE} (hc : ceI F X G rs a b k) (h1 : a ≤ i) (h2 : i < b) (h4 : F 0 i = 4) (hs : k i = some s) : ∃ (p v n T l : Nat) (pa ro mu : Int32), F 1 i = nI p ∧ plI F X p v n T pa ro mu ∧ F 2 i = nI l ∧ l < 54 := by
  obtain ⟨p, T, l, m, mu, q1, ⟨v, n, pa, ro, q2⟩, q3, q4, q5, q6, -⟩ := ce_op (o := 4) hc h1 h2 hs h4 (by decide)
  exact ⟨p, v, n, T, l, pa, ro, mu, q1, q2, q5, q6⟩
/-- the variable of a place has a type -/
theorem pl_ne {F X : tF} {v : Nat} : ∀ (n : Nat) (pa ro : Int32) (T : Nat) (mu : Int32), T < 3040 → plS F X 3040 v n pa ro T mu → F 15 v ≠ -1
  | 0, pa, ro, T, mu, hT, hp => fun e => by
    obtain ⟨-, -, p3, -⟩ := hp
    have : nI T < 0 := by rw [← p3, e]; decide
    exact nI_pos (by omega) this
  | n + 1, pa, ro, T, mu, hT, hp => by
    obtain ⟨pa1, ro1, T1, mu1, q1, q2, q3, -⟩ := hp
    exact pl_ne n pa1 ro1 T1 mu1 q3 q1
/-- an access that Loans told nothing of meets nothing -/
theorem ck_of {F X : tF} {G : Nat → Nat → Nat} {rs a b i p v tn yp yt : Nat} {k : Nat → Option (List tE)} {C : lnC} {ms : Int32} {pof : Nat → Int32} {hdL ftL lon : Nat → Int64} {H : Nat → Nat → Prop} {A2 : Nat → Prop} {ds : List Nat}
    (hc : ceI F X G rs a b k) (hab : a ≤ b) (ht : tbO F X yp yt) (hvt : ∀ w : Nat, w < 40 → F 15 w ≠ -1 → ∃ T0 : Nat, F 15 w = nI T0 ∧ tyV yp yt (F 20) T0)
    (hga : (C.2.2.2.1, C.2.1, C.2.2.1) = gaS F pof lon a (b - a))
    (hB : ∀ i : Nat, a ≤ i → i < b → F 0 i = 4 → ∃ p v l : Nat, F 1 i = nI p ∧ p < 3001 ∧ F 6 p = nI v ∧ v < 40 ∧ F 2 i = nI l ∧ l < 54)
    (hu : ∀ i j : Nat, a ≤ i → i < b → a ≤ j → j < b → F 0 i = 4 → F 0 j = 4 → F 2 i = F 2 j → i = j)
    (hnb : ∀ j l : Nat, a ≤ j → j < b → F 0 j = 4 → F 2 j = nI l → l < 54 → l < C.2.2.2.2.1)
    (hpG : pG F p ds) (hac : acO F C i p v ms hdL ftL tn)
    (hA : ∀ u l : Nat, A2 u → H u l → lnA C i hdL ftL tn l)
    (hH : ∀ u l : Nat, A2 u → H u l → 54 ≤ l ∨ isB F k a b l) : lCk (tbF F C.2.2.2.1 C.2.2.1) H A2 v (wyF F p) (ms = 0) := by
  intro u l hu1 hl1 hou hv hcm
  have hou : ¬ 54 ≤ l := hou
  obtain ⟨j, s, j1, j2, j3, j4, j5⟩ := (hH u l hu1 hl1).resolve_left hou
  obtain ⟨q, w, n, T, l2, pa, ro, mu, g1, g2, g3, g4⟩ := bo_pl hc j1 j2 j3 j5
  obtain rfl : l = l2 := (nI_eq (a := l) (b := l2) (by omega) (by omega)).mp (j4.symm.trans g3)
  have e1 : C.2.2.2.1 = (gaS F pof lon a (b - a)).1 := congrArg (fun x => x.1) hga
  have e2 : C.2.1 = (gaS F pof lon a (b - a)).2.1 := congrArg (fun x => x.2.1) hga
  have e3 : C.2.2.1 = (gaS F pof lon a (b - a)).2.2 := congrArg (fun x => x.2.2) hga
  obtain ⟨t1, t2, t3⟩ := ga_tb (pof := pof) (lon := lon) hB (b - a) (by omega) (fun i j a1 a2 a3 a4 => hu i j a1 (by omega) a3 (by omega)) j q w l j1 (by omega) j3 g1 g2.1.1 g2.2.2.2.2.1 g2.2.1 j4 g4
  rw [← e1] at t1
  rw [← e2] at t2
  have hq : cN (C.2.2.2.1 l) = q := by rw [t1, cN_nI (by have := g2.1.1; omega)]
  have hw : w = v := by
    have hv : cN (F 6 (cN (C.2.2.2.1 l))) = v := hv
    rw [hq, g2.2.2.2.2.1, cN_nI (by have := g2.2.1; omega)] at hv
    exact hv
  subst hw
  have hcm : lCmp (wyF F (cN (C.2.2.2.1 l))) (wyF F p) := hcm
  rw [hq] at hcm
  obtain ⟨T0, v1, v2⟩ := hvt w g2.2.1 (pl_ne n pa ro T mu g2.2.2.2.1 g2.2.2.2.2.2.2.2.2.2.2)
  obtain ⟨es, os, o, x1, -, -⟩ := pG_of ht v1 v2 g2
  have hov := pG_ov hpG x1 hcm
  refine Classical.byContradiction (fun z => ?_)
  have hac2 := hac l (hnb j l j1 j2 j3 j4 g4) t2 (fun y => ?_) (hA u l hu1 hl1)
  · rw [show (C.2.2.2.1 l).toNatClampNeg = q from hq] at hac2
    exact hac2 hov
  · cases e : lbit C.2.2.1 l with
    | false => rfl
    | true => exact absurd ⟨y, e⟩ z
end
-- d5.t7.lean.txt
section
/-- bit c of x -/
def ibit (x : Int32) (c : Nat) : Bool := x.toBitVec.getLsbD c
theorem ibit_or (x y : Int32) (c : Nat) : ibit (x ||| y) c = (ibit x c || ibit y c) := by unfold ibit; rw [Int32.toBitVec_or, BitVec.getLsbD_or]
theorem ibit_and (x y : Int32) (c : Nat) : ibit (x &&& y) c = (ibit x c && ibit y c) := by unfold ibit; rw [Int32.toBitVec_and, BitVec.getLsbD_and]
theorem ibit_0 (c : Nat) : ibit 0 c = false := by show (0#32).getLsbD c = false; exact BitVec.getLsbD_zero
theorem ibit_nI {a c : Nat} (h : c < 32) : ibit (nI a) c = a.testBit c := by
  unfold ibit
  rw [nI_bv, BitVec.getLsbD_ofNat, decide_eq_true h, Bool.true_and]
theorem ibit_not (x : Int32) (c : Nat) (h : c < 32) : ibit (x ^^^ -1) c = !ibit x c := by
  unfold ibit
  rw [Int32.toBitVec_xor, BitVec.getLsbD_xor]
  have : (-1 : Int32).toBitVec.getLsbD c = true := by
    have : ∀ v : Fin 32, (-1 : Int32).toBitVec.getLsbD v.1 = true := by decide
    exact this ⟨c, h⟩
  rw [this, Bool.xor_true]
/-- bits from o on, z of them -/
theorem tb_rng {z o c : Nat} : ((2 ^ z - 1) * 2 ^ o).testBit c = (decide (o ≤ c) && decide (c < o + z)) := by
  rw [← Nat.shiftLeft_eq, Nat.testBit_shiftLeft, Nat.testBit_two_pow_sub_one]
  by_cases h : o ≤ c
  · rw [decide_eq_true h]
    show (true && decide (c - o < z)) = (true && decide (c < o + z))
    congr 1
    exact decide_eq_decide.mpr (by omega)
  · rw [decide_eq_false h]; rfl
theorem iS_bit {x y : Int32} (h : iS x y) {c : Nat} (hc : ibit x c = true) : ibit y c = true := by
  obtain ⟨z, rfl⟩ := h
  rw [ibit_or, hc]; rfl
/-- the cells of the way π of a variable of type T0 -/
def inW (y : qY) (z : qZ) (T0 : Nat) (π : lLc) (c : Nat) : Prop := ∃ T : Nat, qW y T0 π T ∧ qA y z (fun _ => 0) T0 0 π ≤ c ∧ c < qA y z (fun _ => 0) T0 0 π + z.1 T
/-- a cell of it may be without a value, by the bits x -/
def loF (y : qY) (z : qZ) (T0 : Nat) (x : Int32) (π : lLc) : Prop := ∃ c : Nat, c < 16 ∧ inW y z T0 π c ∧ ibit x c = true
theorem loF_up {y : qY} {z : qZ} {T0 : Nat} {x x2 : Int32} {π : lLc} (h : iS x x2) (hl : loF y z T0 x π) : loF y z T0 x2 π := by
  obtain ⟨c, c1, c2, c3⟩ := hl
  exact ⟨c, c1, c2, iS_bit h c3⟩
/-- one lies on the other's way: a cell of both -/
theorem inW_cmp {y : qY} {z : qZ} {T0 T U : Nat} {π σ : lLc} (hz : qLy y z) (hπ : qW y T0 π T) (hσ : qW y T0 σ U) (h1 : qN π) (h2 : qN σ) (h : lCmp π σ) : ∃ c : Nat, inW y z T0 π c ∧ inW y z T0 σ c := by
  have key : ∀ (ρ τ : lLc) (A B : Nat), qW y T0 ρ A → qW y T0 (ρ ++ τ) B → qN (ρ ++ τ) → inW y z T0 ρ (qA y z (fun _ => 0) T0 0 (ρ ++ τ)) ∧ inW y z T0 (ρ ++ τ) (qA y z (fun _ => 0) T0 0 (ρ ++ τ)) := fun ρ τ A B a1 a2 a3 => by
    have a4 := qW_rest a2 a1
    have a5 : qN τ := fun x hx => a3 x (List.mem_append_right _ hx)
    have q := qA_in (c := fun _ => 0) (a := qA y z (fun _ => 0) T0 0 ρ) hz a4 a5
    have hB := hz.1 B
    refine ⟨⟨A, a1, ?_, ?_⟩, ⟨B, a2, Nat.le_refl _, by omega⟩⟩
    · rw [qA_app a1]; exact q.1
    · rw [qA_app a1]; omega
  rcases h with ⟨τ, rfl⟩ | ⟨τ, rfl⟩
  · exact ⟨_, key π τ T U hπ hσ h2⟩
  · obtain ⟨k1, k2⟩ := key σ τ U T hσ hπ h1
    exact ⟨_, k2, k1⟩
/-- the bits of a place's cells: of a way of members all of it; behind a star the first box's -/
theorem pc_bit {ds os : List Nat} {o n z : Nat} {pa ro : Int32} (h : pW ds os o n pa ro) (hn : n ≤ 4) (hz : o + z ≤ 16) {c : Nat} (hc : c < 32) : ibit (pCells ro (nI z)) c = (if os = [] then (decide (o ≤ c) && decide (c < o + z)) else decide (c = (os ++ [o]).head?.getD 0)) := by
  obtain ⟨h1, h2, h3, h4, h5, h6, h7⟩ := h
  have hlt := dgP_lt6 h6 h7
  have h16 : (16 : Nat) ^ (os.length + 1) ≤ 16 ^ 5 := Nat.pow_le_pow_right (by decide) (by omega)
  have h165 : (16 : Nat) ^ 5 = 1048576 := by decide
  have e1 : ro &&& 15 = nI os.length := by rw [h4, nI_and15]; congr 1; omega
  have e2 : (ro >>> ((4 : Int32) &&& 31)) &&& 15 = nI (dgP (os ++ [o]) % 16) := by
    rw [h4, show (4 : Int32) &&& 31 = nI 4 &&& 31 from rfl, nI_shr (by omega) (by decide), nI_and15]; congr 1; omega
  unfold pCells
  rw [e1, e2]
  by_cases c1 : os = []
  · subst c1
    rw [if_pos rfl, if_neg (by decide)]
    have e3 : dgP ([] ++ [o]) % 16 = o := by show (o + 16 * 0) % 16 = o; omega
    have e4 : ((1 : Int32) <<< (nI z &&& 31)) - 1 = nI (2 ^ z - 1) := by
      have : ∀ v : Fin 17, ((1 : Int32) <<< (nI v.1 &&& 31)) - 1 = nI (2 ^ v.1 - 1) := by decide
      exact this ⟨z, by omega⟩
    rw [e3, e4, nI_shl (by omega), ibit_nI hc, tb_rng]
  · rw [if_neg c1, if_pos (by
      cases os with
      | nil => exact absurd rfl c1
      | cons x os' =>
        show (0 : Int32) < nI (os'.length + 1)
        exact (nI_ltI (a := 0) (b := os'.length + 1) (by decide) (by have : os'.length + 1 ≤ n := h5; omega)).mpr (by omega))]
    cases os with
    | nil => exact absurd rfl c1
    | cons x os' =>
      have hx := h6 x List.mem_cons_self
      have e3 : dgP ((x :: os') ++ [o]) % 16 = x := by show (x + 16 * dgP (os' ++ [o])) % 16 = x; omega
      rw [e3, show (1 : Int32) = nI 1 from rfl, nI_shl (by omega), ibit_nI hc, Nat.one_mul, Nat.testBit_two_pow]
      show decide (x = c) = decide (c = x)
      exact decide_eq_decide.mpr ⟨Eq.symm, Eq.symm⟩
end
-- d5.t8.lean.txt
section
/-- the table's number of the class's type u -/
def ymF (F : tF) (u : Nat) : Nat := if F 20 u = 5 then 10000 + 2 * cN (F 21 u) else if F 20 u = 6 then 10001 + 2 * cN (F 21 u) else u
theorem ymF_n {F X : tF} {yp yt u : Nat} (h : tbO F X yp yt) (hu : tyN yp (F 20) u) : ymF F u = u := by
  have := tyN_nr h hu
  unfold ymF
  rw [if_neg this.1, if_neg this.2]
theorem ty_sz {F X : tF} {yp yt u : Nat} (h : tbO F X yp yt) (hu : tyV yp yt (F 20) u) : (zF F X yt).1 (ymF F u) = cN (F 22 u) ∧ 1 ≤ cN (F 22 u) ∧ cN (F 22 u) ≤ 16 := by
  obtain ⟨hty, hsq, hsz, hms⟩ := h
  have h30 : yt ≤ 3040 := hty.2.1
  obtain ⟨z0, z1, z2, z3⟩ := hty.2.2.2.2.1
  rcases hu with ⟨hu | hu, hy⟩
  · have e : ymF F u = u := ymF_n ⟨hty, hsq, hsz, hms⟩ hu
    have e2 : (zF F X yt).1 u = max 1 (min 16 (cN (F 22 u))) := if_pos hy
    have e3 : 1 ≤ cN (F 22 u) ∧ cN (F 22 u) ≤ 16 := by
      rcases hu with hu | hu | hu
      · rcases hu with rfl | rfl | rfl
        · have z1 : F 22 1 = 1 := z1
          rw [z1]; decide
        · have z2 : F 22 2 = 1 := z2
          rw [z2]; decide
        · have z3 : F 22 3 = 1 := z3
          rw [z3]; decide
      · obtain ⟨z, q1, q2, q3⟩ := hsz (u - 4) (by omega)
        rw [show 4 + (u - 4) = u by omega] at q1
        rw [q1, cN_nI (by omega)]; omega
      · have q : F 22 u = 1 := (hty.2.2.2.2.2.2.2.1 u hu.1 hy).2.1
        rw [q]; decide
    rw [e, e2]
    exact ⟨by omega, e3⟩
  · have q : F 22 u = 1 := (hty.2.2.2.2.2.2.2.1 u hu.1 hy).2.1
    have e1 : cN (F 22 u) = 1 := by rw [q]; rfl
    have e : (zF F X yt).1 (ymF F u) = 1 := by
      unfold ymF
      rcases hu.2 with z | z
      · rw [if_pos z]
        show (if 10000 + 2 * cN (F 21 u) < yt then _ else 1) = 1
        rw [if_neg (by omega)]
      · rw [if_neg (by rw [z]; decide), if_pos z]
        show (if 10001 + 2 * cN (F 21 u) < yt then _ else 1) = 1
        rw [if_neg (by omega)]
    rw [e, e1]; decide
theorem ymF_0 {F X : tF} {yp yt u : Nat} (h : tbO F X yp yt) (hu : tyV yp yt (F 20) u) : ymF F u ≠ 0 := by
  rcases hu with ⟨hu | hu, hy⟩
  · rw [ymF_n h hu]
    rcases hu with hu | hu | hu <;> omega
  · unfold ymF
    rcases hu.2 with z | z
    · rw [if_pos z]; omega
    · rw [if_neg (by rw [z]; decide), if_pos z]; omega
/-- what a reference's type is of is a proper type -/
theorem ty_of {F X : tF} {yp yt u : Nat} (h : tbO F X yp yt) (h34 : 34 ≤ u) (hy : u < yt) : ∃ U : Nat, U < u ∧ F 21 u = nI U ∧ tyN yp (F 20) U := by
  obtain ⟨-, -, -, U, u1, u2, u3⟩ := h.1.2.2.2.2.2.2.2.1 u h34 hy
  exact ⟨U, u1, u2, u3⟩
/-- functions' variables: their types, where they lie, how many cells: F their rows -/
def vtF (Fg : Nat → tF) (nv : Nat → Nat) (g v : Nat) : Nat := if v < nv g ∧ Fg g 15 v ≠ -1 then ymF (Fg g) (cN (Fg g 15 v)) else 0
def voF (Fg : Nat → tF) (g v : Nat) : Nat := cN (Fg g 17 v)
theorem kFt_of {Fg : Nat → tF} {F X : tF} {yp yt : Nat} {nv vc : Nat → Nat} (h : tbO F X yp yt) (hF : ∀ (g k i : Nat), 20 ≤ k → Fg g k i = F k i) (hv : ∀ g v : Nat, v < nv g → Fg g 15 v = -1 ∨ ∃ u : Nat, Fg g 15 v = nI u ∧ tyV yp yt (F 20) u)
    (h1 : ∀ g v : Nat, v < nv g → Fg g 15 v ≠ -1 → ∃ o : Nat, Fg g 17 v = nI o ∧ o < 2 ^ 31 ∧ o + cN (F 22 (cN (Fg g 15 v))) ≤ vc g)
    (h2 : ∀ g v w : Nat, v < nv g → w < nv g → v ≠ w → Fg g 15 v ≠ -1 → Fg g 15 w ≠ -1 → cN (Fg g 17 v) + cN (F 22 (cN (Fg g 15 v))) ≤ cN (Fg g 17 w) ∨ cN (Fg g 17 w) + cN (F 22 (cN (Fg g 15 w))) ≤ cN (Fg g 17 v)) : kFt (zF F X yt) (vtF Fg nv) (voF Fg) vc := by
  have hyt : yt ≤ 3040 := h.1.2.1
  have key : ∀ g v : Nat, vtF Fg nv g v ≠ 0 → v < nv g ∧ Fg g 15 v ≠ -1 ∧ (zF F X yt).1 (vtF Fg nv g v) = cN (F 22 (cN (Fg g 15 v))) := fun g v hn => by
    unfold vtF at hn ⊢
    by_cases c : v < nv g ∧ Fg g 15 v ≠ -1
    · rw [if_pos c]
      refine ⟨c.1, c.2, ?_⟩
      obtain ⟨u, u1, u2⟩ := (hv g v c.1).resolve_left c.2
      have e : ymF (Fg g) (cN (Fg g 15 v)) = ymF F (cN (Fg g 15 v)) := by unfold ymF; rw [hF g 20 _ (by omega), hF g 21 _ (by omega)]
      rw [e, u1, cN_nI (by have := u2.2; omega)]
      exact (ty_sz h u2).1
    · rw [if_neg c] at hn; exact absurd rfl hn
  refine ⟨fun g v v4 hn => ?_, fun g v w v4 w4 hne hn hm => ?_⟩
  · obtain ⟨k1, k2, k3⟩ := key g v hn
    obtain ⟨o, o1, o2, o3⟩ := h1 g v k1 k2
    rw [k3]
    show cN (Fg g 17 v) + _ ≤ _
    rw [o1, cN_nI o2]; exact o3
  · obtain ⟨k1, k2, k3⟩ := key g v hn
    obtain ⟨m1, m2, m3⟩ := key g w hm
    rw [k3, m3]
    exact h2 g v w k1 m1 hne k2 m2
end
-- d5.t9.lean.txt
section
/-- a borrow that is reached: of a place on a variable that is no reference, or behind one; a unique loan only behind a unique one -/
theorem bo_way {F X : tF} {G : Nat → Nat → Nat} {rs a b i yp yt T0 v : Nat} {k : Nat → Option (List tE)} {s : List tE} (hc : ceI F X G rs a b k) (ht : tbO F X yp yt) (h1 : a ≤ i) (h2 : i < b) (h4 : F 0 i = 4) (hs : k i = some s) (hv : ∀ p : Nat, F 1 i = nI p → p < 3001 → F 6 p = nI v) (hv4 : v < 40) (hT : F 15 v = nI T0) (hT0 : tyV yp yt (F 20) T0) : ∃ (p T : Nat) (ds os : List Nat) (o : Nat), F 1 i = nI p ∧ p < 3001 ∧ F 10 p = nI T ∧ T < 3040 ∧ wyF F p = ds.map stO ∧ F 20 T ≠ 5 ∧ F 20 T ≠ 6 ∧
    ((tyN yp (F 20) T0 ∧ pD F X yp yt T0 (ds.map stO) T os o) ∨
     ((F 20 T0 = 5 ∨ F 20 T0 = 6) ∧ (F 3 i = 1 → F 20 T0 = 6) ∧ ∃ (U : Nat) (ds' os' : List Nat), F 21 T0 = nI U ∧ U < yt ∧ ds = 13 :: ds' ∧ os = 0 :: os' ∧ pD F X yp yt U (ds'.map stO) T os' o)) := by
  obtain ⟨p, T, l, m, mu, q1, ⟨w, n, pa, ro, q2⟩, q3, q4, q5, q6, q7, q8⟩ := ce_op (o := 4) hc h1 h2 hs h4 (by decide)
  have hw : w = v := (nI_eq (a := w) (b := v) (by have := q2.2.1; omega) (by omega)).mp (q2.2.2.2.2.1.symm.trans (hv p q1 q2.1.1))
  subst hw
  obtain ⟨ds, os, o, g1, g2, g3⟩ := pG_of ht hT hT0 q2
  refine ⟨p, T, ds, os, o, q1, q2.1.1, q2.2.2.2.2.2.2.2.2.1, q2.2.2.2.1, pG_wy g1, q3, q4, ?_⟩
  rcases g3 with ⟨-, -, -, e, -, -, z⟩ | z | ⟨z1, z2, z3, z4, z5⟩
  · rw [e] at q3 q4
    rcases z with z | z
    · exact absurd z q3
    · exact absurd z q4
  · exact Or.inl z
  · refine Or.inr ⟨z3, fun y => z4 ?_, z5⟩
    rcases q8 with ⟨y0, -⟩ | ⟨-, y1, -⟩
    · rw [y0] at y; exact absurd y (by decide)
    · exact y1
/-- loans on a variable that is a shared reference are shared -/
theorem sh_of {F X : tF} {G : Nat → Nat → Nat} {rs a b yp yt T0 v l : Nat} {k : Nat → Option (List tE)} {pof : Nat → Int32} {lon : Nat → Int64} (hc : ceI F X G rs a b k) (hab : a ≤ b) (ht : tbO F X yp yt)
    (hB : ∀ i : Nat, a ≤ i → i < b → F 0 i = 4 → ∃ p v l : Nat, F 1 i = nI p ∧ p < 3001 ∧ F 6 p = nI v ∧ v < 40 ∧ F 2 i = nI l ∧ l < 54)
    (hu : ∀ i j : Nat, a ≤ i → i < b → a ≤ j → j < b → F 0 i = 4 → F 0 j = 4 → F 2 i = F 2 j → i = j)
    (hT : F 15 v = nI T0) (hT0 : tyV yp yt (F 20) T0) (h5 : F 20 T0 = 5) (hl : isB F k a b l) (hl2 : l < 54) (hlv : cN (F 6 (cN ((gaS F pof lon a (b - a)).1 l))) = v) : lbit (gaS F pof lon a (b - a)).2.2 l = true := by
  obtain ⟨j, s, j1, j2, j3, j4, j5⟩ := hl
  obtain ⟨p, w, l2, c1, c2, c3, c4, c5, c6⟩ := hB j j1 j2 j3
  obtain rfl : l = l2 := (nI_eq (a := l) (b := l2) (by omega) (by omega)).mp (j4.symm.trans c5)
  obtain ⟨t1, t2, t3⟩ := ga_tb (pof := pof) (lon := lon) hB (b - a) (by omega) (fun i j a1 a2 a3 a4 => hu i j a1 (by omega) a3 (by omega)) j p w l j1 (by omega) j3 c1 c2 c3 c4 c5 c6
  rw [t1, cN_nI (by omega), c3, cN_nI (by omega)] at hlv
  subst hlv
  refine t3.mpr ?_
  obtain ⟨q, T, ds, os, o, -, -, -, -, -, -, -, z⟩ := bo_way hc ht j1 j2 j3 j5 (fun q q1 q2 => by
    rw [(nI_eq (a := q) (b := p) (by omega) (by omega)).mp (q1.symm.trans c1)]; exact c3) c4 hT hT0
  have hnu : ¬ F 3 j = 1 := fun y => by
    rcases z with ⟨z, -⟩ | ⟨-, z, -⟩
    · exact (tyN_nr ht z).1 h5
    · have := z y
      rw [h5] at this
      exact absurd this (by decide)
  obtain ⟨p8, T8, l8, m8, mu8, e1, e2, e3, e4, e5, e6, e7, q8⟩ := ce_op (o := 4) hc j1 j2 j5 j3 (by decide)
  rcases q8 with ⟨y0, -⟩ | ⟨y0, -⟩
  · exact y0
  · exact absurd y0 hnu
end
