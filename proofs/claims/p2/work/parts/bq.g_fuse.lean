def lbit (x : Int64) (k : Nat) : Bool := x.toBitVec.getLsbD k
theorem lbit_or (x y : Int64) (k : Nat) : lbit (x ||| y) k = (lbit x k || lbit y k) := by
  unfold lbit
  rw [Int64.toBitVec_or]; exact BitVec.getLsbD_or
theorem lbit_and (x y : Int64) (k : Nat) : lbit (x &&& y) k = (lbit x k && lbit y k) := by
  unfold lbit
  rw [Int64.toBitVec_and]; exact BitVec.getLsbD_and
theorem lbit_0 (k : Nat) : lbit 0 k = false := by
  unfold lbit
  exact BitVec.getLsbD_zero
theorem lbit_eq {x y : Int64} (h : ∀ k : Nat, k < 64 → lbit x k = lbit y k) : x = y := Int64.toBitVec_inj.mp (BitVec.eq_of_getLsbD_eq (fun k hk => h k hk))
/-- each bit of x is one of y -/
def lS (x y : Int64) : Prop := ∀ k : Nat, k < 64 → lbit x k = true → lbit y k = true
theorem lS_rf (x : Int64) : lS x x := fun _ _ h => h
theorem lS_tr {x y z : Int64} (h1 : lS x y) (h2 : lS y z) : lS x z := fun k hk h => h2 k hk (h1 k hk h)
theorem lS_0 (x : Int64) : lS 0 x := fun k _ h => by rw [lbit_0] at h; exact absurd h (by decide)
theorem lS_or {x y z w : Int64} (h1 : lS x y) (h2 : lS z w) : lS (x ||| z) (y ||| w) := fun k hk h => by
  rw [lbit_or, Bool.or_eq_true] at h ⊢
  exact h.imp (h1 k hk) (h2 k hk)
theorem lS_and {x y : Int64} (m : Int64) (h1 : lS x y) : lS (x &&& m) (y &&& m) := fun k hk h => by
  rw [lbit_and, Bool.and_eq_true] at h ⊢
  exact ⟨h1 k hk h.1, h.2⟩
theorem lS_eq {x y : Int64} (h1 : lS x y) (h2 : lS y x) : x = y := lbit_eq (fun k hk => by
  cases e : lbit x k with
  | true => exact (h1 k hk e).symm
  | false =>
    cases e2 : lbit y k with
    | true => exact absurd (h2 k hk e2) (by rw [e]; decide)
    | false => rfl)
def pcL (x : Int64) : Nat := btN x.toBitVec 64
theorem btN_S {w : Nat} {x y : BitVec w} : ∀ n : Nat, (∀ k : Nat, k < n → x.getLsbD k = true → y.getLsbD k = true) → btN x n ≤ btN y n ∧ ((∃ k : Nat, k < n ∧ x.getLsbD k ≠ y.getLsbD k) → btN x n < btN y n)
  | 0, _ => ⟨Nat.le_refl 0, fun ⟨k, hk, _⟩ => absurd hk (Nat.not_lt_zero k)⟩
  | n + 1, h => by
    obtain ⟨h1, h2⟩ := btN_S n (fun k hk => h k (by omega))
    have h3 := h n (by omega)
    show btN x n + (if x.getLsbD n = true then 1 else 0) ≤ btN y n + (if y.getLsbD n = true then 1 else 0) ∧ (_ → btN x n + (if x.getLsbD n = true then 1 else 0) < btN y n + (if y.getLsbD n = true then 1 else 0))
    by_cases e : x.getLsbD n = true
    · rw [if_pos e, if_pos (h3 e)]
      refine ⟨by omega, fun ⟨k, hk, hne⟩ => ?_⟩
      by_cases e2 : k = n
      · rw [e2, e, h3 e] at hne; exact absurd rfl hne
      · have := h2 ⟨k, by omega, hne⟩
        omega
    · rw [if_neg e]
      refine ⟨by omega, fun ⟨k, hk, hne⟩ => ?_⟩
      by_cases e2 : k = n
      · rw [e2] at hne
        have e3 : y.getLsbD n = true := by
          cases e4 : y.getLsbD n with
          | true => rfl
          | false =>
            cases e5 : x.getLsbD n with
            | true => exact absurd e5 e
            | false => exact absurd (e5.trans e4.symm) hne
        rw [if_pos e3]
        omega
      · have := h2 ⟨k, by omega, hne⟩
        omega
theorem pcL_S {x y : Int64} (h : lS x y) : pcL x ≤ pcL y ∧ (x ≠ y → pcL x < pcL y) := by
  obtain ⟨h1, h2⟩ := btN_S (x := x.toBitVec) (y := y.toBitVec) 64 h
  refine ⟨h1, fun q => h2 ?_⟩
  apply Classical.byContradiction
  intro hn
  exact q (lbit_eq (fun k hk => by
    apply Classical.byContradiction
    intro hq
    exact hn ⟨k, hk, hq⟩))
def fuM (ua : Nat → Int64) (lf : Nat) : Nat → Nat
  | 0 => 0
  | n + 1 => fuM ua lf n + pcL (ua (lf + n))
theorem fuM_le (ua : Nat → Int64) (lf : Nat) : ∀ n : Nat, fuM ua lf n ≤ 64 * n
  | 0 => Nat.le_refl 0
  | n + 1 => by
    have h1 := fuM_le ua lf n
    have h2 : pcL (ua (lf + n)) ≤ 64 := btN_le _ 64
    show fuM ua lf n + pcL (ua (lf + n)) ≤ 64 * (n + 1)
    omega
theorem fuM_up {ua va : Nat → Int64} (h : ∀ L : Nat, lS (ua L) (va L)) (lf : Nat) : ∀ n : Nat, fuM ua lf n ≤ fuM va lf n ∧ ((∃ L : Nat, lf ≤ L ∧ L < lf + n ∧ ua L ≠ va L) → fuM ua lf n < fuM va lf n)
  | 0 => ⟨Nat.le_refl 0, fun ⟨L, h1, h2, _⟩ => absurd h2 (by omega)⟩
  | n + 1 => by
    obtain ⟨h1, h2⟩ := fuM_up h lf n
    obtain ⟨p1, p2⟩ := pcL_S (h (lf + n))
    show fuM ua lf n + pcL (ua (lf + n)) ≤ fuM va lf n + pcL (va (lf + n)) ∧ (_ → fuM ua lf n + pcL (ua (lf + n)) < fuM va lf n + pcL (va (lf + n)))
    refine ⟨by omega, fun ⟨L, g1, g2, g3⟩ => ?_⟩
    by_cases e : L = lf + n
    · rw [e] at g3
      have := p2 g3
      omega
    · have := h2 ⟨L, g1, by omega, g3⟩
      omega
/-- findUses' state: used, usedAt, again; going back through the code -/
abbrev fuT := Int64 × (Nat → Int64) × Int32
def fuR (F : tF) (i : Nat) (s t : fuT) : Prop := ∃ o : Nat, F 0 i = nI o ∧ o < 33 ∧ t = (uaF F s.2.1 i s.1 o, uaW F s.2.1 i s.1 o, uaG F s.2.1 i s.1 s.2.2 o)
def fuP (F : tF) (a b : Nat) (ub : Nat → Int64) (s t : fuT) : Prop := ∃ h : Nat → fuT, h b = s ∧ h a = t ∧ ∀ i : Nat, a ≤ i → i < b → fuR F i (h (i + 1)) (h i) ∧ ub i = (h (i + 1)).1
theorem fuP_0 {F : tF} {b : Nat} {ub : Nat → Int64} {s : fuT} : fuP F b b ub s s := ⟨fun _ => s, rfl, rfl, fun i h1 h2 => absurd h1 (by omega)⟩
theorem fuP_S {F : tF} {a b : Nat} {ub : Nat → Int64} {s t u : fuT} (h : fuP F (a + 1) b ub s t) (hab : a + 1 ≤ b) (hr : fuR F a t u) : fuP F a b (vp_updL ub a t.1) s u := by
  obtain ⟨f, f1, f2, f3⟩ := h
  refine ⟨fun i => if i = a then u else f i, ?_, if_pos rfl, fun i h1 h2 => ?_⟩
  · show (if b = a then u else f b) = s
    rw [if_neg (by omega)]; exact f1
  · show fuR F i (if i + 1 = a then u else f (i + 1)) (if i = a then u else f i) ∧ vp_updL ub a t.1 i = (if i + 1 = a then u else f (i + 1)).1
    rw [if_neg (show ¬ i + 1 = a by omega)]
    by_cases e : i = a
    · rw [if_pos e, e, f2, pk_uLs]; exact ⟨hr, rfl⟩
    · rw [if_neg e, pk_uLn e]; exact f3 i (by omega) h2
theorem uaA_S {F : tF} {ua va : Nat → Int64} (h : ∀ L : Nat, lS (ua L) (va L)) (tb : Nat) : ∀ k : Nat, lS (uaA F ua tb k) (uaA F va tb k)
  | 0 => lS_rf 0
  | k + 1 => lS_or (uaA_S h tb k) (h _)
theorem uaF_S {F : tF} {ua va : Nat → Int64} {i : Nat} {x y : Int64} (h : ∀ L : Nat, lS (ua L) (va L)) (hx : lS x y) : ∀ o : Nat, lS (uaF F ua i x o) (uaF F va i y o)
  | 0 => hx
  | 1 => hx
  | 2 => lS_or hx (lS_rf _)
  | 3 => lS_or hx (lS_rf _)
  | 4 => lS_or hx (lS_rf _)
  | 5 => hx
  | 6 => hx
  | 7 => hx
  | 8 => hx
  | 9 => hx
  | 10 => hx
  | 11 => hx
  | 12 => hx
  | 13 => hx
  | 14 => hx
  | 15 => h _
  | 16 => h _
  | 17 => lS_or hx (h _)
  | 18 => lS_or hx (h _)
  | 19 => lS_or hx (h _)
  | 20 => uaA_S h _ _
  | 21 => hx
  | 22 => lS_rf 0
  | 23 => hx
  | 24 => lS_and _ hx
  | 25 => lS_and _ hx
  | 26 => by
    show lS (if (0 : Int32) < F 9 (cN (F 1 i)) &&& 15 then x ||| bt (cN (F 6 (cN (F 1 i)))) else if F 8 (cN (F 1 i)) = 0 then x &&& (bt (cN (F 6 (cN (F 1 i)))) ^^^ -1) else x) (if (0 : Int32) < F 9 (cN (F 1 i)) &&& 15 then y ||| bt (cN (F 6 (cN (F 1 i)))) else if F 8 (cN (F 1 i)) = 0 then y &&& (bt (cN (F 6 (cN (F 1 i)))) ^^^ -1) else y)
    split
    · exact lS_or hx (lS_rf _)
    · split
      · exact lS_and _ hx
      · exact hx
  | 27 => hx
  | 28 => hx
  | 29 => lS_and _ hx
  | 30 => lS_and _ hx
  | 31 => hx
  | 32 => lS_and _ hx
  | _ + 33 => hx
theorem uaW_S {F : tF} {ua va : Nat → Int64} {i : Nat} {x y : Int64} (h : ∀ L : Nat, lS (ua L) (va L)) (hx : lS x y) (o L : Nat) : lS (uaW F ua i x o L) (uaW F va i y o L) := by
  unfold uaW
  by_cases e : o = 13 ∨ o = 14
  · rw [if_pos e, if_pos e]
    by_cases e2 : L = cN (F 1 i)
    · rw [e2, pk_uLs, pk_uLs]; exact hx
    · rw [pk_uLn e2, pk_uLn e2]; exact h L
  · rw [if_neg e, if_neg e]; exact h L
/-- two rounds: the later one uses more -/
theorem fuP_mono {F : tF} {a b : Nat} {ub vb : Nat → Int64} {s t s2 t2 : fuT} (h : fuP F a b ub s t) (h2 : fuP F a b vb s2 t2) (hab : a ≤ b) (h0 : lS s.1 s2.1) (hs : ∀ L : Nat, lS (s.2.1 L) (s2.2.1 L)) : ∀ L : Nat, lS (t.2.1 L) (t2.2.1 L) := by
  obtain ⟨f, f1, f2, f3⟩ := h
  obtain ⟨g, g1, g2, g3⟩ := h2
  have key : ∀ d : Nat, a + d ≤ b → lS (f (b - d)).1 (g (b - d)).1 ∧ ∀ L : Nat, lS ((f (b - d)).2.1 L) ((g (b - d)).2.1 L) := by
    intro d
    induction d with
    | zero => intro _; rw [Nat.sub_zero, f1, g1]; exact ⟨h0, hs⟩
    | succ d ih =>
      intro hd
      obtain ⟨i1, i2⟩ := ih (by omega)
      obtain ⟨⟨o, o1, o2, o3⟩, -⟩ := f3 (b - (d + 1)) (by omega) (by omega)
      obtain ⟨⟨p, p1, p2, p3⟩, -⟩ := g3 (b - (d + 1)) (by omega) (by omega)
      have e := (nI_eq (a := o) (b := p) (by omega) (by omega)).mp (o1.symm.trans p1)
      subst e
      rw [show b - (d + 1) + 1 = b - d by omega] at o3 p3
      rw [o3, p3]
      exact ⟨uaF_S i2 i1 o, fun L => uaW_S i2 i1 o L⟩
  have k := key (b - a) (by omega)
  rw [show b - (b - a) = a by omega, f2, g2] at k
  exact k.2
theorem fuP_hi {F : tF} {a b : Nat} {ub : Nat → Int64} {s t : fuT} (h : fuP F a b ub s t) (hab : a ≤ b) {L : Nat} (hL : 2 ^ 31 ≤ L) : t.2.1 L = s.2.1 L := by
  obtain ⟨f, f1, f2, f3⟩ := h
  have key : ∀ d : Nat, a + d ≤ b → (f (b - d)).2.1 L = s.2.1 L := by
    intro d
    induction d with
    | zero => intro _; rw [Nat.sub_zero, f1]
    | succ d ih =>
      intro hd
      obtain ⟨⟨o, o1, o2, o3⟩, -⟩ := f3 (b - (d + 1)) (by omega) (by omega)
      rw [show b - (d + 1) + 1 = b - d by omega] at o3
      rw [o3]
      show uaW F (f (b - d)).2.1 (b - (d + 1)) (f (b - d)).1 o L = s.2.1 L
      have hi := ih (by omega)
      have hlt : cN (F 1 (b - (d + 1))) < 2 ^ 31 := Int32.toNatClampNeg_lt _
      unfold uaW
      split
      · rw [pk_uLn (by omega)]; exact hi
      · exact hi
  have k := key (b - a) (by omega)
  rw [show b - (b - a) = a by omega, f2] at k
  exact k
/-- again: a head learnt something; else all heads stay; labels outside aren't touched -/
theorem fuP_ag {F X : tF} {G : Nat → Nat → Nat} {rs a b lf n9 : Nat} {k : Nat → Option (List tE)} {ub ua : Nat → Int64} {t : fuT} (hc : ceI F X G rs a b k) (hlb : ∀ i : Nat, a ≤ i → i < b → isL (F 0 i) → ∃ L : Nat, lf ≤ L ∧ L < lf + n9 ∧ F 1 i = nI L) (hlt : lf + n9 ≤ 1100) (hab : a ≤ b) (h : fuP F a b ub (0, ua, 0) t) : (t.2.2 ≠ 0 → ∃ L : Nat, lf ≤ L ∧ L < lf + n9 ∧ ua L ≠ t.2.1 L) ∧ ∀ L : Nat, ¬ (lf ≤ L ∧ L < lf + n9) → t.2.1 L = ua L := by
  have hhi := fun (L : Nat) (hL : 2 ^ 31 ≤ L) => fuP_hi h hab hL
  obtain ⟨f, f1, f2, f3⟩ := h
  have key : ∀ d : Nat, a + d ≤ b → ((f (b - d)).2.2 ≠ 0 → ∃ j L : Nat, b - d ≤ j ∧ j < b ∧ isL (F 0 j) ∧ F 1 j = nI L ∧ lf ≤ L ∧ L < lf + n9 ∧ ua L ≠ (f (b - d)).2.1 L) ∧ (∀ L : Nat, (∀ j : Nat, b - d ≤ j → j < b → isL (F 0 j) → F 1 j ≠ nI L) → (f (b - d)).2.1 L = ua L) ∧ ((f (b - d)).2.2 = 0 ∨ (f (b - d)).2.2 = 1) := by
    intro d
    induction d with
    | zero => intro _; rw [Nat.sub_zero, f1]; exact ⟨fun z => absurd rfl z, fun L _ => rfl, Or.inl rfl⟩
    | succ d ih =>
      intro hd
      obtain ⟨i1, i2, i3⟩ := ih (by omega)
      have hi : a ≤ b - (d + 1) := by omega
      have hib : b - (d + 1) < b := by omega
      obtain ⟨⟨o, o1, o2, o3⟩, -⟩ := f3 (b - (d + 1)) hi hib
      rw [show b - (d + 1) + 1 = b - d by omega] at o3
      by_cases e : o = 13 ∨ o = 14
      · have hL : isL (F 0 (b - (d + 1))) := by rcases e with z | z <;> rw [o1, z]; exact Or.inl rfl; exact Or.inr rfl
        obtain ⟨L, l1, l2, l3⟩ := hlb _ hi hib hL
        have eW : uaW F (f (b - d)).2.1 (b - (d + 1)) (f (b - d)).1 o = vp_updL (f (b - d)).2.1 L (f (b - d)).1 := by
          unfold uaW
          rw [if_pos e, l3, cN_nI (by omega)]
        have hold : (f (b - d)).2.1 L = ua L := i2 L (fun j j1 j2 j3 j4 => by
          have := ce_one hc (by omega) j2 j3 hi hib hL j4 l3
          omega)
        refine ⟨fun z => ?_, fun M hM => ?_, ?_⟩
        · rw [o3] at z ⊢
          have z : uaG F (f (b - d)).2.1 (b - (d + 1)) (f (b - d)).1 (f (b - d)).2.2 o ≠ 0 := z
          show ∃ j M : Nat, _ ∧ _ ∧ _ ∧ _ ∧ _ ∧ _ ∧ ua M ≠ uaW F (f (b - d)).2.1 (b - (d + 1)) (f (b - d)).1 o M
          rw [eW]
          by_cases e9 : (f (b - d)).2.2 = 0
          · refine ⟨b - (d + 1), L, Nat.le_refl _, hib, hL, l3, l1, l2, ?_⟩
            rw [pk_uLs]
            intro q
            apply z
            unfold uaG
            by_cases e14 : o = 14
            · rw [if_pos e14, if_neg (fun y => y e9), l3, cN_nI (by omega), if_pos (lgc0.mpr (hold.trans q))]
            · rw [if_neg e14]; exact e9
          · obtain ⟨j, M, j1, j2, j3, j4, j5, j6, j7⟩ := i1 e9
            refine ⟨j, M, by omega, j2, j3, j4, j5, j6, ?_⟩
            have hne : M ≠ L := fun q => by
              have := ce_one hc (by omega) j2 j3 hi hib hL j4 (by rw [q]; exact l3)
              omega
            rw [pk_uLn hne]; exact j7
        · rw [o3]
          show uaW F (f (b - d)).2.1 (b - (d + 1)) (f (b - d)).1 o M = ua M
          have hne : M ≠ L := fun q => hM (b - (d + 1)) (Nat.le_refl _) hib hL (by rw [q]; exact l3)
          rw [eW, pk_uLn hne]
          exact i2 M (fun j j1 j2 j3 => hM j (by omega) j2 j3)
        · rw [o3]
          show uaG F (f (b - d)).2.1 (b - (d + 1)) (f (b - d)).1 (f (b - d)).2.2 o = 0 ∨ uaG F (f (b - d)).2.1 (b - (d + 1)) (f (b - d)).1 (f (b - d)).2.2 o = 1
          unfold uaG
          split
          · split
            · exact Or.inr rfl
            · split
              · exact Or.inl rfl
              · exact Or.inr rfl
          · exact i3
      · have eW : uaW F (f (b - d)).2.1 (b - (d + 1)) (f (b - d)).1 o = (f (b - d)).2.1 := if_neg e
        have eG : uaG F (f (b - d)).2.1 (b - (d + 1)) (f (b - d)).1 (f (b - d)).2.2 o = (f (b - d)).2.2 := if_neg (fun q => e (Or.inr q))
        have eF : (f (b - (d + 1))).2.1 = (f (b - d)).2.1 ∧ (f (b - (d + 1))).2.2 = (f (b - d)).2.2 := by rw [o3]; exact ⟨eW, eG⟩
        rw [eF.1, eF.2]
        refine ⟨fun z => ?_, fun M hM => i2 M (fun j j1 j2 j3 => hM j (by omega) j2 j3), i3⟩
        obtain ⟨j, M, j1, j2⟩ := i1 z
        exact ⟨j, M, by omega, j2⟩
  obtain ⟨k1, k2, -⟩ := key (b - a) (by omega)
  rw [show b - (b - a) = a by omega, f2] at k1 k2
  refine ⟨fun z => ?_, fun L hL => ?_⟩
  · obtain ⟨j, L, -, -, -, -, g1, g2, g3⟩ := k1 z
    exact ⟨L, g1, g2, g3⟩
  · rcases Nat.lt_or_ge L (2 ^ 31) with h31 | h31
    · refine k2 L (fun j j1 j2 j3 j4 => ?_)
      obtain ⟨M, m1, m2, m3⟩ := hlb j j1 j2 j3
      have := (nI_eq (a := M) (b := L) (by omega) h31).mp (m3.symm.trans j4)
      exact hL ⟨by omega, by omega⟩
    · exact hhi L h31
theorem nI_p1 {j a : Nat} (hj : j ≤ 6000) (ha : a ≤ 6000) : nI j - 1 < nI a ↔ j ≤ a := by
  rcases Nat.eq_zero_or_pos j with z | z
  · subst z
    refine ⟨fun _ => Nat.zero_le _, fun _ => ?_⟩
    have e : nI 0 - 1 = (-1 : Int32) := by decide
    rw [e]
    exact Int32.lt_of_lt_of_le (b := 0) (by decide) (Int32.not_lt.mp (nI_pos (by omega)))
  · rw [nI_sb1 z]
    refine ⟨fun h => ?_, fun h => nI_lt (by omega) (by omega)⟩
    rcases Nat.lt_or_ge (j - 1) a with y | y
    · omega
    · exact absurd h (Int32.not_lt.mpr (nI_le y (by omega)))
