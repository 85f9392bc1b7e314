/-- the digits of x, n of them -/
def dgs : Nat → Nat → List Nat
  | _, 0 => []
  | x, n + 1 => x % 16 :: dgs (x / 16) n
theorem dgs_P : ∀ {ds : List Nat}, (∀ d : Nat, d ∈ ds → d < 16) → dgs (dgP ds) ds.length = ds
  | [], _ => rfl
  | d :: ds, h => by
    have h1 := h d List.mem_cons_self
    show (d + 16 * dgP ds) % 16 :: dgs ((d + 16 * dgP ds) / 16) ds.length = d :: ds
    rw [show (d + 16 * dgP ds) % 16 = d by omega, show (d + 16 * dgP ds) / 16 = dgP ds by omega, dgs_P (fun x hx => h x (List.mem_cons_of_mem _ hx))]
/-- the way of place p -/
def wyF (F : tF) (p : Nat) : lLc := (dgs (cN (F 7 p)) (cN (F 8 p))).map stO
/-- place p has the digits ds -/
def pG (F : tF) (p : Nat) (ds : List Nat) : Prop := ∃ n : Nat, n ≤ 4 ∧ F 8 p = nI n ∧ ds.length = n ∧ (∀ d : Nat, d ∈ ds → 1 ≤ d ∧ d ≤ 13) ∧ F 7 p = nI (dgP ds)
theorem pG_wy {F : tF} {p : Nat} {ds : List Nat} (h : pG F p ds) : wyF F p = ds.map stO := by
  obtain ⟨n, h1, h2, h3, h4, h5⟩ := h
  have hl := dgP_lt (ds := ds) (fun d hd => by have := h4 d hd; omega)
  have h16 : (16 : Nat) ^ ds.length ≤ 16 ^ 4 := Nat.pow_le_pow_right (by decide) (by omega)
  unfold wyF
  rw [h2, h5, cN_nI (by omega), cN_nI (by have : (16 : Nat) ^ 4 = 65536 := by decide
                                          omega), ← h3, dgs_P (fun d hd => by have := h4 d hd; omega)]
theorem pG_of {F X : tF} {yp yt p v n T T0 : Nat} {pa ro mu : Int32} (h : tbO F X yp yt) (hv : F 15 v = nI T0) (hT0 : tyV yp yt (F 20) T0) (hp : plI F X p v n T pa ro mu) : ∃ (ds os : List Nat) (o : Nat), pG F p ds ∧ pW ds os o n pa ro ∧ pK F X yp yt T0 T mu ds os o := by
  obtain ⟨p1, p2, p3, p4, p5, p6, p7, p8, p9, p10, p11⟩ := hp
  obtain ⟨ds, os, o, w1, w2⟩ := pl_way h hv hT0 n pa ro T mu p3 p4 p11
  exact ⟨ds, os, o, ⟨n, p3, p7, w1.1, w1.2.1, by rw [p6]; exact w1.2.2.1⟩, w1, w2⟩
theorem pG_ov {F : tF} {p q : Nat} {ds es : List Nat} (h1 : pG F p ds) (h2 : pG F q es) (h : lCmp (wyF F q) (wyF F p)) : ovB (F 8 p) (F 8 q) (F 7 p) (F 7 q) = 0 := by
  rw [pG_wy h1, pG_wy h2] at h
  obtain ⟨n, a1, a2, a3, a4, a5⟩ := h1
  obtain ⟨m, b1, b2, b3, b4, b5⟩ := h2
  rw [a2, a5, b2, b5]
  exact ov_cmp a3 b3 a1 b1 a4 b4 (lCmp_sym h)
/-- the loans of a function: gp places, gs the shared ones -/
def tbF (F : tF) (gp : Nat → Int32) (gs : Int64) : lTb := (fun l => cN (F 6 (cN (gp l))), fun l => wyF F (cN (gp l)), fun l => lbit gs l = true, fun l => 54 ≤ l, fun w => F 20 (cN (F 15 w)) = 5 ∨ F 20 (cN (F 15 w)) = 6)
/-- a borrow that is reached -/
theorem bo_pl {F X : tF} {G : Nat → Nat → Nat} {rs a b i : Nat} {k : Nat → Option (List tE)} {s : List tE} (hc : ceI F X G rs a b k) (h1 : a ≤ i) (h2 : i < b) (h4 : F 0 i = 4) (hs : k i = some s) : ∃ (p v n T l : Nat) (pa ro mu : Int32), F 1 i = nI p ∧ plI F X p v n T pa ro mu ∧ F 2 i = nI l ∧ l < 54 := by
  obtain ⟨p, T, l, m, mu, q1, ⟨v, n, pa, ro, q2⟩, q3, q4, q5, q6, -⟩ := ce_op (o := 4) hc h1 h2 hs h4 (by decide)
  exact ⟨p, v, n, T, l, pa, ro, mu, q1, q2, q5, q6⟩
/-- the variable of a place has a type -/
theorem pl_ne {F X : tF} {v : Nat} : ∀ (n : Nat) (pa ro : Int32) (T : Nat) (mu : Int32), T < 3040 → plS F X 3040 v n pa ro T mu → F 15 v ≠ -1
  | 0, pa, ro, T, mu, hT, hp => fun e => by
    obtain ⟨-, -, p3, -⟩ := hp
    have : nI T < 0 := by rw [← p3, e]; decide
    exact nI_pos (by omega) this
  | n + 1, pa, ro, T, mu, hT, hp => by
    obtain ⟨pa1, ro1, T1, mu1, q1, q2, q3, -⟩ := hp
    exact pl_ne n pa1 ro1 T1 mu1 q3 q1
/-- an access that Loans told nothing of meets nothing -/
theorem ck_of {F X : tF} {G : Nat → Nat → Nat} {rs a b i p v tn yp yt : Nat} {k : Nat → Option (List tE)} {C : lnC} {ms : Int32} {pof : Nat → Int32} {hdL ftL lon : Nat → Int64} {H : Nat → Nat → Prop} {A2 : Nat → Prop} {ds : List Nat}
    (hc : ceI F X G rs a b k) (hab : a ≤ b) (ht : tbO F X yp yt) (hvt : ∀ w : Nat, w < 40 → F 15 w ≠ -1 → ∃ T0 : Nat, F 15 w = nI T0 ∧ tyV yp yt (F 20) T0)
    (hga : (C.2.2.2.1, C.2.1, C.2.2.1) = gaS F pof lon a (b - a))
    (hB : ∀ i : Nat, a ≤ i → i < b → F 0 i = 4 → ∃ p v l : Nat, F 1 i = nI p ∧ p < 3001 ∧ F 6 p = nI v ∧ v < 40 ∧ F 2 i = nI l ∧ l < 54)
    (hu : ∀ i j : Nat, a ≤ i → i < b → a ≤ j → j < b → F 0 i = 4 → F 0 j = 4 → F 2 i = F 2 j → i = j)
    (hnb : ∀ j l : Nat, a ≤ j → j < b → F 0 j = 4 → F 2 j = nI l → l < 54 → l < C.2.2.2.2.1)
    (hpG : pG F p ds) (hac : acO F C i p v ms hdL ftL tn)
    (hA : ∀ u l : Nat, A2 u → H u l → lnA C i hdL ftL tn l)
    (hH : ∀ u l : Nat, A2 u → H u l → 54 ≤ l ∨ isB F k a b l) : lCk (tbF F C.2.2.2.1 C.2.2.1) H A2 v (wyF F p) (ms = 0) := by
  intro u l hu1 hl1 hou hv hcm
  have hou : ¬ 54 ≤ l := hou
  obtain ⟨j, s, j1, j2, j3, j4, j5⟩ := (hH u l hu1 hl1).resolve_left hou
  obtain ⟨q, w, n, T, l2, pa, ro, mu, g1, g2, g3, g4⟩ := bo_pl hc j1 j2 j3 j5
  obtain rfl : l = l2 := (nI_eq (a := l) (b := l2) (by omega) (by omega)).mp (j4.symm.trans g3)
  have e1 : C.2.2.2.1 = (gaS F pof lon a (b - a)).1 := congrArg (fun x => x.1) hga
  have e2 : C.2.1 = (gaS F pof lon a (b - a)).2.1 := congrArg (fun x => x.2.1) hga
  have e3 : C.2.2.1 = (gaS F pof lon a (b - a)).2.2 := congrArg (fun x => x.2.2) hga
  obtain ⟨t1, t2, t3⟩ := ga_tb (pof := pof) (lon := lon) hB (b - a) (by omega) (fun i j a1 a2 a3 a4 => hu i j a1 (by omega) a3 (by omega)) j q w l j1 (by omega) j3 g1 g2.1.1 g2.2.2.2.2.1 g2.2.1 j4 g4
  rw [← e1] at t1
  rw [← e2] at t2
  have hq : cN (C.2.2.2.1 l) = q := by rw [t1, cN_nI (by have := g2.1.1; omega)]
  have hw : w = v := by
    have hv : cN (F 6 (cN (C.2.2.2.1 l))) = v := hv
    rw [hq, g2.2.2.2.2.1, cN_nI (by have := g2.2.1; omega)] at hv
    exact hv
  subst hw
  have hcm : lCmp (wyF F (cN (C.2.2.2.1 l))) (wyF F p) := hcm
  rw [hq] at hcm
  obtain ⟨T0, v1, v2⟩ := hvt w g2.2.1 (pl_ne n pa ro T mu g2.2.2.2.1 g2.2.2.2.2.2.2.2.2.2.2)
  obtain ⟨es, os, o, x1, -, -⟩ := pG_of ht v1 v2 g2
  have hov := pG_ov hpG x1 hcm
  refine Classical.byContradiction (fun z => ?_)
  have hac2 := hac l (hnb j l j1 j2 j3 j4 g4) t2 (fun y => ?_) (hA u l hu1 hl1)
  · rw [show (C.2.2.2.1 l).toNatClampNeg = q from hq] at hac2
    exact hac2 hov
  · cases e : lbit C.2.2.1 l with
    | false => rfl
    | true => exact absurd ⟨y, e⟩ z
