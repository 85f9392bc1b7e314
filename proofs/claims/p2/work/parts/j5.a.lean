/-- a statement as its reader makes it -/
def sxC (kd : Int32) (tk : Nat) (nm mu rf : Int32) (wr ex pl bl cs bs ar : Value) (mn : Nat) : va_E := .inr (19, [.int kd, .int (nI tk), .int nm, .int mu, .int rf, wr, ex, pl, .null, bl, cs, bs, ar, .int (nI mn)])
/-- n nodes in a row: tokens p to q, borrows b to c, variables v to w -/
def chN (P : Nat → Nat → Nat → Nat → Nat → Nat → Nat → Prop) (f : Nat → Option Nat) (n p q b c v w : Nat) : Prop :=
  ∃ ps bs vs : Nat → Nat, ps 0 = p ∧ ps n = q ∧ bs 0 = b ∧ bs n = c ∧ vs 0 = v ∧ vs n = w ∧ ∀ i : Nat, i < n → ∃ x : Nat, f i = some x ∧ P x (ps i) (ps (i + 1)) (bs i) (bs (i + 1)) (vs i) (vs (i + 1))
theorem chN_im {P P2 : Nat → Nat → Nat → Nat → Nat → Nat → Nat → Prop} {f : Nat → Option Nat} {n p q b c v w : Nat} (hP : ∀ x p q b c v w : Nat, P x p q b c v w → P2 x p q b c v w) (h : chN P f n p q b c v w) : chN P2 f n p q b c v w := by
  obtain ⟨ps, bs, vs, h1, h2, h3, h4, h5, h6, h7⟩ := h
  refine ⟨ps, bs, vs, h1, h2, h3, h4, h5, h6, fun i hi => ?_⟩
  obtain ⟨x, g1, g2⟩ := h7 i hi
  exact ⟨x, g1, hP _ _ _ _ _ _ _ g2⟩
theorem chN_0 {P : Nat → Nat → Nat → Nat → Nat → Nat → Nat → Prop} {f : Nat → Option Nat} {p b v : Nat} : chN P f 0 p p b b v v := ⟨fun _ => p, fun _ => b, fun _ => v, rfl, rfl, rfl, rfl, rfl, rfl, fun i hi => absurd hi (by omega)⟩
theorem chN_add {P : Nat → Nat → Nat → Nat → Nat → Nat → Nat → Prop} {f f2 : Nat → Option Nat} {n p q b c v w x q2 c2 w2 : Nat} (h : chN P f n p q b c v w) (hs : ∀ i : Nat, i < n → f2 i = f i) (hf : f2 n = some x) (hP : P x q q2 c c2 w w2) : chN P f2 (n + 1) p q2 b c2 v w2 := by
  obtain ⟨ps, bs, vs, h1, h2, h3, h4, h5, h6, h7⟩ := h
  refine ⟨fun j => if j = n + 1 then q2 else ps j, fun j => if j = n + 1 then c2 else bs j, fun j => if j = n + 1 then w2 else vs j, (if_neg (by omega)).trans h1, if_pos rfl, (if_neg (by omega)).trans h3, if_pos rfl, (if_neg (by omega)).trans h5, if_pos rfl, fun i hi => ?_⟩
  dsimp only
  rw [if_neg (show i ≠ n + 1 by omega), if_neg (show i ≠ n + 1 by omega), if_neg (show i ≠ n + 1 by omega)]
  by_cases e : i = n
  · subst e
    rw [if_pos rfl, if_pos rfl, if_pos rfl, h2, h4, h6]
    exact ⟨x, hf, hP⟩
  · rw [if_neg (by omega), if_neg (by omega), if_neg (by omega), hs i (by omega)]
    exact h7 i (by omega)
/-- the same, the place in the row told -/
def chJ (P : Nat → Nat → Nat → Nat → Nat → Nat → Nat → Nat → Prop) (f : Nat → Option Nat) (n p q b c v w : Nat) : Prop :=
  ∃ ps bs vs : Nat → Nat, ps 0 = p ∧ ps n = q ∧ bs 0 = b ∧ bs n = c ∧ vs 0 = v ∧ vs n = w ∧ ∀ i : Nat, i < n → ∃ x : Nat, f i = some x ∧ P i x (ps i) (ps (i + 1)) (bs i) (bs (i + 1)) (vs i) (vs (i + 1))
theorem chJ_im {P P2 : Nat → Nat → Nat → Nat → Nat → Nat → Nat → Nat → Prop} {f : Nat → Option Nat} {n p q b c v w : Nat} (hP : ∀ i x p q b c v w : Nat, i < n → P i x p q b c v w → P2 i x p q b c v w) (h : chJ P f n p q b c v w) : chJ P2 f n p q b c v w := by
  obtain ⟨ps, bs, vs, h1, h2, h3, h4, h5, h6, h7⟩ := h
  refine ⟨ps, bs, vs, h1, h2, h3, h4, h5, h6, fun i hi => ?_⟩
  obtain ⟨x, g1, g2⟩ := h7 i hi
  exact ⟨x, g1, hP _ _ _ _ _ _ _ _ hi g2⟩
theorem chJ_0 {P : Nat → Nat → Nat → Nat → Nat → Nat → Nat → Nat → Prop} {f : Nat → Option Nat} {p b v : Nat} : chJ P f 0 p p b b v v := ⟨fun _ => p, fun _ => b, fun _ => v, rfl, rfl, rfl, rfl, rfl, rfl, fun i hi => absurd hi (by omega)⟩
theorem chJ_add {P : Nat → Nat → Nat → Nat → Nat → Nat → Nat → Nat → Prop} {f f2 : Nat → Option Nat} {n p q b c v w x q2 c2 w2 : Nat} (h : chJ P f n p q b c v w) (hs : ∀ i : Nat, i < n → f2 i = f i) (hf : f2 n = some x) (hP : P n x q q2 c c2 w w2) : chJ P f2 (n + 1) p q2 b c2 v w2 := by
  obtain ⟨ps, bs, vs, h1, h2, h3, h4, h5, h6, h7⟩ := h
  refine ⟨fun j => if j = n + 1 then q2 else ps j, fun j => if j = n + 1 then c2 else bs j, fun j => if j = n + 1 then w2 else vs j, (if_neg (by omega)).trans h1, if_pos rfl, (if_neg (by omega)).trans h3, if_pos rfl, (if_neg (by omega)).trans h5, if_pos rfl, fun i hi => ?_⟩
  dsimp only
  rw [if_neg (show i ≠ n + 1 by omega), if_neg (show i ≠ n + 1 by omega), if_neg (show i ≠ n + 1 by omega)]
  by_cases e : i = n
  · subst e
    rw [if_pos rfl, if_pos rfl, if_pos rfl, h2, h4, h6]
    exact ⟨x, hf, hP⟩
  · rw [if_neg (by omega), if_neg (by omega), if_neg (by omega), hs i (by omega)]
    exact h7 i (by omega)
/-- an exp that may be wanting -/
def oxE (P : Nat → Nat → Nat → Nat → Nat → Prop) (y : Value) (p q b c : Nat) : Prop := (y = .null ∧ b = c) ∨ ∃ a p' q' : Nat, y = .ref a ∧ p < p' ∧ q' < q ∧ P a p' q' b c
theorem oxE_im {P P2 : Nat → Nat → Nat → Nat → Nat → Prop} {y : Value} {p q b c : Nat} (hP : ∀ x p q b c : Nat, P x p q b c → P2 x p q b c) (h : oxE P y p q b c) : oxE P2 y p q b c := h.elim Or.inl (fun ⟨a, p', q', h1, h2, h3, h4⟩ => Or.inr ⟨a, p', q', h1, h2, h3, hP _ _ _ _ _ h4⟩)
/-- statements (0), blocks (1), arms (2) in the store -/
def isN (L : List Nat) (F : Nat → va_E) (fk : Nat → Int32) (kE kI kS kB kA kV : ClassId) : Nat → Nat → Nat → Nat → Nat → Nat → Nat → Nat → Nat → Prop
  | 0, _, _, _, _, _, _, _, _ => False
  | n + 1, 0, a, p, q, b, c, v, w => a ∈ L ∧ p < q ∧
    ((∃ (nm pm : Nat) (mu : Int32) (wr ex : Value), F a = sxC 0 p (nI nm) mu 0 wr ex .null .null .null .null .null 0 ∧ p < nm ∧ nm < q ∧ (mu = 0 ∨ mu = 1) ∧ w = v + 1 ∧ (p ≤ pm ∧ pm < q) ∧ (wr = .null ∨ ∃ t p' q' : Nat, wr = .ref t ∧ p < p' ∧ q' ≤ pm ∧ isT L F fk 17 t p' q') ∧ oxE (isE L F kE kI 408 16) ex pm q b c) ∨
     (∃ (kd : Int32) (x p' q' : Nat), (kd = 1 ∨ kd = 7) ∧ F a = sxC kd p 0 0 0 .null (.ref x) .null .null .null .null .null 0 ∧ p ≤ p' ∧ q' < q ∧ isE L F kE kI 408 16 x p' q' b c ∧ w = v) ∨
     (∃ x y q1 p2 q2 b1 : Nat, F a = sxC 2 p 0 0 0 .null (.ref x) (.ref y) .null .null .null .null 0 ∧ isE L F kE kI 408 16 y p q1 b b1 ∧ plE F 408 y ∧ q1 < p2 ∧ q2 < q ∧ isE L F kE kI 408 16 x p2 q2 b1 c ∧ w = v) ∨
     (∃ (ca ba cap mn : Nat) (f g : Nat → Option Nat), F a = sxC 3 p 0 0 0 .null .null .null .null (.ref ca) (.ref ba) .null mn ∧ 1 ≤ mn ∧ mn ≤ cap ∧ ca ∈ L ∧ ba ∈ L ∧ F ca = .inl (kE, cap, .inr (.inr (.inr (.inr f)))) ∧ F ba = .inl (kB, cap, .inr (.inr (.inr (.inr g)))) ∧
       (∀ i : Nat, i < mn → f i = none → i + 1 = mn) ∧ chJ (fun i y p1 q1 b1 c1 v1 w1 => ∃ p0 b0 : Nat, ((f i = none ∧ b0 = b1) ∨ ∃ x p' q0 : Nat, f i = some x ∧ p1 < p' ∧ q0 ≤ p0 ∧ isE L F kE kI 408 16 x p' q0 b1 b0) ∧ p1 ≤ p0 ∧ isN L F fk kE kI kS kB kA kV n 1 y p0 q1 b0 c1 v1 w1) g mn p q b c v w) ∨
     (∃ x y q0 b1 : Nat, F a = sxC 4 p 0 0 0 .null (.ref x) .null (.ref y) .null .null .null 0 ∧ isE L F kE kI 408 16 x (p + 1) q0 b b1 ∧ isN L F fk kE kI kS kB kA kV n 1 y q0 q b1 c v w) ∨
     (∃ (x ar cap mn p0 q0 b0 b1 : Nat) (mu rf : Int32) (f : Nat → Option Nat), F a = sxC 5 p 0 mu rf .null (.ref x) .null .null .null .null (.ref ar) mn ∧ ((rf = 0 ∧ mu = 0 ∧ b0 = b) ∨ (rf = 1 ∧ (mu = 0 ∨ mu = 1) ∧ b0 = b + 1 ∧ plE F 408 x)) ∧ p < p0 ∧ isE L F kE kI 408 16 x p0 q0 b0 b1 ∧ ar ∈ L ∧ F ar = .inl (kA, cap, .inr (.inr (.inr (.inr f)))) ∧ mn ≤ cap ∧ chN (isN L F fk kE kI kS kB kA kV n 2) f mn (q0 + 1) (q - 1) b1 c v w) ∨
     (∃ ex : Value, F a = sxC 6 p 0 0 0 .null ex .null .null .null .null .null 0 ∧ oxE (isE L F kE kI 408 16) ex p q b c ∧ w = v ∧ fk p = 19) ∨
     (∃ y : Nat, F a = sxC 8 p 0 0 0 .null .null .null (.ref y) .null .null .null 0 ∧ isN L F fk kE kI kS kB kA kV n 1 y p q b c v w))
  | n + 1, 1, a, p, q, b, c, v, w => a ∈ L ∧ p < q ∧ ∃ (la cap mn : Nat) (f : Nat → Option Nat), F a = .inr (14, [.int (nI p), .int (nI (q - 1)), .ref la, .int (nI mn)]) ∧ la ∈ L ∧ F la = .inl (kS, cap, .inr (.inr (.inr (.inr f)))) ∧ mn ≤ cap ∧ chN (isN L F fk kE kI kS kB kA kV n 0) f mn (p + 1) (q - 1) b c v w
  | n + 1, _ + 2, a, p, q, b, c, v, w => a ∈ L ∧ p < q ∧ ∃ (na va bk mn p' : Nat) (g : Nat → Int32), F a = .inr (13, [.int (nI p), .int 0, .ref na, .int (nI mn), .ref va, .ref bk]) ∧ na ∈ L ∧ va ∈ L ∧ F na = .inl (kI, 12, .inl g) ∧ F va = .inl (kV, 12, .inr (.inr (.inr (.inr (fun _ => none))))) ∧ mn ≤ 12 ∧ (∀ i : Nat, i < mn → ∃ s : Nat, g i = nI s ∧ p < s ∧ s < q) ∧ p + mn < p' ∧ isN L F fk kE kI kS kB kA kV n 1 bk p' q b c (v + mn) w ∧ va = a + 2
theorem plE_ex {L L2 : List Nat} {F F2 : Nat → va_E} (hx : exS L F L2 F2) : ∀ {n a : Nat}, pwE L F n a → plE F n a → plE F2 n a
  | 0, _, h, _ => h.elim
  | n + 1, a, h, g => by
    obtain ⟨kd, vo, fs, g1, g2, g3, g4⟩ := g
    refine ⟨kd, vo, fs, (hx a h.1).2.trans g1, g2, g3, ?_⟩
    rcases g4 with g4 | ⟨hk, o, ho, g4⟩
    · exact Or.inl g4
    · obtain ⟨_, kd', vo', fs', k1, k2, k3, k4⟩ := h
      obtain rfl : fs' = fs := by rw [g1] at k1; cases k1; rfl
      obtain rfl : kd' = kd := by rw [g2] at k2; cases k2; rfl
      obtain rfl : vo' = vo := by rw [g3] at k3; cases k3; rfl
      obtain ⟨o', e1, k5⟩ := k4 hk
      rw [ho] at e1
      cases e1
      exact Or.inr ⟨hk, o, ho, plE_ex hx k5 g4⟩
theorem isN_im {L L2 : List Nat} {F F2 : Nat → va_E} {fk : Nat → Int32} {kE kI kS kB kA kV : ClassId} (hx : exS L F L2 F2) : ∀ {n : Nat} (m : Nat), n ≤ m → ∀ {t a p q b c v w : Nat}, isN L F fk kE kI kS kB kA kV n t a p q b c v w → isN L2 F2 fk kE kI kS kB kA kV m t a p q b c v w
  | 0, _, _, _, _, _, _, _, _, _, _, h => h.elim
  | n + 1, 0, hm, _, _, _, _, _, _, _, _, _ => absurd hm (by omega)
  | n + 1, m + 1, hm, 0, a, p, q, b, c, v, w, h => by
    have hm : n ≤ m := by omega
    have hE : ∀ x p q b c : Nat, isE L F kE kI 408 16 x p q b c → isE L2 F2 kE kI 408 16 x p q b c := fun x p q b c z => isE_im hx _ (Nat.le_refl _) z
    obtain ⟨h1, h2⟩ := hx a h.1
    refine ⟨h1, h.2.1, ?_⟩
    rw [h2]
    rcases h.2.2 with ⟨nm, pm, mu, wr, ex, k1, k2, k3, k4, k5, k8, k6, k7⟩ | ⟨kd, x, p', q', k1, k2, k3, k4, k5, k6⟩ | ⟨x, y, q1, p2, q2, b1, k1, k2, k3, k4, k5, k6, k7⟩ | ⟨ca, ba, cap, mn, f, g, k1, k2, k3, k4, k5, k6, k7, k8, k9⟩ | ⟨x, y, q0, b1, k1, k2, k3⟩ | ⟨x, ar, cap, mn, p0, q0, b0, b1, mu, rf, f, k1, k2, k3, k4, k5, k6, k7, k8⟩ | ⟨ex, k1, k2, k3⟩ | ⟨y, k1, k2⟩
    · refine Or.inl ⟨nm, pm, mu, wr, ex, k1, k2, k3, k4, k5, k8, ?_, oxE_im hE k7⟩
      rcases k6 with k6 | ⟨t, p', q', e1, e2, e3, e4⟩
      · exact Or.inl k6
      · exact Or.inr ⟨t, p', q', e1, e2, e3, isT_ex hx e4⟩
    · exact Or.inr (Or.inl ⟨kd, x, p', q', k1, k2, k3, k4, hE _ _ _ _ _ k5, k6⟩)
    · exact Or.inr (Or.inr (Or.inl ⟨x, y, q1, p2, q2, b1, k1, hE _ _ _ _ _ k2, plE_ex hx (isE_pw k2) k3, k4, k5, hE _ _ _ _ _ k6, k7⟩))
    · refine Or.inr (Or.inr (Or.inr (Or.inl ⟨ca, ba, cap, mn, f, g, k1, k2, k3, (hx ca k4).1, (hx ba k5).1, (hx ca k4).2.trans k6, (hx ba k5).2.trans k7, k8, chJ_im ?_ k9⟩)))
      rintro i y p1 q1 b1 c1 v1 w1 _ ⟨p0, b0, g3, g4, g5⟩
      refine ⟨p0, b0, ?_, g4, isN_im hx m hm g5⟩
      rcases g3 with g3 | ⟨x, p', q0, e1, e2, e3, e4⟩
      · exact Or.inl g3
      · exact Or.inr ⟨x, p', q0, e1, e2, e3, hE _ _ _ _ _ e4⟩
    · exact Or.inr (Or.inr (Or.inr (Or.inr (Or.inl ⟨x, y, q0, b1, k1, hE _ _ _ _ _ k2, isN_im hx m hm k3⟩))))
    · refine Or.inr (Or.inr (Or.inr (Or.inr (Or.inr (Or.inl ⟨x, ar, cap, mn, p0, q0, b0, b1, mu, rf, f, k1, ?_, k3, hE _ _ _ _ _ k4, (hx ar k5).1, (hx ar k5).2.trans k6, k7, chN_im (fun y p q b c v w z => isN_im hx m hm z) k8⟩)))))
      rcases k2 with k2 | ⟨e1, e2, e3, e4⟩
      · exact Or.inl k2
      · exact Or.inr ⟨e1, e2, e3, plE_ex hx (isE_pw k4) e4⟩
    · exact Or.inr (Or.inr (Or.inr (Or.inr (Or.inr (Or.inr (Or.inl ⟨ex, k1, oxE_im hE k2, k3⟩))))))
    · exact Or.inr (Or.inr (Or.inr (Or.inr (Or.inr (Or.inr (Or.inr ⟨y, k1, isN_im hx m hm k2⟩))))))
  | n + 1, m + 1, hm, 1, a, p, q, b, c, v, w, h => by
    have hm : n ≤ m := by omega
    obtain ⟨h1, h2⟩ := hx a h.1
    obtain ⟨la, cap, mn, f, k1, k2, k3, k4, k5⟩ := h.2.2
    exact ⟨h1, h.2.1, la, cap, mn, f, h2.trans k1, (hx la k2).1, (hx la k2).2.trans k3, k4, chN_im (fun y p q b c v w z => isN_im hx m hm z) k5⟩
  | n + 1, m + 1, hm, t + 2, a, p, q, b, c, v, w, h => by
    have hm : n ≤ m := by omega
    obtain ⟨h1, h2⟩ := hx a h.1
    obtain ⟨na, va, bk, mn, p', g, k1, k2, k3, k4, k5, k6, k7, k8, k9, l1⟩ := h.2.2
    exact ⟨h1, h.2.1, na, va, bk, mn, p', g, h2.trans k1, (hx na k2).1, (hx va k3).1, (hx na k2).2.trans k4, (hx va k3).2.trans k5, k6, k7, k8, isN_im hx m hm k9, l1⟩
theorem isN_lt {L : List Nat} {F : Nat → va_E} {fk : Nat → Int32} {kE kI kS kB kA kV : ClassId} : ∀ {n t a p q b c v w : Nat}, isN L F fk kE kI kS kB kA kV n t a p q b c v w → a ∈ L ∧ p < q
  | 0, _, _, _, _, _, _, _, _, h => h.elim
  | _ + 1, 0, _, _, _, _, _, _, _, h => ⟨h.1, h.2.1⟩
  | _ + 1, 1, _, _, _, _, _, _, _, h => ⟨h.1, h.2.1⟩
  | _ + 1, _ + 2, _, _, _, _, _, _, _, h => ⟨h.1, h.2.1⟩
/-- an object of the store, of the class i -/
def oN (i : Nat) (L : List Nat) (F : Nat → va_E) (x : Nat) : Prop := x ∈ L ∧ ∃ vs : List Value, F x = .inr (i, vs)
theorem oN_ex {i : Nat} {L L2 : List Nat} {F F2 : Nat → va_E} {x : Nat} (hx : exS L F L2 F2) (h : oN i L F x) : oN i L2 F2 x := ⟨(hx x h.1).1, by rw [(hx x h.1).2]; exact h.2⟩
theorem isN_B {L : List Nat} {F : Nat → va_E} {fk : Nat → Int32} {kE kI kS kB kA kV : ClassId} {n a p q b c v w la cap mn : Nat} {f : Nat → Option Nat} (h1 : a ∈ L) (h2 : la ∈ L) (h3 : F a = .inr (14, [.int (nI p), .int (nI q), .ref la, .int (nI mn)])) (h4 : F la = .inl (kS, cap, .inr (.inr (.inr (.inr f))))) (h5 : p ≤ q) (h6 : mn ≤ cap) (h7 : chN (isN L F fk kE kI kS kB kA kV n 0) f mn (p + 1) q b c v w) : isN L F fk kE kI kS kB kA kV (n + 1) 1 a p (q + 1) b c v w := ⟨h1, by omega, la, cap, mn, f, h3, h2, h4, h6, h7⟩
theorem isN_A {L : List Nat} {F : Nat → va_E} {fk : Nat → Int32} {kE kI kS kB kA kV : ClassId} {n a p q b c v w na va bk mn p' : Nat} {g : Nat → Int32} (h1 : a ∈ L) (h2 : na ∈ L) (h3 : va ∈ L) (h4 : F a = .inr (13, [.int (nI p), .int 0, .ref na, .int (nI mn), .ref va, .ref bk])) (h5 : F na = .inl (kI, 12, .inl g)) (h6 : F va = .inl (kV, 12, .inr (.inr (.inr (.inr (fun _ => none)))))) (h7 : mn ≤ 12) (h8 : ∀ i : Nat, i < mn → ∃ s : Nat, g i = nI s ∧ p < s ∧ s < q) (h9 : p + mn < p') (h10 : isN L F fk kE kI kS kB kA kV n 1 bk p' q b c (v + mn) w) (h11 : va = a + 2) : isN L F fk kE kI kS kB kA kV (n + 1) 2 a p q b c v w := ⟨h1, by have := (isN_lt h10).2; omega, na, va, bk, mn, p', g, h4, h2, h3, h5, h6, h7, h8, h9, h10, h11⟩
/-- one branch of an if: its condition, its block -/
def brP (L : List Nat) (F : Nat → va_E) (fk : Nat → Int32) (kE kI kS kB kA kV : ClassId) (n : Nat) (f : Nat → Option Nat) (i y p1 q1 b1 c1 v1 w1 : Nat) : Prop := ∃ p0 b0 : Nat, ((f i = none ∧ b0 = b1) ∨ ∃ x p' q0 : Nat, f i = some x ∧ p1 < p' ∧ q0 ≤ p0 ∧ isE L F kE kI 408 16 x p' q0 b1 b0) ∧ p1 ≤ p0 ∧ isN L F fk kE kI kS kB kA kV n 1 y p0 q1 b0 c1 v1 w1
theorem brP_im {L L2 : List Nat} {F F2 : Nat → va_E} {fk : Nat → Int32} {kE kI kS kB kA kV : ClassId} (hx : exS L F L2 F2) {n m : Nat} (hm : n ≤ m) {f f2 : Nat → Option Nat} {i y p1 q1 b1 c1 v1 w1 : Nat} (hf : f2 i = f i) (h : brP L F fk kE kI kS kB kA kV n f i y p1 q1 b1 c1 v1 w1) : brP L2 F2 fk kE kI kS kB kA kV m f2 i y p1 q1 b1 c1 v1 w1 := by
  obtain ⟨p0, b0, g3, g4, g5⟩ := h
  refine ⟨p0, b0, ?_, g4, isN_im hx m hm g5⟩
  rw [hf]
  rcases g3 with g3 | ⟨x, p', q0, e1, e2, e3, e4⟩
  · exact Or.inl g3
  · exact Or.inr ⟨x, p', q0, e1, e2, e3, isE_im hx _ (Nat.le_refl _) e4⟩
theorem isN_R {L : List Nat} {F : Nat → va_E} {fk : Nat → Int32} {kE kI kS kB kA kV : ClassId} {n a p q b c v w ca ba cap mn : Nat} {f g : Nat → Option Nat} (h1 : a ∈ L) (h2 : p < q) (h3 : F a = sxC 3 p 0 0 0 .null .null .null .null (.ref ca) (.ref ba) .null mn) (h4 : 1 ≤ mn) (h5 : mn ≤ cap) (h6 : ca ∈ L) (h7 : ba ∈ L) (h8 : F ca = .inl (kE, cap, .inr (.inr (.inr (.inr f))))) (h9 : F ba = .inl (kB, cap, .inr (.inr (.inr (.inr g))))) (h10 : ∀ i : Nat, i < mn → f i = none → i + 1 = mn) (h11 : chJ (brP L F fk kE kI kS kB kA kV n f) g mn p q b c v w) : isN L F fk kE kI kS kB kA kV (n + 1) 0 a p q b c v w := ⟨h1, h2, Or.inr (Or.inr (Or.inr (Or.inl ⟨ca, ba, cap, mn, f, g, h3, h4, h5, h6, h7, h8, h9, h10, h11⟩)))⟩
theorem isN_M {L : List Nat} {F : Nat → va_E} {fk : Nat → Int32} {kE kI kS kB kA kV : ClassId} {n a p q b c v w x ar cap mn p0 q0 b0 b1 : Nat} {mu rf : Int32} {f : Nat → Option Nat} (h1 : a ∈ L) (h2 : p < q) (h3 : F a = sxC 5 p 0 mu rf .null (.ref x) .null .null .null .null (.ref ar) mn) (h4 : (rf = 0 ∧ mu = 0 ∧ b0 = b) ∨ (rf = 1 ∧ (mu = 0 ∨ mu = 1) ∧ b0 = b + 1 ∧ plE F 408 x)) (h5 : p < p0) (h6 : isE L F kE kI 408 16 x p0 q0 b0 b1) (h7 : ar ∈ L) (h8 : F ar = .inl (kA, cap, .inr (.inr (.inr (.inr f))))) (h9 : mn ≤ cap) (h10 : chN (isN L F fk kE kI kS kB kA kV n 2) f mn (q0 + 1) q b1 c v w) : isN L F fk kE kI kS kB kA kV (n + 1) 0 a p (q + 1) b c v w := ⟨h1, by omega, Or.inr (Or.inr (Or.inr (Or.inr (Or.inr (Or.inl ⟨x, ar, cap, mn, p0, q0, b0, b1, mu, rf, f, h3, h4, h5, h6, h7, h8, h9, h10⟩)))))⟩
/-- a cell that came after the start lies behind all that was there -/
theorem nw_g1 {A : Nat → Prop} {f f2 t : va_W} {sz k q : Nat} {c : va_E} (hAe : va_A (f ++ t) sz = A) (hD : va_D A (f2 ++ t)) (hk : f2[k]? = some (q, c)) (hm : (f2.map Prod.fst).take f.length = f.map Prod.fst) (hk0 : f.length ≤ k) : sz ≤ q := by
  have hk2 : (f2 ++ t)[k]? = some (q, c) := by rw [List.getElem?_append_left (List.getElem?_eq_some_iff.mp hk).1]; exact hk
  have h := hD.2 k _ hk2
  rw [← hAe] at h
  rcases h with ⟨i, e, hi⟩ | h
  · exfalso
    by_cases hl : i < f.length
    · rw [List.getElem?_append_left hl] at hi
      have h1 : (f.map Prod.fst)[i]? = some q := by rw [List.getElem?_map, hi]; rfl
      rw [← hm, List.getElem?_take, if_pos hl, List.getElem?_map] at h1
      cases h2 : f2[i]? with
      | none => rw [h2] at h1; cases h1
      | some x =>
        rw [h2] at h1
        have h3 : x.1 = q := Option.some.inj h1
        have h4 : (f2 ++ t)[i]? = some x := by rw [List.getElem?_append_left (List.getElem?_eq_some_iff.mp h2).1]; exact h2
        have := hD.1 i k _ _ h4 hk2 h3
        omega
    · rw [List.getElem?_append_right (by omega)] at hi
      exact hD.ft hk hi rfl
  · exact h
theorem nw_g0 {A : Nat → Prop} {f f2 : va_W} {sz k q : Nat} {c : va_E} (hAe : va_A f sz = A) (hD : va_D A f2) (hk : f2[k]? = some (q, c)) (hm : (f2.map Prod.fst).take f.length = f.map Prod.fst) (hk0 : f.length ≤ k) : sz ≤ q :=
  nw_g1 (A := A) (f := f) (f2 := f2) (t := []) ((congrArg (fun z => va_A z sz) (List.append_nil f)).trans hAe) (by rw [List.append_nil]; exact hD) hk hm hk0
