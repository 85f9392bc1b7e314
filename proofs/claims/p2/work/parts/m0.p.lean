/-- exps of the typing are where they were read -/
def KEq (R : yR) (S0 : Sg) : Prop := ∀ a ∈ ZL R.S, ∀ gs : List Value, ZF S0 a = .inr (15, gs) → ∃ fs : List Value, ZF R.S a = .inr (15, fs) ∧ gs[0]? = fs[0]? ∧ gs[8]? = fs[8]?
theorem TS.keq {R : yR} {c nv : Nat} {S0 : Sg} (h : TS R c nv S0) : KEq R S0 := fun a ha gs e => by
  obtain ⟨G, tm, Y, ad, h1, h2, h3, h4⟩ := h
  obtain ⟨g1, g2⟩ := h2 a ha
  have hc := h1.1.2.1 a g1
  rw [g2, e] at hc
  cases q : ZF R.S a with
  | inl r => rw [q] at hc; exact hc.elim
  | inr r =>
    obtain ⟨k, fs⟩ := r
    rw [q] at hc
    obtain ⟨c1, c2, c3⟩ := hc
    subst c1
    exact ⟨fs, rfl, c3 0 rfl, c3 8 rfl⟩
section LY15
variable {R : yR} {S0 S : Sg} {Γ : List Nat} {K : Ky}
theorem xPl_pw : ∀ {n e p q v : Nat} {π : List (Nat × Nat)} {x mu mv : Nat}, xPl R S0 Γ n e p q v π x mu mv → pwE (ZL R.S) (ZF S0) n e ∧ plE (ZF S0) n e
  | 0, _, _, _, _, _, _, _, _, h => h.elim
  | n + 1, e, p, q, v, π, x, mu, mv, h => by
    obtain ⟨⟨h1, h2, h3⟩, h4, h5⟩ := h
    rcases h5 with ⟨ix, nm, k1, k2, k3, k4, k5, k6⟩ | ⟨o, p', q', k1, k2, k3, k4⟩ | ⟨o, p', q', y, m2, w2, kd, π2, k1, k2, k3, k4, k5, k6, k7⟩ | ⟨o, nm, q', y, i, k, w2, π2, k1, k2, k3, k4, k5, k6, k7, k8⟩
    · exact ⟨⟨h1, 2, .null, _, k1, rfl, rfl, fun w => absurd w (by decide)⟩, 2, .null, _, k1, rfl, rfl, Or.inl rfl⟩
    · obtain ⟨r1, r2⟩ := xPl_pw k4
      exact ⟨⟨h1, 7, .ref o, _, k1, rfl, rfl, fun _ => ⟨o, rfl, r1⟩⟩, 7, .ref o, _, k1, rfl, rfl, Or.inr ⟨by decide, o, rfl, r2⟩⟩
    · obtain ⟨r1, r2⟩ := xPl_pw k4
      exact ⟨⟨h1, 11, .ref o, _, k1, rfl, rfl, fun _ => ⟨o, rfl, r1⟩⟩, 11, .ref o, _, k1, rfl, rfl, Or.inr ⟨by decide, o, rfl, r2⟩⟩
    · obtain ⟨r1, r2⟩ := xPl_pw k4
      exact ⟨⟨h1, 14, .ref o, _, k1, rfl, rfl, fun _ => ⟨o, rfl, r1⟩⟩, 14, .ref o, _, k1, rfl, rfl, Or.inr ⟨by decide, o, rfl, r2⟩⟩
theorem plE_bk (hK : KEq R S0) : ∀ {n a : Nat}, pwE (ZL R.S) (ZF S0) n a → plE (ZF S0) n a → plE (ZF R.S) n a
  | 0, _, h, _ => h.elim
  | n + 1, a, h, g => by
    obtain ⟨h1, kd, vo, fs, h2, h3, h4, h5⟩ := h
    obtain ⟨kd2, vo2, fs2, g2, g3, g4, g5⟩ := g
    have e : fs2 = fs := by rw [h2] at g2; cases g2; rfl
    subst e
    obtain ⟨f0, f1, f2, f3⟩ := hK a h1 _ h2
    refine ⟨kd2, vo2, f0, f1, f2.symm.trans g3, f3.symm.trans g4, g5.imp id (fun ⟨w, o, w2, w3⟩ => ⟨w, o, w2, ?_⟩)⟩
    have ek : kd2 = kd := by rw [h3] at g3; cases g3; rfl
    have ev : vo2 = vo := by rw [h4] at g4; cases g4; rfl
    obtain ⟨o', e1, e2⟩ := h5 (by rw [← ek]; exact w)
    rw [← ev, w2] at e1; cases e1
    exact plE_bk hK e2 w3
/-- an exp that is no place -/
def xNp (R : yR) (S : Sg) (Γ : List Nat) (n kk e p q b c x : Nat) : Prop :=
     (∃ (kd : Int32) (num : Int64), (kd = 0 ∨ kd = 1 ∨ kd = 15) ∧ ZF S e = xtC kd p 0 0 0 0 num 0 .null .null .null 0 (.ref x) .null ∧ b = c ∧ (isTy S x 0 0 none ∨ isTy S x 1 0 none)) ∨
     (∃ (kd : Int32) (o p' q' y : Nat), ZF S e = xtC kd p 0 0 0 0 0 0 (.ref o) .null .null 0 (.ref x) .null ∧ p < p' ∧ q' ≤ q ∧ xE R S Γ n kk o p' q' b c y ∧ ((kd = 4 ∧ isTy S y 0 0 none ∧ isTy S x 2 0 none) ∨ (kd = 7 ∧ y = x ∧ ¬ plE (ZF R.S) n o) ∨ (kd = 9 ∧ isTy S y 1 0 none ∧ isTy S x 1 0 none) ∨ (kd = 10 ∧ isTy S y 0 0 none ∧ isTy S x 0 0 none) ∨ (kd = 13 ∧ vTy S y ∧ isTy S x 5 0 (some y)))) ∨
     (∃ (mu : Int32) (o p' v y m2 w2 : Nat) (π : List (Nat × Nat)), ZF S e = xtC 12 p 0 0 0 0 0 mu (.ref o) .null .null 0 (.ref x) .null ∧ p < p' ∧ xPl R S Γ n o p' q v π y m2 w2 ∧ π.length ≤ 4 ∧ vTy S y ∧ c = b + 1 ∧ ((mu = 0 ∧ isTy S x 6 0 (some y)) ∨ (mu = 1 ∧ isTy S x 7 0 (some y) ∧ m2 = 1))) ∨
     (∃ (o q1 b1 mn : Nat) (li si : Value) (f : Nat → Option Nat) (g : Nat → Int32) (tx tt : Nat → Nat), ZF S e = xtC 8 p 0 0 0 0 0 0 (.ref o) li si mn (.ref x) .null ∧ 1 ≤ mn ∧ xE R S Γ n kk o p q1 b b1 (tt 0) ∧ lsK R S kk (xE R S Γ n) 1 li si mn q1 q b1 c tx f g ∧ tt mn = x ∧ ∀ i : Nat, i < mn → (isTy S (tt i) 0 0 none ∨ isTy S (tt i) 1 0 none) ∧ (isTy S (tx i) 0 0 none ∨ isTy S (tx i) 1 0 none) ∧ (isTy S (tt (i + 1)) 0 0 none ∨ isTy S (tt (i + 1)) 1 0 none)) ∨
     (∃ (i mn p' z : Nat) (li si : Value) (f : Nat → Option Nat) (g : Nat → Int32) (tx : Nat → Nat), ZF S e = xtC 3 p 0 (nI p) (nI i) 0 0 0 .null li si mn (.ref x) .null ∧ p < p' ∧ fnY R S i mn tx x ∧ lsK R S kk (xE R S Γ n) z li si mn p' q b c tx f g) ∨
     (∃ (i mn p' : Nat) (li si : Value) (f : Nat → Option Nat) (g : Nat → Int32) (tx fo : Nat → Nat), ZF S e = xtC 5 p 0 (nI (p + 1)) (nI i) 0 0 0 .null li si mn (.ref x) .null ∧ p < p' ∧ stY R S i mn ∧ isTy S x 3 (nI i) none ∧ lsK R S kk (xE R S Γ n) 1 li si mn p' q b c tx f g ∧ (∀ k : Nat, k < mn → fo k < mn ∧ fld R S i (fo k) (tx k) ∧ fnm R S i (fo k) (g k)) ∧ ∀ k j : Nat, k < mn → j < mn → fo k = fo j → k = j) ∨
     (∃ (i v mn p' z : Nat) (li si : Value) (f : Nat → Option Nat) (g : Nat → Int32) (tx : Nat → Nat), ZF S e = xtC 6 p (nI (p + 2)) (nI p) (nI i) (nI v) 0 0 .null li si mn (.ref x) .null ∧ p < p' ∧ enY R S i v mn tx ∧ isTy S x 4 (nI i) none ∧ lsK R S kk (xE R S Γ n) z li si mn p' q b c tx f g)
/-- .. its kind -/
theorem xNp_k {n kk e p q b c x : Nat} (h : xNp R S Γ n kk e p q b c x) : ∃ (kd : Int32) (vo : Value) (fs : List Value), ZF S e = .inr (15, fs) ∧ fs[0]? = some (.int kd) ∧ fs[1]? = some (.int (nI p)) ∧ fs[8]? = some vo ∧ ((kd = 7 ∧ ∃ o p' q' : Nat, vo = .ref o ∧ xE R S Γ n kk o p' q' b c x ∧ ¬ plE (ZF R.S) n o) ∨ (kd ≠ 7 ∧ kd ≠ 14 ∧ kd ≠ 11 ∧ kd ≠ 2)) := by
  rcases h with ⟨kd, num, k1, k2, _⟩ | ⟨kd, o, p', q', y, k1, k2, k3, k4, k5⟩ | ⟨mu, o, p', v, y, m2, w2, π, k1, _⟩ | ⟨o, q1, b1, mn, li, si, f, g, tx, tt, k1, _⟩ | ⟨i, mn, p', z, li, si, f, g, tx, k1, _⟩ | ⟨i, mn, p', li, si, f, g, tx, fo, k1, _⟩ | ⟨i, v, mn, p', z, li, si, f, g, tx, k1, _⟩
  · exact ⟨kd, _, _, k2, rfl, rfl, rfl, Or.inr (by rcases k1 with e | e | e <;> subst e <;> decide)⟩
  · refine ⟨kd, _, _, k1, rfl, rfl, rfl, ?_⟩
    rcases k5 with ⟨e, _⟩ | ⟨e, e2, e3⟩ | ⟨e, _⟩ | ⟨e, _⟩ | ⟨e, _⟩
    · subst e; exact Or.inr (by decide)
    · subst e e2; exact Or.inl ⟨rfl, o, p', q', rfl, k4, e3⟩
    · subst e; exact Or.inr (by decide)
    · subst e; exact Or.inr (by decide)
    · subst e; exact Or.inr (by decide)
  · exact ⟨_, _, _, k1, rfl, rfl, rfl, Or.inr (by decide)⟩
  · exact ⟨_, _, _, k1, rfl, rfl, rfl, Or.inr (by decide)⟩
  · exact ⟨_, _, _, k1, rfl, rfl, rfl, Or.inr (by decide)⟩
  · exact ⟨_, _, _, k1, rfl, rfl, rfl, Or.inr (by decide)⟩
  · exact ⟨_, _, _, k1, rfl, rfl, rfl, Or.inr (by decide)⟩
theorem xE_pw : ∀ {n kk e p q b c x : Nat}, xE R S0 Γ n kk e p q b c x → pwE (ZL R.S) (ZF S0) n e
  | 0, _, _, _, _, _, _, _, h => h.elim
  | n + 1, kk, e, p, q, b, c, x, h => by
    obtain ⟨⟨h1, h2, h3⟩, h4, ⟨v, π, mu, mv, kd, ix, o, k1, _⟩ | h5⟩ := h
    · exact (xPl_pw k1).1
    · obtain ⟨kd, vo, fs, g1, g2, g3, g4, g5⟩ := xNp_k (show xNp R S0 Γ n kk e p q b c x from h5)
      refine ⟨h1, kd, vo, fs, g1, g2, g4, fun w => ?_⟩
      rcases g5 with ⟨_, o, p', q', e1, e2, _⟩ | ⟨a1, a2, a3, _⟩
      · exact ⟨o, e1, xE_pw e2⟩
      · rcases w with w | w | w
        · exact absurd w a1
        · exact absurd w a2
        · exact absurd w a3
/-- isPlace of a typed exp, in the laying -/
theorem xE_isp (hK : KEq R S0) (hL : RIn R S0) (hx : LX S0 S) {n kk e p q b c x : Nat} (h : xE R S0 Γ (n + 1) kk e p q b c x) (hn : n + 1 ≤ 1000) : (f_isPlace K S (some e) = some (S, 1) ∧ ∃ (v : Nat) (π : List (Nat × Nat)) (mu mv : Nat) (kd ix : Int32) (o : Option Nat), xPl R S0 Γ (n + 1) e p q v π x mu mv ∧ π.length ≤ 4 ∧ b = c ∧ isTy S0 x kd ix o ∧ (kd = 0 ∨ kd = 1 ∨ kd = 6 ∨ mv ≠ 0)) ∨ (f_isPlace K S (some e) = some (S, 0) ∧ xNp R S0 Γ n kk e p q b c x) := by
  have hw := xE_pw h
  obtain ⟨S9, r, q1, rfl, q2⟩ := isp_ (K := K) hL hw hn
  have q3 := hx.isp2 (K := K) (m := bigN) q1
  have q3 : f_isPlace K S (some e) = some (S, r) := q3
  obtain ⟨h0, h4, h5 | h5⟩ := h
  · left
    obtain ⟨v, π, mu, mv, kd, ix, o, k1, k2⟩ := h5
    rcases q2 with ⟨e1, _⟩ | ⟨_, e2⟩
    · rw [e1] at q3; exact ⟨q3, v, π, mu, mv, kd, ix, o, k1, k2⟩
    · exact absurd (xPl_pw k1).2 e2
  · right
    have h5 : xNp R S9 Γ n kk e p q b c x := h5
    rcases q2 with ⟨_, e2⟩ | ⟨e1, _⟩
    · exfalso
      obtain ⟨kd, vo, fs, g1, g2, _, g4, g5⟩ := xNp_k h5
      obtain ⟨kd2, vo2, fs2, f1, f2, f3, f4⟩ := e2
      have e : fs2 = fs := by rw [g1] at f1; cases f1; rfl
      subst e
      have ek : kd2 = kd := by rw [g2] at f2; cases f2; rfl
      have ev : vo2 = vo := by rw [g4] at f3; cases f3; rfl
      subst ek ev
      rcases g5 with ⟨a1, o, p', q', a2, a3, a4⟩ | ⟨a1, a2, a3, a4⟩
      · rcases f4 with w | ⟨w, o2, w2, w3⟩
        · exact absurd (a1.symm.trans w) (by decide)
        · rw [a2] at w2; cases w2
          exact a4 (plE_bk hK (xE_pw a3) w3)
      · rcases f4 with w | ⟨w | w | w, _⟩
        · exact a4 w
        · exact a1 w
        · exact a2 w
        · exact a3 w
    · rw [e1] at q3; exact ⟨q3, h5⟩
/-- borrows: no fewer behind than before -/
theorem chX_bc {z : Nat} {P : Nat → Nat → Nat → Nat → Nat → Nat → Prop} {f : Nat → Option Nat} {g : Nat → Int32} {n p q b c : Nat} {tx : Nat → Nat} (h : chX z P f g n p q b c tx) (hP : ∀ x p1 q1 b1 c1 t : Nat, P x p1 q1 b1 c1 t → b1 ≤ c1) : b ≤ c := by
  obtain ⟨ps, bs, h1, h2, h3, h4, h5⟩ := h
  have : ∀ i : Nat, i ≤ n → b ≤ bs i := by
    intro i
    induction i with
    | zero => intro _; rw [h3]; exact Nat.le_refl _
    | succ i ih =>
      intro hi
      obtain ⟨x, p', s, _, _, g3, _⟩ := h5 i (by omega)
      exact Nat.le_trans (ih (by omega)) (hP _ _ _ _ _ _ g3)
  rw [← h4]; exact this n (Nat.le_refl _)
theorem lsK_bc {P : Nat → Nat → Nat → Nat → Nat → Nat → Nat → Prop} {k z mn p q b c : Nat} {li si : Value} {tx : Nat → Nat} {f : Nat → Option Nat} {g : Nat → Int32} (h : lsK R S k P z li si mn p q b c tx f g) (hP : ∀ k x p1 q1 b1 c1 t : Nat, P k x p1 q1 b1 c1 t → b1 ≤ c1) : b ≤ c := by
  obtain ⟨k2, _, h | ⟨_, _, _, _, _, _, _, _, _, _, _, _, _, h⟩⟩ := h
  · exact Nat.le_of_eq h.2.1
  · exact chX_bc h (hP k2)
theorem xE_bc : ∀ {n kk e p q b c x : Nat}, xE R S Γ n kk e p q b c x → b ≤ c
  | 0, _, _, _, _, _, _, _, h => h.elim
  | n + 1, kk, e, p, q, b, c, x, h => by
    obtain ⟨_, _, ⟨_, _, _, _, _, _, _, _, _, h, _⟩ | ⟨_, _, _, _, h, _⟩ | ⟨_, _, _, _, _, _, _, _, h, _⟩ | ⟨_, _, _, _, _, _, _, _, _, _, _, _, _, h, _⟩ | ⟨_, _, _, _, _, _, _, _, _, _, _, _, h, h2, _⟩ | ⟨_, _, _, _, _, _, _, _, _, _, _, _, h⟩ | ⟨_, _, _, _, _, _, _, _, _, _, _, _, _, h, _⟩ | ⟨_, _, _, _, _, _, _, _, _, _, _, _, _, _, h⟩⟩ := h
    · omega
    · omega
    · exact xE_bc h
    · omega
    · exact Nat.le_trans (xE_bc h) (lsK_bc h2 (fun _ _ _ _ _ _ _ => xE_bc))
    · exact lsK_bc h (fun _ _ _ _ _ _ _ => xE_bc)
    · exact lsK_bc h (fun _ _ _ _ _ _ _ => xE_bc)
    · exact lsK_bc h (fun _ _ _ _ _ _ _ => xE_bc)
end LY15
