/-- exps in a row, typed: tx their types -/
def chX (z : Nat) (P : Nat → Nat → Nat → Nat → Nat → Nat → Prop) (f : Nat → Option Nat) (g : Nat → Int32) (n p q b c : Nat) (tx : Nat → Nat) : Prop :=
  ∃ ps bs : Nat → Nat, p ≤ ps 0 ∧ ps n = q ∧ bs 0 = b ∧ bs n = c ∧ ∀ i : Nat, i < n → ∃ x p' s : Nat, f i = some x ∧ ps i < p' ∧ P x p' (ps (i + 1)) (bs i) (bs (i + 1)) (tx i) ∧ g i = nI s ∧ ((s = 0 ∧ z = 0) ∨ (ps i ≤ s ∧ s < p'))
theorem chX_im {z : Nat} {P P2 : Nat → Nat → Nat → Nat → Nat → Nat → Prop} {f : Nat → Option Nat} {g : Nat → Int32} {n p q b c : Nat} {tx : Nat → Nat} (h : chX z P f g n p q b c tx) (hP : ∀ x p1 q1 b1 c1 t : Nat, p ≤ p1 → q1 ≤ q → P x p1 q1 b1 c1 t → P2 x p1 q1 b1 c1 t) (hlt : ∀ x p1 q1 b1 c1 t : Nat, P x p1 q1 b1 c1 t → p1 < q1) : chX z P2 f g n p q b c tx := by
  obtain ⟨ps, bs, h1, h2, h3, h4, h5⟩ := h
  have hm : ∀ (d i : Nat), i + d ≤ n → ps i ≤ ps (i + d) := by
    intro d
    induction d with
    | zero => exact fun i _ => Nat.le_refl _
    | succ d ih =>
      intro i hi
      obtain ⟨x, p', s, _, g2, g3, _⟩ := h5 (i + d) (by omega)
      have := hlt _ _ _ _ _ _ g3
      have := ih i (by omega)
      show ps i ≤ ps (i + d + 1)
      omega
  refine ⟨ps, bs, h1, h2, h3, h4, fun i hi => ?_⟩
  obtain ⟨x, p', s, g1, g2, g3, g4⟩ := h5 i hi
  have a1 := hm i 0 (by omega)
  have a2 := hm (n - (i + 1)) (i + 1) (by omega)
  rw [Nat.zero_add] at a1
  rw [show i + 1 + (n - (i + 1)) = n by omega] at a2
  exact ⟨x, p', s, g1, g2, hP _ _ _ _ _ _ (by omega) (by omega) g3, g4⟩
/-- a list of exps of an exp, typed -/
def lsX (R : yR) (S : Sg) (P : Nat → Nat → Nat → Nat → Nat → Nat → Prop) (z : Nat) (li si : Value) (mn p q b c : Nat) (tx : Nat → Nat) (f : Nat → Option Nat) (g : Nat → Int32) : Prop :=
  (mn = 0 ∧ b = c ∧ p ≤ q) ∨ ∃ la sa cap q0 : Nat, li = .ref la ∧ si = .ref sa ∧ nXo R la ∧ nXo R sa ∧ ZF S la = .inl (R.K.1 9, cap, .inr (.inr (.inr (.inr f)))) ∧ (z = 1 → ZF S sa = .inl (R.K.1 0, cap, .inl g)) ∧ 1 ≤ mn ∧ mn ≤ cap ∧ q0 ≤ q ∧ chX z P f g mn p q0 b c tx
/-- a function's head: how many parameters, their types, what it gives -/
def fnY (R : yR) (S : Sg) (i mn : Nat) (tx : Nat → Nat) (gv : Nat) : Prop := ∃ (fs : List Value) (ta : Nat) (f : Nat → Option Nat), i < R.im ∧ R.ik i = 12 ∧ nXo R (R.ws i) ∧ ZF S (R.ws i) = .inr (16, fs) ∧ fs[3]? = some (.int (nI mn)) ∧ mn ≤ 12 ∧ fs[10]? = some (.ref ta) ∧ rTs R S ta 13 mn f (rTy S) ∧ (∀ k : Nat, k < mn → f k = some (tx k)) ∧ fs[15]? = some (.ref gv)
/-- a struct: how many fields -/
def stY (R : yR) (S : Sg) (i mn : Nat) : Prop := ∃ fs : List Value, i < R.im ∧ R.ik i = 10 ∧ nXo R (R.ws i) ∧ ZF S (R.ws i) = .inr (16, fs) ∧ fs[3]? = some (.int (nI mn)) ∧ mn ≤ 12
/-- a variant of an enum: how many parts, their types -/
def enY (R : yR) (S : Sg) (i v mk : Nat) (tx : Nat → Nat) : Prop := ∃ (fs : List Value) (mn vr pa : Nat) (fv f : Nat → Option Nat), i < R.im ∧ R.ik i = 11 ∧ nXo R (R.ws i) ∧ ZF S (R.ws i) = .inr (16, fs) ∧ fs[3]? = some (.int (nI mn)) ∧ mn ≤ 12 ∧ v < mn ∧ fs[11]? = some (.ref vr) ∧ nXo R vr ∧ ZF S vr = .inl (R.K.1 13, 13, .inr (.inr (.inr (.inr fv)))) ∧ fv v = some pa ∧ paY R S pa mk f ∧ ∀ k : Nat, k < mk → f k = some (tx k)
/-- .. one level of brackets deeper -/
def lsK (R : yR) (S : Sg) (k : Nat) (P : Nat → Nat → Nat → Nat → Nat → Nat → Nat → Prop) (z : Nat) (li si : Value) (mn p q b c : Nat) (tx : Nat → Nat) (f : Nat → Option Nat) (g : Nat → Int32) : Prop := ∃ k2 : Nat, (k = k2 + 1 ∨ mn = 0) ∧ lsX R S (P k2) z li si mn p q b c tx f g
/-- two tokens with the same text -/
def nmE (R : yR) (a b : Nat) : Prop := (Zr R.S 7 a).toNatClampNeg - (Zr R.S 6 a).toNatClampNeg = (Zr R.S 7 b).toNatClampNeg - (Zr R.S 6 b).toNatClampNeg ∧ ∀ j : Nat, j < (Zr R.S 7 a).toNatClampNeg - (Zr R.S 6 a).toNatClampNeg → Zr R.S 0 ((Zr R.S 6 a).toNatClampNeg + j) = Zr R.S 0 ((Zr R.S 6 b).toNatClampNeg + j)
/-- the name v is that of field k of item i, the first one that bears it -/
def fnm (R : yR) (S : Sg) (i k : Nat) (v : Int32) : Prop := ∃ (fs : List Value) (na mn tj : Nat) (g : Nat → Int32), nXo R (R.ws i) ∧ ZF S (R.ws i) = .inr (16, fs) ∧ fs[3]? = some (.int (nI mn)) ∧ mn ≤ 12 ∧ fs[8]? = some (.ref na) ∧ nXo R na ∧ ZF S na = .inl (R.K.1 0, 13, .inl g) ∧ v = nI tj ∧ tj < R.T ∧ k < mn ∧ (∃ s : Nat, g k = nI s ∧ s < R.T ∧ nmE R s tj) ∧ ∀ j : Nat, j < k → ∃ s : Nat, g j = nI s ∧ s < R.T ∧ ¬ nmE R s tj
/-- an exp, typed: kk levels of brackets, tokens p to q, borrows b to c, its type x -/
def xE (R : yR) (S : Sg) (Γ : List Nat) : Nat → Nat → Nat → Nat → Nat → Nat → Nat → Nat → Prop
  | 0, _, _, _, _, _, _, _ => False
  | n + 1, kk, e, p, q, b, c, x => (e ∈ ZL R.S ∧ (∃ t : Nat, ownT (ZF R.S) e = some t ∧ p ≤ t ∧ t < q) ∧ p < q) ∧ xTy S x ∧
    ((∃ (v : Nat) (π : List (Nat × Nat)) (mu mv : Nat) (kd ix : Int32) (o : Option Nat), xPl R S Γ (n + 1) e p q v π x mu mv ∧ π.length ≤ 4 ∧ b = c ∧ isTy S x kd ix o ∧ (kd = 0 ∨ kd = 1 ∨ kd = 6 ∨ mv ≠ 0)) ∨
     (∃ (kd : Int32) (num : Int64), (kd = 0 ∨ kd = 1 ∨ kd = 15) ∧ ZF S e = xtC kd p 0 0 0 0 num 0 .null .null .null 0 (.ref x) .null ∧ b = c ∧ (isTy S x 0 0 none ∨ isTy S x 1 0 none)) ∨
     (∃ (kd : Int32) (o p' q' y : Nat), ZF S e = xtC kd p 0 0 0 0 0 0 (.ref o) .null .null 0 (.ref x) .null ∧ p < p' ∧ q' ≤ q ∧ xE R S Γ n kk o p' q' b c y ∧ ((kd = 4 ∧ isTy S y 0 0 none ∧ isTy S x 2 0 none) ∨ (kd = 7 ∧ y = x ∧ ¬ plE (ZF R.S) n o) ∨ (kd = 9 ∧ isTy S y 1 0 none ∧ isTy S x 1 0 none) ∨ (kd = 10 ∧ isTy S y 0 0 none ∧ isTy S x 0 0 none) ∨ (kd = 13 ∧ vTy S y ∧ isTy S x 5 0 (some y)))) ∨
     (∃ (mu : Int32) (o p' v y m2 w2 : Nat) (π : List (Nat × Nat)), ZF S e = xtC 12 p 0 0 0 0 0 mu (.ref o) .null .null 0 (.ref x) .null ∧ p < p' ∧ xPl R S Γ n o p' q v π y m2 w2 ∧ π.length ≤ 4 ∧ vTy S y ∧ c = b + 1 ∧ ((mu = 0 ∧ isTy S x 6 0 (some y)) ∨ (mu = 1 ∧ isTy S x 7 0 (some y) ∧ m2 = 1))) ∨
     (∃ (o q1 b1 mn : Nat) (li si : Value) (f : Nat → Option Nat) (g : Nat → Int32) (tx tt : Nat → Nat), ZF S e = xtC 8 p 0 0 0 0 0 0 (.ref o) li si mn (.ref x) .null ∧ 1 ≤ mn ∧ xE R S Γ n kk o p q1 b b1 (tt 0) ∧ lsK R S kk (xE R S Γ n) 1 li si mn q1 q b1 c tx f g ∧ tt mn = x ∧ ∀ i : Nat, i < mn → (isTy S (tt i) 0 0 none ∨ isTy S (tt i) 1 0 none) ∧ (isTy S (tx i) 0 0 none ∨ isTy S (tx i) 1 0 none) ∧ (isTy S (tt (i + 1)) 0 0 none ∨ isTy S (tt (i + 1)) 1 0 none)) ∨
     (∃ (i mn p' z : Nat) (li si : Value) (f : Nat → Option Nat) (g : Nat → Int32) (tx : Nat → Nat), ZF S e = xtC 3 p 0 (nI p) (nI i) 0 0 0 .null li si mn (.ref x) .null ∧ p < p' ∧ fnY R S i mn tx x ∧ lsK R S kk (xE R S Γ n) z li si mn p' q b c tx f g) ∨
     (∃ (i mn p' : Nat) (li si : Value) (f : Nat → Option Nat) (g : Nat → Int32) (tx fo : Nat → Nat), ZF S e = xtC 5 p 0 (nI (p + 1)) (nI i) 0 0 0 .null li si mn (.ref x) .null ∧ p < p' ∧ stY R S i mn ∧ isTy S x 3 (nI i) none ∧ lsK R S kk (xE R S Γ n) 1 li si mn p' q b c tx f g ∧ (∀ k : Nat, k < mn → fo k < mn ∧ fld R S i (fo k) (tx k) ∧ fnm R S i (fo k) (g k)) ∧ ∀ k j : Nat, k < mn → j < mn → fo k = fo j → k = j) ∨
     (∃ (i v mn p' z : Nat) (li si : Value) (f : Nat → Option Nat) (g : Nat → Int32) (tx : Nat → Nat), ZF S e = xtC 6 p (nI (p + 2)) (nI p) (nI i) (nI v) 0 0 .null li si mn (.ref x) .null ∧ p < p' ∧ enY R S i v mn tx ∧ isTy S x 4 (nI i) none ∧ lsK R S kk (xE R S Γ n) z li si mn p' q b c tx f g))
section XEL
variable {R : yR} {S S2 : Sg} {Γ : List Nat} {p2 q2 : Nat}
theorem fnm.vz (hV : VZ R (Xo R p2 q2) S S2) {i k : Nat} {v : Int32} (h : fnm R S i k v) : fnm R S2 i k v := by
  obtain ⟨fs, na, mn, tj, g, h1, h2, h3, h4, h5, h6, h7, h8⟩ := h
  exact ⟨fs, na, mn, tj, g, h1, (hV.nx h1).trans h2, h3, h4, h5, h6, (hV.nx h6).trans h7, h8⟩
theorem fnY.vz (hV : VZ R (Xo R p2 q2) S S2) {i mn gv : Nat} {tx : Nat → Nat} (h : fnY R S i mn tx gv) : fnY R S2 i mn tx gv := by
  obtain ⟨fs, ta, f, h1, h2, h3, h4, h5, h6, h7, h8, h9, h10⟩ := h
  exact ⟨fs, ta, f, h1, h2, h3, (hV.nx h3).trans h4, h5, h6, h7, h8.vz hV (fun x q => q.im hV.2.2.1), h9, h10⟩
theorem fnY.vx (hV : VX R (Xo R p2 q2) S S2) {i mn gv : Nat} {tx : Nat → Nat} (h : fnY R S i mn tx gv) : fnY R S2 i mn tx gv := fnY.vz hV.2 h
theorem stY.vz (hV : VZ R (Xo R p2 q2) S S2) {i mn : Nat} (h : stY R S i mn) : stY R S2 i mn := by
  obtain ⟨fs, h1, h2, h3, h4, h5, h6⟩ := h
  exact ⟨fs, h1, h2, h3, (hV.nx h3).trans h4, h5, h6⟩
theorem stY.vx (hV : VX R (Xo R p2 q2) S S2) {i mn : Nat} (h : stY R S i mn) : stY R S2 i mn := stY.vz hV.2 h
theorem enY.vz (hV : VZ R (Xo R p2 q2) S S2) {i v mk : Nat} {tx : Nat → Nat} (h : enY R S i v mk tx) : enY R S2 i v mk tx := by
  obtain ⟨fs, mn, vr, pa, fv, f, h1, h2, h3, h4, h5, h6, h7, h8, h9, h10, h11, h12, h13⟩ := h
  exact ⟨fs, mn, vr, pa, fv, f, h1, h2, h3, (hV.nx h3).trans h4, h5, h6, h7, h8, h9, (hV.nx h9).trans h10, h11, h12.vz hV, h13⟩
theorem enY.vx (hV : VX R (Xo R p2 q2) S S2) {i v mk : Nat} {tx : Nat → Nat} (h : enY R S i v mk tx) : enY R S2 i v mk tx := enY.vz hV.2 h
theorem xE_lt {n kk e p q b c x : Nat} (h : xE R S Γ n kk e p q b c x) : p < q := by
  cases n with
  | zero => exact h.elim
  | succ n => exact h.1.2.2
theorem lsX_vz (hV : VZ R (Xo R p2 q2) S S2) {P P2 : Nat → Nat → Nat → Nat → Nat → Nat → Prop} {z mn p q b c : Nat} {li si : Value} {tx : Nat → Nat} {f : Nat → Option Nat} {g : Nat → Int32} (h : lsX R S P z li si mn p q b c tx f g) (hP : ∀ x p1 q1 b1 c1 t : Nat, p ≤ p1 → q1 ≤ q → P x p1 q1 b1 c1 t → P2 x p1 q1 b1 c1 t) (hlt : ∀ x p1 q1 b1 c1 t : Nat, P x p1 q1 b1 c1 t → p1 < q1) : lsX R S2 P2 z li si mn p q b c tx f g := by
  rcases h with h | ⟨la, sa, cap, q0, h1, h2, h3, h4, h5, h6, h7, h8, h9, h10⟩
  · exact Or.inl h
  · exact Or.inr ⟨la, sa, cap, q0, h1, h2, h3, h4, (hV.nx h3).trans h5, fun w => (hV.nx h4).trans (h6 w), h7, h8, h9, chX_im h10 (fun x p1 q1 b1 c1 t a1 a2 => hP x p1 q1 b1 c1 t a1 (by omega)) hlt⟩
theorem lsK_vz (hV : VZ R (Xo R p2 q2) S S2) {P P2 : Nat → Nat → Nat → Nat → Nat → Nat → Nat → Prop} {k z mn p q b c : Nat} {li si : Value} {tx : Nat → Nat} {f : Nat → Option Nat} {g : Nat → Int32} (h : lsK R S k P z li si mn p q b c tx f g) (hP : ∀ k2 x p1 q1 b1 c1 t : Nat, p ≤ p1 → q1 ≤ q → P k2 x p1 q1 b1 c1 t → P2 k2 x p1 q1 b1 c1 t) (hlt : ∀ k2 x p1 q1 b1 c1 t : Nat, P k2 x p1 q1 b1 c1 t → p1 < q1) : lsK R S2 k P2 z li si mn p q b c tx f g := by
  obtain ⟨k2, e, h⟩ := h
  exact ⟨k2, e, lsX_vz hV h (hP k2) (hlt k2)⟩
/-- a typed exp stays, whatever else is typed -/
theorem xE_vz (hV : VZ R (Xo R p2 q2) S S2) : ∀ {n kk e p q b c x : Nat}, xE R S Γ n kk e p q b c x → (∀ a : Nat, a ∈ ZL R.S → (∃ t : Nat, ownT (ZF R.S) a = some t ∧ p ≤ t ∧ t < q) → (∃ vs : List Value, ZF S a = .inr (15, vs)) → ZF S2 a = ZF S a) → xE R S2 Γ n kk e p q b c x
  | 0, _, _, _, _, _, _, _, h, _ => h.elim
  | n + 1, kk, e, p, q, b, c, x, h, hd => by
    obtain ⟨⟨h1, h2, h3⟩, h4, h5⟩ := h
    have hT := hV.2.2.1
    refine ⟨⟨h1, h2, h3⟩, h4.im hT, ?_⟩
    have he : ∀ {vs : List Value}, ZF S e = .inr (15, vs) → ZF S2 e = .inr (15, vs) := fun {vs} w => (hd e h1 h2 ⟨vs, w⟩).trans w
    have hs : ∀ {p1 q1 : Nat}, p ≤ p1 → q1 ≤ q → ∀ a : Nat, a ∈ ZL R.S → (∃ t : Nat, ownT (ZF R.S) a = some t ∧ p1 ≤ t ∧ t < q1) → (∃ vs : List Value, ZF S a = .inr (15, vs)) → ZF S2 a = ZF S a := fun a1 a2 a a3 ⟨t, a4, a5, a6⟩ a7 => hd a a3 ⟨t, a4, by omega, by omega⟩ a7
    have ho : ∀ y : Nat, (isTy S y 0 0 none ∨ isTy S y 1 0 none) → (isTy S2 y 0 0 none ∨ isTy S2 y 1 0 none) := fun y w => w.imp (hT _ _ _ _) (hT _ _ _ _)
    rcases h5 with ⟨v, π, mu, mv, kd, ix, o, k1, k2, k3, k4, k5⟩ | ⟨kd, num, k1, k2, k3, k4⟩ | ⟨kd, o, p', q', y, k1, k2, k3, k4, k5⟩ | ⟨mu, o, p', v, y, m2, w2, π, k1, k2, k3, k4, k5, k6, k7⟩ | ⟨o, q1, b1, mn, li, si, f, g, tx, tt, k1, k2, k3, k4, k5, k6⟩ | ⟨i, mn, p', z, li, si, f, g, tx, k1, k2, k3, k4⟩ | ⟨i, mn, p', li, si, f, g, tx, fo, k1, k2, k3, k4, k5, k6, k7⟩ | ⟨i, v, mn, p', z, li, si, f, g, tx, k1, k2, k3, k4, k5⟩
    · exact Or.inl ⟨v, π, mu, mv, kd, ix, o, xPl_vz hV k1 hd, k2, k3, hT _ _ _ _ k4, k5⟩
    · exact Or.inr (Or.inl ⟨kd, num, k1, he k2, k3, ho _ k4⟩)
    · refine Or.inr (Or.inr (Or.inl ⟨kd, o, p', q', y, he k1, k2, k3, xE_vz hV k4 (hs (by omega) k3), ?_⟩))
      rcases k5 with ⟨e1, e2, e3⟩ | ⟨e1, e2⟩ | ⟨e1, e2, e3⟩ | ⟨e1, e2, e3⟩ | ⟨e1, e2, e3⟩
      · exact Or.inl ⟨e1, hT _ _ _ _ e2, hT _ _ _ _ e3⟩
      · exact Or.inr (Or.inl ⟨e1, e2⟩)
      · exact Or.inr (Or.inr (Or.inl ⟨e1, hT _ _ _ _ e2, hT _ _ _ _ e3⟩))
      · exact Or.inr (Or.inr (Or.inr (Or.inl ⟨e1, hT _ _ _ _ e2, hT _ _ _ _ e3⟩)))
      · exact Or.inr (Or.inr (Or.inr (Or.inr ⟨e1, e2.im hT, hT _ _ _ _ e3⟩)))
    · exact Or.inr (Or.inr (Or.inr (Or.inl ⟨mu, o, p', v, y, m2, w2, π, he k1, k2, xPl_vz hV k3 (hs (by omega) (Nat.le_refl _)), k4, k5.im hT, k6, k7.imp (fun w => ⟨w.1, hT _ _ _ _ w.2⟩) (fun w => ⟨w.1, hT _ _ _ _ w.2.1, w.2.2⟩)⟩)))
    · have hq1 : q1 ≤ q := by
        obtain ⟨kz, _, k4⟩ := k4
        rcases k4 with ⟨w, _⟩ | ⟨la, sa, cap, q0, h1, h2, h3, h4, h5, h6, h7, h8, h9, ps, bs, w1, w2, w3, w4, w5⟩
        · omega
        · have hm : ∀ d : Nat, d ≤ mn → ps 0 ≤ ps d := by
            intro d
            induction d with
            | zero => exact fun _ => Nat.le_refl _
            | succ d ih =>
              intro hd2
              obtain ⟨x, p', s, _, g2, g3, _⟩ := w5 d (by omega)
              have := xE_lt g3
              have := ih (by omega)
              omega
          have := hm mn (Nat.le_refl _)
          omega
      have hlt := xE_lt k3
      exact Or.inr (Or.inr (Or.inr (Or.inr (Or.inl ⟨o, q1, b1, mn, li, si, f, g, tx, tt, he k1, k2, xE_vz hV k3 (hs (Nat.le_refl _) hq1), lsK_vz hV k4 (fun _ x p1 q1 b1 c1 t a1 a2 a3 => xE_vz hV a3 (hs (by omega) a2)) (fun _ _ _ _ _ _ _ w => xE_lt w), k5, fun i hi => ⟨ho _ (k6 i hi).1, ho _ (k6 i hi).2.1, ho _ (k6 i hi).2.2⟩⟩))))
    · exact Or.inr (Or.inr (Or.inr (Or.inr (Or.inr (Or.inl ⟨i, mn, p', z, li, si, f, g, tx, he k1, k2, k3.vz hV, lsK_vz hV k4 (fun _ x p1 q1 b1 c1 t a1 a2 a3 => xE_vz hV a3 (hs (by omega) a2)) (fun _ _ _ _ _ _ _ w => xE_lt w)⟩)))))
    · exact Or.inr (Or.inr (Or.inr (Or.inr (Or.inr (Or.inr (Or.inl ⟨i, mn, p', li, si, f, g, tx, fo, he k1, k2, k3.vz hV, hT _ _ _ _ k4, lsK_vz hV k5 (fun _ x p1 q1 b1 c1 t a1 a2 a3 => xE_vz hV a3 (hs (by omega) a2)) (fun _ _ _ _ _ _ _ w => xE_lt w), fun k hk => ⟨(k6 k hk).1, (k6 k hk).2.1.vz hV, (k6 k hk).2.2.vz hV⟩, k7⟩))))))
    · exact Or.inr (Or.inr (Or.inr (Or.inr (Or.inr (Or.inr (Or.inr ⟨i, v, mn, p', z, li, si, f, g, tx, he k1, k2, k3.vz hV, hT _ _ _ _ k4, lsK_vz hV k5 (fun _ x p1 q1 b1 c1 t a1 a2 a3 => xE_vz hV a3 (hs (by omega) a2)) (fun _ _ _ _ _ _ _ w => xE_lt w)⟩))))))
theorem xE_vx (hV : VX R (Xo R p2 q2) S S2) : ∀ {n kk e p q b c x : Nat}, xE R S Γ n kk e p q b c x → (∀ a : Nat, a ∈ ZL R.S → (∃ t : Nat, ownT (ZF R.S) a = some t ∧ p ≤ t ∧ t < q) → (∃ vs : List Value, ZF S a = .inr (15, vs)) → ZF S2 a = ZF S a) → xE R S2 Γ n kk e p q b c x := xE_vz hV.2
end XEL
