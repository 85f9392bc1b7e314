/-- nothing but new cells -/
def NW (S S2 : Sg) : Prop := (∀ a ∈ ZL S, a ∈ ZL S2 ∧ ZF S2 a = ZF S a) ∧ Zi S2 = Zi S ∧ Zr S2 = Zr S ∧ Zl S2 = Zl S ∧ Zq S2 = Zq S ∧ Zf S2 = Zf S ∧ Zz S ≤ Zz S2 ∧ Zn S ≤ Zn S2 ∧ ∀ a ∈ ZL S2, a < Zz S2
/-- a path's object -/
def pOb (R : yR) (S : Sg) (w : Nat) : Prop := ∃ (va n sa ta : Nat) (f : Nat → Int32) (g : Nat → Option Nat), w ∈ ZL S ∧ ZF S w = .inr (18, [.ref va, .int (nI n), .ref sa, .ref ta]) ∧ (sa ∈ ZL S ∧ ZF S sa = .inl (R.K.1 0, n, .inl f)) ∧ (ta ∈ ZL S ∧ ZF S ta = .inl (R.K.1 4, n + 1, .inr (.inr (.inr (.inr g))))) ∧ n ≤ 5
/-- the rows of the loans that are there -/
def lnPR (R : yR) (S : Sg) : Prop := ∀ l : Nat, l < 160 → nI l < Zi S 47 → (Zq S 43 l = none ∨ ∃ w : Nat, Zq S 43 l = some w ∧ pOb R S w) ∧ (Zr S 45 l = -1 ∨ ∃ u : Nat, u < 256 ∧ Zr S 45 l = nI u)
/-- the rows of one number that are kept; the loans' rows -/
def sgO (R : yR) (S : Sg) : Prop := (∀ u : Nat, u < 256 → Zq S 51 u = none ∨ ∃ (a : Nat) (f : Nat → Int32), Zq S 51 u = some a ∧ a ∈ ZL S ∧ ZF S a = .inl (R.K.1 0, 1, .inl f) ∧ f 0 = nI u) ∧ lnPR R S
/-- the whole path w of the variable a -/
def whP (R : yR) (S : Sg) (a w : Nat) (ty : Option Nat) : Prop := ∃ (sa ta : Nat) (f : Nat → Int32) (g : Nat → Option Nat), w ∈ ZL S ∧ ZF S w = .inr (18, [.ref a, .int 0, .ref sa, .ref ta]) ∧ (sa ∈ ZL S ∧ ZF S sa = .inl (R.K.1 0, 0, .inl f)) ∧ (ta ∈ ZL S ∧ ZF S ta = .inl (R.K.1 4, 1, .inr (.inr (.inr (.inr g))))) ∧ g 0 = ty
/-- the variables that were typed, with their whole paths as far as they are made -/
def whAl (R : yR) (S0 S : Sg) : Prop := ∀ (a ix : Nat) (nm : Int32) (ty : Option Nat) (mu : Int32), isV S0 a ix nm ty mu → ∃ wh : Value, a ∈ ZL S ∧ ZF S a = .inr (21, [.int (nI ix), .int nm, va_rf ty, .int mu, wh]) ∧ (wh = .null ∨ ∃ w : Nat, wh = .ref w ∧ whP R S a w ty)
/-- the laying's state: P points, h values on the stack, Γ the variables alive, L loans -/
def LC (R : yR) (S0 S : Sg) (P h : Nat) (Γ : List Nat) (L : Nat) : Prop := LX S0 S ∧ Zi S 26 = nI P ∧ Zi S 48 = nI h ∧ (Zi S 50 = nI Γ.length ∧ ∀ k v : Nat, Γ[k]? = some v → Zq S 49 k = some v) ∧ Zi S 47 = nI L ∧ sgO R S ∧ whAl R S0 S ∧ ∀ a ∈ ZL S, a < Zz S
section LCL
variable {R : yR} {S0 S S1 S2 : Sg} {P h L : Nat} {Γ : List Nat}
theorem NW.rf (hz : ∀ a ∈ ZL S, a < Zz S) : NW S S := ⟨fun _ ha => ⟨ha, rfl⟩, rfl, rfl, rfl, rfl, rfl, Nat.le_refl _, Nat.le_refl _, hz⟩
theorem NW.tr (a : NW S S1) (b : NW S1 S2) : NW S S2 := ⟨fun x hx => ⟨(b.1 x (a.1 x hx).1).1, (b.1 x (a.1 x hx).1).2.trans (a.1 x hx).2⟩, b.2.1.trans a.2.1, b.2.2.1.trans a.2.2.1, b.2.2.2.1.trans a.2.2.2.1, b.2.2.2.2.1.trans a.2.2.2.2.1, b.2.2.2.2.2.1.trans a.2.2.2.2.2.1, Nat.le_trans a.2.2.2.2.2.2.1 b.2.2.2.2.2.2.1, Nat.le_trans a.2.2.2.2.2.2.2.1 b.2.2.2.2.2.2.2.1, b.2.2.2.2.2.2.2.2⟩
theorem NW.un {c : va_E} {n : Nat} (a : NW S S1) : NW S (Un S1 c n) := by
  have hz := a.2.2.2.2.2.2.2.2
  refine ⟨fun x hx => ⟨List.mem_cons_of_mem _ (a.1 x hx).1, ?_⟩, a.2.1, a.2.2.1, a.2.2.2.1, a.2.2.2.2.1, a.2.2.2.2.2.1, Nat.le_succ_of_le a.2.2.2.2.2.2.1, Nat.le_add_right_of_le a.2.2.2.2.2.2.2.1, fun x hx => ?_⟩
  · rw [← (a.1 x hx).2]; exact updE_n (fun e => by have := hz x (a.1 x hx).1; omega)
  · show x < Zz S1 + 1
    rcases List.mem_cons.mp hx with e | e
    · omega
    · have := hz x e; omega
theorem NW.uF {b : Nat} {c : va_E} (a : NW S S1) (hb : b ∉ ZL S) : NW S (UF S1 b c) := ⟨fun x hx => ⟨(a.1 x hx).1, by rw [show ZF (UF S1 b c) x = ZF S1 x from updE_n (fun e => hb (e ▸ hx))]; exact (a.1 x hx).2⟩, a.2⟩
theorem NW.lz (a : NW S S1) : LZ P L S S1 := ⟨⟨fun x hx => ⟨(a.1 x hx).1, Or.inl (a.1 x hx).2⟩, fun _ _ _ _ _ => by rw [a.2.1], fun _ _ => by rw [a.2.2.1], fun _ _ => by rw [a.2.2.2.1], fun _ _ => by rw [a.2.2.2.2.1], a.2.2.2.2.2.1, a.2.2.2.2.2.2.1, a.2.2.2.2.2.2.2.1⟩, fun k _ => ⟨fun _ _ _ => by rw [a.2.2.1], by rw [a.2.2.2.1], fun _ _ _ => by rw [a.2.2.2.2.1]⟩, fun l _ => ⟨by rw [a.2.2.2.2.1], fun _ _ _ => by rw [a.2.2.1]⟩, fun x hx fs e => (a.1 x hx).2.trans e⟩
theorem whP.st {a w : Nat} {ty : Option Nat} (hx : LX S S1) (q : whP R S a w ty) : whP R S1 a w ty := by
  obtain ⟨sa, ta, f, g, q1, q2, q3, q4, q5⟩ := q
  obtain ⟨h1, h2⟩ := hx.ob q1 q2 (by decide) (by decide)
  exact ⟨sa, ta, f, g, h1, h2, hx.ro q3.1 q3.2, hx.ro q4.1 q4.2, q5⟩
theorem pOb.st {w : Nat} (hx : LX S S1) (q : pOb R S w) : pOb R S1 w := by
  obtain ⟨va, n, sa, ta, f, g, q1, q2, q3, q4, q5⟩ := q
  obtain ⟨h1, h2⟩ := hx.ob q1 q2 (by decide) (by decide)
  exact ⟨va, n, sa, ta, f, g, h1, h2, hx.ro q3.1 q3.2, hx.ro q4.1 q4.2, q5⟩
theorem lnPR.st (hx : LX S S1) (e43 : ∀ l : Nat, l < 160 → nI l < Zi S 47 → Zq S1 43 l = Zq S 43 l) (e45 : ∀ l : Nat, l < 160 → nI l < Zi S 47 → Zr S1 45 l = Zr S 45 l ∨ ∃ u : Nat, u < 256 ∧ Zr S1 45 l = nI u) (e47 : Zi S1 47 = Zi S 47) (q : lnPR R S) : lnPR R S1 := fun l h1 h2 => by
  rw [e47] at h2
  obtain ⟨q1, q2⟩ := q l h1 h2
  rw [e43 l h1 h2]
  refine ⟨q1.imp id (fun ⟨w, a, b⟩ => ⟨w, a, b.st hx⟩), ?_⟩
  rcases e45 l h1 h2 with e | e
  · rw [e]; exact q2
  · exact Or.inr e
theorem sgO.st (hx : LX S S1) (e : Zq S1 51 = Zq S 51) (hl : lnPR R S1) (q : sgO R S) : sgO R S1 := ⟨fun u hu => by
  rw [e]
  rcases q.1 u hu with q | ⟨a, f, q1, q2, q3, q4⟩
  · exact Or.inl q
  · obtain ⟨h1, h2⟩ := hx.ro q2 q3
    exact Or.inr ⟨a, f, q1, h1, h2, q4⟩, hl⟩
theorem whAl.st (hx : LX S S1) (hv : ∀ a ∈ ZL S, ∀ fs : List Value, ZF S a = .inr (21, fs) → ZF S1 a = ZF S a) (q : whAl R S0 S) : whAl R S0 S1 := fun a ix nm ty mu hV => by
  obtain ⟨wh, q1, q2, q3⟩ := q a ix nm ty mu hV
  exact ⟨wh, (hx.1 a q1).1, (hv a q1 _ q2).trans q2, q3.imp id (fun ⟨w, w1, w2⟩ => ⟨w, w1, w2.st hx⟩)⟩
theorem LC.lx (c : LC R S0 S P h Γ L) : LX S0 S := c.1
theorem LC.hz (c : LC R S0 S P h Γ L) : ∀ a ∈ ZL S, a < Zz S := c.2.2.2.2.2.2.2
theorem LC.nw (c : LC R S0 S P h Γ L) (a : NW S S1) : LC R S0 S1 P h Γ L := by
  have hx : LX S S1 := (a.lz (P := 0) (L := 0)).1
  refine ⟨c.1.tr hx, by rw [a.2.1]; exact c.2.1, by rw [a.2.1]; exact c.2.2.1, by rw [a.2.1, a.2.2.2.2.1]; exact c.2.2.2.1, by rw [a.2.1]; exact c.2.2.2.2.1, c.2.2.2.2.2.1.st hx (by rw [a.2.2.2.2.1]) (c.2.2.2.2.2.1.2.st hx (fun l _ _ => by rw [a.2.2.2.2.1]) (fun l _ _ => Or.inl (by rw [a.2.2.1])) (by rw [a.2.1])), c.2.2.2.2.2.2.1.st hx (fun x hx2 fs _ => (a.1 x hx2).2), a.2.2.2.2.2.2.2.2⟩
/-- the store is as it was, and the rows 49 and 51 -/
theorem LC.ro {P2 h2 L2 : Nat} (c : LC R S0 S P h Γ L) (hx : LX S S1) (e1 : ZL S1 = ZL S) (e2 : ZF S1 = ZF S) (e3 : Zz S1 = Zz S) (e4 : Zq S1 49 = Zq S 49) (e5 : Zq S1 51 = Zq S 51) (i1 : Zi S1 26 = nI P2) (i2 : Zi S1 48 = nI h2) (i3 : Zi S1 50 = Zi S 50) (i4 : Zi S1 47 = nI L2) (hl : lnPR R S1) : LC R S0 S1 P2 h2 Γ L2 :=
  ⟨c.1.tr hx, i1, i2, by rw [i3, e4]; exact c.2.2.2.1, i4, c.2.2.2.2.2.1.st hx e5 hl, c.2.2.2.2.2.2.1.st hx (fun a _ _ _ => by rw [e2]), by rw [e1, e3]; exact c.2.2.2.2.2.2.2⟩
theorem LC.ur {r j : Nat} {v : Int32} (c : LC R S0 S P h Γ L) (hr : (27 ≤ r ∧ r ≤ 35) ∨ ((44 ≤ r ∧ r ≤ 46) ∧ (r = 45 → L ≤ j ∨ ∃ u : Nat, u < 256 ∧ v = nI u))) : LC R S0 (Ur S r (upd (Zr S r) j v)) P h Γ L := by
  have hx : LX S (Ur S r (upd (Zr S r) j v)) := by
    rcases hr with hr | hr
    · exact (LZ.ur (P := 0) (L := 0) hr (Nat.zero_le _)).1
    · exact (LZ.lr (P := 0) (L := 0) hr.1 (Nat.zero_le _)).1
  refine c.ro hx rfl rfl rfl rfl rfl c.2.1 c.2.2.1 rfl c.2.2.2.2.1 (c.2.2.2.2.2.1.2.st hx (fun _ _ _ => rfl) (fun l h1 h2 => ?_) rfl)
  show va_up (Zr S) r (upd (Zr S r) j v) 45 l = _ ∨ ∃ u : Nat, u < 256 ∧ va_up (Zr S) r (upd (Zr S r) j v) 45 l = nI u
  by_cases e : 45 = r
  · subst e
    rw [va_up_self]
    by_cases el : l = j
    · subst el
      rcases hr with hr | hr
      · omega
      · rcases hr.2 rfl with q | ⟨u, q1, q2⟩
        · rw [c.2.2.2.2.1] at h2
          have := (nI_ltI (a := l) (b := L) (by omega) (by omega)).mp h2
          omega
        · exact Or.inr ⟨u, q1, (if_pos rfl).trans q2⟩
    · exact Or.inl (if_neg el)
  · rw [va_up_ne _ _ e]; exact Or.inl rfl
theorem LC.ul {j : Nat} {v : Int64} (c : LC R S0 S P h Γ L) : LC R S0 (Ul S 31 (vp_updL (Zl S 31) j v)) P h Γ L := c.ro (LZ.ul (P := 0) (L := 0) (Nat.zero_le _)).1 rfl rfl rfl rfl rfl c.2.1 c.2.2.1 rfl c.2.2.2.2.1 (c.2.2.2.2.2.1.2.st (LZ.ul (P := 0) (L := 0) (Nat.zero_le _)).1 (fun _ _ _ => rfl) (fun _ _ _ => Or.inl rfl) rfl)
theorem LC.uq {r j : Nat} {v : Option Nat} (c : LC R S0 S P h Γ L) (hr : (36 ≤ r ∧ r ≤ 42) ∨ (r = 43 ∧ L ≤ j)) : LC R S0 (Uq S r (va_up (Zq S r) j v)) P h Γ L := by
  have hx : LX S (Uq S r (va_up (Zq S r) j v)) := by
    rcases hr with hr | hr
    · exact (LZ.uq (P := 0) (L := 0) hr (Nat.zero_le _)).1
    · obtain ⟨e, _⟩ := hr; subst e; exact (LZ.lq (P := 0) (L := 0) (Nat.zero_le _)).1
  refine c.ro hx rfl rfl rfl (va_up_ne _ _ (by omega)) (va_up_ne _ _ (by omega)) c.2.1 c.2.2.1 rfl c.2.2.2.2.1 (c.2.2.2.2.2.1.2.st hx (fun l h1 h2 => ?_) (fun _ _ _ => Or.inl rfl) rfl)
  show va_up (Zq S) r (va_up (Zq S r) j v) 43 l = _
  rcases hr with hr | ⟨e, hj⟩
  · rw [va_up_ne _ _ (by omega)]
  · subst e
    rw [va_up_self]
    refine va_up_ne _ _ (fun el => ?_)
    subst el
    rw [c.2.2.2.2.1] at h2
    have := (nI_ltI (a := l) (b := L) (by omega) (by omega)).mp h2
    omega
theorem LC.hh {h2 : Nat} (c : LC R S0 S P h Γ L) : LC R S0 (Ui S 48 (nI h2)) P h2 Γ L := c.ro (LZ.ui (P := 0) (L := 0) (Or.inr (Or.inr (Or.inl rfl)))).1 rfl rfl rfl rfl rfl ((Zi_n (by decide)).trans c.2.1) Zi_s (Zi_n (by decide)) ((Zi_n (by decide)).trans c.2.2.2.2.1) (c.2.2.2.2.2.1.2.st (LZ.ui (P := 0) (L := 0) (Or.inr (Or.inr (Or.inl rfl)))).1 (fun _ _ _ => rfl) (fun _ _ _ => Or.inl rfl) (Zi_n (by decide)))
theorem LC.pp {P2 : Nat} (c : LC R S0 S P h Γ L) : LC R S0 (Ui S 26 (nI P2)) P2 h Γ L := c.ro (LZ.ui (P := 0) (L := 0) (Or.inl rfl)).1 rfl rfl rfl rfl rfl Zi_s ((Zi_n (by decide)).trans c.2.2.1) (Zi_n (by decide)) ((Zi_n (by decide)).trans c.2.2.2.2.1) (c.2.2.2.2.2.1.2.st (LZ.ui (P := 0) (L := 0) (Or.inl rfl)).1 (fun _ _ _ => rfl) (fun _ _ _ => Or.inl rfl) (Zi_n (by decide)))
theorem LC.ll {L2 : Nat} (c : LC R S0 S P h Γ L) (hl : lnPR R (Ui S 47 (nI L2))) : LC R S0 (Ui S 47 (nI L2)) P h Γ L2 := c.ro (LZ.ui (P := 0) (L := 0) (Or.inr (Or.inl rfl))).1 rfl rfl rfl rfl rfl ((Zi_n (by decide)).trans c.2.1) ((Zi_n (by decide)).trans c.2.2.1) (Zi_n (by decide)) Zi_s hl
/-- one loan more -/
theorem LC.l1 (c : LC R S0 S P h Γ L) (hL : L < 160) (h43 : Zq S 43 L = none ∨ ∃ w : Nat, Zq S 43 L = some w ∧ pOb R S w) (h45 : Zr S 45 L = -1) : LC R S0 (Ui S 47 (nI (L + 1))) P h Γ (L + 1) := c.ll (fun l h1 h2 => by
  rw [show Zi (Ui S 47 (nI (L + 1))) 47 = nI (L + 1) from Zi_s] at h2
  have hlt := (nI_ltI (a := l) (b := L + 1) (by omega) (by omega)).mp h2
  have hx : LX S (Ui S 47 (nI (L + 1))) := (LZ.ui (P := 0) (L := 0) (Or.inr (Or.inl rfl))).1
  show (Zq S 43 l = none ∨ ∃ w : Nat, Zq S 43 l = some w ∧ pOb R _ w) ∧ (Zr S 45 l = -1 ∨ ∃ u : Nat, u < 256 ∧ Zr S 45 l = nI u)
  by_cases e : l = L
  · subst e
    exact ⟨h43.imp id (fun ⟨w, a, b⟩ => ⟨w, a, b.st hx⟩), Or.inl h45⟩
  · obtain ⟨q1, q2⟩ := c.2.2.2.2.2.1.2 l h1 (by rw [c.2.2.2.2.1]; exact nI_lt (by omega) (by omega))
    exact ⟨q1.imp id (fun ⟨w, a, b⟩ => ⟨w, a, b.st hx⟩), q2⟩)
end LCL
/-- what lies in the rows at P: ints, the long, references -/
abbrev pRc := (Nat → Int32) × Int64 × (Nat → Option Nat)
def AT (S : Sg) (P : Nat) (x : pRc) : Prop := (∀ r : Nat, 27 ≤ r → r ≤ 35 → r ≠ 31 → Zr S r P = x.1 r) ∧ Zl S 31 P = x.2.1 ∧ ∀ r : Nat, 36 ≤ r → r ≤ 42 → Zq S r P = x.2.2 r
/-- a new point's rows -/
def ptRc (kd tk : Int32) : pRc := (fun r => if r = 27 then kd else if r = 32 then tk else if r = 30 ∨ r = 34 ∨ r = 35 then -1 else 0, 0, fun _ => none)
/-- rows of ints that all of the laying may look at: those kept, and the steps of whole paths -/
def Us (S0 S : Sg) (a : Nat) : Prop := (∃ u : Nat, u < 256 ∧ Zq S 51 u = some a) ∨ ∃ (v ix : Nat) (nm : Int32) (ty : Option Nat) (mu : Int32) (w : Nat) (fs gs : List Value), isV S0 v ix nm ty mu ∧ ZF S v = .inr (21, fs) ∧ fs[4]? = some (.ref w) ∧ ZF S w = .inr (18, gs) ∧ gs[2]? = some (.ref a)
/-- .. that the point k looks at -/
def Up (S : Sg) (k a : Nat) : Prop := Zq S 36 k = some a ∨ Zq S 37 k = some a ∨ Zq S 42 k = some a ∨ ∃ (w : Nat) (gs : List Value), Zq S 38 k = some w ∧ ZF S w = .inr (18, gs) ∧ gs[2]? = some (.ref a)
/-- of what was there at S, no more is looked at by all -/
def UsK (S0 S S1 : Sg) : Prop := ∀ a ∈ ZL S, Us S0 S1 a → Us S0 S a
/-- what was there at S and is looked at by all, or by points from P to P2, was looked at by all at S -/
def RFx (S0 S : Sg) (P : Nat) (S2 : Sg) (P2 : Nat) : Prop := UsK S0 S S2 ∧ ∀ k : Nat, P ≤ k → k < P2 → (∀ a ∈ ZL S, Up S2 k a → Us S0 S a) ∧ ∀ w : Nat, Zq S2 38 k = some w → w ∈ ZL S2
/-- the steps of the path w are new since S, or all may look at them -/
def PN (S0 S S1 : Sg) (w : Nat) : Prop := ∀ (gs : List Value) (a : Nat), ZF S1 w = .inr (18, gs) → gs[2]? = some (.ref a) → a ∈ ZL S → Us S0 S a
theorem cLy.back {c c2 : va_E} (h : cLy c c2) {k : Nat} {fs : List Value} (e : c2 = .inr (k, fs)) (h1 : k ≠ 21) (h2 : k ≠ 16) : c = .inr (k, fs) := by
  rcases h with h | ⟨k2, gs, f2, g1, g2, _, g4⟩
  · exact h.symm.trans e
  · obtain ⟨ek, _⟩ := Prod.mk.inj (Sum.inr.inj (g2.symm.trans e))
    rcases g4 with ⟨q, _⟩ | ⟨q, _⟩
    · exact absurd (ek.symm.trans q) h1
    · exact absurd (ek.symm.trans q) h2
theorem UsK.rf {S0 S : Sg} : UsK S0 S S := fun _ _ h => h
theorem UsK.tr {S0 S S1 S2 : Sg} (a : UsK S0 S S1) (b : UsK S0 S1 S2) (hl : LX S S1) : UsK S0 S S2 := fun x hx h => a x hx (b x (hl.1 x hx).1 h)
theorem NW.us {R : yR} {S0 S S1 : Sg} {P h L : Nat} {Γ : List Nat} (c : LC R S0 S P h Γ L) (a : NW S S1) : UsK S0 S S1 := fun x _ h => by
  rcases h with ⟨u, h1, h2⟩ | ⟨v, ix, nm, ty, mu, w, fs, gs, h1, h2, h3, h4, h5⟩
  · rw [a.2.2.2.2.1] at h2; exact Or.inl ⟨u, h1, h2⟩
  · obtain ⟨wh, w1, w2, w3⟩ := c.2.2.2.2.2.2.1 v ix nm ty mu h1
    rw [(a.1 v w1).2] at h2
    have e : fs[4]? = some wh := by rw [w2] at h2; cases h2; rfl
    rw [e] at h3; cases h3
    rcases w3 with w3 | ⟨w', w4, w5⟩
    · cases w3
    · cases w4
      obtain ⟨_, _, _, _, w6, _⟩ := w5
      rw [(a.1 w w6).2] at h4
      exact Or.inr ⟨v, ix, nm, ty, mu, w, fs, gs, h1, h2, e, h4, h5⟩
theorem RFx.rf {S0 S : Sg} {P : Nat} : RFx S0 S P S P := ⟨UsK.rf, fun k h1 h2 => by omega⟩
theorem RFx.tr {S0 S S1 S2 : Sg} {P P1 P2 L : Nat} (a : RFx S0 S P S1 P1) (b : RFx S0 S1 P1 S2 P2) (hl : LX S S1) (hz : LZ P1 L S1 S2) : RFx S0 S P S2 P2 := by
  refine ⟨a.1.tr b.1 hl, fun k h1 h2 => ?_⟩
  by_cases e : k < P1
  · obtain ⟨q1, q2⟩ := a.2 k h1 e
    have hq : ∀ r : Nat, 36 ≤ r → r ≤ 42 → Zq S2 r k = Zq S1 r k := (hz.2.1 k e).2.2
    refine ⟨fun x hx h => q1 x hx ?_, fun w hw => ?_⟩
    · rcases h with h | h | h | ⟨w, gs, h3, h4, h5⟩
      · exact Or.inl (by rw [← hq 36 (by decide) (by decide)]; exact h)
      · exact Or.inr (Or.inl (by rw [← hq 37 (by decide) (by decide)]; exact h))
      · exact Or.inr (Or.inr (Or.inl (by rw [← hq 42 (by decide) (by decide)]; exact h)))
      · rw [hq 38 (by decide) (by decide)] at h3
        exact Or.inr (Or.inr (Or.inr ⟨w, gs, h3, (hz.1.1 w (q2 w h3)).2.back h4 (by decide) (by decide), h5⟩))
    · rw [hq 38 (by decide) (by decide)] at hw
      exact (hz.1.1 w (q2 w hw)).1
  · obtain ⟨q1, q2⟩ := b.2 k (by omega) h2
    exact ⟨fun x hx h => a.1 x hx (q1 x (hl.1 x hx).1 h), q2⟩
theorem PN.st {S0 S S1 S2 : Sg} {w : Nat} (h : PN S0 S S1 w) (hl : LX S1 S2) (hw : w ∈ ZL S1) : PN S0 S S2 w := fun gs a h1 h2 => h gs a ((hl.1 w hw).2.back h1 (by decide) (by decide)) h2
theorem Zq_us {S : Sg} {r : Nat} {f : Nat → Option Nat} : Zq (Uq S r f) r = f := va_up_self _ _ _
theorem Zq_un {S : Sg} {r r2 : Nat} {f : Nat → Option Nat} (h : r2 ≠ r) : Zq (Uq S r f) r2 = Zq S r2 := va_up_ne _ _ h
/-- a point P is being filled, since the state Sb; Lb loans were there, z cells and n slots are new -/
def LPt (R : yR) (S0 Sb S : Sg) (P h : Nat) (Γ : List Nat) (L Lb : Nat) (x : pRc) (z n : Nat) : Prop := LC R S0 S (P + 1) h Γ L ∧ LZ P Lb Sb S ∧ AT S P x ∧ Zz S ≤ Zz Sb + z ∧ Zn S ≤ Zn Sb + n ∧ Lb ≤ L ∧ RFx S0 Sb P S (P + 1)
/-- .. of which it is not yet known what it looks at -/
def LPw (R : yR) (S0 Sb S : Sg) (P h : Nat) (Γ : List Nat) (L Lb : Nat) (x : pRc) (z n : Nat) : Prop := LC R S0 S (P + 1) h Γ L ∧ LZ P Lb Sb S ∧ AT S P x ∧ Zz S ≤ Zz Sb + z ∧ Zn S ≤ Zn Sb + n ∧ Lb ≤ L
section LPL
variable {R : yR} {S0 Sb S S1 : Sg} {P h L Lb z n : Nat} {Γ : List Nat} {x : pRc} {α : Type}
theorem AT.ur {r : Nat} {v : Int32} (a : AT S P x) : AT (Ur S r (upd (Zr S r) P v)) P (upd x.1 r v, x.2) := ⟨fun r2 h1 h2 h3 => by
  show va_up (Zr S) r (upd (Zr S r) P v) r2 P = upd x.1 r v r2
  by_cases e : r2 = r
  · subst e; rw [va_up_self]; exact (if_pos rfl).trans (if_pos rfl).symm
  · rw [va_up_ne _ _ e, a.1 r2 h1 h2 h3]; exact (if_neg e).symm, a.2⟩
theorem AT.ul {v : Int64} (a : AT S P x) : AT (Ul S 31 (vp_updL (Zl S 31) P v)) P (x.1, v, x.2.2) := ⟨a.1, by
  show va_up (Zl S) 31 (vp_updL (Zl S 31) P v) 31 P = v
  rw [va_up_self]; exact if_pos rfl, a.2.2⟩
theorem AT.uq {r : Nat} {v : Option Nat} (a : AT S P x) : AT (Uq S r (va_up (Zq S r) P v)) P (x.1, x.2.1, va_up x.2.2 r v) := ⟨a.1, a.2.1, fun r2 h1 h2 => by
  show va_up (Zq S) r (va_up (Zq S r) P v) r2 P = va_up x.2.2 r v r2
  by_cases e : r2 = r
  · subst e; rw [va_up_self, va_up_self, va_up_self]
  · rw [va_up_ne _ _ e, va_up_ne _ _ e]; exact a.2.2 r2 h1 h2⟩
theorem AT.sm (a : AT S P x) (h1 : Zr S1 = Zr S) (h2 : Zl S1 = Zl S) (h3 : Zq S1 = Zq S) : AT S1 P x := by
  unfold AT; rw [h1, h2, h3]; exact a
/-- the store is the same -/
def SEq (S S1 : Sg) : Prop := LX S S1 ∧ ZL S1 = ZL S ∧ ZF S1 = ZF S ∧ Zz S1 = Zz S ∧ Zn S1 = Zn S ∧ Zq S1 51 = Zq S 51
theorem SEq.tr {S2 : Sg} (a : SEq S S1) (b : SEq S1 S2) : SEq S S2 := ⟨a.1.tr b.1, b.2.1.trans a.2.1, b.2.2.1.trans a.2.2.1, b.2.2.2.1.trans a.2.2.2.1, b.2.2.2.2.1.trans a.2.2.2.2.1, b.2.2.2.2.2.trans a.2.2.2.2.2⟩
theorem SEq.ob {a : Nat} {c : va_E} (e : SEq S S1) (ha : a ∈ ZL S) (hc : ZF S a = c) : a ∈ ZL S1 ∧ ZF S1 a = c := ⟨by rw [e.2.1]; exact ha, by rw [e.2.2.1]; exact hc⟩
/-- a row is written at P -/
theorem LPt.wI {r : Nat} {v : Int32} {g : Sg → Option (Sg × α)} {Q : Sg → α → Prop} (hP : P < 24000) (hr : 27 ≤ r ∧ r ≤ 35 ∧ r ≠ 31) (p : LPt R S0 Sb S P h Γ L Lb x z n) (k : ∀ S1 : Sg, LPt R S0 Sb S1 P h Γ L Lb (upd x.1 r v, x.2) z n → SEq S S1 → Rt (g S1) Q) : Rt ((wRI S r (nI P) v).bind g) Q := by
  have hl : rlen r = 24000 := by
    obtain ⟨a, b, c⟩ := hr
    have : r = 27 ∨ r = 28 ∨ r = 29 ∨ r = 30 ∨ r = 32 ∨ r = 33 ∨ r = 34 ∨ r = 35 := by omega
    rcases this with e | e | e | e | e | e | e | e <;> subst e <;> rfl
  exact Rt.bd (wRI_n (by rw [hl]; exact hP) (by rw [hl]; decide)) (k _ ⟨p.1.ur (Or.inl ⟨hr.1, hr.2.1⟩), p.2.1.tr (LZ.ur ⟨hr.1, hr.2.1⟩ (Nat.le_refl _)) (Nat.le_refl _) (Nat.le_refl _), p.2.2.1.ur, p.2.2.2⟩ ⟨(LZ.ur (P := 0) (L := 0) ⟨hr.1, hr.2.1⟩ (Nat.zero_le _)).1, rfl, rfl, rfl, rfl, rfl⟩)
theorem LPt.wL {v : Int64} {g : Sg → Option (Sg × α)} {Q : Sg → α → Prop} (hP : P < 24000) (p : LPt R S0 Sb S P h Γ L Lb x z n) (k : ∀ S1 : Sg, LPt R S0 Sb S1 P h Γ L Lb (x.1, v, x.2.2) z n → SEq S S1 → Rt (g S1) Q) : Rt ((wJ S 31 (nI P) v).bind g) Q :=
  Rt.bd (wJ_n (show P < rlen 31 from hP) (by decide)) (k _ ⟨p.1.ul, p.2.1.tr (LZ.ul (Nat.le_refl _)) (Nat.le_refl _) (Nat.le_refl _), p.2.2.1.ul, p.2.2.2⟩ ⟨(LZ.ul (P := 0) (L := 0) (Nat.zero_le _)).1, rfl, rfl, rfl, rfl, rfl⟩)
theorem qlen {r : Nat} (hr : 36 ≤ r ∧ r ≤ 42) : rlen r = 24000 := by
  have : r = 36 ∨ r = 37 ∨ r = 38 ∨ r = 39 ∨ r = 40 ∨ r = 41 ∨ r = 42 := by omega
  rcases this with e | e | e | e | e | e | e <;> subst e <;> rfl
theorem RFx.uq {r : Nat} {v : Option Nat} (h : RFx S0 Sb P S (P + 1)) (hr : 36 ≤ r ∧ r ≤ 42) (ha : r = 36 ∨ r = 37 ∨ r = 42 → ∀ a : Nat, v = some a → a ∈ ZL Sb → Us S0 Sb a) (hw : r = 38 → ∀ w : Nat, v = some w → w ∈ ZL S ∧ PN S0 Sb S w) : RFx S0 Sb P (Uq S r (va_up (Zq S r) P v)) (P + 1) := by
  have hq : ∀ r2 : Nat, Zq (Uq S r (va_up (Zq S r) P v)) r2 P = if r2 = r then v else Zq S r2 P := fun r2 => by
    show va_up (Zq S) r (va_up (Zq S r) P v) r2 P = _
    by_cases e : r2 = r
    · subst e; rw [va_up_self, va_up_self, if_pos rfl]
    · rw [va_up_ne _ _ e, if_neg e]
  have h51 : Zq (Uq S r (va_up (Zq S r) P v)) 51 = Zq S 51 := va_up_ne _ _ (by omega)
  refine ⟨fun a ha h2 => h.1 a ha ?_, fun k h1 h2 => ?_⟩
  · rcases h2 with ⟨u, h3, h4⟩ | h2
    · rw [h51] at h4; exact Or.inl ⟨u, h3, h4⟩
    · exact Or.inr h2
  · obtain rfl : k = P := by omega
    obtain ⟨q1, q2⟩ := h.2 k h1 h2
    refine ⟨fun a ha2 h2 => ?_, fun w h2 => ?_⟩
    · unfold Up at h2
      rw [hq 36, hq 37, hq 42, hq 38] at h2
      rcases h2 with h2 | h2 | h2 | ⟨w, gs, h3, h4, h5⟩
      · by_cases e : 36 = r
        · rw [if_pos e] at h2; exact ha (Or.inl e.symm) a h2 ha2
        · rw [if_neg e] at h2; exact q1 a ha2 (Or.inl h2)
      · by_cases e : 37 = r
        · rw [if_pos e] at h2; exact ha (Or.inr (Or.inl e.symm)) a h2 ha2
        · rw [if_neg e] at h2; exact q1 a ha2 (Or.inr (Or.inl h2))
      · by_cases e : 42 = r
        · rw [if_pos e] at h2; exact ha (Or.inr (Or.inr e.symm)) a h2 ha2
        · rw [if_neg e] at h2; exact q1 a ha2 (Or.inr (Or.inr (Or.inl h2)))
      · by_cases e : 38 = r
        · rw [if_pos e] at h3; exact (hw e.symm w h3).2 gs a h4 h5 ha2
        · rw [if_neg e] at h3; exact q1 a ha2 (Or.inr (Or.inr (Or.inr ⟨w, gs, h3, h4, h5⟩)))
    · rw [hq 38] at h2
      by_cases e : 38 = r
      · rw [if_pos e] at h2; exact (hw e.symm w h2).1
      · rw [if_neg e] at h2; exact q2 w h2
theorem LPt.wO {r ci : Nat} {v : Option Nat} {g : Sg → Option (Sg × α)} {Q : Sg → α → Prop} (hP : P < 24000) (hr : 36 ≤ r ∧ r ≤ 42) (hv : okO S ci v = true) (p : LPt R S0 Sb S P h Γ L Lb x z n) (hw : (r = 39 ∨ r = 40 ∨ r = 41) ∨ (r = 38 ∧ ∀ w : Nat, v = some w → w ∈ ZL S ∧ PN S0 Sb S w)) (k : ∀ S1 : Sg, LPt R S0 Sb S1 P h Γ L Lb (x.1, x.2.1, va_up x.2.2 r v) z n → SEq S S1 → Rt (g S1) Q) : Rt ((wQ S ci r (nI P) v).bind g) Q :=
  Rt.bd (wQ_n (by rw [qlen hr]; exact hP) (by rw [qlen hr]; decide) hv) (k _ ⟨p.1.uq (Or.inl hr), p.2.1.tr (LZ.uq hr (Nat.le_refl _)) (Nat.le_refl _) (Nat.le_refl _), p.2.2.1.uq, p.2.2.2.1, p.2.2.2.2.1, p.2.2.2.2.2.1, p.2.2.2.2.2.2.uq hr (fun e => by omega) (fun e => hw.elim (fun w => by omega) (fun w => w.2))⟩ ⟨(LZ.uq (P := 0) (L := 0) hr (Nat.zero_le _)).1, rfl, rfl, rfl, rfl, Zq_un (by omega)⟩)
theorem LPt.wA {r : Nat} {v : Option Nat} {g : Sg → Option (Sg × α)} {Q : Sg → α → Prop} (hP : P < 24000) (hr : 36 ≤ r ∧ r ≤ 42) (hv : okA R.K S v = true) (p : LPt R S0 Sb S P h Γ L Lb x z n) (ha : r ≠ 38 ∧ ∀ a : Nat, v = some a → a ∈ ZL Sb → Us S0 Sb a) (k : ∀ S1 : Sg, LPt R S0 Sb S1 P h Γ L Lb (x.1, x.2.1, va_up x.2.2 r v) z n → SEq S S1 → Rt (g S1) Q) : Rt ((wA R.K S r (nI P) v).bind g) Q :=
  Rt.bd (wA_n (by rw [qlen hr]; exact hP) (by rw [qlen hr]; decide) hv) (k _ ⟨p.1.uq (Or.inl hr), p.2.1.tr (LZ.uq hr (Nat.le_refl _)) (Nat.le_refl _) (Nat.le_refl _), p.2.2.1.uq, p.2.2.2.1, p.2.2.2.2.1, p.2.2.2.2.2.1, p.2.2.2.2.2.2.uq hr (fun _ => ha.2) (fun e => absurd e ha.1)⟩ ⟨(LZ.uq (P := 0) (L := 0) hr (Nat.zero_le _)).1, rfl, rfl, rfl, rfl, Zq_un (by omega)⟩)
theorem LPt.hh {h2 : Nat} {w : Int32} {g : Sg → Option (Sg × α)} {Q : Sg → α → Prop} (hw : w = nI h2) (p : LPt R S0 Sb S P h Γ L Lb x z n) (k : ∀ S1 : Sg, LPt R S0 Sb S1 P h2 Γ L Lb x z n → SEq S S1 → Rt (g S1) Q) : Rt ((pM S 48 w).bind g) Q := by
  subst hw
  exact Rt.bd rfl (k (Ui S 48 (nI h2)) ⟨p.1.hh, p.2.1.tr (LZ.ui (Or.inr (Or.inr (Or.inl rfl)))) (Nat.le_refl _) (Nat.le_refl _), p.2.2.1.sm rfl rfl rfl, p.2.2.2⟩ ⟨(LZ.ui (P := 0) (L := 0) (Or.inr (Or.inr (Or.inl rfl)))).1, rfl, rfl, rfl, rfl, rfl⟩)
/-- other cells change, the rows of points don't -/
theorem RFx.kq {P2 : Nat} (h : RFx S0 Sb P S P2) (hu : UsK S0 S S1) (hz : LZ 0 0 S S1) (hl : LX Sb S) (hq : ∀ k : Nat, Zq S1 36 k = Zq S 36 k ∧ Zq S1 37 k = Zq S 37 k ∧ Zq S1 42 k = Zq S 42 k ∧ Zq S1 38 k = Zq S 38 k) : RFx S0 Sb P S1 P2 := by
  refine ⟨h.1.tr hu hl, fun k h1 h2 => ?_⟩
  obtain ⟨q1, q2⟩ := h.2 k h1 h2
  obtain ⟨e1, e2, e3, e4⟩ := hq k
  refine ⟨fun a ha h3 => q1 a ha ?_, fun w hw => ?_⟩
  · rcases h3 with h3 | h3 | h3 | ⟨w, gs, h3, h4, h5⟩
    · exact Or.inl (e1.symm.trans h3)
    · exact Or.inr (Or.inl (e2.symm.trans h3))
    · exact Or.inr (Or.inr (Or.inl (e3.symm.trans h3)))
    · rw [e4] at h3
      exact Or.inr (Or.inr (Or.inr ⟨w, gs, h3, (hz.1.1 w (q2 w h3)).2.back h4 (by decide) (by decide), h5⟩))
  · rw [e4] at hw
    exact (hz.1.1 w (q2 w hw)).1
theorem LPt.nw {z2 n2 : Nat} (p : LPt R S0 Sb S P h Γ L Lb x z n) (a : NW S S1) (hz : Zz S1 ≤ Zz Sb + z2) (hn : Zn S1 ≤ Zn Sb + n2) : LPt R S0 Sb S1 P h Γ L Lb x z2 n2 := ⟨p.1.nw a, p.2.1.tr a.lz (Nat.le_refl _) (Nat.le_refl _), p.2.2.1.sm a.2.2.1 a.2.2.2.1 a.2.2.2.2.1, hz, hn, p.2.2.2.2.2.1, p.2.2.2.2.2.2.kq (NW.us p.1 a) a.lz p.2.1.1 (fun _ => by rw [a.2.2.2.2.1]; exact ⟨rfl, rfl, rfl, rfl⟩)⟩
/-- .. without what is looked at -/
theorem LPw.wI {r : Nat} {v : Int32} {g : Sg → Option (Sg × α)} {Q : Sg → α → Prop} (hP : P < 24000) (hr : 27 ≤ r ∧ r ≤ 35 ∧ r ≠ 31) (p : LPw R S0 Sb S P h Γ L Lb x z n) (k : ∀ S1 : Sg, LPw R S0 Sb S1 P h Γ L Lb (upd x.1 r v, x.2) z n → SEq S S1 → Rt (g S1) Q) : Rt ((wRI S r (nI P) v).bind g) Q := by
  have hl : rlen r = 24000 := by
    obtain ⟨a, b, c⟩ := hr
    have : r = 27 ∨ r = 28 ∨ r = 29 ∨ r = 30 ∨ r = 32 ∨ r = 33 ∨ r = 34 ∨ r = 35 := by omega
    rcases this with e | e | e | e | e | e | e | e <;> subst e <;> rfl
  exact Rt.bd (wRI_n (by rw [hl]; exact hP) (by rw [hl]; decide)) (k _ ⟨p.1.ur (Or.inl ⟨hr.1, hr.2.1⟩), p.2.1.tr (LZ.ur ⟨hr.1, hr.2.1⟩ (Nat.le_refl _)) (Nat.le_refl _) (Nat.le_refl _), p.2.2.1.ur, p.2.2.2⟩ ⟨(LZ.ur (P := 0) (L := 0) ⟨hr.1, hr.2.1⟩ (Nat.zero_le _)).1, rfl, rfl, rfl, rfl, rfl⟩)
theorem LPw.wL {v : Int64} {g : Sg → Option (Sg × α)} {Q : Sg → α → Prop} (hP : P < 24000) (p : LPw R S0 Sb S P h Γ L Lb x z n) (k : ∀ S1 : Sg, LPw R S0 Sb S1 P h Γ L Lb (x.1, v, x.2.2) z n → SEq S S1 → Rt (g S1) Q) : Rt ((wJ S 31 (nI P) v).bind g) Q :=
  Rt.bd (wJ_n (show P < rlen 31 from hP) (by decide)) (k _ ⟨p.1.ul, p.2.1.tr (LZ.ul (Nat.le_refl _)) (Nat.le_refl _) (Nat.le_refl _), p.2.2.1.ul, p.2.2.2⟩ ⟨(LZ.ul (P := 0) (L := 0) (Nat.zero_le _)).1, rfl, rfl, rfl, rfl, rfl⟩)
theorem LPw.wO {r ci : Nat} {v : Option Nat} {g : Sg → Option (Sg × α)} {Q : Sg → α → Prop} (hP : P < 24000) (hr : 36 ≤ r ∧ r ≤ 42) (hv : okO S ci v = true) (p : LPw R S0 Sb S P h Γ L Lb x z n) (k : ∀ S1 : Sg, LPw R S0 Sb S1 P h Γ L Lb (x.1, x.2.1, va_up x.2.2 r v) z n → SEq S S1 → Rt (g S1) Q) : Rt ((wQ S ci r (nI P) v).bind g) Q :=
  Rt.bd (wQ_n (by rw [qlen hr]; exact hP) (by rw [qlen hr]; decide) hv) (k _ ⟨p.1.uq (Or.inl hr), p.2.1.tr (LZ.uq hr (Nat.le_refl _)) (Nat.le_refl _) (Nat.le_refl _), p.2.2.1.uq, p.2.2.2⟩ ⟨(LZ.uq (P := 0) (L := 0) hr (Nat.zero_le _)).1, rfl, rfl, rfl, rfl, Zq_un (by omega)⟩)
theorem LPw.wA {r : Nat} {v : Option Nat} {g : Sg → Option (Sg × α)} {Q : Sg → α → Prop} (hP : P < 24000) (hr : 36 ≤ r ∧ r ≤ 42) (hv : okA R.K S v = true) (p : LPw R S0 Sb S P h Γ L Lb x z n) (k : ∀ S1 : Sg, LPw R S0 Sb S1 P h Γ L Lb (x.1, x.2.1, va_up x.2.2 r v) z n → SEq S S1 → Rt (g S1) Q) : Rt ((wA R.K S r (nI P) v).bind g) Q :=
  Rt.bd (wA_n (by rw [qlen hr]; exact hP) (by rw [qlen hr]; decide) hv) (k _ ⟨p.1.uq (Or.inl hr), p.2.1.tr (LZ.uq hr (Nat.le_refl _)) (Nat.le_refl _) (Nat.le_refl _), p.2.2.1.uq, p.2.2.2⟩ ⟨(LZ.uq (P := 0) (L := 0) hr (Nat.zero_le _)).1, rfl, rfl, rfl, rfl, Zq_un (by omega)⟩)
/-- a new point -/
theorem pnt_ {kd tk : Int32} {g : Sg → Int32 → Option (Sg × α)} {Q : Sg → α → Prop} (hP : P < 24000) (c : LC R S0 S P h Γ L) (hb : LZ P Lb Sb S) (hl : Lb ≤ L) (hz : Zz S ≤ Zz Sb + z) (hn : Zn S ≤ Zn Sb + n) (hu : UsK S0 Sb S) (k : ∀ S1 : Sg, LPt R S0 Sb S1 P h Γ L Lb (ptRc kd tk) z n → SEq S S1 → Rt (g S1 (nI P)) Q) : Rt (bnd (f_point R.K S kd tk) g) Q := by
  have h26 : Zi S 26 = nI P := c.2.1
  have e26 : nI P + 1 = nI (P + 1) := nI_1 P
  refine Rt.bn (Q := fun S1 r => r = nI P ∧ LPt R S0 Sb S1 P h Γ L Lb (ptRc kd tk) z n ∧ SEq S S1) ?_ (fun S1 r q => by rw [q.1]; exact k S1 q.2.1 q.2.2)
  unfold f_point
  rw [h26, e26]
  have p0 : LPw R S0 Sb (Ui S 26 (nI (P + 1))) P h Γ L Lb (fun r => Zr S r P, Zl S 31 P, fun r => Zq S r P) z n := ⟨c.pp, hb.tr (LZ.ui (Or.inl rfl)) (Nat.le_refl _) (Nat.le_refl _), ⟨fun _ _ _ _ => rfl, rfl, fun _ _ _ => rfl⟩, hz, hn, hl⟩
  have q0 : SEq S (Ui S 26 (nI (P + 1))) := ⟨(LZ.ui (P := 0) (L := 0) (Or.inl rfl)).1, rfl, rfl, rfl, rfl, rfl⟩
  refine Rt.bd (v := Ui S 26 (nI (P + 1))) rfl ?_
  refine p0.wI hP (by decide) (fun S1 p1 q1 => ?_)
  refine p1.wI hP (by decide) (fun S2 p2 q2 => ?_)
  refine p2.wI hP (by decide) (fun S3 p3 q3 => ?_)
  refine p3.wI hP (by decide) (fun S4 p4 q4 => ?_)
  refine p4.wI hP (by decide) (fun S5 p5 q5 => ?_)
  refine p5.wL hP (fun S6 p6 q6 => ?_)
  refine p6.wI hP (by decide) (fun S7 p7 q7 => ?_)
  refine p7.wI hP (by decide) (fun S8 p8 q8 => ?_)
  refine p8.wI hP (by decide) (fun S9 p9 q9 => ?_)
  refine p9.wA hP (by decide) rfl (fun S10 p10 q10 => ?_)
  refine p10.wA hP (by decide) rfl (fun S11 p11 q11 => ?_)
  refine p11.wO hP (by decide) rfl (fun S12 p12 q12 => ?_)
  refine p12.wO hP (by decide) rfl (fun S13 p13 q13 => ?_)
  refine p13.wO hP (by decide) rfl (fun S14 p14 q14 => ?_)
  refine p14.wO hP (by decide) rfl (fun S15 p15 q15 => ?_)
  refine p15.wA hP (by decide) rfl (fun S16 p16 q16 => Rt.rt ⟨rfl, ?_, ((((((((((((((((q0.tr q1).tr q2).tr q3).tr q4).tr q5).tr q6).tr q7).tr q8).tr q9).tr q10).tr q11).tr q12).tr q13).tr q14).tr q15).tr q16)⟩)
  have e16 := ((((((((((((((((q0.tr q1).tr q2).tr q3).tr q4).tr q5).tr q6).tr q7).tr q8).tr q9).tr q10).tr q11).tr q12).tr q13).tr q14).tr q15).tr q16)
  have hat : AT S16 P (ptRc kd tk) := ⟨fun r h1 h2 h3 => ?_, p16.2.2.1.2.1, fun r h1 h2 => ?_⟩
  · refine ⟨p16.1, p16.2.1, hat, p16.2.2.2.1, p16.2.2.2.2.1, p16.2.2.2.2.2, fun a ha h2 => hu a ha ?_, fun k h1 h2 => ?_⟩
    · unfold Us at h2 ⊢
      rw [e16.2.2.2.2.2, e16.2.2.1] at h2; exact h2
    · obtain rfl : k = P := by omega
      have hq := hat.2.2
      refine ⟨fun a ha h3 => ?_, fun w hw => ?_⟩
      · exfalso
        rcases h3 with h3 | h3 | h3 | ⟨w, gs, h3, _⟩
        · rw [hq 36 (by decide) (by decide)] at h3; cases h3
        · rw [hq 37 (by decide) (by decide)] at h3; cases h3
        · rw [hq 42 (by decide) (by decide)] at h3; cases h3
        · rw [hq 38 (by decide) (by decide)] at h3; cases h3
      · rw [hq 38 (by decide) (by decide)] at hw; cases hw
  · rw [p16.2.2.1.1 r h1 h2 h3]
    have : r = 27 ∨ r = 28 ∨ r = 29 ∨ r = 30 ∨ r = 32 ∨ r = 33 ∨ r = 34 ∨ r = 35 := by omega
    rcases this with e | e | e | e | e | e | e | e <;> subst e <;> rfl
  · rw [p16.2.2.1.2.2 r h1 h2]
    have : r = 36 ∨ r = 37 ∨ r = 38 ∨ r = 39 ∨ r = 40 ∨ r = 41 ∨ r = 42 := by omega
    rcases this with e | e | e | e | e | e | e <;> subst e <;> rfl
end LPL
