/-- nothing but new cells -/
def NW (S S2 : Sg) : Prop := (∀ a ∈ ZL S, a ∈ ZL S2 ∧ ZF S2 a = ZF S a) ∧ Zi S2 = Zi S ∧ Zr S2 = Zr S ∧ Zl S2 = Zl S ∧ Zq S2 = Zq S ∧ Zf S2 = Zf S ∧ Zz S ≤ Zz S2 ∧ Zn S ≤ Zn S2 ∧ ∀ a ∈ ZL S2, a < Zz S2
/-- the rows of one number that are kept -/
def sgO (R : yR) (S : Sg) : Prop := ∀ u : Nat, u < 256 → Zq S 51 u = none ∨ ∃ (a : Nat) (f : Nat → Int32), Zq S 51 u = some a ∧ a ∈ ZL S ∧ ZF S a = .inl (R.K.1 0, 1, .inl f) ∧ f 0 = nI u
/-- the whole path w of the variable a -/
def whP (R : yR) (S : Sg) (a w : Nat) (ty : Option Nat) : Prop := ∃ (sa ta : Nat) (f : Nat → Int32) (g : Nat → Option Nat), w ∈ ZL S ∧ ZF S w = .inr (18, [.ref a, .int 0, .ref sa, .ref ta]) ∧ (sa ∈ ZL S ∧ ZF S sa = .inl (R.K.1 0, 0, .inl f)) ∧ (ta ∈ ZL S ∧ ZF S ta = .inl (R.K.1 4, 1, .inr (.inr (.inr (.inr g))))) ∧ g 0 = ty
/-- the variables that were typed, with their whole paths as far as they are made -/
def whAl (R : yR) (S0 S : Sg) : Prop := ∀ (a ix : Nat) (nm : Int32) (ty : Option Nat) (mu : Int32), isV S0 a ix nm ty mu → ∃ wh : Value, a ∈ ZL S ∧ ZF S a = .inr (21, [.int (nI ix), .int nm, va_rf ty, .int mu, wh]) ∧ (wh = .null ∨ ∃ w : Nat, wh = .ref w ∧ whP R S a w ty)
/-- the laying's state: P points, h values on the stack, Γ the variables alive, L loans -/
def LC (R : yR) (S0 S : Sg) (P h : Nat) (Γ : List Nat) (L : Nat) : Prop := LX S0 S ∧ Zi S 26 = nI P ∧ Zi S 48 = nI h ∧ (Zi S 50 = nI Γ.length ∧ ∀ k v : Nat, Γ[k]? = some v → Zq S 49 k = some v) ∧ Zi S 47 = nI L ∧ sgO R S ∧ whAl R S0 S ∧ ∀ a ∈ ZL S, a < Zz S
section LCL
variable {R : yR} {S0 S S1 S2 : Sg} {P h L : Nat} {Γ : List Nat}
theorem NW.rf (hz : ∀ a ∈ ZL S, a < Zz S) : NW S S := ⟨fun _ ha => ⟨ha, rfl⟩, rfl, rfl, rfl, rfl, rfl, Nat.le_refl _, Nat.le_refl _, hz⟩
theorem NW.tr (a : NW S S1) (b : NW S1 S2) : NW S S2 := ⟨fun x hx => ⟨(b.1 x (a.1 x hx).1).1, (b.1 x (a.1 x hx).1).2.trans (a.1 x hx).2⟩, b.2.1.trans a.2.1, b.2.2.1.trans a.2.2.1, b.2.2.2.1.trans a.2.2.2.1, b.2.2.2.2.1.trans a.2.2.2.2.1, b.2.2.2.2.2.1.trans a.2.2.2.2.2.1, Nat.le_trans a.2.2.2.2.2.2.1 b.2.2.2.2.2.2.1, Nat.le_trans a.2.2.2.2.2.2.2.1 b.2.2.2.2.2.2.2.1, b.2.2.2.2.2.2.2.2⟩
theorem NW.un {c : va_E} {n : Nat} (a : NW S S1) : NW S (Un S1 c n) := by
  have hz := a.2.2.2.2.2.2.2.2
  refine ⟨fun x hx => ⟨List.mem_cons_of_mem _ (a.1 x hx).1, ?_⟩, a.2.1, a.2.2.1, a.2.2.2.1, a.2.2.2.2.1, a.2.2.2.2.2.1, Nat.le_succ_of_le a.2.2.2.2.2.2.1, Nat.le_add_right_of_le a.2.2.2.2.2.2.2.1, fun x hx => ?_⟩
  · rw [← (a.1 x hx).2]; exact updE_n (fun e => by have := hz x (a.1 x hx).1; omega)
  · show x < Zz S1 + 1
    rcases List.mem_cons.mp hx with e | e
    · omega
    · have := hz x e; omega
theorem NW.uF {b : Nat} {c : va_E} (a : NW S S1) (hb : b ∉ ZL S) : NW S (UF S1 b c) := ⟨fun x hx => ⟨(a.1 x hx).1, by rw [show ZF (UF S1 b c) x = ZF S1 x from updE_n (fun e => hb (e ▸ hx))]; exact (a.1 x hx).2⟩, a.2⟩
theorem NW.lz (a : NW S S1) : LZ P L S S1 := ⟨⟨fun x hx => ⟨(a.1 x hx).1, Or.inl (a.1 x hx).2⟩, fun _ _ _ _ _ => by rw [a.2.1], fun _ _ => by rw [a.2.2.1], fun _ _ => by rw [a.2.2.2.1], fun _ _ => by rw [a.2.2.2.2.1], a.2.2.2.2.2.1, a.2.2.2.2.2.2.1, a.2.2.2.2.2.2.2.1⟩, fun k _ => ⟨fun _ _ _ => by rw [a.2.2.1], by rw [a.2.2.2.1], fun _ _ _ => by rw [a.2.2.2.2.1]⟩, fun l _ => ⟨by rw [a.2.2.2.2.1], fun _ _ _ => by rw [a.2.2.1]⟩⟩
theorem whP.st {a w : Nat} {ty : Option Nat} (hx : LX S S1) (q : whP R S a w ty) : whP R S1 a w ty := by
  obtain ⟨sa, ta, f, g, q1, q2, q3, q4, q5⟩ := q
  obtain ⟨h1, h2⟩ := hx.ob q1 q2 (by decide) (by decide)
  exact ⟨sa, ta, f, g, h1, h2, hx.ro q3.1 q3.2, hx.ro q4.1 q4.2, q5⟩
theorem sgO.st (hx : LX S S1) (e : Zq S1 51 = Zq S 51) (q : sgO R S) : sgO R S1 := fun u hu => by
  rw [e]
  rcases q u hu with q | ⟨a, f, q1, q2, q3, q4⟩
  · exact Or.inl q
  · obtain ⟨h1, h2⟩ := hx.ro q2 q3
    exact Or.inr ⟨a, f, q1, h1, h2, q4⟩
theorem whAl.st (hx : LX S S1) (hv : ∀ a ∈ ZL S, ∀ fs : List Value, ZF S a = .inr (21, fs) → ZF S1 a = ZF S a) (q : whAl R S0 S) : whAl R S0 S1 := fun a ix nm ty mu hV => by
  obtain ⟨wh, q1, q2, q3⟩ := q a ix nm ty mu hV
  exact ⟨wh, (hx.1 a q1).1, (hv a q1 _ q2).trans q2, q3.imp id (fun ⟨w, w1, w2⟩ => ⟨w, w1, w2.st hx⟩)⟩
theorem LC.lx (c : LC R S0 S P h Γ L) : LX S0 S := c.1
theorem LC.hz (c : LC R S0 S P h Γ L) : ∀ a ∈ ZL S, a < Zz S := c.2.2.2.2.2.2.2
theorem LC.nw (c : LC R S0 S P h Γ L) (a : NW S S1) : LC R S0 S1 P h Γ L := by
  have hx : LX S S1 := (a.lz (P := 0) (L := 0)).1
  refine ⟨c.1.tr hx, by rw [a.2.1]; exact c.2.1, by rw [a.2.1]; exact c.2.2.1, by rw [a.2.1, a.2.2.2.2.1]; exact c.2.2.2.1, by rw [a.2.1]; exact c.2.2.2.2.1, c.2.2.2.2.2.1.st hx (by rw [a.2.2.2.2.1]), c.2.2.2.2.2.2.1.st hx (fun x hx2 fs _ => (a.1 x hx2).2), a.2.2.2.2.2.2.2.2⟩
/-- the store is as it was, and the rows 49 and 51 -/
theorem LC.ro {P2 h2 L2 : Nat} (c : LC R S0 S P h Γ L) (hx : LX S S1) (e1 : ZL S1 = ZL S) (e2 : ZF S1 = ZF S) (e3 : Zz S1 = Zz S) (e4 : Zq S1 49 = Zq S 49) (e5 : Zq S1 51 = Zq S 51) (i1 : Zi S1 26 = nI P2) (i2 : Zi S1 48 = nI h2) (i3 : Zi S1 50 = Zi S 50) (i4 : Zi S1 47 = nI L2) : LC R S0 S1 P2 h2 Γ L2 :=
  ⟨c.1.tr hx, i1, i2, by rw [i3, e4]; exact c.2.2.2.1, i4, c.2.2.2.2.2.1.st hx e5, c.2.2.2.2.2.2.1.st hx (fun a _ _ _ => by rw [e2]), by rw [e1, e3]; exact c.2.2.2.2.2.2.2⟩
theorem LC.ur {r j : Nat} {v : Int32} (c : LC R S0 S P h Γ L) (hr : (27 ≤ r ∧ r ≤ 35) ∨ (44 ≤ r ∧ r ≤ 46)) : LC R S0 (Ur S r (upd (Zr S r) j v)) P h Γ L := by
  have hx : LX S (Ur S r (upd (Zr S r) j v)) := by
    rcases hr with hr | hr
    · exact (LZ.ur (P := 0) (L := 0) hr (Nat.zero_le _)).1
    · exact (LZ.lr (P := 0) (L := 0) hr (Nat.zero_le _)).1
  exact c.ro hx rfl rfl rfl rfl rfl c.2.1 c.2.2.1 rfl c.2.2.2.2.1
theorem LC.ul {j : Nat} {v : Int64} (c : LC R S0 S P h Γ L) : LC R S0 (Ul S 31 (vp_updL (Zl S 31) j v)) P h Γ L := c.ro (LZ.ul (P := 0) (L := 0) (Nat.zero_le _)).1 rfl rfl rfl rfl rfl c.2.1 c.2.2.1 rfl c.2.2.2.2.1
theorem LC.uq {r j : Nat} {v : Option Nat} (c : LC R S0 S P h Γ L) (hr : 36 ≤ r ∧ r ≤ 43) : LC R S0 (Uq S r (va_up (Zq S r) j v)) P h Γ L := by
  have hx : LX S (Uq S r (va_up (Zq S r) j v)) := by
    by_cases e : r = 43
    · subst e; exact (LZ.lq (P := 0) (L := 0) (Nat.zero_le _)).1
    · exact (LZ.uq (P := 0) (L := 0) ⟨hr.1, by omega⟩ (Nat.zero_le _)).1
  exact c.ro hx rfl rfl rfl (va_up_ne _ _ (by omega)) (va_up_ne _ _ (by omega)) c.2.1 c.2.2.1 rfl c.2.2.2.2.1
theorem LC.hh {h2 : Nat} (c : LC R S0 S P h Γ L) : LC R S0 (Ui S 48 (nI h2)) P h2 Γ L := c.ro (LZ.ui (P := 0) (L := 0) (Or.inr (Or.inr (Or.inl rfl)))).1 rfl rfl rfl rfl rfl ((Zi_n (by decide)).trans c.2.1) Zi_s (Zi_n (by decide)) ((Zi_n (by decide)).trans c.2.2.2.2.1)
theorem LC.pp {P2 : Nat} (c : LC R S0 S P h Γ L) : LC R S0 (Ui S 26 (nI P2)) P2 h Γ L := c.ro (LZ.ui (P := 0) (L := 0) (Or.inl rfl)).1 rfl rfl rfl rfl rfl Zi_s ((Zi_n (by decide)).trans c.2.2.1) (Zi_n (by decide)) ((Zi_n (by decide)).trans c.2.2.2.2.1)
theorem LC.ll {L2 : Nat} (c : LC R S0 S P h Γ L) : LC R S0 (Ui S 47 (nI L2)) P h Γ L2 := c.ro (LZ.ui (P := 0) (L := 0) (Or.inr (Or.inl rfl))).1 rfl rfl rfl rfl rfl ((Zi_n (by decide)).trans c.2.1) ((Zi_n (by decide)).trans c.2.2.1) (Zi_n (by decide)) Zi_s
end LCL
/-- what lies in the rows at P: ints, the long, references -/
abbrev pRc := (Nat → Int32) × Int64 × (Nat → Option Nat)
def AT (S : Sg) (P : Nat) (x : pRc) : Prop := (∀ r : Nat, 27 ≤ r → r ≤ 35 → r ≠ 31 → Zr S r P = x.1 r) ∧ Zl S 31 P = x.2.1 ∧ ∀ r : Nat, 36 ≤ r → r ≤ 42 → Zq S r P = x.2.2 r
/-- a new point's rows -/
def ptRc (kd tk : Int32) : pRc := (fun r => if r = 27 then kd else if r = 32 then tk else if r = 30 ∨ r = 34 ∨ r = 35 then -1 else 0, 0, fun _ => none)
/-- a point P is being filled, since the state Sb; Lb loans were there, z cells and n slots are new -/
def LPt (R : yR) (S0 Sb S : Sg) (P h : Nat) (Γ : List Nat) (L Lb : Nat) (x : pRc) (z n : Nat) : Prop := LC R S0 S (P + 1) h Γ L ∧ LZ P Lb Sb S ∧ AT S P x ∧ Zz S ≤ Zz Sb + z ∧ Zn S ≤ Zn Sb + n ∧ Lb ≤ L
section LPL
variable {R : yR} {S0 Sb S S1 : Sg} {P h L Lb z n : Nat} {Γ : List Nat} {x : pRc} {α : Type}
theorem AT.ur {r : Nat} {v : Int32} (a : AT S P x) : AT (Ur S r (upd (Zr S r) P v)) P (upd x.1 r v, x.2) := ⟨fun r2 h1 h2 h3 => by
  show va_up (Zr S) r (upd (Zr S r) P v) r2 P = upd x.1 r v r2
  by_cases e : r2 = r
  · subst e; rw [va_up_self]; exact (if_pos rfl).trans (if_pos rfl).symm
  · rw [va_up_ne _ _ e, a.1 r2 h1 h2 h3]; exact (if_neg e).symm, a.2⟩
theorem AT.ul {v : Int64} (a : AT S P x) : AT (Ul S 31 (vp_updL (Zl S 31) P v)) P (x.1, v, x.2.2) := ⟨a.1, by
  show va_up (Zl S) 31 (vp_updL (Zl S 31) P v) 31 P = v
  rw [va_up_self]; exact if_pos rfl, a.2.2⟩
theorem AT.uq {r : Nat} {v : Option Nat} (a : AT S P x) : AT (Uq S r (va_up (Zq S r) P v)) P (x.1, x.2.1, va_up x.2.2 r v) := ⟨a.1, a.2.1, fun r2 h1 h2 => by
  show va_up (Zq S) r (va_up (Zq S r) P v) r2 P = va_up x.2.2 r v r2
  by_cases e : r2 = r
  · subst e; rw [va_up_self, va_up_self, va_up_self]
  · rw [va_up_ne _ _ e, va_up_ne _ _ e]; exact a.2.2 r2 h1 h2⟩
theorem AT.sm (a : AT S P x) (h1 : Zr S1 = Zr S) (h2 : Zl S1 = Zl S) (h3 : Zq S1 = Zq S) : AT S1 P x := by
  unfold AT; rw [h1, h2, h3]; exact a
/-- the store is the same -/
def SEq (S S1 : Sg) : Prop := LX S S1 ∧ ZL S1 = ZL S ∧ ZF S1 = ZF S ∧ Zz S1 = Zz S ∧ Zn S1 = Zn S
theorem SEq.tr {S2 : Sg} (a : SEq S S1) (b : SEq S1 S2) : SEq S S2 := ⟨a.1.tr b.1, b.2.1.trans a.2.1, b.2.2.1.trans a.2.2.1, b.2.2.2.1.trans a.2.2.2.1, b.2.2.2.2.trans a.2.2.2.2⟩
theorem SEq.ob {a : Nat} {c : va_E} (e : SEq S S1) (ha : a ∈ ZL S) (hc : ZF S a = c) : a ∈ ZL S1 ∧ ZF S1 a = c := ⟨by rw [e.2.1]; exact ha, by rw [e.2.2.1]; exact hc⟩
/-- a row is written at P -/
theorem LPt.wI {r : Nat} {v : Int32} {g : Sg → Option (Sg × α)} {Q : Sg → α → Prop} (hP : P < 24000) (hr : 27 ≤ r ∧ r ≤ 35 ∧ r ≠ 31) (p : LPt R S0 Sb S P h Γ L Lb x z n) (k : ∀ S1 : Sg, LPt R S0 Sb S1 P h Γ L Lb (upd x.1 r v, x.2) z n → SEq S S1 → Rt (g S1) Q) : Rt ((wRI S r (nI P) v).bind g) Q := by
  have hl : rlen r = 24000 := by
    obtain ⟨a, b, c⟩ := hr
    have : r = 27 ∨ r = 28 ∨ r = 29 ∨ r = 30 ∨ r = 32 ∨ r = 33 ∨ r = 34 ∨ r = 35 := by omega
    rcases this with e | e | e | e | e | e | e | e <;> subst e <;> rfl
  exact Rt.bd (wRI_n (by rw [hl]; exact hP) (by rw [hl]; decide)) (k _ ⟨p.1.ur (Or.inl ⟨hr.1, hr.2.1⟩), p.2.1.tr (LZ.ur ⟨hr.1, hr.2.1⟩ (Nat.le_refl _)) (Nat.le_refl _) (Nat.le_refl _), p.2.2.1.ur, p.2.2.2⟩ ⟨(LZ.ur (P := 0) (L := 0) ⟨hr.1, hr.2.1⟩ (Nat.zero_le _)).1, rfl, rfl, rfl, rfl⟩)
theorem LPt.wL {v : Int64} {g : Sg → Option (Sg × α)} {Q : Sg → α → Prop} (hP : P < 24000) (p : LPt R S0 Sb S P h Γ L Lb x z n) (k : ∀ S1 : Sg, LPt R S0 Sb S1 P h Γ L Lb (x.1, v, x.2.2) z n → SEq S S1 → Rt (g S1) Q) : Rt ((wJ S 31 (nI P) v).bind g) Q :=
  Rt.bd (wJ_n (show P < rlen 31 from hP) (by decide)) (k _ ⟨p.1.ul, p.2.1.tr (LZ.ul (Nat.le_refl _)) (Nat.le_refl _) (Nat.le_refl _), p.2.2.1.ul, p.2.2.2⟩ ⟨(LZ.ul (P := 0) (L := 0) (Nat.zero_le _)).1, rfl, rfl, rfl, rfl⟩)
theorem qlen {r : Nat} (hr : 36 ≤ r ∧ r ≤ 42) : rlen r = 24000 := by
  have : r = 36 ∨ r = 37 ∨ r = 38 ∨ r = 39 ∨ r = 40 ∨ r = 41 ∨ r = 42 := by omega
  rcases this with e | e | e | e | e | e | e <;> subst e <;> rfl
theorem LPt.wO {r ci : Nat} {v : Option Nat} {g : Sg → Option (Sg × α)} {Q : Sg → α → Prop} (hP : P < 24000) (hr : 36 ≤ r ∧ r ≤ 42) (hv : okO S ci v = true) (p : LPt R S0 Sb S P h Γ L Lb x z n) (k : ∀ S1 : Sg, LPt R S0 Sb S1 P h Γ L Lb (x.1, x.2.1, va_up x.2.2 r v) z n → SEq S S1 → Rt (g S1) Q) : Rt ((wQ S ci r (nI P) v).bind g) Q :=
  Rt.bd (wQ_n (by rw [qlen hr]; exact hP) (by rw [qlen hr]; decide) hv) (k _ ⟨p.1.uq ⟨hr.1, by omega⟩, p.2.1.tr (LZ.uq hr (Nat.le_refl _)) (Nat.le_refl _) (Nat.le_refl _), p.2.2.1.uq, p.2.2.2⟩ ⟨(LZ.uq (P := 0) (L := 0) hr (Nat.zero_le _)).1, rfl, rfl, rfl, rfl⟩)
theorem LPt.wA {r : Nat} {v : Option Nat} {g : Sg → Option (Sg × α)} {Q : Sg → α → Prop} (hP : P < 24000) (hr : 36 ≤ r ∧ r ≤ 42) (hv : okA R.K S v = true) (p : LPt R S0 Sb S P h Γ L Lb x z n) (k : ∀ S1 : Sg, LPt R S0 Sb S1 P h Γ L Lb (x.1, x.2.1, va_up x.2.2 r v) z n → SEq S S1 → Rt (g S1) Q) : Rt ((wA R.K S r (nI P) v).bind g) Q :=
  Rt.bd (wA_n (by rw [qlen hr]; exact hP) (by rw [qlen hr]; decide) hv) (k _ ⟨p.1.uq ⟨hr.1, by omega⟩, p.2.1.tr (LZ.uq hr (Nat.le_refl _)) (Nat.le_refl _) (Nat.le_refl _), p.2.2.1.uq, p.2.2.2⟩ ⟨(LZ.uq (P := 0) (L := 0) hr (Nat.zero_le _)).1, rfl, rfl, rfl, rfl⟩)
theorem LPt.hh {h2 : Nat} {w : Int32} {g : Sg → Option (Sg × α)} {Q : Sg → α → Prop} (hw : w = nI h2) (p : LPt R S0 Sb S P h Γ L Lb x z n) (k : ∀ S1 : Sg, LPt R S0 Sb S1 P h2 Γ L Lb x z n → SEq S S1 → Rt (g S1) Q) : Rt ((pM S 48 w).bind g) Q := by
  subst hw
  exact Rt.bd rfl (k (Ui S 48 (nI h2)) ⟨p.1.hh, p.2.1.tr (LZ.ui (Or.inr (Or.inr (Or.inl rfl)))) (Nat.le_refl _) (Nat.le_refl _), p.2.2.1.sm rfl rfl rfl, p.2.2.2⟩ ⟨(LZ.ui (P := 0) (L := 0) (Or.inr (Or.inr (Or.inl rfl)))).1, rfl, rfl, rfl, rfl⟩)
theorem LPt.nw {z2 n2 : Nat} (p : LPt R S0 Sb S P h Γ L Lb x z n) (a : NW S S1) (hz : Zz S1 ≤ Zz Sb + z2) (hn : Zn S1 ≤ Zn Sb + n2) : LPt R S0 Sb S1 P h Γ L Lb x z2 n2 := ⟨p.1.nw a, p.2.1.tr a.lz (Nat.le_refl _) (Nat.le_refl _), p.2.2.1.sm a.2.2.1 a.2.2.2.1 a.2.2.2.2.1, hz, hn, p.2.2.2.2.2⟩
/-- a new point -/
theorem pnt_ {kd tk : Int32} {g : Sg → Int32 → Option (Sg × α)} {Q : Sg → α → Prop} (hP : P < 24000) (c : LC R S0 S P h Γ L) (hb : LZ P Lb Sb S) (hl : Lb ≤ L) (hz : Zz S ≤ Zz Sb + z) (hn : Zn S ≤ Zn Sb + n) (k : ∀ S1 : Sg, LPt R S0 Sb S1 P h Γ L Lb (ptRc kd tk) z n → SEq S S1 → Rt (g S1 (nI P)) Q) : Rt (bnd (f_point R.K S kd tk) g) Q := by
  have h26 : Zi S 26 = nI P := c.2.1
  have e26 : nI P + 1 = nI (P + 1) := nI_1 P
  refine Rt.bn (Q := fun S1 r => r = nI P ∧ LPt R S0 Sb S1 P h Γ L Lb (ptRc kd tk) z n ∧ SEq S S1) ?_ (fun S1 r q => by rw [q.1]; exact k S1 q.2.1 q.2.2)
  unfold f_point
  rw [h26, e26]
  have p0 : LPt R S0 Sb (Ui S 26 (nI (P + 1))) P h Γ L Lb (fun r => Zr S r P, Zl S 31 P, fun r => Zq S r P) z n := ⟨c.pp, hb.tr (LZ.ui (Or.inl rfl)) (Nat.le_refl _) (Nat.le_refl _), ⟨fun _ _ _ _ => rfl, rfl, fun _ _ _ => rfl⟩, hz, hn, hl⟩
  have q0 : SEq S (Ui S 26 (nI (P + 1))) := ⟨(LZ.ui (P := 0) (L := 0) (Or.inl rfl)).1, rfl, rfl, rfl, rfl⟩
  refine Rt.bd (v := Ui S 26 (nI (P + 1))) rfl ?_
  refine p0.wI hP (by decide) (fun S1 p1 q1 => ?_)
  refine p1.wI hP (by decide) (fun S2 p2 q2 => ?_)
  refine p2.wI hP (by decide) (fun S3 p3 q3 => ?_)
  refine p3.wI hP (by decide) (fun S4 p4 q4 => ?_)
  refine p4.wI hP (by decide) (fun S5 p5 q5 => ?_)
  refine p5.wL hP (fun S6 p6 q6 => ?_)
  refine p6.wI hP (by decide) (fun S7 p7 q7 => ?_)
  refine p7.wI hP (by decide) (fun S8 p8 q8 => ?_)
  refine p8.wI hP (by decide) (fun S9 p9 q9 => ?_)
  refine p9.wA hP (by decide) rfl (fun S10 p10 q10 => ?_)
  refine p10.wA hP (by decide) rfl (fun S11 p11 q11 => ?_)
  refine p11.wO hP (by decide) rfl (fun S12 p12 q12 => ?_)
  refine p12.wO hP (by decide) rfl (fun S13 p13 q13 => ?_)
  refine p13.wO hP (by decide) rfl (fun S14 p14 q14 => ?_)
  refine p14.wO hP (by decide) rfl (fun S15 p15 q15 => ?_)
  refine p15.wA hP (by decide) rfl (fun S16 p16 q16 => Rt.rt ⟨rfl, ?_, ((((((((((((((((q0.tr q1).tr q2).tr q3).tr q4).tr q5).tr q6).tr q7).tr q8).tr q9).tr q10).tr q11).tr q12).tr q13).tr q14).tr q15).tr q16)⟩)
  refine ⟨p16.1, p16.2.1, ⟨fun r h1 h2 h3 => ?_, p16.2.2.1.2.1, fun r h1 h2 => ?_⟩, p16.2.2.2⟩
  · rw [p16.2.2.1.1 r h1 h2 h3]
    have : r = 27 ∨ r = 28 ∨ r = 29 ∨ r = 30 ∨ r = 32 ∨ r = 33 ∨ r = 34 ∨ r = 35 := by omega
    rcases this with e | e | e | e | e | e | e | e <;> subst e <;> rfl
  · rw [p16.2.2.1.2.2 r h1 h2]
    have : r = 36 ∨ r = 37 ∨ r = 38 ∨ r = 39 ∨ r = 40 ∨ r = 41 ∨ r = 42 := by omega
    rcases this with e | e | e | e | e | e | e <;> subst e <;> rfl
end LPL
