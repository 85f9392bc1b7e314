-- m0.f.lean.txt
section
section LY5
variable {R : yR} {S0 S S1 : Sg} {P h L : Nat} {Γ : List Nat} {α : Type}
/-- the rows of points are as they were -/
def KX (S S1 : Sg) : Prop := (∀ P L : Nat, LZ P L S S1) ∧ Zr S1 = Zr S ∧ Zl S1 = Zl S ∧ (∀ r : Nat, r ≠ 51 → Zq S1 r = Zq S r) ∧ Zi S1 = Zi S
theorem KX.rf : KX S S := ⟨fun _ _ => LZ.rf, rfl, rfl, fun _ _ => rfl, rfl⟩
theorem KX.tr {S2 : Sg} (a : KX S S1) (b : KX S1 S2) : KX S S2 := ⟨fun P L => (a.1 P L).tr (b.1 P L) (Nat.le_refl _) (Nat.le_refl _), b.2.1.trans a.2.1, b.2.2.1.trans a.2.2.1, fun r hr => (b.2.2.2.1 r hr).trans (a.2.2.2.1 r hr), b.2.2.2.2.trans a.2.2.2.2⟩
theorem NW.kx (a : NW S S1) : KX S S1 := ⟨fun _ _ => a.lz, a.2.2.1, a.2.2.2.1, fun _ _ => by rw [a.2.2.2.2.1], a.2.1⟩
theorem KX.lx (a : KX S S1) : LX S S1 := (a.1 0 0).1
theorem LPt.kx {Sb : Sg} {Lb z n z2 n2 : Nat} {x : pRc} (p : LPt R S0 Sb S P h Γ L Lb x z n) (c : LC R S0 S1 (P + 1) h Γ L) (k : KX S S1) (hu : UsK S0 S S1) (hz : Zz S1 ≤ Zz Sb + z2) (hn : Zn S1 ≤ Zn Sb + n2) : LPt R S0 Sb S1 P h Γ L Lb x z2 n2 := ⟨c, p.2.1.tr (k.1 _ _) (Nat.le_refl _) (Nat.le_refl _), ⟨fun r h1 h2 h3 => by rw [k.2.1]; exact p.2.2.1.1 r h1 h2 h3, by rw [k.2.2.1]; exact p.2.2.1.2.1, fun r h1 h2 => by rw [k.2.2.2.1 r (by omega)]; exact p.2.2.1.2.2 r h1 h2⟩, hz, hn, p.2.2.2.2.2.1, p.2.2.2.2.2.2.kq hu (k.1 0 0) p.2.1.1 (fun j => ⟨by rw [k.2.2.2.1 36 (by decide)], by rw [k.2.2.2.1 37 (by decide)], by rw [k.2.2.2.1 42 (by decide)], by rw [k.2.2.2.1 38 (by decide)]⟩)⟩
theorem UsK.mk (c : LC R S0 S P h Γ L) (bo : ∀ a ∈ ZL S, a ∈ ZL S1 ∧ ZF S1 a = ZF S a) (h51 : ∀ u x : Nat, u < 256 → x ∈ ZL S → Zq S1 51 u = some x → Zq S 51 u = some x) : UsK S0 S S1 := fun x hx h => by
  rcases h with ⟨u, h1, h2⟩ | ⟨v, ix, nm, ty, mu, w, fs, gs, h1, h2, h3, h4, h5⟩
  · exact Or.inl ⟨u, h1, h51 u x h1 hx h2⟩
  · obtain ⟨wh, w1, w2, w3⟩ := c.2.2.2.2.2.2.1 v ix nm ty mu h1
    rw [(bo v w1).2] at h2
    have e : fs[4]? = some wh := by rw [w2] at h2; cases h2; rfl
    rw [e] at h3; cases h3
    rcases w3 with w3 | ⟨w', w4, w5⟩
    · cases w3
    · cases w4
      obtain ⟨_, _, _, _, w6, _⟩ := w5
      rw [(bo w w6).2] at h4
      exact Or.inr ⟨v, ix, nm, ty, mu, w, fs, gs, h1, h2, e, h4, h5⟩
theorem ZF_un {c : va_E} {n a : Nat} (h : a ≠ Zz S) : ZF (Un S c n) a = ZF S a := updE_n h
theorem ZF_uz {c : va_E} {n : Nat} : ZF (Un S c n) (Zz S) = c := updE_s
/-- new cells of A: an object a, and others -/
def FRC (S A : Sg) (a : Nat) (c : va_E) (l : List (Nat × va_E)) (z n : Nat) : Prop := NW S A ∧ Zz S ≤ a ∧ (a ∈ ZL A ∧ ZF A a = c) ∧ (∀ p ∈ l, p.1 ≠ a ∧ p.1 ∈ ZL A ∧ ZF A p.1 = p.2) ∧ Zz A = z ∧ Zn A = n
theorem FRC.o1 (hz : ∀ a ∈ ZL S, a < Zz S) {c : va_E} {m : Nat} : FRC S (Un S c m) (Zz S) c [] (Zz S + 1) (Zn S + m) := ⟨(NW.rf hz).un, Nat.le_refl _, ⟨List.mem_cons_self, ZF_uz⟩, (fun _ h => nomatch h), rfl, rfl⟩
theorem FRC.un {A : Sg} {a m z n : Nat} {c c2 : va_E} {l : List (Nat × va_E)} (f : FRC S A a c l z n) : FRC S (Un A c2 m) a c ((z, c2) :: l) (z + 1) (n + m) := by
  obtain ⟨w, h0, ⟨h1, h2⟩, h3, h4, h5⟩ := f
  subst h4; subst h5
  have hl : ∀ x ∈ ZL A, x < Zz A := w.2.2.2.2.2.2.2.2
  refine ⟨w.un, h0, ⟨List.mem_cons_of_mem _ h1, (ZF_un (Nat.ne_of_lt (hl _ h1))).trans h2⟩, fun p hp => ?_, rfl, rfl⟩
  rcases List.mem_cons.mp hp with e | e
  · subst e; exact ⟨(Nat.ne_of_lt (hl _ h1)).symm, List.mem_cons_self, ZF_uz⟩
  · exact ⟨(h3 p e).1, List.mem_cons_of_mem _ (h3 p e).2.1, (ZF_un (Nat.ne_of_lt (hl _ (h3 p e).2.1))).trans (h3 p e).2.2⟩
theorem FRC.uf {A : Sg} {a z n : Nat} {c c2 : va_E} {l : List (Nat × va_E)} (f : FRC S A a c l z n) (hz : ∀ a ∈ ZL S, a < Zz S) : FRC S (UF A a c2) a c2 l z n := ⟨f.1.uF (fun w => Nat.lt_irrefl _ (Nat.lt_of_lt_of_le (hz _ w) f.2.1)), f.2.1, ⟨f.2.2.1.1, ZF_s⟩, fun p hp => ⟨(f.2.2.2.1 p hp).1, (f.2.2.2.1 p hp).2.1, (ZF_n (f.2.2.2.1 p hp).1).trans (f.2.2.2.1 p hp).2.2⟩, f.2.2.2.2⟩
/-- a new object -/
theorem FRC.rO {ci N : Nat} {vs : List Value} {g : Sg → Nat → Option (Sg × α)} {Q : Sg → α → Prop} (hz : ∀ a ∈ ZL S, a < Zz S) (h1 : Zz S + 1 ≤ R.K.2.1) (h2 : Zn S + N ≤ R.K.2.2) (k : ∀ A : Sg, FRC S A (Zz S) (.inr (ci, vs)) [] (Zz S + 1) (Zn S + N) → Rt (g A (Zz S)) Q) : Rt (bnd (nO R.K S ci N vs) g) Q := Rt.be (nO_ok ⟨h1, h2⟩) (k _ (FRC.o1 hz))
/-- a field of the object -/
theorem FRC.rP {A : Sg} {a z n ci i : Nat} {vs vs2 : List Value} {v : Value} {l : List (Nat × va_E)} {g : Sg → Option (Sg × α)} {Q : Sg → α → Prop} (f : FRC S A a (.inr (ci, vs)) l z n) (hz : ∀ a ∈ ZL S, a < Zz S) (hi : Nat.ble (i + 1) vs.length = true) (e : vs.set i v = vs2) (k : ∀ B : Sg, FRC S B a (.inr (ci, vs2)) l z n → Rt (g B) Q) : Rt ((pV A ci (some a) i v).bind g) Q := by
  subst e
  exact Rt.bd (pV_mk f.2.2.1.1 f.2.2.1.2 (Nat.le_of_ble_eq_true hi)) (k _ (f.uf hz))
/-- a new row of numbers -/
theorem FRC.rA {A : Sg} {a z n m : Nat} {c : va_E} {l : List (Nat × va_E)} {g : Sg → Nat → Option (Sg × α)} {Q : Sg → α → Prop} (f : FRC S A a c l z n) (hm : m ≤ 100000) (h1 : z + 1 ≤ R.K.2.1) (h2 : n + m ≤ R.K.2.2) (k : ∀ B : Sg, FRC S B a c ((z, .inl (R.K.1 0, m, .inl (fun _ => 0))) :: l) (z + 1) (n + m) → Rt (g B z) Q) : Rt (bnd (nA R.K A (nI m)) g) Q := by
  have e4 := f.2.2.2.2.1
  have e5 := f.2.2.2.2.2
  refine Rt.be (nA_ok hm ⟨by omega, by omega⟩) ?_
  rw [e4]
  exact k _ f.un
/-- a new row of references -/
theorem FRC.rQ {A : Sg} {a z n m t : Nat} {c : va_E} {l : List (Nat × va_E)} {g : Sg → Nat → Option (Sg × α)} {Q : Sg → α → Prop} (f : FRC S A a c l z n) (hm : m ≤ 100000) (h1 : z + 1 ≤ R.K.2.1) (h2 : n + m ≤ R.K.2.2) (k : ∀ B : Sg, FRC S B a c ((z, .inl (R.K.1 t, m, .inr (.inr (.inr (.inr (fun _ => none)))))) :: l) (z + 1) (n + m) → Rt (g B z) Q) : Rt (bnd (nQ R.K t A (nI m)) g) Q := by
  have e4 := f.2.2.2.2.1
  have e5 := f.2.2.2.2.2
  refine Rt.be (nQ_ok hm ⟨by omega, by omega⟩) ?_
  rw [e4]
  exact k _ f.un
/-- what a new path is -/
def NPA (K : Ky) (S S1 : Sg) (n : Nat) : Prop := FRC S S1 (Zz S) (.inr (18, [.null, .int (nI n), .ref (Zz S + 1), .ref (Zz S + 2)])) [(Zz S + 2, .inl (K.1 4, n + 1, .inr (.inr (.inr (.inr (fun _ => none)))))), (Zz S + 1, .inl (K.1 0, n, .inl (fun _ => 0)))] (Zz S + 3) (Zn S + 4 + n + (n + 1))
/-- a new path of n steps -/
theorem npt_ {n : Nat} {g : Sg → Nat → Option (Sg × α)} {Q : Sg → α → Prop} (hz : ∀ a ∈ ZL S, a < Zz S) (hn : n ≤ 1000) (h1 : Zz S + 3 ≤ R.K.2.1) (h2 : Zn S + 2 * n + 5 ≤ R.K.2.2) (k : ∀ S1 : Sg, NPA R.K S S1 n → Rt (g S1 (Zz S)) Q) : Rt (bnd (nO R.K S 18 4 [.null, .int 0, .null, .null]) fun S5 a6 => bnd (f_X18_init R.K S5 a6 (nI n)) fun S7 _ => g S7 a6) Q := by
  refine FRC.rO hz (by omega) (by omega) (fun A fA => ?_)
  refine Rt.bn (Q := fun S1 _ => NPA R.K S S1 n) ?_ (fun S1 _ q => k S1 q)
  unfold f_X18_init
  refine fA.rP hz rfl rfl (fun B fB => ?_)
  refine fB.rA (by omega) (by omega) (by omega) (fun C fC => ?_)
  refine fC.rP hz rfl rfl (fun D fD => ?_)
  rw [nI_1]
  refine fD.rQ (by omega) (by omega) (by omega) (fun G fG => ?_)
  exact fG.rP hz rfl rfl (fun H fH => Rt.rt fH)
/-- just -/
theorem jst_ {u : Nat} (c : LC R S0 S P h Γ L) (hu : u < 256) (h1 : Zz S + 1 ≤ R.K.2.1) (h2 : Zn S + 1 ≤ R.K.2.2) : Rt (f_just R.K S (nI u)) (fun S1 r => ∃ (a : Nat) (f : Nat → Int32), r = some a ∧ LC R S0 S1 P h Γ L ∧ KX S S1 ∧ a ∈ ZL S1 ∧ ZF S1 a = .inl (R.K.1 0, 1, .inl f) ∧ f 0 = nI u ∧ Zz S1 ≤ Zz S + 1 ∧ Zn S1 ≤ Zn S + 1 ∧ Zq S1 51 u = some a ∧ UsK S0 S S1) := by
  have hz := c.hz
  unfold f_just f_just_27
  refine Rt.bd (rQ_n (show u < rlen 51 from hu) (by decide)) ?_
  rcases c.2.2.2.2.2.1.1 u hu with e | ⟨a, f, e1, e2, e3, e4⟩
  · rw [e]
    refine Rt.ip rfl (Rt.be (nA_ok (n := 1) (by omega) ⟨h1, h2⟩) ?_)
    have w0 : NW S (Un S (.inl (R.K.1 0, 1, .inl (fun _ => 0))) 1) := (NW.rf hz).un
    have c0 := c.nw w0
    generalize hA : Un S (.inl (R.K.1 0, 1, .inl (fun _ => 0))) 1 = A at w0 c0
    have a1 : Zz S ∈ ZL A := by rw [← hA]; exact List.mem_cons_self
    have a2 : ZF A (Zz S) = .inl (R.K.1 0, 1, .inl (fun _ => 0)) := by rw [← hA]; exact ZF_uz
    have a3 : Zz A = Zz S + 1 := by rw [← hA]; rfl
    have a4 : Zn A = Zn S + 1 := by rw [← hA]; rfl
    clear hA
    refine Rt.bd (wA_n (show u < rlen 51 from hu) (by decide) (okA_mk a1 a2)) ?_
    refine Rt.bd (rQ_n (show u < rlen 51 from hu) (by decide)) ?_
    rw [show Zq (Uq A 51 (va_up (Zq A 51) u (some (Zz S)))) 51 u = some (Zz S) by rw [Zq_us, va_up_self]]
    have hno : Zz S ∉ ZL S := fun w => Nat.lt_irrefl _ (hz _ w)
    refine Rt.bd (bI_n (n := 1) (j := 0) (f := fun _ => 0) (v := nI u) (show Zz S ∈ ZL (Uq A 51 (va_up (Zq A 51) u (some (Zz S)))) from a1) a2 (by decide) (by decide)) ?_
    generalize hB : UF (Uq A 51 (va_up (Zq A 51) u (some (Zz S)))) (Zz S) (.inl (R.K.1 0, 1, .inl (upd (fun _ => 0) 0 (nI u)))) = B
    have b1 : Zz S ∈ ZL B := by rw [← hB]; exact a1
    have b2 : ZF B (Zz S) = .inl (R.K.1 0, 1, .inl (upd (fun _ => 0) 0 (nI u))) := by rw [← hB]; exact ZF_s
    have bo : ∀ a ∈ ZL S, a ∈ ZL B ∧ ZF B a = ZF S a := fun a ha => by
      rw [← hB]
      exact ⟨(w0.1 a ha).1, (ZF_n (fun e => by rw [e] at ha; exact hno ha)).trans (w0.1 a ha).2⟩
    have bq : ∀ r : Nat, r ≠ 51 → Zq B r = Zq S r := fun r hr => by rw [← hB]; exact (Zq_un (S := A) hr).trans (congrFun w0.2.2.2.2.1 r)
    have b5 : Zq B 51 = va_up (Zq S 51) u (some (Zz S)) := by rw [← hB]; have e := Zq_us (S := A) (r := 51) (f := va_up (Zq A 51) u (some (Zz S))); rw [show Zq A 51 = Zq S 51 by rw [w0.2.2.2.2.1]] at e ⊢; exact e
    have bz : Zz B = Zz S + 1 ∧ Zn B = Zn S + 1 := by rw [← hB]; exact ⟨a3, a4⟩
    have bi : Zi B = Zi S ∧ Zr B = Zr S ∧ Zl B = Zl S ∧ Zf B = Zf S := by rw [← hB]; exact ⟨w0.2.1, w0.2.2.1, w0.2.2.2.1, w0.2.2.2.2.2.1⟩
    have bh : ∀ a ∈ ZL B, a < Zz B := by rw [← hB]; exact w0.2.2.2.2.2.2.2.2
    clear hB
    have hx : LX S B := ⟨fun a ha => ⟨(bo a ha).1, Or.inl (bo a ha).2⟩, fun _ _ _ _ _ => by rw [bi.1], fun _ _ => by rw [bi.2.1], fun _ _ => by rw [bi.2.2.1], fun r hr => bq r (fun e => hr (Or.inr (Or.inr e))), bi.2.2.2, by omega, by omega⟩
    have hk : KX S B := ⟨fun P L => ⟨hx, fun k _ => ⟨fun _ _ _ => by rw [bi.2.1], by rw [bi.2.2.1], fun r h1 h2 => by rw [bq r (by omega)]⟩, fun l _ => ⟨by rw [bq 43 (by decide)], fun _ _ _ => by rw [bi.2.1]⟩, fun x hx fs e => (bo x hx).2.trans e⟩, bi.2.1, bi.2.2.1, bq, bi.1⟩
    refine Rt.bd (rQ_n (show u < rlen 51 from hu) (by decide)) (Rt.rt ⟨Zz S, _, by rw [b5, va_up_self], ?_, hk, b1, b2, if_pos rfl, by omega, by omega, by rw [b5, va_up_self], ?_⟩)
    rotate_left
    · exact UsK.mk c bo (fun u2 y _ hy e => by
        rw [b5] at e
        by_cases eu : u2 = u
        · subst eu; rw [va_up_self] at e; cases e; exact absurd hy hno
        · rw [va_up_ne _ _ eu] at e; exact e)
    refine ⟨c.1.tr hx, by rw [bi.1]; exact c.2.1, by rw [bi.1]; exact c.2.2.1, by rw [bi.1, bq 49 (by decide)]; exact c.2.2.2.1, by rw [bi.1]; exact c.2.2.2.2.1, ⟨fun x hx2 => ?_, c.2.2.2.2.2.1.2.st hx (fun l _ _ => by rw [bq 43 (by decide)]) (fun l _ _ => Or.inl (by rw [bi.2.1])) (by rw [bi.1])⟩, c.2.2.2.2.2.2.1.st hx (fun a ha _ _ => (bo a ha).2), bh⟩
    rw [b5]
    by_cases ex : x = u
    · subst ex; rw [va_up_self]; exact Or.inr ⟨Zz S, _, rfl, b1, b2, if_pos rfl⟩
    · rw [va_up_ne _ _ ex]
      rcases c.2.2.2.2.2.1.1 x hx2 with q | ⟨a, f, q1, q2, q3, q4⟩
      · exact Or.inl q
      · exact Or.inr ⟨a, f, q1, (bo a q2).1, (bo a q2).2.trans q3, q4⟩
  · rw [e1]
    refine Rt.iq (fun w => by cases w) (Rt.bd (rQ_n (show u < rlen 51 from hu) (by decide)) (Rt.rt ⟨a, f, e1, c, KX.rf, e2, e3, e4, by omega, by omega, e1, UsK.rf⟩))
end LY5
end
-- m0.g.lean.txt
section
section LY6
variable {R : yR} {S0 S S1 A : Sg} {P h L : Nat} {Γ Γ2 : List Nat} {α : Type} {K : Ky}
theorem LX.vv (hx : LX S S1) {ci k : Nat} {o : Option Nat} {v : Value} (h1 : ci ≠ 21) (h2 : ci ≠ 16) (e : ov S ci o k = some v) : ov S1 ci o k = some v := by
  obtain ⟨a, fs, rfl, e2, e3, e4⟩ := ov_of e
  obtain ⟨g1, g2⟩ := hx.ob e2 e3 h1 h2
  exact ov_mk g1 g2 e4
theorem LX.vi (hx : LX S S1) {ci k : Nat} {o : Option Nat} {v : Int32} (h1 : ci ≠ 21) (h2 : ci ≠ 16) (e : oI S ci o k = some v) : oI S1 ci o k = some v := by
  unfold oI at e ⊢
  cases h : ov S ci o k with
  | none => rw [h] at e; cases e
  | some w => rw [h] at e; rw [hx.vv h1 h2 h]; exact e
theorem LX.vr (hx : LX S S1) {ci k : Nat} {o v : Option Nat} (h1 : ci ≠ 21) (h2 : ci ≠ 16) (e : oR S ci o k = some v) : oR S1 ci o k = some v := by
  unfold oR at e ⊢
  cases h : ov S ci o k with
  | none => rw [h] at e; cases e
  | some w => rw [h] at e; rw [hx.vv h1 h2 h]; exact e
/-- bare, depth: in the laying as behind the typing -/
theorem LX.bare2 (hx : LX S S1) : ∀ {m : Nat} {o r : Option Nat}, f_bare_2 K m S o = some (S, r) → f_bare_2 K m S1 o = some (S1, r)
  | 0, _, _, e => by cases e
  | m + 1, o, r, e => by
    unfold f_bare_2 at e ⊢
    cases h : oI S 15 o 0 with
    | none => rw [h] at e; cases e
    | some v =>
      rw [h] at e
      rw [hx.vi (by decide) (by decide) h]
      have e : (if v = 7 then ((oR S 15 o 8).bind fun v2 => f_bare_2 K m S v2) else some (S, o)) = some (S, r) := e
      show (if v = 7 then ((oR S1 15 o 8).bind fun v2 => f_bare_2 K m S1 v2) else some (S1, o)) = some (S1, r)
      by_cases w : v = 7
      · rw [if_pos w] at e ⊢
        cases h2 : oR S 15 o 8 with
        | none => rw [h2] at e; cases e
        | some u =>
          rw [h2] at e
          rw [hx.vr (by decide) (by decide) h2]
          exact hx.bare2 (m := m) e
      · rw [if_neg w] at e ⊢
        cases e; rfl
theorem LX.bare (hx : LX S S1) {o r : Option Nat} (e : f_bare K S o = some (S, r)) : f_bare K S1 o = some (S1, r) := hx.bare2 e
theorem LX.dep7 (hx : LX S S1) : ∀ {n m d : Nat} {e p q v : Nat} {π : List (Nat × Nat)} {x mu mv : Nat}, (∀ a ∈ ZL R.S, a ∈ ZL S) → xPl R S Γ n e p q v π x mu mv → (∃ (kd : Int32) (fs : List Value), ZF S e = .inr (15, fs) ∧ fs[0]? = some (.int kd) ∧ (kd = 2 ∨ kd = 11 ∨ kd = 14)) → n ≤ m → n ≤ 1000 → f_depth_7 K m S1 (nI d) (some e) = some (S1, nI (d + π.length))
  | 0, _, _, _, _, _, _, _, _, _, _, _, h, _, _, _ => h.elim
  | n + 1, 0, _, _, _, _, _, _, _, _, _, _, _, _, hm, _ => absurd hm (by omega)
  | n + 1, m + 1, d, e, p, q, v, π, x, mu, mv, hL, h, hk, hm, hn => by
    obtain ⟨⟨h1, h2, h3⟩, h4, h5⟩ := h
    have hgo : ∀ {o p' q' y m2 w2 : Nat} {π2 : List (Nat × Nat)} {s : Nat × Nat} {kd : Int32} {fs : List Value}, ZF S e = .inr (15, fs) → fs[0]? = some (.int kd) → (kd = 14 ∨ kd = 11) → fs[8]? = some (.ref o) → xPl R S Γ n o p' q' v π2 y m2 w2 → π = π2 ++ [s] → f_depth_7 K (m + 1) S1 (nI d) (some e) = some (S1, nI (d + π.length)) := fun {o p' q' y m2 w2 π2 s kd fs} g1 g2 g3 g4 g5 g6 => by
      obtain ⟨n2, e2, p3, q3, a1, a2, a3, a4, a5, a6⟩ := bare_ (K := K) hL g5 (by omega)
      have a7 := hx.dep7 (m := m) (d := d + 1) hL a3 a6 (by omega) (by omega)
      have a2 := hx.bare a2
      have h25 : f_depth_25 K (f_depth_7 K m) S1 (nI d) (some e) = some (S1, nI (d + π.length)) := by
        unfold f_depth_25
        rw [hx.vr (by decide) (by decide) (oR_mk (hL e h1) g1 (v := some o) g4), Option.bind_some, a2]
        show f_depth_7 K m S1 (nI d + 1) (some e2) = _
        rw [nI_1, a7, g6, List.length_append]
        show some (S1, nI (d + 1 + π2.length)) = some (S1, nI (d + (π2.length + 1)))
        rw [show d + 1 + π2.length = d + (π2.length + 1) by omega]
      unfold f_depth_7
      rw [hx.vi (by decide) (by decide) (oI_mk (hL e h1) g1 g2)]
      show (if kd = 14 then _ else if kd = 11 then _ else _) = _
      rcases g3 with w | w
      · rw [if_pos w]; exact h25
      · rw [if_neg (by rw [w]; decide), if_pos w]; exact h25
    rcases h5 with ⟨ix, nm, k1, k2, k3, k4, k5, k6⟩ | ⟨o, p', q', k1, k2, k3, k4⟩ | ⟨o, p', q', y, m2, w2, kd, π2, k1, k2, k3, k4, k5, k6, k7⟩ | ⟨o, nm, q', y, i, k, w2, π2, k1, k2, k3, k4, k5, k6, k7, k8⟩
    · unfold f_depth_7
      rw [hx.vi (by decide) (by decide) (oI_mk (hL e h1) k1 (v := 2) rfl), Option.bind_some, if_neg (by decide), Option.bind_some, if_neg (by decide), k2]
      rfl
    · obtain ⟨kd, fs, w1, w2, w3⟩ := hk
      rw [k1] at w1; cases w1; cases w2
      exact absurd w3 (by decide)
    · exact hgo k1 rfl (Or.inr rfl) rfl k4 k6
    · exact hgo k1 rfl (Or.inl rfl) rfl k4 k7
/-- isPlace reads exps only -/
theorem LX.isp2 (hx : LX S S1) : ∀ {m : Nat} {o : Option Nat} {r : Int32}, f_isPlace_2 K m S o = some (S, r) → f_isPlace_2 K m S1 o = some (S1, r)
  | 0, _, _, e => by cases e
  | m + 1, none, r, e => by
    unfold f_isPlace_2 at e ⊢
    rw [if_pos rfl] at e ⊢
    unfold f_isPlace_41 f_isPlace_57 f_isPlace_58 at e ⊢
    rw [if_pos rfl] at e ⊢
    exact congrArg (fun z : Option (Sg × Int32) => z.map (fun w => (S1, w.2))) e
  | m + 1, some a, r, e => by
    unfold f_isPlace_2 at e ⊢
    rw [if_neg (fun w => by cases w)] at e ⊢
    cases h : oI S 15 (some a) 0 with
    | none => rw [h] at e; cases e
    | some v =>
      have h2 := hx.vi (by decide) (by decide) h
      have h33 : f_isPlace_33 K (f_isPlace_2 K m) S (some a) = some (S, r) → f_isPlace_33 K (f_isPlace_2 K m) S1 (some a) = some (S1, r) := fun e => by
        unfold f_isPlace_33 at e ⊢
        cases h3 : oR S 15 (some a) 8 with
        | none => rw [h3] at e; cases e
        | some u =>
          rw [h3] at e
          rw [hx.vr (by decide) (by decide) h3]
          exact hx.isp2 (m := m) e
      have h41 : f_isPlace_41 K S (some a) = some (S, r) → f_isPlace_41 K S1 (some a) = some (S1, r) := fun e => by
        unfold f_isPlace_41 f_isPlace_57 f_isPlace_58 at e ⊢
        rw [if_neg (fun w => by cases w), h] at e
        rw [if_neg (fun w => by cases w), h2]
        have e : (if v = 2 then (zB 1).bind (fun _ => some (S, 1)) else (zB 0).bind (fun _ => some (S, 0))) = some (S, r) := e
        show (if v = 2 then (zB 1).bind (fun _ => some (S1, 1)) else (zB 0).bind (fun _ => some (S1, 0))) = some (S1, r)
        by_cases w : v = 2
        · rw [if_pos w] at e ⊢
          exact congrArg (fun z : Option (Sg × Int32) => z.map (fun w => (S1, w.2))) e
        · rw [if_neg w] at e ⊢
          exact congrArg (fun z : Option (Sg × Int32) => z.map (fun w => (S1, w.2))) e
      rw [h] at e
      rw [h2]
      simp only [Option.bind_some] at e ⊢
      by_cases w : v = 7
      · rw [if_pos w] at e ⊢; exact h33 e
      · rw [if_neg w] at e ⊢
        by_cases w : v = 14
        · rw [if_pos w] at e ⊢; exact h33 e
        · rw [if_neg w] at e ⊢
          by_cases w : v = 11
          · rw [if_pos w] at e ⊢; exact h33 e
          · rw [if_neg w] at e ⊢; exact h41 e
end LY6
end
-- m0.h.lean.txt
section
section LY7
variable {R : yR} {S0 S S1 A B : Sg} {P h L : Nat} {Γ Γ2 : List Nat} {α : Type} {K : Ky}
theorem LX.okT (hx : LX S0 S) {x : Nat} (q : ∃ (kd ix : Int32) (o : Option Nat), isTy S0 x kd ix o) : okO S 20 (some x) = true := by
  obtain ⟨kd, ix, o, t, q1, q2, q3, q4⟩ := q
  obtain ⟨g1, g2⟩ := hx.ob q3 q4 (by decide) (by decide)
  exact okO_mk g1 g2
theorem pV_e {ci k a : Nat} {fs f2 : List Value} {v : Value} (ha : a ∈ ZL S) (hF : ZF S a = .inr (ci, fs)) (hk : Nat.ble (k + 1) fs.length = true) (e : fs.set k v = f2) : pV S ci (some a) k v = some (UF S a (.inr (ci, f2))) := by
  subst e; exact pV_mk ha hF (Nat.le_of_ble_eq_true hk)
/-- the whole path of a variable is being made -/
def WB (K : Ky) (S B : Sg) (a w : Nat) (vs : List Value) (cw ct : va_E) : Prop := (∀ b ∈ ZL S, b ∈ ZL B ∧ (b ≠ a → ZF B b = ZF S b)) ∧ (a ∈ ZL B ∧ ZF B a = .inr (21, vs)) ∧ (Zi B = Zi S ∧ Zr B = Zr S ∧ Zl B = Zl S ∧ Zq B = Zq S ∧ Zf B = Zf S) ∧ (∀ x ∈ ZL B, x < Zz B) ∧ (Zz B = Zz S + 3 ∧ Zn B = Zn S + 5) ∧ (w = Zz S ∧ a < Zz S ∧ ∀ b ∈ ZL S, b < Zz S) ∧ (w ∈ ZL B ∧ ZF B w = cw) ∧ (w + 1 ∈ ZL B ∧ ZF B (w + 1) = .inl (K.1 0, 0, .inl (fun _ => 0))) ∧ (w + 2 ∈ ZL B ∧ ZF B (w + 2) = ct)
theorem WB.uw {a w : Nat} {vs : List Value} {cw ct c2 : va_E} (q : WB K S B a w vs cw ct) : WB K S (UF B w c2) a w vs c2 ct := by
  obtain ⟨q1, q2, q3, q4, q5, ⟨q6, q7, q0⟩, q8, q9, q10⟩ := q
  exact ⟨fun b hb => ⟨(q1 b hb).1, fun w => (ZF_n (by have := q0 b hb; omega)).trans ((q1 b hb).2 w)⟩, ⟨q2.1, (ZF_n (by omega)).trans q2.2⟩, q3, q4, q5, ⟨q6, q7, q0⟩, ⟨q8.1, ZF_s⟩, ⟨q9.1, (ZF_n (by omega)).trans q9.2⟩, ⟨q10.1, (ZF_n (by omega)).trans q10.2⟩⟩
theorem WB.ut {a w : Nat} {vs : List Value} {cw ct c2 : va_E} (q : WB K S B a w vs cw ct) : WB K S (UF B (w + 2) c2) a w vs cw c2 := by
  obtain ⟨q1, q2, q3, q4, q5, ⟨q6, q7, q0⟩, q8, q9, q10⟩ := q
  exact ⟨fun b hb => ⟨(q1 b hb).1, fun w => (ZF_n (by have := q0 b hb; omega)).trans ((q1 b hb).2 w)⟩, ⟨q2.1, (ZF_n (by omega)).trans q2.2⟩, q3, q4, q5, ⟨q6, q7, q0⟩, ⟨q8.1, (ZF_n (by omega)).trans q8.2⟩, ⟨q9.1, (ZF_n (by omega)).trans q9.2⟩, ⟨q10.1, ZF_s⟩⟩
/-- .. its field of the variable is written -/
theorem WB.o1 {a : Nat} {vs : List Value} (q : NPA K S A 0) (hz : ∀ b ∈ ZL S, b < Zz S) (ha : a ∈ ZL S) : WB K S (UF A a (.inr (21, vs))) a (Zz S) vs (.inr (18, [.null, .int (nI 0), .ref (Zz S + 1), .ref (Zz S + 2)])) (.inl (K.1 4, 1, .inr (.inr (.inr (.inr (fun _ => none)))))) := by
  obtain ⟨w, _, q2, q3, q4, q5⟩ := q
  have hl := hz a ha
  have t2 := q3 _ (List.mem_cons_self)
  have t1 := q3 _ (List.mem_cons_of_mem _ List.mem_cons_self)
  exact ⟨fun b hb => ⟨(w.1 b hb).1, fun e => (ZF_n e).trans (w.1 b hb).2⟩, ⟨(w.1 a ha).1, ZF_s⟩, ⟨w.2.1, w.2.2.1, w.2.2.2.1, w.2.2.2.2.1, w.2.2.2.2.2.1⟩, w.2.2.2.2.2.2.2.2, ⟨q4, q5⟩, ⟨rfl, hl, hz⟩, ⟨q2.1, (ZF_n (by omega)).trans q2.2⟩, ⟨t1.2.1, (ZF_n (by show Zz S + 1 ≠ a; omega)).trans t1.2.2⟩, ⟨t2.2.1, (ZF_n (by show Zz S + 2 ≠ a; omega)).trans t2.2.2⟩⟩
/-- .. at the end -/
theorem WB.fin {a w ix : Nat} {nm mu : Int32} {ty : Option Nat} {g : Nat → Option Nat} (q : WB R.K S B a w [.int (nI ix), .int nm, va_rf ty, .int mu, .ref w] (.inr (18, [.ref a, .int (nI 0), .ref (w + 1), .ref (w + 2)])) (.inl (R.K.1 4, 1, .inr (.inr (.inr (.inr g)))))) (hg : g 0 = ty) (hV : isV S0 a ix nm ty mu) (c : LC R S0 S P h Γ L) (ha : ZF S a = .inr (21, [.int (nI ix), .int nm, va_rf ty, .int mu, .null])) : LC R S0 B P h Γ L ∧ KX S B ∧ whP R B a w ty ∧ UsK S0 S B ∧ PN S0 S B w := by
  obtain ⟨q1, q2, ⟨i1, i2, i3, i4, i5⟩, q4, ⟨z1, z2⟩, ⟨q6, q7, q0⟩, q8, q9, q10⟩ := q
  have hx : LX S B := by
    refine ⟨fun b hb => ⟨(q1 b hb).1, ?_⟩, fun _ _ _ _ _ => by rw [i1], fun _ _ => by rw [i2], fun _ _ => by rw [i3], fun _ _ => by rw [i4], i5, by omega, by omega⟩
    by_cases e : b = a
    · subst e
      refine Or.inr ⟨21, _, _, ha, q2.2, rfl, Or.inl ⟨rfl, fun l hl => ?_⟩⟩
      rcases l with _ | _ | _ | _ | _ | l
      · rfl
      · rfl
      · rfl
      · rfl
      · exact absurd rfl hl
      · rfl
    · exact Or.inl ((q1 b hb).2 e)
  have hw : whP R B a w ty := ⟨w + 1, w + 2, _, g, q8.1, q8.2, q9, q10, hg⟩
  refine ⟨⟨c.1.tr hx, by rw [i1]; exact c.2.1, by rw [i1]; exact c.2.2.1, by rw [i1, i4]; exact c.2.2.2.1, by rw [i1]; exact c.2.2.2.2.1, c.2.2.2.2.2.1.st hx (by rw [i4]) (c.2.2.2.2.2.1.2.st hx (fun l _ _ => by rw [i4]) (fun l _ _ => Or.inl (by rw [i2])) (by rw [i1])), ?_, q4⟩, ⟨fun P L => ⟨hx, fun k _ => ⟨fun _ _ _ => by rw [i2], by rw [i3], fun _ _ _ => by rw [i4]⟩, fun l _ => ⟨by rw [i4], fun _ _ _ => by rw [i2]⟩, fun x hx fs e => ((q1 x hx).2 (fun w => by rw [w, ha] at e; cases e)).trans e⟩, i2, i3, fun _ _ => by rw [i4], i1⟩, hw, fun y hy hU => ?_, fun gs y e1 e2 hy => ?_⟩
  rotate_left
  · rcases hU with ⟨u, h1, h2⟩ | ⟨v, jx, jn, jt, jm, w', fs, gs, h1, h2, h3, h4, h5⟩
    · rw [i4] at h2; exact Or.inl ⟨u, h1, h2⟩
    · by_cases e : v = a
      · subst e
        rw [q2.2] at h2; cases h2
        cases h3
        rw [q8.2] at h4; cases h4
        cases h5
        have := q0 _ hy; omega
      · obtain ⟨wh, w1, w2, w3⟩ := c.2.2.2.2.2.2.1 v jx jn jt jm h1
        rw [(q1 v w1).2 e] at h2
        have e4 : fs[4]? = some wh := by rw [w2] at h2; cases h2; rfl
        rw [e4] at h3; cases h3
        rcases w3 with w3 | ⟨w'', w4, w5⟩
        · cases w3
        · cases w4
          obtain ⟨_, _, _, _, w6, w7, _⟩ := w5
          have ne : w' ≠ a := fun z => by subst z; rw [ha] at w7; cases w7
          rw [(q1 w' w6).2 ne] at h4
          exact Or.inr ⟨v, jx, jn, jt, jm, w', fs, gs, h1, h2, e4, h4, h5⟩
  · rw [q8.2] at e1; cases e1
    cases e2
    have := q0 _ hy; omega
  intro a2 ix2 nm2 ty2 mu2 hV2
  by_cases e : a2 = a
  · subst e
    have e2 := hV2.2.symm.trans hV.2
    obtain ⟨e3, e4⟩ := Prod.mk.inj (Sum.inr.inj e2)
    injection e4 with a1 e4
    injection e4 with a2 e4
    injection e4 with a3 e4
    injection e4 with a4 e4
    have e5 : ty2 = ty := va_rf_inj a3
    subst e5
    exact ⟨.ref w, q2.1, by rw [a1, a2, a4]; exact q2.2, Or.inr ⟨w, rfl, hw⟩⟩
  · obtain ⟨wh, w1, w2, w3⟩ := c.2.2.2.2.2.2.1 a2 ix2 nm2 ty2 mu2 hV2
    exact ⟨wh, (q1 a2 w1).1, ((q1 a2 w1).2 e).trans w2, w3.imp id (fun ⟨w, k1, k2⟩ => ⟨w, k1, k2.st hx⟩)⟩
/-- wholeOf -/
theorem whl_ {a ix : Nat} {nm mu : Int32} {ty : Option Nat} (c : LC R S0 S P h Γ L) (hV : isV S0 a ix nm ty mu) (ht : ∀ x : Nat, ty = some x → ∃ (kd ix : Int32) (o : Option Nat), isTy S0 x kd ix o) (h1 : Zz S + 3 ≤ R.K.2.1) (h2 : Zn S + 5 ≤ R.K.2.2) : Rt (f_wholeOf R.K S (some a)) (fun S1 r => ∃ w : Nat, r = some w ∧ LC R S0 S1 P h Γ L ∧ KX S S1 ∧ whP R S1 a w ty ∧ Zz S1 ≤ Zz S + 3 ∧ Zn S1 ≤ Zn S + 5 ∧ UsK S0 S S1 ∧ PN S0 S S1 w) := by
  obtain ⟨wh, v1, v2, v3⟩ := c.2.2.2.2.2.2.1 a ix nm ty mu hV
  have hz := c.hz
  unfold f_wholeOf f_wholeOf_40
  rcases v3 with rfl | ⟨w, rfl, v3⟩
  · refine Rt.bd (oR_mk v1 v2 (v := none) rfl) (Rt.ip rfl ?_)
    refine npt_ (n := 0) hz (by decide) h1 (by omega) (fun A qA => ?_)
    have wA := qA.1
    refine Rt.bd (pV_e (f2 := [.int (nI ix), .int nm, va_rf ty, .int mu, .ref (Zz S)]) (wA.1 a v1).1 ((wA.1 a v1).2.trans v2) rfl rfl) ?_
    have w1 : WB R.K S (UF A a (.inr (21, [.int (nI ix), .int nm, va_rf ty, .int mu, .ref (Zz S)]))) a (Zz S) _ _ _ := WB.o1 qA hz v1
    generalize UF A a (.inr (21, [.int (nI ix), .int nm, va_rf ty, .int mu, .ref (Zz S)])) = B at w1
    refine Rt.bd (oR_mk w1.2.1.1 w1.2.1.2 (v := some (Zz S)) rfl) ?_
    refine Rt.bd (pV_e (f2 := [.ref a, .int (nI 0), .ref (Zz S + 1), .ref (Zz S + 2)]) w1.2.2.2.2.2.2.1.1 w1.2.2.2.2.2.2.1.2 rfl rfl) ?_
    have w2 : WB R.K S (UF B (Zz S) (.inr (18, [.ref a, .int (nI 0), .ref (Zz S + 1), .ref (Zz S + 2)]))) a (Zz S) _ _ _ := w1.uw
    generalize UF B (Zz S) (.inr (18, [.ref a, .int (nI 0), .ref (Zz S + 1), .ref (Zz S + 2)])) = C at w2
    refine Rt.bd (oR_mk w2.2.1.1 w2.2.1.2 (v := some (Zz S)) rfl) (Rt.bd (oR_mk w2.2.2.2.2.2.2.1.1 w2.2.2.2.2.2.2.1.2 (v := some (Zz S + 2)) rfl) (Rt.bd (oR_mk w2.2.1.1 w2.2.1.2 (v := ty) rfl) ?_))
    have hok : okO C 20 ty = true := by
      cases ty with
      | none => rfl
      | some x =>
        obtain ⟨kd, ix2, o, t, q1, q2, q3, q4⟩ := ht x rfl
        obtain ⟨g1, g2⟩ := c.1.ob q3 q4 (by decide) (by decide)
        refine okO_mk (w2.1 x g1).1 (((w2.1 x g1).2 (fun e => ?_)).trans g2)
        subst e
        rw [v2] at g2
        cases g2
    refine Rt.bd (bQ_n (j := 0) w2.2.2.2.2.2.2.2.2.1 w2.2.2.2.2.2.2.2.2.2 (by decide) (by decide) hok) ?_
    have w3 : WB R.K S (UF C (Zz S + 2) (.inl (R.K.1 4, 1, .inr (.inr (.inr (.inr (va_up (fun _ => none) 0 ty))))))) a (Zz S) _ _ _ := w2.ut
    generalize UF C (Zz S + 2) (.inl (R.K.1 4, 1, .inr (.inr (.inr (.inr (va_up (fun _ => none) 0 ty)))))) = D at w3
    obtain ⟨r1, r2, r3, r4, r5⟩ := w3.fin (va_up_self _ _ _) hV c v2
    exact Rt.bd (oR_mk w3.2.1.1 w3.2.1.2 (v := some (Zz S)) rfl) (Rt.rt ⟨Zz S, rfl, r1, r2, r3, by have := w3.2.2.2.2.1.1; omega, by have := w3.2.2.2.2.1.2; omega, r4, r5⟩)
  · refine Rt.bd (oR_mk v1 v2 (v := some w) rfl) (Rt.iq (fun e => by cases e) (Rt.bd (oR_mk v1 v2 (v := some w) rfl) (Rt.rt ⟨w, rfl, c, KX.rf, v3, by omega, by omega, UsK.rf, fun gs y e1 e2 _ => Or.inr ⟨a, ix, nm, ty, mu, w, _, gs, hV, v2, rfl, e1, e2⟩⟩)))
end LY7
end
-- m0.i.lean.txt
section
section LY8
variable {R : yR} {S0 S S1 A B : Sg} {P h L : Nat} {Γ Γ2 : List Nat} {α : Type} {K : Ky}
theorem nI_le0 {a : Nat} (h : a ≤ 100000) (q : nI a ≤ 0) : a = 0 := by
  have e : (nI a).toInt = (a : Int) := Int32.toInt_ofNat_of_lt (by omega)
  have g := Int32.le_iff_toInt_le.mp q
  rw [e] at g
  have : (0 : Int32).toInt = 0 := rfl
  omega
/-- a path w of N steps is being made -/
def PBd (K : Ky) (S A : Sg) (w N : Nat) (va : Value) (f : Nat → Int32) (g : Nat → Option Nat) (z m : Nat) : Prop := NW S A ∧ (w ∉ ZL S ∧ w + 1 ∉ ZL S ∧ w + 2 ∉ ZL S) ∧ (w ∈ ZL A ∧ ZF A w = .inr (18, [va, .int (nI N), .ref (w + 1), .ref (w + 2)])) ∧ (w + 1 ∈ ZL A ∧ ZF A (w + 1) = .inl (K.1 0, N, .inl f)) ∧ (w + 2 ∈ ZL A ∧ ZF A (w + 2) = .inl (K.1 4, N + 1, .inr (.inr (.inr (.inr g))))) ∧ Zz A = z ∧ Zn A = m
theorem PBd.o1 {n : Nat} (q : NPA K S A n) (hz : ∀ b ∈ ZL S, b < Zz S) : PBd K S A (Zz S) n .null (fun _ => 0) (fun _ => none) (Zz S + 3) (Zn S + 4 + n + (n + 1)) := by
  obtain ⟨w, _, q2, q3, q4, q5⟩ := q
  have t2 := q3 _ (List.mem_cons_self)
  have t1 := q3 _ (List.mem_cons_of_mem _ List.mem_cons_self)
  exact ⟨w, ⟨fun e => by have := hz _ e; omega, fun e => by have := hz _ e; omega, fun e => by have := hz _ e; omega⟩, q2, t1.2, t2.2, q4, q5⟩
theorem PBd.wo {w N z m : Nat} {va v2 : Value} {f : Nat → Int32} {g : Nat → Option Nat} (q : PBd K S A w N va f g z m) : PBd K S (UF A w (.inr (18, [v2, .int (nI N), .ref (w + 1), .ref (w + 2)]))) w N v2 f g z m := by
  obtain ⟨q1, q2, q3, q4, q5, q6⟩ := q
  exact ⟨q1.uF q2.1, q2, ⟨q3.1, ZF_s⟩, ⟨q4.1, (ZF_n (by omega)).trans q4.2⟩, ⟨q5.1, (ZF_n (by omega)).trans q5.2⟩, q6⟩
theorem PBd.wf {w N z m : Nat} {va : Value} {f f2 : Nat → Int32} {g : Nat → Option Nat} (q : PBd K S A w N va f g z m) : PBd K S (UF A (w + 1) (.inl (K.1 0, N, .inl f2))) w N va f2 g z m := by
  obtain ⟨q1, q2, q3, q4, q5, q6⟩ := q
  exact ⟨q1.uF q2.2.1, q2, ⟨q3.1, (ZF_n (by omega)).trans q3.2⟩, ⟨q4.1, ZF_s⟩, ⟨q5.1, (ZF_n (by omega)).trans q5.2⟩, q6⟩
theorem PBd.wg {w N z m : Nat} {va : Value} {f : Nat → Int32} {g g2 : Nat → Option Nat} (q : PBd K S A w N va f g z m) : PBd K S (UF A (w + 2) (.inl (K.1 4, N + 1, .inr (.inr (.inr (.inr g2)))))) w N va f g2 z m := by
  obtain ⟨q1, q2, q3, q4, q5, q6⟩ := q
  exact ⟨q1.uF q2.2.2, q2, ⟨q3.1, (ZF_n (by omega)).trans q3.2⟩, ⟨q4.1, (ZF_n (by omega)).trans q4.2⟩, ⟨q5.1, ZF_s⟩, q6⟩
/-- the steps and types of a way -/
def wyT (R : yR) (S0 : Sg) (f : Nat → Int32) (g : Nat → Option Nat) (π : List (Nat × Nat)) (x : Nat) : Prop := (∀ (j : Nat) (s : Nat × Nat), π[j]? = some s → f j = sCo s ∧ ∃ x y : Nat, g j = some x ∧ g (j + 1) = some y ∧ stY2 R S0 x s y) ∧ (∀ j x : Nat, j ≤ π.length → g j = some x → rTy S0 x) ∧ g π.length = some x
theorem wyT.ap {f : Nat → Int32} {g : Nat → Option Nat} {π : List (Nat × Nat)} {s : Nat × Nat} {y x : Nat} (q : wyT R S0 f g π y) (h1 : f π.length = sCo s) (h2 : g (π.length + 1) = some x) (h3 : stY2 R S0 y s x) (h4 : rTy S0 x) : wyT R S0 f g (π ++ [s]) x := by
  have hl : (π ++ [s]).length = π.length + 1 := by rw [List.length_append]; rfl
  refine ⟨fun j t e => ?_, fun j u hj e => ?_, by rw [hl]; exact h2⟩
  · have hj : j < π.length + 1 := by rw [← hl]; exact (List.getElem?_eq_some_iff.mp e).1
    by_cases w : j < π.length
    · rw [List.getElem?_append_left w] at e; exact q.1 j t e
    · have w2 : j = π.length := by omega
      subst w2
      rw [List.getElem?_append_right (Nat.le_refl _), Nat.sub_self] at e
      cases e
      exact ⟨h1, y, x, q.2.2, h2, h3⟩
  · rw [hl] at hj
    by_cases w : j ≤ π.length
    · exact q.2.1 j u w e
    · have w2 : j = π.length + 1 := by omega
      subst w2
      rw [h2] at e; cases e; exact h4
/-- the types behind the typing are there -/
def RIn (R : yR) (S0 : Sg) : Prop := ∀ a ∈ ZL R.S, a ∈ ZL S0
/-- the loop of pathOf -/
theorem pt35 {w N z m : Nat} (c : LC R S0 S P h Γ2 L) (hL : RIn R S0) (hN : N ≤ 1000) : ∀ {n k : Nat} {A : Sg} {e p q v : Nat} {π : List (Nat × Nat)} {x mu mv : Nat} {va : Value} {f : Nat → Int32} {g : Nat → Option Nat}, PBd R.K S A w N va f g z m → xPl R S0 Γ n e p q v π x mu mv → (∃ (kd : Int32) (fs : List Value), ZF S0 e = .inr (15, fs) ∧ fs[0]? = some (.int kd) ∧ (kd = 2 ∨ kd = 11 ∨ kd = 14)) → n ≤ k → n ≤ 1000 → π.length ≤ N → Rt (f_pathOf_35 R.K k A (some e) (some w) (nI π.length)) (fun A2 r => r = some w ∧ ∃ (f2 : Nat → Int32) (g2 : Nat → Option Nat) (ix tv : Nat) (nm mt : Int32), PBd R.K S A2 w N (.ref v) f2 g2 z m ∧ wyT R S0 f2 g2 π x ∧ isV S0 v ix nm (some tv) mt ∧ g2 0 = some tv ∧ v ∈ Γ ∧ (∀ j : Nat, π.length ≤ j → f2 j = f j) ∧ ∀ j : Nat, π.length < j → g2 j = g j)
  | 0, _, _, _, _, _, _, _, _, _, _, _, _, _, _, h, _, _, _, _ => h.elim
  | n + 1, 0, _, _, _, _, _, _, _, _, _, _, _, _, _, _, _, hm, _, _ => absurd hm (by omega)
  | n + 1, k + 1, A, e, p, q, v, π, x, mu, mv, va, f, g, b, h, hk, hm, hn, hp => by
    obtain ⟨⟨h1, h2, h3⟩, h4, h5⟩ := h
    have hx : LX S0 A := c.1.tr (b.1.lz (P := 0) (L := 0)).1
    have hrd : ∀ {l : Nat} {o : Option Nat} {fs : List Value}, ZF S0 e = .inr (15, fs) → fs[l]? = some (va_rf o) → oR A 15 (some e) l = some o := fun g1 g2 => hx.vr (by decide) (by decide) (oR_mk (hL e h1) g1 g2)
    have hri : ∀ {l : Nat} {o : Int32} {fs : List Value}, ZF S0 e = .inr (15, fs) → fs[l]? = some (.int o) → oI A 15 (some e) l = some o := fun g1 g2 => hx.vi (by decide) (by decide) (oI_mk (hL e h1) g1 g2)
    have hgo : ∀ {o p' q' y m2 w2 : Nat} {π2 : List (Nat × Nat)} {s : Nat × Nat} {kd : Int32} {fs : List Value}, ZF S0 e = .inr (15, fs) → fs[0]? = some (.int kd) → fs[12]? = some (.ref x) → ((kd = 14 ∧ fs[4]? = some (.int (sCo s))) ∨ (kd = 11 ∧ sCo s = -1)) → fs[8]? = some (.ref o) → xPl R S0 Γ n o p' q' v π2 y m2 w2 → π = π2 ++ [s] → stY2 R S0 y s x → Rt (f_pathOf_35 R.K (k + 1) A (some e) (some w) (nI π.length)) (fun A2 r => r = some w ∧ ∃ (f2 : Nat → Int32) (g2 : Nat → Option Nat) (ix tv : Nat) (nm mt : Int32), PBd R.K S A2 w N (.ref v) f2 g2 z m ∧ wyT R S0 f2 g2 π x ∧ isV S0 v ix nm (some tv) mt ∧ g2 0 = some tv ∧ v ∈ Γ ∧ (∀ j : Nat, π.length ≤ j → f2 j = f j) ∧ ∀ j : Nat, π.length < j → g2 j = g j) := fun {o p' q' y m2 w2 π2 s kd fs} g1 g2 g12 g3 g4 g5 g6 g7 => by
      have hl : π.length = π2.length + 1 := by rw [g6, List.length_append]; rfl
      obtain ⟨n2, e2, p3, q3, a1, a2, a3, a4, a5, a6⟩ := bare_ (K := R.K) hL g5 (by omega)
      unfold f_pathOf_35
      rw [hl]
      refine Rt.iq (fun q => absurd (nI_le0 (by omega) q) (by omega)) ?_
      refine Rt.bd (oR_mk b.2.2.1.1 b.2.2.1.2 (v := some (w + 2)) rfl) (Rt.bd (hrd g1 (o := some x) g12) ?_)
      have hok : okO A 20 (some x) = true := hx.okT (by obtain ⟨kd, ix, o, q, _⟩ := h4.ty; exact ⟨kd, ix, o, q⟩)
      refine Rt.bd (bQ_n (j := π2.length + 1) b.2.2.2.2.1.1 b.2.2.2.2.1.2 (by omega) (by omega) hok) ?_
      have b1 := b.wg (g2 := va_up g (π2.length + 1) (some x))
      have l1 : LX A (UF A (w + 2) (.inl (R.K.1 4, N + 1, .inr (.inr (.inr (.inr (va_up g (π2.length + 1) (some x)))))))) ∨ True := Or.inr trivial
      generalize UF A (w + 2) (.inl (R.K.1 4, N + 1, .inr (.inr (.inr (.inr (va_up g (π2.length + 1) (some x))))))) = B at b1
      clear l1
      have hxB : LX S0 B := c.1.tr (b1.1.lz (P := 0) (L := 0)).1
      have hrB : ∀ {l : Nat} {o : Option Nat}, fs[l]? = some (va_rf o) → oR B 15 (some e) l = some o := fun g2 => hxB.vr (by decide) (by decide) (oR_mk (hL e h1) g1 g2)
      have hiB : ∀ {l : Nat} {o : Int32}, fs[l]? = some (.int o) → oI B 15 (some e) l = some o := fun g2 => hxB.vi (by decide) (by decide) (oI_mk (hL e h1) g1 g2)
      refine Rt.bd (oR_mk b1.2.2.1.1 b1.2.2.1.2 (v := some (w + 1)) rfl) (Rt.bd (hiB g2) ?_)
      have es : nI (π2.length + 1) - 1 = nI π2.length := by rw [nI_sb1 (by omega)]; rfl
      have ed : nI (π2.length + 1) + (-1) = nI π2.length := by rw [← es]; exact (Int32.sub_eq_add_neg ..).symm
      have h78 : Rt (f_pathOf_78 R.K (f_pathOf_35 R.K k) B (some e) (some w) (nI (π2.length + 1)) (sCo s) (nI (π2.length + 1) - 1) (some (w + 1))) (fun A2 r => r = some w ∧ ∃ (f2 : Nat → Int32) (g2 : Nat → Option Nat) (ix tv : Nat) (nm mt : Int32), PBd R.K S A2 w N (.ref v) f2 g2 z m ∧ wyT R S0 f2 g2 π x ∧ isV S0 v ix nm (some tv) mt ∧ g2 0 = some tv ∧ v ∈ Γ ∧ (∀ j : Nat, π.length ≤ j → f2 j = f j) ∧ ∀ j : Nat, π.length < j → g2 j = g j) := by
        unfold f_pathOf_78
        rw [es, ed]
        refine Rt.bd (bI_n (j := π2.length) b1.2.2.2.1.1 b1.2.2.2.1.2 (by omega) (by omega)) ?_
        have b2 := b1.wf (f2 := upd f π2.length (sCo s))
        generalize UF B (w + 1) (.inl (R.K.1 0, N, .inl (upd f π2.length (sCo s)))) = C at b2
        have hxC : LX S0 C := c.1.tr (b2.1.lz (P := 0) (L := 0)).1
        refine Rt.bd (hxC.vr (by decide) (by decide) (oR_mk (hL e h1) g1 (v := some o) g4)) (Rt.be (hxC.bare a2) ?_)
        refine Rt.mo (pt35 c hL hN b2 a3 a6 (by omega) (by omega) (by omega)) (fun A2 r t => ?_)
        obtain ⟨t1, f2, g2, ix, tv, nm, mt, t2, t3, t4, t5, t6, t7, t8⟩ := t
        refine ⟨t1, f2, g2, ix, tv, nm, mt, t2, ?_, t4, t5, t6, fun j hj => ?_, fun j hj => ?_⟩
        · rw [g6]
          exact t3.ap ((t7 _ (Nat.le_refl _)).trans (if_pos rfl)) ((t8 _ (Nat.lt_succ_self _)).trans (va_up_self _ _ _)) g7 h4
        · rw [t7 j (by omega)]; exact if_neg (by omega)
        · rw [t8 j (by omega)]; exact va_up_ne _ _ (by omega)
      rw [hl] at h78
      rcases g3 with ⟨k1, k2⟩ | ⟨k1, k2⟩
      · exact Rt.iq (by rw [k1]; decide) (Rt.bd (hiB k2) h78)
      · rw [k2] at h78
        exact Rt.ip k1 h78
    rcases h5 with ⟨ix, nm, k1, k2, k3, k4, k5, k6⟩ | ⟨o, p', q', k1, k2, k3, k4⟩ | ⟨o, p', q', y, m2, w2, kd, π2, k1, k2, k3, k4, k5, k6, k7⟩ | ⟨o, nm, q', y, i, kf, w2, π2, k1, k2, k3, k4, k5, k6, k7, k8⟩
    · subst k2
      unfold f_pathOf_35
      refine Rt.ip (by decide) (Rt.bd (oR_mk b.2.2.1.1 b.2.2.1.2 (v := some (w + 2)) rfl) (Rt.bd (hrd k1 (o := some v) rfl) ?_))
      obtain ⟨wh, v1, v2, v3⟩ := (c.nw b.1).2.2.2.2.2.2.1 v ix nm (some x) _ k4
      have hok : okO A 20 (some x) = true := hx.okT (by obtain ⟨kd, ix, o, q, _⟩ := h4.ty; exact ⟨kd, ix, o, q⟩)
      refine Rt.bd (oR_mk v1 v2 (v := some x) rfl) (Rt.bd (bQ_n (j := 0) b.2.2.2.2.1.1 b.2.2.2.2.1.2 (by omega) (by omega) hok) ?_)
      have b1 := b.wg (g2 := va_up g 0 (some x))
      generalize UF A (w + 2) (.inl (R.K.1 4, N + 1, .inr (.inr (.inr (.inr (va_up g 0 (some x))))))) = B at b1
      have hxB : LX S0 B := c.1.tr (b1.1.lz (P := 0) (L := 0)).1
      refine Rt.bd (hxB.vr (by decide) (by decide) (oR_mk (hL e h1) k1 (v := some v) rfl)) (Rt.bd (pV_e (f2 := [.ref v, .int (nI N), .ref (w + 1), .ref (w + 2)]) b1.2.2.1.1 b1.2.2.1.2 rfl rfl) (Rt.rt ⟨rfl, f, va_up g 0 (some x), ix, x, nm, _, b1.wo, ⟨(fun j s e => nomatch e), fun j u hj e => ?_, va_up_self _ _ _⟩, k4, va_up_self _ _ _, k3, fun _ _ => rfl, fun j hj => va_up_ne _ _ (Nat.ne_of_gt hj)⟩))
      have hj : j = 0 := Nat.le_zero.mp hj
      subst hj
      rw [va_up_self] at e; cases e; exact h4
    · obtain ⟨kd, fs, w1, w2, w3⟩ := hk
      rw [k1] at w1; cases w1; cases w2
      exact absurd w3 (by decide)
    · exact hgo k1 rfl rfl (Or.inr ⟨rfl, rfl⟩) rfl k4 k6 (Or.inl ⟨rfl, kd, k7.imp (fun w => w.1) (fun w => w.imp (fun w => w.1) (fun w => w.1)), k5⟩)
    · exact hgo (s := (0, kf)) k1 rfl rfl (Or.inl ⟨rfl, rfl⟩) rfl k4 k7 (Or.inr (Or.inl ⟨i, kf, rfl, k5, k6⟩))
/-- a path: object w, variable va of number ix and type tv, the way, the type it leads to -/
def isPw (R : yR) (S0 S : Sg) (w va ix tv : Nat) (ρ : List (Nat × Nat)) (x : Nat) : Prop := ∃ (sa ta : Nat) (f : Nat → Int32) (g : Nat → Option Nat), w ∈ ZL S ∧ ZF S w = .inr (18, [.ref va, .int (nI ρ.length), .ref sa, .ref ta]) ∧ (sa ∈ ZL S ∧ ZF S sa = .inl (R.K.1 0, ρ.length, .inl f)) ∧ (ta ∈ ZL S ∧ ZF S ta = .inl (R.K.1 4, ρ.length + 1, .inr (.inr (.inr (.inr g))))) ∧ wyT R S0 f g ρ x ∧ g 0 = some tv ∧ ∃ nm mt : Int32, isV S0 va ix nm (some tv) mt
theorem isPw.st {w va ix tv x : Nat} {ρ : List (Nat × Nat)} (hx : LX S S1) (q : isPw R S0 S w va ix tv ρ x) : isPw R S0 S1 w va ix tv ρ x := by
  obtain ⟨sa, ta, f, g, q1, q2, q3, q4, q5⟩ := q
  obtain ⟨h1, h2⟩ := hx.ob q1 q2 (by decide) (by decide)
  exact ⟨sa, ta, f, g, h1, h2, hx.ro q3.1 q3.2, hx.ro q4.1 q4.2, q5⟩
theorem isPw.pt {w va ix tv x : Nat} {ρ : List (Nat × Nat)} (c : LC R S0 S P h Γ L) (hl : ρ.length ≤ 5) (q : isPw R S0 S w va ix tv ρ x) : isPt R S0 S w ix ρ (abT S0 x) := by
  obtain ⟨sa, ta, f, g, q1, q2, q3, q4, q5, q6, nm, mt, q7⟩ := q
  obtain ⟨wh, v1, v2, v3⟩ := c.2.2.2.2.2.2.1 va ix nm (some tv) mt q7
  exact ⟨va, sa, ta, f, g, mt, q1, q2, ⟨v1, nm, wh, by rw [q6]; exact v2⟩, q3, q4, q5.1, q5.2.1, by rw [q5.2.2]; rfl, hl⟩
theorem isPw.va {w va ix tv x : Nat} {ρ : List (Nat × Nat)} (q : isPw R S0 S w va ix tv ρ x) : pVa S w va := by
  obtain ⟨_, _, _, _, _, q2, _⟩ := q
  exact ⟨_, q2, rfl⟩
theorem PBd.pw {w N z m v ix tv x : Nat} {f : Nat → Int32} {g : Nat → Option Nat} {π : List (Nat × Nat)} {nm mt : Int32} (b : PBd R.K S A w N (.ref v) f g z m) (hN : N = π.length) (hw : wyT R S0 f g π x) (hV : isV S0 v ix nm (some tv) mt) (hg : g 0 = some tv) : isPw R S0 A w v ix tv π x := by
  subst hN
  exact ⟨w + 1, w + 2, f, g, b.2.2.1.1, b.2.2.1.2, b.2.2.2.1, b.2.2.2.2.1, hw, hg, nm, mt, hV⟩
theorem whP.pw {a w ix x : Nat} {nm mt : Int32} (q : whP R S a w (some x)) (hV : isV S0 a ix nm (some x) mt) (hr : rTy S0 x) : isPw R S0 S w a ix x [] x := by
  obtain ⟨sa, ta, f, g, q1, q2, q3, q4, q5⟩ := q
  exact ⟨sa, ta, f, g, q1, q2, q3, q4, ⟨(fun j s e => nomatch e), fun j u hj e => by have hj : j = 0 := Nat.le_zero.mp hj; subst hj; rw [q5] at e; cases e; exact hr, q5⟩, q5, nm, mt, hV⟩
/-- pathOf -/
theorem pth_ {n e p q v x mu mv : Nat} {π : List (Nat × Nat)} (c : LC R S0 S P h Γ2 L) (hL : RIn R S0) (hp : xPl R S0 Γ n e p q v π x mu mv) (hn : n ≤ 1000) (hπ : π.length ≤ 4) (h1 : Zz S + 3 ≤ R.K.2.1) (h2 : Zn S + 13 ≤ R.K.2.2) : Rt (f_pathOf R.K S (some e)) (fun S1 r => ∃ w ix tv : Nat, r = some w ∧ LC R S0 S1 P h Γ2 L ∧ KX S S1 ∧ isPw R S0 S1 w v ix tv π x ∧ v ∈ Γ ∧ Zz S1 ≤ Zz S + 3 ∧ Zn S1 ≤ Zn S + 13 ∧ UsK S0 S S1 ∧ PN S0 S S1 w) := by
  obtain ⟨n2, e2, p3, q3, a1, a2, a3, a4, a5, a6⟩ := bare_ (K := R.K) hL hp hn
  have hb := c.1.bare a2
  have hd : f_depth R.K S (some e) = some (S, nI π.length) := by
    unfold f_depth
    rw [hb]
    show f_depth_7 R.K bigN S (nI 0) (some e2) = _
    rw [c.1.dep7 hL a3 a6 (by show n2 ≤ 1000000000000; omega) (by omega), Nat.zero_add]
  unfold f_pathOf
  refine Rt.be hb (Rt.be hd ?_)
  cases π with
  | nil =>
    refine Rt.ip rfl ?_
    cases n2 with
    | zero => exact a3.elim
    | succ n2 =>
      obtain ⟨⟨b1, b2, b3⟩, b4, b5⟩ := a3
      rcases b5 with ⟨ix, nm, k1, k2, k3, k4, k5, k6⟩ | ⟨o, p', q', k1, k2, k3, k4⟩ | ⟨o, p', q', y, m2, w2, kd, π2, k1, k2, k3, k4, k5, k6, k7⟩ | ⟨o, nm, q', y, i, kf, w2, π2, k1, k2, k3, k4, k5, k6, k7, k8⟩
      · refine Rt.bd (c.1.vr (by decide) (by decide) (oR_mk (hL e2 b1) k1 (v := some v) rfl)) ?_
        refine Rt.bn (whl_ c k4 (fun y e => by cases e; obtain ⟨kd, ix, o, q, _⟩ := b4.ty; exact ⟨kd, ix, o, q⟩) h1 (by omega)) (fun S1 r t => Rt.rt ?_)
        obtain ⟨w, t1, t2, t3, t4, t5, t6, t7, t8⟩ := t
        exact ⟨w, ix, x, t1, t2, t3, t4.pw k4 b4, k3, t5, by omega, t7, t8⟩
      · obtain ⟨kd, fs, w1, w2, w3⟩ := a6
        rw [k1] at w1; cases w1; cases w2
        exact absurd w3 (by decide)
      · exact absurd (congrArg List.length k6) (by rw [List.length_append]; show ¬ (0 = π2.length + 1); omega)
      · exact absurd (congrArg List.length k7) (by rw [List.length_append]; show ¬ (0 = π2.length + 1); omega)
  | cons s π =>
    refine Rt.iq (fun w => ?_) ?_
    · have := nI_ij (a := (s :: π).length) (b := 0) w (by omega) (by decide)
      exact absurd this (by rw [List.length_cons]; omega)
    · refine npt_ c.hz (by omega) h1 (by omega) (fun A qA => ?_)
      have b := PBd.o1 qA c.hz
      refine Rt.mo (pt35 c hL (by omega) b a3 a6 (by show n2 ≤ 1000000000000; omega) (by omega) (Nat.le_refl _)) (fun A2 r t => ?_)
      obtain ⟨t1, f2, g2, ix, tv, nm, mt, t2, t3, t4, t5, t6, t7, t8⟩ := t
      have z1 := t2.2.2.2.2.2.1
      have z2 := t2.2.2.2.2.2.2
      refine ⟨Zz S, ix, tv, t1, c.nw t2.1, t2.1.kx, t2.pw rfl t3 t4 t5, t6, by omega, by omega, NW.us c t2.1, fun gs y e1 e2 hy => ?_⟩
      rw [t2.2.2.1.2] at e1; cases e1
      cases e2
      exact absurd hy t2.2.1.2.1
end LY8
end
-- m0.j.lean.txt
section
/-- what is known of the types behind the typing -/
def YK (R : yR) (S : Sg) : Prop := tmS S ≤ 2000 ∧ R.im ≤ 70 ∧ ∀ (x : Nat) (kd ix : Int32) (o : Option Nat), isTy S x kd ix o → yOK R.im R.ik (kd, ix, o)
section LY9
variable {R : yR} {S S0 : Sg} {Γ : List Nat}
def abK (kd : Int32) (ix : Int32) (t : Nat) : Nat := if kd = 0 then 1 else if kd = 1 then 2 else if kd = 2 then 3 else if kd = 3 ∨ kd = 4 then 4 + ix.toNatClampNeg else if kd = 5 then 100 + t else 0
theorem abV_is (hY : YK R S) {x : Nat} {kd ix : Int32} {o : Option Nat} (h : isTy S x kd ix o) : ∃ t : Nat, t < tmS S ∧ Zq S 18 t = some x ∧ ZF S x = .inr (20, [.int kd, .int ix, .int (nI t), va_rf o]) ∧ abV S x = abK kd ix t ∧ abT S x = (if kd = 6 then 10000 + 2 * abO S (va_rf o) else if kd = 7 then 10001 + 2 * abO S (va_rf o) else abV S x) := by
  obtain ⟨t, h1, h2, h3, h4⟩ := h
  have ht : t < 2000 := Nat.lt_of_lt_of_le h1 hY.1
  refine ⟨t, h1, h2, h4, ?_, ?_⟩
  · unfold abV abK
    rw [h4]
    show (if kd = 0 then 1 else if kd = 1 then 2 else if kd = 2 then 3 else if kd = 3 ∨ kd = 4 then 4 + ix.toNatClampNeg else if kd = 5 then 100 + (nI t).toNatClampNeg else 0) = _
    rw [nI_clamp (by omega)]
  · conv => lhs; unfold abT
    rw [h4]
    rfl
theorem vTy.nm (hY : YK R S) {x : Nat} (h : vTy S x) : 1 ≤ abV S x ∧ abV S x < 10000 ∧ abT S x = abV S x := by
  obtain ⟨n, h⟩ := h
  cases n with
  | zero => exact h.elim
  | succ n =>
    obtain ⟨kd, ix, o, h1, h2⟩ := h
    obtain ⟨t, a1, _, _, a2, a3⟩ := abV_is hY h1
    have hy := hY.2.2 _ _ _ _ h1
    have ht : t < 2000 := Nat.lt_of_lt_of_le a1 hY.1
    have hk : kd ≠ 6 ∧ kd ≠ 7 := by
      rcases h2 with (h2 | h2 | h2 | h2 | h2) | h2
      · subst h2; decide
      · subst h2; decide
      · subst h2; decide
      · subst h2; decide
      · subst h2; decide
      · rw [h2.1]; decide
    rw [a3, if_neg hk.1, if_neg hk.2]
    refine ⟨?_, ?_, rfl⟩
    · rw [a2]; unfold abK
      rcases h2 with (h2 | h2 | h2 | h2 | h2) | ⟨h2, _⟩ <;> subst h2
      · exact Nat.le_refl _
      · exact Nat.le_of_ble_eq_true rfl
      · exact Nat.le_of_ble_eq_true rfl
      · show 1 ≤ 4 + _; omega
      · show 1 ≤ 4 + _; omega
      · show 1 ≤ 100 + _; omega
    · rw [a2]; unfold abK
      have him := hY.2.1
      rcases h2 with (h2 | h2 | h2 | h2 | h2) | ⟨h2, _⟩ <;> subst h2
      · exact Nat.le_of_ble_eq_true rfl
      · exact Nat.le_of_ble_eq_true rfl
      · exact Nat.le_of_ble_eq_true rfl
      · obtain ⟨⟨i, i1, i2, _⟩, _⟩ := yOK_3 hy
        show 4 + ix.toNatClampNeg < 10000
        rw [i2, nI_clamp (by omega)]; omega
      · obtain ⟨⟨i, i1, i2, _⟩, _⟩ := yOK_4 hy
        show 4 + ix.toNatClampNeg < 10000
        rw [i2, nI_clamp (by omega)]; omega
      · show 100 + t < 10000; omega
/-- a reference's number -/
theorem rTy.nm (hY : YK R S) {x : Nat} (h : rTy S x) : (vTy S x ∧ ¬ isRf (abT S x) ∧ (∀ (kd ix : Int32) (o : Option Nat), isTy S x kd ix o → kd ≠ 6 ∧ kd ≠ 7) ∧ eT (abT S x) = (0, abV S x, 0)) ∨ ∃ (kd : Int32) (u : Nat), isTy S x kd 0 (some u) ∧ vTy S u ∧ isRf (abT S x) ∧ ((kd = 6 ∧ abT S x = 10000 + 2 * abV S u ∧ eT (abT S x) = (1, abV S u, 0)) ∨ (kd = 7 ∧ abT S x = 10001 + 2 * abV S u ∧ eT (abT S x) = (2, abV S u, 0))) := by
  rcases h with h | ⟨kd, u, h1, h2, h3⟩
  · left
    obtain ⟨g1, g2, g3⟩ := h.nm hY
    refine ⟨h, fun w => by rw [g3] at w; exact absurd w.1 (by omega), fun kd ix o q => ?_, ?_⟩
    · obtain ⟨k2, i2, o2, q2, n6, n7, _⟩ := h.ty
      obtain ⟨e1, _⟩ := isTy_fn q q2
      rw [e1]; exact ⟨n6, n7⟩
    · rw [g3]; exact if_neg (by omega)
  · right
    obtain ⟨g1, g2, g3⟩ := h3.nm hY
    obtain ⟨t, _, _, _, _, a3⟩ := abV_is hY h1
    have eo : abO S (va_rf (some u)) = abV S u := rfl
    rw [eo] at a3
    refine ⟨kd, u, h1, h3, ?_⟩
    rcases h2 with e | e
    · subst e
      rw [if_pos rfl] at a3
      refine ⟨by rw [a3]; exact ⟨by omega, by omega⟩, Or.inl ⟨rfl, a3, ?_⟩⟩
      rw [a3]; unfold eT
      rw [if_pos (by omega), if_pos (by omega), show (10000 + 2 * abV S u - 10000) / 2 = abV S u by omega]
    · subst e
      rw [if_neg (by decide), if_pos rfl] at a3
      refine ⟨by rw [a3]; exact ⟨by omega, by omega⟩, Or.inr ⟨rfl, a3, ?_⟩⟩
      rw [a3]; unfold eT
      rw [if_pos (by omega), if_neg (by omega), show (10001 + 2 * abV S u - 10000) / 2 = abV S u by omega]
theorem rTy.n0 (hY : YK R S) {x : Nat} (h : rTy S x) : abT S x ≠ 0 := by
  rcases h.nm hY with ⟨h1, _⟩ | ⟨kd, u, _, _, h1, _⟩
  · have := h1.nm hY; omega
  · exact fun e => absurd h1.1 (by rw [e]; decide)
theorem rTy.rf (hY : YK R S) {x : Nat} {kd ix : Int32} {o : Option Nat} (h : rTy S x) (q : isTy S x kd ix o) : isRf (abT S x) ↔ (kd = 6 ∨ kd = 7) := by
  rcases h.nm hY with ⟨_, h1, h2, _⟩ | ⟨k2, u, h1, _, h2, h3⟩
  · exact ⟨fun w => absurd w h1, fun w => (w.elim (h2 _ _ _ q).1 (h2 _ _ _ q).2).elim⟩
  · obtain ⟨e, _⟩ := isTy_fn q h1
    subst e
    exact ⟨fun _ => h3.imp (fun w => w.1) (fun w => w.1), fun _ => h2⟩
theorem rTy.cp (hY : YK R S) {x : Nat} {kd ix : Int32} {o : Option Nat} (h : rTy S x) (q : isTy S x kd ix o) : cpT (abT S x) ↔ (kd = 0 ∨ kd = 1 ∨ kd = 6) := by
  rcases h.nm hY with ⟨h0, h1, h2, _⟩ | ⟨k2, u, h1, h0, h2, h3⟩
  · obtain ⟨g1, g2, g3⟩ := h0.nm hY
    obtain ⟨t, _, _, _, a2, _⟩ := abV_is hY q
    have n6 := (h2 _ _ _ q)
    unfold cpT
    rw [g3]
    unfold abK at a2
    constructor
    · rintro (w | w | w)
      · rw [w] at a2
        by_cases e0 : kd = 0
        · exact Or.inl e0
        · rw [if_neg e0] at a2
          exfalso
          by_cases e1 : kd = 1
          · rw [if_pos e1] at a2; cases a2
          · rw [if_neg e1] at a2
            by_cases e2 : kd = 2
            · rw [if_pos e2] at a2; cases a2
            · rw [if_neg e2] at a2
              by_cases e3 : kd = 3 ∨ kd = 4
              · rw [if_pos e3] at a2; omega
              · rw [if_neg e3] at a2
                by_cases e5 : kd = 5
                · rw [if_pos e5] at a2; omega
                · rw [if_neg e5] at a2; cases a2
      · rw [w] at a2
        by_cases e0 : kd = 0
        · exact Or.inl e0
        · rw [if_neg e0] at a2
          by_cases e1 : kd = 1
          · exact Or.inr (Or.inl e1)
          · exfalso
            rw [if_neg e1] at a2
            by_cases e2 : kd = 2
            · rw [if_pos e2] at a2; cases a2
            · rw [if_neg e2] at a2
              by_cases e3 : kd = 3 ∨ kd = 4
              · rw [if_pos e3] at a2; omega
              · rw [if_neg e3] at a2
                by_cases e5 : kd = 5
                · rw [if_pos e5] at a2; omega
                · rw [if_neg e5] at a2; cases a2
      · exact absurd w.1.1 (by omega)
    · rintro (w | w | w)
      · subst w; exact Or.inl (a2.trans (if_pos rfl))
      · subst w; exact Or.inr (Or.inl (a2.trans rfl))
      · exact absurd w n6.1
  · obtain ⟨e, _⟩ := isTy_fn q h1
    subst e
    unfold cpT
    rcases h3 with ⟨w, w2, _⟩ | ⟨w, w2, _⟩
    · exact ⟨fun _ => Or.inr (Or.inr w), fun _ => Or.inr (Or.inr ⟨h2, by omega⟩)⟩
    · refine ⟨fun z => ?_, fun z => ?_⟩
      · rcases z with z | z | z
        · omega
        · omega
        · omega
      · subst w; exact absurd z (by decide)
end LY9
end
-- m0.k.lean.txt
section
section LY10
variable {R : yR} {S S0 : Sg} {Γ : List Nat}
theorem fN_i {fs : List Value} {k n : Nat} (h : fs[k]? = some (.int (nI n))) (hn : n ≤ 100000) : fN fs k = n := by
  unfold fN; rw [h]; exact nI_clamp (by omega)
theorem rN_r {fs : List Value} {k a : Nat} (h : fs[k]? = some (.ref a)) : rN fs k = some a := by
  unfold rN; rw [h]
theorem obF_o {a k : Nat} {fs : List Value} (h : ZF S a = .inr (k, fs)) : obF S a = fs := by
  unfold obF; rw [h]
theorem roQ_o {a n k : Nat} {c : ClassId} {f : Nat → Option Nat} (h : ZF S a = .inl (c, n, .inr (.inr (.inr (.inr f))))) : roQ S a k = f k := by
  unfold roQ; rw [h]
theorem abR_o {a n k x : Nat} {c : ClassId} {f : Nat → Option Nat} (h : ZF S a = .inl (c, n, .inr (.inr (.inr (.inr f))))) (hx : f k = some x) : abR S (some a) k = abV S x := by
  show (match roQ S a k with | some x => abV S x | none => 0) = _
  rw [roQ_o h, hx]
theorem abV_it (hY : YK R S) {x i : Nat} {kd : Int32} (hk : kd = 3 ∨ kd = 4) (hi : i < R.im) (h : isTy S x kd (nI i) none) : abV S x = 4 + i := by
  obtain ⟨t, _, _, _, a, _⟩ := abV_is hY h
  have := hY.2.1
  rw [a]; unfold abK
  rcases hk with e | e <;> subst e
  · show 4 + (nI i).toNatClampNeg = _; rw [nI_clamp (by omega)]
  · show 4 + (nI i).toNatClampNeg = _; rw [nI_clamp (by omega)]
theorem yK_it {i : Nat} (hY : YK R S) (hi : i < R.im) : yK R S (4 + i) = if R.ik i = 10 then 2 else if R.ik i = 11 then 3 else 0 := by
  have := hY.2.1
  unfold yK
  rw [if_neg (by omega), if_pos ⟨by omega, by omega⟩, show 4 + i - 4 = i by omega]
/-- a struct's field -/
theorem fld.y (hY : YK R S) {i k x : Nat} (h : fld R S i k x) : yK R S (4 + i) = 2 ∧ k < yP R S (4 + i) 0 ∧ yP R S (4 + i) 0 ≤ 12 ∧ yQ R S (4 + i) 0 k = abV S x := by
  obtain ⟨fs, mn, ta, f, h1, h2, h3, h4, h5, h6, h7, h8, h9, h10, h11, h12⟩ := h
  have e4 : 4 + i - 4 = i := by omega
  have ep : yP R S (4 + i) 0 = mn := by
    unfold yP; rw [e4, if_pos h2, if_pos rfl, obF_o h4, fN_i h5 (by omega)]
  refine ⟨by rw [yK_it hY h1, if_pos h2], by rw [ep]; exact h6, by rw [ep]; exact h7, ?_⟩
  unfold yQ
  rw [e4, if_pos h2, obF_o h4, rN_r h8, abR_o h10 h11]
/-- an enum's variant -/
theorem enY.y (hY : YK R S) {i g mk : Nat} {tx : Nat → Nat} (h : enY R S i g mk tx) : yK R S (4 + i) = 3 ∧ g < fN (obF S (R.ws i)) 3 ∧ fN (obF S (R.ws i)) 3 ≤ 12 ∧ yP R S (4 + i) g = mk ∧ mk ≤ 12 ∧ ∀ k : Nat, k < mk → yQ R S (4 + i) g k = abV S (tx k) ∧ vTy S (tx k) := by
  obtain ⟨fs, mn, vr, pa, fv, f, h1, h2, h3, h4, h5, h6, h7, h8, h9, h10, h11, h12, h13⟩ := h
  have e4 : 4 + i - 4 = i := by omega
  have ne : ¬ R.ik i = 10 := by rw [h2]; decide
  have em : fN (obF S (R.ws i)) 3 = mn := by rw [obF_o h4, fN_i h5 (by omega)]
  have epa : paI R S i g = obF S pa := by
    unfold paI; rw [obF_o h4, rN_r h8]
    show (match roQ S vr g with | some pa => obF S pa | none => []) = _
    rw [roQ_o h10, h11]
  refine ⟨by rw [yK_it hY h1, if_neg ne, if_pos h2], by omega, by omega, ?_⟩
  obtain ⟨_, ⟨q1, q2⟩ | ⟨wa, ta, q1, q2, q3⟩⟩ := h12
  · refine ⟨?_, by omega, fun k hk => by omega⟩
    unfold yP; rw [e4, if_neg ne, epa, obF_o q1, q2]; rfl
  · refine ⟨?_, q2, fun k hk => ⟨?_, ?_⟩⟩
    · unfold yP; rw [e4, if_neg ne, epa, obF_o q1, fN_i rfl (by omega)]
    · unfold yQ; rw [e4, if_neg ne, epa, obF_o q1]
      exact abR_o q3.2.1 (h13 k hk)
    · obtain ⟨x, x1, x2⟩ := q3.2.2 k hk
      rw [h13 k hk] at x1; cases x1; exact x2
/-- a box -/
theorem bx_y (hY : YK R S) {x u : Nat} (h : isTy S x 5 0 (some u)) : yK R S (abV S x) = 4 ∧ yO S (abV S x) = abV S u ∧ 100 ≤ abV S x ∧ abV S x < 10000 := by
  obtain ⟨t, h1, h2, h3, h4, _⟩ := abV_is hY h
  have := hY.1
  have := hY.2.1
  have e : abV S x = 100 + t := h4.trans rfl
  rw [e]
  have e1 : 100 + t - 100 = t := by omega
  refine ⟨?_, ?_, by omega, by omega⟩
  · unfold yK
    rw [if_neg (by omega), if_neg (by omega), if_pos ⟨by omega, by omega⟩, e1, h2]
    show (if fN (obF S x) 0 = 5 then 4 else 0) = 4
    rw [obF_o h3]; rfl
  · unfold yO
    rw [if_neg (by omega), e1, h2]
    show (match (obF S x)[3]? with | some v => abO S v | none => 0) = _
    rw [obF_o h3]; rfl
/-- one step from a type of values -/
theorem stY2.qw (hY : YK R S) {x y : Nat} {s : Nat × Nat} (hx : vTy S x) (h : stY2 R S x s y) : vTy S y ∧ ∀ {π : lLc} {t : Nat}, qW (yT R S) (abV S y) π t → qW (yT R S) (abV S x) (s :: π) t := by
  rcases h with ⟨rfl, kd, h1, h2⟩ | ⟨i, k, rfl, h1, h2⟩ | ⟨i, g, k, mk, tx, rfl, h1, h2, h3, h4⟩
  · have hk : kd = 5 := by
      obtain ⟨k2, i2, o2, q2, n6, n7, _⟩ := hx.ty
      obtain ⟨e1, _⟩ := isTy_fn h2 q2
      rcases h1 with e | e | e
      · exact e
      · exact absurd (e1.symm.trans e) n6
      · exact absurd (e1.symm.trans e) n7
    subst hk
    obtain ⟨b1, b2, _⟩ := bx_y hY h2
    refine ⟨hx.of h2, fun {π t} q => ⟨rfl, b1, ?_⟩⟩
    show qW (yT R S) (yO S (abV S x)) π t
    rw [b2]; exact q
  · obtain ⟨f1, f2, f3, f4⟩ := h2.y hY
    have hi : i < R.im := by obtain ⟨_, _, _, _, hi, _⟩ := h2; exact hi
    have hv : vTy S y := by obtain ⟨_, _, _, _, _, _, _, _, _, _, _, _, _, _, _, hv⟩ := h2; exact hv
    refine ⟨hv, fun {π t} q => ?_⟩
    rw [abV_it hY (Or.inl rfl) hi h1]
    refine ⟨f1, f2, ?_⟩
    show qW (yT R S) (yQ R S (4 + i) 0 k) π t
    rw [f4]; exact q
  · obtain ⟨f1, f2, f3, f4, f5, f6⟩ := h2.y hY
    have hi : i < R.im := by obtain ⟨_, _, _, _, _, _, hi, _⟩ := h2; exact hi
    obtain ⟨g1, g2⟩ := f6 k h3
    rw [h4] at g1 g2
    refine ⟨g2, fun {π t} q => ?_⟩
    rw [abV_it hY (Or.inr rfl) hi h1]
    refine ⟨f1, ?_, ?_, ?_⟩
    · show g < fN (obF S (R.ws (4 + i - 4))) 3
      rw [show 4 + i - 4 = i by omega]; exact f2
    · show k < yP R S (4 + i) g
      rw [f4]; exact h3
    · show qW (yT R S) (yQ R S (4 + i) g k) π t
      rw [g1]; exact q
theorem wy_qw (hY : YK R S) : ∀ (ρ : lLc) {g : Nat → Option Nat} {a x : Nat}, vTy S a → g 0 = some a → (∀ (j : Nat) (s : Nat × Nat), ρ[j]? = some s → ∃ x y : Nat, g j = some x ∧ g (j + 1) = some y ∧ stY2 R S x s y) → g ρ.length = some x → qW (yT R S) (abV S a) ρ (abV S x) ∧ vTy S x
  | [], g, a, x, hv, h0, _, hx => by
    rw [show g [].length = g 0 from rfl, h0] at hx; cases hx
    exact ⟨rfl, hv⟩
  | s :: ρ, g, a, x, hv, h0, hs, hx => by
    obtain ⟨a2, b, g1, g2, g3⟩ := hs 0 s rfl
    rw [h0] at g1; cases g1
    obtain ⟨hb, hq⟩ := g3.qw hY hv
    obtain ⟨r1, r2⟩ := wy_qw hY ρ (g := fun j => g (j + 1)) (a := b) (x := x) hb g2 (fun j t e => hs (j + 1) t e) hx
    exact ⟨hq r1, r2⟩
/-- a path's way leads where its types say -/
theorem wyT.ty (hY : YK R S) {f : Nat → Int32} {g : Nat → Option Nat} {ρ : lLc} {x tv : Nat} (h : wyT R S f g ρ x) (h0 : g 0 = some tv) : pTy (yT R S) (abT S tv) ρ (abT S x) := by
  have hr : rTy S tv := h.2.1 0 tv (Nat.zero_le _) h0
  rcases hr.nm hY with ⟨q1, q2, _, _⟩ | ⟨kd, u, q1, q2, q3, q4⟩
  · left
    obtain ⟨r1, r2⟩ := wy_qw hY ρ q1 h0 (fun j s e => (h.1 j s e).2) h.2.2
    refine ⟨q2, ?_⟩
    rw [(q1.nm hY).2.2, (r2.nm hY).2.2]; exact r1
  · right
    refine ⟨q3, ?_⟩
    cases ρ with
    | nil =>
      have := h.2.2
      rw [show g [].length = g 0 from rfl, h0] at this; cases this
      exact Or.inl ⟨rfl, rfl⟩
    | cons s ρ =>
      right
      obtain ⟨_, a2, b, g1, g2, g3⟩ := h.1 0 s rfl
      rw [h0] at g1; cases g1
      have hs : s = (1, 0) ∧ b = u := by
        rcases g3 with ⟨e, k2, e2, e3⟩ | ⟨i, k, e, e2, _⟩ | ⟨i, g, k, mk, tx, e, e2, _⟩
        · obtain ⟨_, _, e4⟩ := isTy_fn e3 q1
          exact ⟨e, Option.some.inj e4⟩
        · obtain ⟨_, _, e4⟩ := isTy_fn e2 q1
          cases e4
        · obtain ⟨_, _, e4⟩ := isTy_fn e2 q1
          cases e4
      obtain ⟨rfl, rfl⟩ := hs
      obtain ⟨r1, r2⟩ := wy_qw hY ρ (g := fun j => g (j + 1)) (a := b) (x := x) q2 g2 (fun j t e => (h.1 (j + 1) t e).2) h.2.2
      refine ⟨ρ, rfl, ?_⟩
      have ey : (yT R S).2.1 (abT S tv) = abV S b := by
        show yO S (abT S tv) = _
        unfold yO
        rcases q4 with ⟨_, e, _⟩ | ⟨_, e, _⟩
        · rw [e, if_pos (by omega)]; omega
        · rw [e, if_pos (by omega)]; omega
      rw [ey, (r2.nm hY).2.2]; exact r1
/-- what a typed place is -/
theorem xPl_in (hY : YK R S) : ∀ {n e p q v : Nat} {π : List (Nat × Nat)} {x mu mv : Nat}, xPl R S Γ n e p q v π x mu mv → ∃ (tv ix : Nat) (nm mt : Int32), isV S v ix nm (some tv) mt ∧ v ∈ Γ ∧ rTy S tv ∧ rTy S x ∧ qMs π ∧ (mv = 1 → qM π) ∧ (mv = 2 → ∃ σ : lLc, π = σ ++ [(1, 0)] ∧ qM σ) ∧ (π ≠ [] → vTy S x) ∧ (π = [] → x = tv ∧ mv = 1 ∧ mt = nI mu) ∧ (isRf (abT S tv) → π ≠ [] → mv = 0 ∧ (mu = 1 → abT S tv % 2 = 1))
  | 0, _, _, _, _, _, _, _, _, h => h.elim
  | n + 1, e, p, q, v, π, x, mu, mv, h => by
    obtain ⟨⟨h1, h2, h3⟩, h4, h5⟩ := h
    have hne : ∀ {π2 : List (Nat × Nat)} {s : Nat × Nat}, π = π2 ++ [s] → π ≠ [] := fun e w => by rw [e] at w; exact absurd (congrArg List.length w) (by rw [List.length_append]; show ¬ (_ + 1 = 0); omega)
    rcases h5 with ⟨ix, nm, k1, k2, k3, k4, k5, k6⟩ | ⟨o, p', q', k1, k2, k3, k4⟩ | ⟨o, p', q', y, m2, w2, kd, π2, k1, k2, k3, k4, k5, k6, k7⟩ | ⟨o, nm, q', y, i, k, w2, π2, k1, k2, k3, k4, k5, k6, k7, k8⟩
    · subst k2
      exact ⟨x, ix, nm, _, k4, k3, h4, h4, (fun _ w => nomatch w), fun _ => (fun _ w => nomatch w), fun w => absurd (k6.symm.trans w) (by decide), fun w => absurd rfl w, fun _ => ⟨rfl, k6, rfl⟩, fun _ w => absurd rfl w⟩
    · exact xPl_in hY k4
    · obtain ⟨tv, ix, nm, mt, a1, a2, a3, a4, a5, a6, a7, a8, a9, a10⟩ := xPl_in hY k4
      have hn := hne k6
      have hvx : vTy S x := a4.of k5 (k7.imp (fun w => w.1) (fun w => w.imp (fun w => w.1) (fun w => w.1)))
      refine ⟨tv, ix, nm, mt, a1, a2, a3, h4, ?_, fun w => ?_, fun w => ?_, fun _ => hvx, fun w => absurd w hn, fun w _ => ?_⟩
      · rw [k6]
        intro z hz
        rcases List.mem_append.mp hz with hz | hz
        · exact a5 z hz
        · rw [List.mem_singleton.mp hz]; exact Or.inr rfl
      · exfalso
        rcases k7 with ⟨_, _, e⟩ | ⟨_, _, e⟩ | ⟨_, _, e⟩
        · rw [e] at w; by_cases z : w2 = 1
          · rw [if_pos z] at w; cases w
          · rw [if_neg z] at w; cases w
        · rw [e] at w; cases w
        · rw [e] at w; cases w
      · refine ⟨π2, k6, a6 ?_⟩
        rcases k7 with ⟨_, _, e⟩ | ⟨_, _, e⟩ | ⟨_, _, e⟩
        · rw [e] at w; by_cases z : w2 = 1
          · exact z
          · rw [if_neg z] at w; cases w
        · rw [e] at w; cases w
        · rw [e] at w; cases w
      · by_cases e2 : π2 = []
        · obtain ⟨b1, b2, b3⟩ := a9 e2
          rw [← b1] at w ⊢
          have hr := (a4.rf hY k5).mp w
          rcases k7 with ⟨e, _, _⟩ | ⟨e, e3, e4⟩ | ⟨e, e3, e4⟩
          · subst e; exact absurd hr (by decide)
          · exact ⟨e4, fun z => absurd (e3.symm.trans z) (by decide)⟩
          · refine ⟨e4, fun _ => ?_⟩
            rcases a4.nm hY with ⟨_, z, _⟩ | ⟨kd2, u, z1, z2, z3, z4⟩
            · exact absurd w z
            · obtain ⟨z5, _⟩ := isTy_fn k5 z1
              rcases z4 with ⟨z6, _⟩ | ⟨_, z6, _⟩
              · exact absurd ((e.symm.trans z5).trans z6) (by decide)
              · omega
        · obtain ⟨b1, b2⟩ := a10 w e2
          have hvy := a8 e2
          obtain ⟨k2', i2, o2, z1, n6, n7, _⟩ := hvy.ty
          obtain ⟨z5, _⟩ := isTy_fn k5 z1
          rcases k7 with ⟨e, e3, e4⟩ | ⟨e, _⟩ | ⟨e, _⟩
          · refine ⟨?_, fun z => b2 (e3.symm.trans z)⟩
            rw [e4, b1]; exact if_neg (by decide)
          · exact absurd (z5.symm.trans e) n6
          · exact absurd (z5.symm.trans e) n7
    · obtain ⟨tv, ix, nm2, mt, a1, a2, a3, a4, a5, a6, a7, a8, a9, a10⟩ := xPl_in hY k4
      have hn := hne k7
      have hvx : vTy S x := by obtain ⟨_, _, _, _, _, _, _, _, _, _, _, _, _, _, _, hv⟩ := k6; exact hv
      refine ⟨tv, ix, nm2, mt, a1, a2, a3, h4, ?_, fun w => ?_, fun w => ?_, fun _ => hvx, fun w => absurd w hn, fun w _ => ?_⟩
      · rw [k7]
        intro z hz
        rcases List.mem_append.mp hz with hz | hz
        · exact a5 z hz
        · rw [List.mem_singleton.mp hz]; exact Or.inl rfl
      · have hw : w2 = 1 := by
          rw [k8] at w; by_cases z : w2 = 1
          · exact z
          · rw [if_neg z] at w; cases w
        rw [k7]
        intro z hz
        rcases List.mem_append.mp hz with hz | hz
        · exact a6 hw z hz
        · rw [List.mem_singleton.mp hz]
      · exfalso
        rw [k8] at w; by_cases z : w2 = 1
        · rw [if_pos z] at w; cases w
        · rw [if_neg z] at w; cases w
      · by_cases e2 : π2 = []
        · obtain ⟨b1, b2, b3⟩ := a9 e2
          rw [← b1] at w
          have hr := (a4.rf hY k5).mp w
          exact absurd hr (by decide)
        · obtain ⟨b1, b2⟩ := a10 w e2
          refine ⟨?_, b2⟩
          rw [k8, b1]; exact if_neg (by decide)
end LY10
end
-- m0.l.lean.txt
section
section LY11
variable {R : yR} {S0 Sb S S1 : Sg} {P h L Lb z n : Nat} {Γ : List Nat} {x : pRc} {α : Type}
theorem SEq.kx (a : SEq S S1) : LX S S1 := a.1
/-- a row of one number -/
theorem rAr_1 {a u : Nat} {f : Nat → Int32} (hu : u < 24000) (h1 : a ∈ ZL S) (h2 : ZF S a = .inl (R.K.1 0, 1, .inl f)) (h3 : f 0 = nI u) : rAr R S (some a) [u] := Or.inr ⟨a, f, rfl, h1, h2, List.cons_ne_nil _ _, fun j y e => by
  cases j with
  | zero => cases e; exact ⟨h3, hu⟩
  | succ j => cases e⟩
/-- what a path's use writes -/
def thX (R : yR) (S0 S1 : Sg) (x x2 : pRc) (w ix tv xt : Nat) : Prop := x2.1 = x.1 ∧ x2.2.1 = x.2.1 ∧ x2.2.2 38 = some w ∧ x2.2.2 39 = some xt ∧ (∀ r : Nat, r ≠ 36 → r ≠ 37 → r ≠ 38 → r ≠ 39 → x2.2.2 r = x.2.2 r) ∧ (isRf (abT S0 tv) → rAr R S1 (x2.2.2 37) [ix] ∧ rAr R S1 (x2.2.2 36) [ix]) ∧ (¬ isRf (abT S0 tv) → x2.2.2 37 = x.2.2 37 ∧ x2.2.2 36 = x.2.2 36)
/-- through -/
theorem thr_ {w va ix tv xt : Nat} {ρ : List (Nat × Nat)} (hP : P < 24000) (p : LPt R S0 Sb S P h Γ L Lb x z n) (hY : YK R S0) (q : isPw R S0 S w va ix tv ρ xt) (hl : ρ.length ≤ 5) (hix : ix < 256) (hPN : PN S0 Sb S w) (h1 : Zz Sb + z + 2 ≤ R.K.2.1) (h2 : Zn Sb + n + 2 ≤ R.K.2.2) : Rt (f_through R.K S (nI P) (some w)) (fun S1 _ => ∃ x2 : pRc, LPt R S0 Sb S1 P h Γ L Lb x2 (z + 2) (n + 2) ∧ LX S S1 ∧ thX R S0 S1 x x2 w ix tv xt) := by
  have hx0 : LX S0 S := p.1.1
  obtain ⟨sa, ta, f, g, q1, q2, q3, q4, q5, q6, nm, mt, q7⟩ := q
  have hrt : rTy S0 tv := q5.2.1 0 tv (Nat.zero_le _) q6
  have hrx : rTy S0 xt := q5.2.1 _ xt (Nat.le_refl _) q5.2.2
  obtain ⟨kd, i2, o2, qt, _⟩ := hrt.ty
  obtain ⟨kd3, i3, o3, qx, _⟩ := hrx.ty
  unfold f_through
  refine p.wO hP (by decide) (okO_mk q1 q2) (Or.inr ⟨rfl, fun y e => by cases e; exact ⟨q1, hPN⟩⟩) (fun S1 p1 e1 => ?_)
  obtain ⟨a1, a2⟩ := e1.1.ob q1 q2 (by decide) (by decide)
  refine Rt.bd (oB_mk a1 a2) ?_
  have hty : f_X18_type R.K S1 w = some (S1, some xt) := by
    unfold f_X18_type
    obtain ⟨b1, b2⟩ := e1.1.ro q4.1 q4.2
    rw [oR_mk a1 a2 (v := some ta) rfl, Option.bind_some, oI_mk a1 a2 (v := nI ρ.length) rfl, Option.bind_some, aQ_n b1 b2 (Nat.lt_succ_self _) (by omega), Option.bind_some, q5.2.2]
  refine Rt.be hty ?_
  refine p1.wO hP (by decide) ((hx0.tr e1.1).okT ⟨_, _, _, qx⟩) (Or.inl (by decide)) (fun S2 p2 e2 => ?_)
  have e12 := e1.tr e2
  obtain ⟨b1, b2⟩ := e12.1.ob q1 q2 (by decide) (by decide)
  obtain ⟨c1, c2⟩ := e12.1.ro q4.1 q4.2
  refine Rt.bd (oR_mk b1 b2 (v := some ta) rfl) (Rt.bd (aQ_n (j := 0) c1 c2 (by omega) (by omega)) ?_)
  rw [q6]
  refine Rt.be (ref_ ((hx0.tr e12.1).ty qt)) ?_
  have hz2 : Zz S2 ≤ Zz Sb + z := p2.2.2.2.1
  have hn2 : Zn S2 ≤ Zn Sb + n := p2.2.2.2.2.1
  by_cases hr : kd = 6 ∨ kd = 7
  · rw [if_pos hr]
    have hrf : isRf (abT S0 tv) := (hrt.rf hY qt).mpr hr
    refine Rt.iq (by decide) (Rt.bd (oR_mk b1 b2 (v := some va) rfl) ?_)
    obtain ⟨wh, v1, v2, v3⟩ := p2.1.2.2.2.2.2.2.1 va ix nm (some tv) mt q7
    refine Rt.bd (oI_mk v1 v2 (v := nI ix) rfl) (Rt.bn (jst_ p2.1 hix (by omega) (by omega)) (fun S3 r t => ?_))
    obtain ⟨a, f1, t1, t2, t3, t4, t5, t6, t7, t8, t9, t10⟩ := t
    subst t1
    have p3 := p2.kx t2 t3 t10 (z2 := z + 1) (n2 := n + 1) (by omega) (by omega)
    refine p3.wA hP (by decide) (okA_mk t4 t5) ⟨by decide, fun y e hy => by cases e; exact p3.2.2.2.2.2.2.1 a hy (Or.inl ⟨ix, hix, t9⟩)⟩ (fun S4 p4 e4 => ?_)
    have hx4 : LX S S4 := (e12.1.tr t3.lx).tr e4.1
    obtain ⟨d1, d2⟩ := hx4.ob q1 q2 (by decide) (by decide)
    refine Rt.bd (oR_mk d1 d2 (v := some va) rfl) ?_
    obtain ⟨wh4, v1, v2, v3⟩ := p4.1.2.2.2.2.2.2.1 va ix nm (some tv) mt q7
    have z4 := p4.2.2.2.1
    have n4 := p4.2.2.2.2.1
    refine Rt.bd (oI_mk v1 v2 (v := nI ix) rfl) (Rt.bn (jst_ p4.1 hix (by omega) (by omega)) (fun S5 r t => ?_))
    obtain ⟨a', f2, u1, u2, u3, u4, u5, u6, u7, u8, u9, u10⟩ := t
    subst u1
    have p5 := p4.kx u2 u3 u10 (z2 := z + 2) (n2 := n + 2) (by omega) (by omega)
    refine p5.wA hP (by decide) (okA_mk u4 u5) ⟨by decide, fun y e hy => by cases e; exact p5.2.2.2.2.2.2.1 a' hy (Or.inl ⟨ix, hix, u9⟩)⟩ (fun S6 p6 e6 => Rt.rt ⟨_, p6, (hx4.tr u3.lx).tr e6.1, rfl, rfl, rfl, rfl, fun r h1 h2 h3 h4 => ?_, fun _ => ⟨?_, ?_⟩, fun w => absurd hrf w⟩)
    · exact (va_up_ne _ _ h1).trans ((va_up_ne _ _ h2).trans ((va_up_ne _ _ h4).trans (va_up_ne _ _ h3)))
    · obtain ⟨g1, g2⟩ := ((e4.1.tr u3.lx).tr e6.1).ro t4 t5
      exact rAr_1 (by omega) g1 g2 t6
    · obtain ⟨g1, g2⟩ := e6.1.ro u4 u5
      exact rAr_1 (by omega) g1 g2 u6
  · rw [if_neg hr]
    have hrf : ¬ isRf (abT S0 tv) := fun w => hr ((hrt.rf hY qt).mp w)
    refine Rt.ip rfl (Rt.rt ⟨_, ⟨p2.1, p2.2.1, p2.2.2.1, by omega, by omega, p2.2.2.2.2.2⟩, e12.1, rfl, rfl, rfl, rfl, fun r h1 h2 h3 h4 => ?_, fun w => absurd w hrf, fun _ => ⟨rfl, rfl⟩⟩)
    exact (va_up_ne _ _ h4).trans (va_up_ne _ _ h3)
end LY11
end
-- m0.m.lean.txt
section
section LY12
variable {R : yR} {S0 Sb S S1 S2 : Sg} {P P1 P2 h h1 h2 L L1 L2 Lb z n : Nat} {Γ Γ2 : List Nat} {x : pRc} {E : eV} {k : Nat} {lv : Prop} {i : iR} {s s1 s2 : List tE} {J : Nat → List tE → Prop}
theorem tP_0 (hk : i.kd = 0) (h : (iD0 i ∧ nT s) ∧ J (k + 1) s) : tPt E k lv i s J := by unfold tPt; rw [hk]; exact h
theorem tP_1 (hk : i.kd = 1) (h : (iD0 i ∧ nT s) ∧ ∃ t : Nat, (t = 1 ∨ t = 2) ∧ J (k + 1) ((0, t, 0) :: s)) : tPt E k lv i s J := by unfold tPt; rw [hk]; exact h
theorem tP_27 (hk : i.kd = 27) (h : (iD0 i ∧ nT s) ∧ ∃ t : Nat, (t = 1 ∨ t = 2) ∧ J (k + 1) ((0, t, 0) :: s)) : tPt E k lv i s J := by unfold tPt; rw [hk]; exact h
theorem tP_2 (hk : i.kd = 2) (h : i.ln = none ∧ ∃ (v : Nat) (ρ : lLc) (T : Nat), iPa E i s v ρ T ∧ iUv E i v ∧ (isRf T → i.ho = some (40 + wl s)) ∧ (¬ isRf T → i.ho = none) ∧ ((i.ac = 1 ∧ cpT T) ∨ (i.ac = 4 ∧ ¬ cpT T ∧ qM ρ) ∨ (i.ac = 5 ∧ ¬ cpT T ∧ ¬ isRf (E.vt v) ∧ ∃ σ : lLc, ρ = σ ++ [(1, 0)] ∧ qM σ)) ∧ J (k + 1) (eT T :: s)) : tPt E k lv i s J := by unfold tPt; rw [hk]; exact h
theorem tP_3 (hk : i.kd = 3) (h : ∃ (v : Nat) (ρ : lLc) (T : Nat), iPa E i s v ρ T ∧ iUv E i v ∧ i.ho = some (40 + wl s) ∧ (∃ l : Nat, i.ln = some l) ∧ T < 10000 ∧ ((i.ac = 2 ∧ i.n3 = 1 ∧ J (k + 1) ((1, T, 0) :: s)) ∨ (i.ac = 3 ∧ i.n3 = 0 ∧ (isRf (E.vt v) → E.vt v % 2 = 1) ∧ J (k + 1) ((2, T, 0) :: s)))) : tPt E k lv i s J := by unfold tPt; rw [hk]; exact h
theorem tP_4 (hk : i.kd = 4) (h : iD0 i ∧ ∃ (t1 t2 t : Nat) (r : List tE), (t1 = 1 ∨ t1 = 2) ∧ (t2 = 1 ∨ t2 = 2) ∧ (t = 1 ∨ t = 2) ∧ s = (0, t1, 0) :: (0, t2, 0) :: r ∧ J (k + 1) ((0, t, 0) :: r)) : tPt E k lv i s J := by unfold tPt; rw [hk]; exact h
theorem tP_5 (hk : i.kd = 5) (h : iD0 i ∧ ∃ (t : Nat) (r : List tE), (t = 1 ∨ t = 2) ∧ s = (0, t, 0) :: r ∧ J (k + 1) s) : tPt E k lv i s J := by unfold tPt; rw [hk]; exact h
theorem tP_6 (hk : i.kd = 6) (h : iD0 i ∧ ∃ (t : Nat) (r : List tE), (t = 1 ∨ t = 2) ∧ s = (0, t, 0) :: r ∧ J (k + 1) s) : tPt E k lv i s J := by unfold tPt; rw [hk]; exact h
theorem tP_7 (hk : i.kd = 7) (h : iD0 i ∧ ∃ (U : Nat) (r : List tE), s = (0, i.n1, 0) :: r ∧ i.n1 ≠ 0 ∧ i.n1 < 10000 ∧ E.y.1 U = 4 ∧ E.y.2.1 U = i.n1 ∧ 100 ≤ U ∧ U < 10000 ∧ J (k + 1) ((0, U, 0) :: r)) : tPt E k lv i s J := by unfold tPt; rw [hk]; exact h
theorem tP_8 (hk : i.kd = 8) (h : iD0 i ∧ ∃ (fo : Nat → Nat) (r : List tE), E.y.1 (4 + i.n1) = 2 ∧ i.n1 < 70 ∧ i.n3 = E.y.2.2.2.1 (4 + i.n1) 0 ∧ i.n3 ≤ 12 ∧ i.vs = (List.range i.n3).map fo ∧ (∀ q : Nat, q < i.n3 → fo q < i.n3) ∧ (∀ a b : Nat, a < i.n3 → b < i.n3 → fo a = fo b → a = b) ∧ s = dsl (fun q => (0, E.y.2.2.2.2 (4 + i.n1) 0 (fo q), 0)) i.n3 ++ r ∧ J (k + 1) ((0, 4 + i.n1, 0) :: r)) : tPt E k lv i s J := by unfold tPt; rw [hk]; exact h
theorem tP_9 (hk : i.kd = 9) (h : (iD0 i ∧ nT s) ∧ ∃ r : List tE, E.y.1 (4 + i.n1) = 3 ∧ i.n1 < 70 ∧ i.n2 < E.y.2.2.1 (4 + i.n1) ∧ i.n3 = E.y.2.2.2.1 (4 + i.n1) i.n2 ∧ i.n3 ≤ 12 ∧ s = dsl (fun q => (0, E.y.2.2.2.2 (4 + i.n1) i.n2 q, 0)) i.n3 ++ r ∧ J (k + 1) ((0, 4 + i.n1, 0) :: r)) : tPt E k lv i s J := by unfold tPt; rw [hk]; exact h
theorem tP_10 (hk : i.kd = 10) (h : i.ac = 0 ∧ i.pa = none ∧ (i.ln = none ∧ nT s) ∧ ∃ r : List tE, i.n3 = (E.hd i.n1).1 ∧ i.n3 ≤ 12 ∧ i.n1 < 70 ∧ s = dsl (fun q => eT ((E.hd i.n1).2.1 q)) i.n3 ++ r ∧ (∀ q : Nat, q < i.n3 → (E.hd i.n1).2.1 q ≠ 0) ∧ i.us = arL (wl r) (fun q => decide (10000 ≤ (E.hd i.n1).2.1 q ∧ (E.hd i.n1).2.1 q < 30000)) i.n3 ∧ i.fr = arL (wl r) (fun q => decide (10000 ≤ (E.hd i.n1).2.1 q ∧ (E.hd i.n1).2.1 q < 30000) && (decide (E.rl i.n1 < 0) || decide (E.lf i.n1 q = E.rl i.n1))) i.n3 ∧ (((E.hd i.n1).2.2 = 0 ∧ i.ho = none ∧ J (k + 1) r) ∨ ((E.hd i.n1).2.2 ≠ 0 ∧ (isRf (E.hd i.n1).2.2 → i.ho = some (40 + wl r)) ∧ (¬ isRf (E.hd i.n1).2.2 → i.ho = none) ∧ J (k + 1) (eT (E.hd i.n1).2.2 :: r)))) : tPt E k lv i s J := by unfold tPt; rw [hk]; exact h
theorem tP_11 (hk : i.kd = 11) (h : iD0 i ∧ ∃ (T : Nat) (r : List tE), s = (0, T, 0) :: r ∧ T ≠ 0 ∧ T < 10000 ∧ (T = i.n1 ∨ (isRf i.n1 ∧ T = 1)) ∧ J (k + 1) r) : tPt E k lv i s J := by unfold tPt; rw [hk]; exact h
theorem tP_12 (hk : i.kd = 12) (h : i.ac = 0 ∧ i.pa = none ∧ i.ln = none ∧ ∃ (v : Nat) (r : List tE), i.vs = [v] ∧ v < 40 ∧ i.ho = some v ∧ E.vt v ≠ 0 ∧ s = eT (E.vt v) :: r ∧ (8, v, 0) ∉ r ∧ wl r = 0 ∧ (isRf (E.vt v) → i.us = [40] ∧ i.fr = [40]) ∧ (¬ isRf (E.vt v) → i.us = [] ∧ i.fr = []) ∧ i.n1 = E.vt v ∧ J (k + 1) ((8, v, 0) :: r)) : tPt E k lv i s J := by unfold tPt; rw [hk]; exact h
theorem tP_13 (hk : i.kd = 13) (h : i.ac = 0 ∧ i.pa = none ∧ (i.ln = none ∧ nT s) ∧ i.us = [] ∧ i.fr = [] ∧ ∃ v : Nat, i.vs = [v] ∧ v < 40 ∧ i.ho = some v ∧ (8, v, 0) ∉ s ∧ wl s = 0 ∧ i.n1 = E.vt v ∧ J (k + 1) ((8, v, 0) :: s)) : tPt E k lv i s J := by unfold tPt; rw [hk]; exact h
theorem tP_14 (hk : i.kd = 14) (h : i.ac = 6 ∧ i.ln = none ∧ ∃ (v : Nat) (ρ : lLc) (T : Nat) (r : List tE), iPa E i r v ρ T ∧ s = eT T :: r ∧ wl r = 0 ∧ ((ρ = [] ∧ i.ho = some v ∧ (isRf T → i.us = [40] ∧ i.fr = [40]) ∧ (¬ isRf T → i.us = [] ∧ i.fr = [])) ∨ (ρ ≠ [] ∧ i.ho = none ∧ i.fr = [] ∧ (isRf (E.vt v) → i.us = [v] ∧ E.vt v % 2 = 1) ∧ (¬ isRf (E.vt v) → i.us = []))) ∧ J (k + 1) r) : tPt E k lv i s J := by unfold tPt; rw [hk]; exact h
theorem tP_15 (hk : i.kd = 15) (h : iD0 i ∧ ∃ (t : Nat) (r : List tE), (t = 1 ∨ t = 2) ∧ s = (0, t, 0) :: r ∧ J (k + 1) r) : tPt E k lv i s J := by unfold tPt; rw [hk]; exact h
theorem tP_16 (hk : i.kd = 16) (h : (iD0 i ∧ nT s) ∧ ∃ j : Nat, i.sc = [j] ∧ J j s) : tPt E k lv i s J := by unfold tPt; rw [hk]; exact h
theorem tP_17 (hk : i.kd = 17) (h : iD0 i ∧ ∃ (t j : Nat) (r : List tE), (t = 1 ∨ t = 2) ∧ s = (0, t, 0) :: r ∧ i.sc = [k + 1, j] ∧ J (k + 1) r ∧ J j r) : tPt E k lv i s J := by unfold tPt; rw [hk]; exact h
theorem tP_18 (hk : i.kd = 18) (h : iD0 i ∧ ∃ (t j : Nat) (r : List tE), (t = 1 ∨ t = 2) ∧ s = (0, t, 0) :: r ∧ i.sc = [k + 1, j] ∧ J (k + 1) r ∧ J j s) : tPt E k lv i s J := by unfold tPt; rw [hk]; exact h
theorem tP_19 (hk : i.kd = 19) (h : iD0 i ∧ ∃ (t j : Nat) (r : List tE), (t = 1 ∨ t = 2) ∧ s = (0, t, 0) :: r ∧ i.sc = [k + 1, j] ∧ J (k + 1) r ∧ J j s) : tPt E k lv i s J := by unfold tPt; rw [hk]; exact h
theorem tP_20 (hk : i.kd = 20) (h : iD0 i ∧ ∃ r : List tE, s = (0, 4 + i.n1, 0) :: r ∧ wl r = 0 ∧ i.n1 < 70 ∧ E.y.1 (4 + i.n1) = 3 ∧ i.sc.length = E.y.2.2.1 (4 + i.n1) ∧ i.sc.length ≤ 12 ∧ ∀ g j : Nat, i.sc[g]? = some j → k < j ∧ J j ((3, (4 + i.n1) * 12 + g, 1) :: r)) : tPt E k lv i s J := by unfold tPt; rw [hk]; exact h
theorem tP_21 (hk : i.kd = 21) (h : i.ho = none ∧ i.ln = none ∧ ∃ (v : Nat) (ρ : lLc), iPa E i s v ρ (4 + i.n1) ∧ iUv E i v ∧ wl s = 0 ∧ i.n1 < 70 ∧ E.y.1 (4 + i.n1) = 3 ∧ ((i.ac = 2 ∧ i.n3 = 1) ∨ (i.ac = 3 ∧ i.n3 = 0 ∧ (isRf (E.vt v) → E.vt v % 2 = 1))) ∧ i.sc.length = E.y.2.2.1 (4 + i.n1) ∧ i.sc.length ≤ 12 ∧ ∀ g j : Nat, i.sc[g]? = some j → k < j ∧ ((E.y.2.2.2.1 (4 + i.n1) g = 0 ∧ J j s) ∨ (0 < E.y.2.2.2.1 (4 + i.n1) g ∧ J j ((if i.n3 = 1 then 5 else 6, i.n1 * 12 + g, 64 * cdP v ρ) :: s)))) : tPt E k lv i s J := by unfold tPt; rw [hk]; exact h
theorem tP_22 (hk : i.kd = 22) (h : iD0 i ∧ ∃ r : List tE, s = (3, (4 + i.n1) * 12 + i.n2, 1) :: r ∧ wl r = 0 ∧ i.n1 < 70 ∧ i.n2 < 12 ∧ E.y.1 (4 + i.n1) = 3 ∧ i.n2 < E.y.2.2.1 (4 + i.n1) ∧ i.vs.length = E.y.2.2.2.1 (4 + i.n1) i.n2 ∧ i.vs.length ≤ 12 ∧ (∀ a b v : Nat, i.vs[a]? = some v → i.vs[b]? = some v → a = b) ∧ (∀ q v : Nat, i.vs[q]? = some v → v < 40 ∧ (8, v, 0) ∉ r ∧ E.vt v = E.y.2.2.2.2 (4 + i.n1) i.n2 q) ∧ J (k + 1) ((i.vs.reverse.map (fun v => (8, v, 0))) ++ r)) : tPt E k lv i s J := by unfold tPt; rw [hk]; exact h
theorem tP_23 (hk : i.kd = 23) (h : i.ac = 0 ∧ ∃ (v : Nat) (ρ : lLc) (w q g m : Nat) (r : List tE), i.vs = [w] ∧ w < 40 ∧ i.ho = some w ∧ (∃ l : Nat, i.ln = some l) ∧ s = (if i.n3 = 1 then 5 else 6, q * 12 + g, 64 * cdP v ρ + m) :: r ∧ (wl r = 0 ∧ nT r ∧ (i.n3 ≠ 1 → isRf (E.vt v) → E.vt v % 2 = 1)) ∧ (8, w, 0) ∉ r ∧ q < 70 ∧ g < 12 ∧ E.y.1 (4 + q) = 3 ∧ g < E.y.2.2.1 (4 + q) ∧ m < E.y.2.2.2.1 (4 + q) g ∧ i.pa = some (v, ρ ++ [(g + 2, m)], E.y.2.2.2.2 (4 + q) g m) ∧ (v < 40 ∧ E.ad v = i.n2) ∧ (8, v, 0) ∈ r ∧ pTy E.y (E.vt v) ρ (4 + q) ∧ qMs ρ ∧ ρ.length ≤ 4 ∧ iUv E i v ∧ E.vt w = (if i.n3 = 1 then 10000 else 10001) + 2 * E.y.2.2.2.2 (4 + q) g m ∧ E.y.2.2.2.2 (4 + q) g m < 10000 ∧ ((m + 1 = E.y.2.2.2.1 (4 + q) g ∧ J (k + 1) ((8, w, 0) :: r)) ∨ (m + 1 < E.y.2.2.2.1 (4 + q) g ∧ J (k + 1) ((if i.n3 = 1 then 5 else 6, q * 12 + g, 64 * cdP v ρ + (m + 1)) :: (8, w, 0) :: r)))) : tPt E k lv i s J := by unfold tPt; rw [hk]; exact h
theorem tP_24 (hk : i.kd = 24) (h : i.ac = 7 ∧ i.ln = none ∧ i.us = [] ∧ i.fr = [] ∧ ∃ (v : Nat) (e r : List tE), i.vs = [v] ∧ (v < 40 ∧ E.ad v = i.n2) ∧ i.ho = some v ∧ i.pa = some (v, [], E.vt v) ∧ i.n1 = E.vt v ∧ s = e ++ (8, v, 0) :: r ∧ (8, v, 0) ∉ r ∧ (e = [] ∨ (e = [eT E.gv] ∧ E.gv ≠ 0)) ∧ wl r = 0 ∧ J (k + 1) (e ++ r)) : tPt E k lv i s J := by unfold tPt; rw [hk]; exact h
theorem tP_25 (hk : i.kd = 25) (h : i.ac = 0 ∧ i.pa = none ∧ i.ho = none ∧ i.ln = none ∧ i.us = [40] ∧ i.fr = [] ∧ i.n1 = 40 ∧ s = [eT E.gv] ∧ isRf E.gv ∧ J (k + 1) [eU E.gv]) : tPt E k lv i s J := by unfold tPt; rw [hk]; exact h
theorem tP_26 (hk : i.kd = 26) (h : iD0 i ∧ (lv → (s = [] ∧ E.gv = 0) ∨ (s = [eU E.gv] ∧ E.gv ≠ 0))) : tPt E k lv i s J := by unfold tPt; rw [hk]; exact h
theorem tsg.fl {a b : Nat} {x y : List tE} {cl cl2 : Prop} (h : tsg R S0 S E L a b x y cl) (hc : cl2 → cl) : tsg R S0 S E L a b x y cl2 := by
  obtain ⟨st, W, h1, h2, h3, h4, h5⟩ := h
  exact ⟨st, W, h1, h2, h3, fun w => h4 (hc w), h5⟩
/-- a piece of code was laid -/
def GV (R : yR) (S0 S S2 : Sg) (E : eV) (P P2 h h2 : Nat) (Γ Γ2 : List Nat) (L L2 : Nat) (s s2 : List tE) (cl : Prop) (z n : Nat) : Prop := LC R S0 S2 P2 h2 Γ2 L2 ∧ LZ P L S S2 ∧ tsg R S0 S2 E L2 P P2 s s2 cl ∧ Zz S2 ≤ Zz S + z ∧ Zn S2 ≤ Zn S + n ∧ P ≤ P2 ∧ L ≤ L2 ∧ RFx S0 S P S2 P2
theorem GV.tr {Γ3 : List Nat} {z2 n2 z3 n3 : Nat} {cl cl2 cl3 : Prop} (a : GV R S0 S S1 E P P1 h h1 Γ Γ2 L L1 s s1 cl z n) (b : GV R S0 S1 S2 E P1 P2 h1 h2 Γ2 Γ3 L1 L2 s1 s2 cl2 z2 n2) (hc : cl3 → cl ∨ cl2) (hz : z + z2 ≤ z3) (hn : n + n2 ≤ n3) : GV R S0 S S2 E P P2 h h2 Γ Γ3 L L2 s s2 cl3 z3 n3 := by
  obtain ⟨a1, a2, a3, a4, a5, a6, a7, a8⟩ := a
  obtain ⟨b1, b2, b3, b4, b5, b6, b7, b8⟩ := b
  exact ⟨b1, a2.tr b2 a6 a7, (((a3.st b2).up b7).app b3).fl hc, by omega, by omega, by omega, by omega, a8.tr b8 a2.1 b2⟩
theorem GV.wk {s0 s3 : List tE} {cl cl2 : Prop} (a : GV R S0 S S1 E P P1 h h1 Γ Γ2 L L1 s s1 cl z n) (h3 : wkS s0 s) (h4 : wkS s1 s3) (hc : cl2 → cl) (hp : P < P1) : GV R S0 S S1 E P P1 h h1 Γ Γ2 L L1 s0 s3 cl2 z n := ⟨a.1, a.2.1, a.2.2.1.wk h3 h4 hc hp, a.2.2.2⟩
/-- what lies at the point, as an instruction -/
theorem rz_g {K : Nat} (hK : i.kd = K) (a : AT S P x) (hk : K < 28) (hj : K ≠ 26 ∧ K ≠ 16 ∧ K ≠ 17 ∧ K ≠ 18 ∧ K ≠ 19 ∧ K ≠ 20 ∧ K ≠ 21) (h27 : x.1 27 = nI K) (h33 : x.1 33 = nI i.ac) (ha : i.ac < 8) (h34 : x.1 34 = oNm i.ho) (h35 : x.1 35 = oNm i.ln) (h37 : rAr R S (x.2.2 37) i.us) (h36 : rAr R S (x.2.2 36) i.fr) (h32 : ∃ tk : Nat, x.1 32 = nI tk ∧ tk < R.T) (h38 : (x.2.2 38 = none ∧ i.pa = none) ∨ ∃ (w v T : Nat) (ρ : lLc), x.2.2 38 = some w ∧ i.pa = some (v, ρ, T) ∧ isPt R S0 S w v ρ T ∧ pVa S w i.n2) (hln : ∀ l : Nat, i.ln = some l → Zq S 43 l = x.2.2 38 ∧ Zr S 44 l = nI i.n3 ∧ i.n3 ≤ 1 ∧ Zr S 45 l = -1) (h30 : x.1 30 = -1) (hsc : i.sc = [P + 1])
  (c39 : (K = 7 ∨ K = 11 ∨ K = 15) → ∃ y : Nat, x.2.2 39 = some y ∧ rTy S0 y ∧ abT S0 y = i.n1)
  (c28 : (K = 8 ∨ K = 9 ∨ K = 10) → x.1 28 = nI i.n1 ∧ x.1 29 = nI i.n2 ∧ x.2.1 = Int32.toInt64 (nI i.n3))
  (c42 : K = 8 → rAr R S (x.2.2 42) i.vs)
  (c40 : (K = 12 ∨ K = 13 ∨ K = 23 ∨ K = 24) → ∃ (va v : Nat) (ty : Option Nat) (mu : Int32), x.2.2 40 = some va ∧ i.vs = [v] ∧ isU S va v ty mu ∧ abU S0 ty = i.n1 ∧ ∀ y : Nat, ty = some y → rTy S0 y)
  (c41 : K = 22 → rAm R S0 S (x.2.2 41) i.n1 i.n2 i.vs) (c25 : K = 25 → x.1 28 = nI i.n1) (c10 : K = 10 → R.ik i.n1 = 12 ∧ i.n1 < R.im := by intro w; exact absurd w (by decide)) : rz R S0 S P i := by
  subst hK
  have e : ∀ r : Nat, 27 ≤ r → r ≤ 35 → r ≠ 31 → Zr S r P = x.1 r := a.1
  have q : ∀ r : Nat, 36 ≤ r → r ≤ 42 → Zq S r P = x.2.2 r := a.2.2
  unfold rz
  rw [e 27 (by decide) (by decide) (by decide), e 28 (by decide) (by decide) (by decide), e 29 (by decide) (by decide) (by decide), e 30 (by decide) (by decide) (by decide), e 32 (by decide) (by decide) (by decide), e 33 (by decide) (by decide) (by decide), e 34 (by decide) (by decide) (by decide), e 35 (by decide) (by decide) (by decide), q 36 (by decide) (by decide), q 37 (by decide) (by decide), q 38 (by decide) (by decide), q 39 (by decide) (by decide), q 40 (by decide) (by decide), q 41 (by decide) (by decide), q 42 (by decide) (by decide), a.2.1]
  exact ⟨h27, hk, h33, ha, h34, h35, h37, h36, h32, h38, hln, Or.inr (Or.inr (Or.inr (Or.inr ⟨hj.1, hj.2.1, hj.2.2.1, hj.2.2.2.1, hj.2.2.2.2.1, hj.2.2.2.2.2.1, hj.2.2.2.2.2.2, h30, hsc⟩))), c39, c28, c42, c40, c41, c25, c10⟩
/-- the variables alive: their numbers, types, marks on the stack -/
def ALv (S0 : Sg) (E : eV) (Γ : List Nat) (s : List tE) : Prop := nT s ∧ ∀ v ∈ Γ, ∀ (ix : Nat) (nm : Int32) (tv : Nat) (mt : Int32), isV S0 v ix nm (some tv) mt → ∃ jx : Nat, isV S0 v jx nm (some tv) mt ∧ (jx < 40 ∧ E.ad jx = v) ∧ E.vt jx = abT S0 tv ∧ (8, jx, 0) ∈ s
theorem nT_0 : nT [] := fun e r q => by cases q
theorem pnE_k {a b : Nat} (h : a = 0 ∨ a = 1 ∨ a = 2 ∨ a = 8) : pnE (a, b, 0) := ⟨by show a ≠ 3; omega, by show a ≠ 4; omega, by show a ≠ 5; omega, by show a ≠ 6; omega, fun _ => rfl⟩
theorem pnE_eT {t : Nat} : pnE (eT t) := by
  unfold eT
  by_cases c : 10000 ≤ t
  · rw [if_pos c]
    by_cases c2 : t % 2 = 0
    · rw [if_pos c2]; exact pnE_k (by decide)
    · rw [if_neg c2]; exact pnE_k (by decide)
  · rw [if_neg c]; exact pnE_k (by decide)
theorem nT_c {e : tE} (h : pnE e) : nT (e :: s) := fun e2 r q => by cases q; exact h
theorem nT_eT {t : Nat} : nT (eT t :: s) := nT_c pnE_eT
theorem ALv.mo (a : ALv S0 E Γ s) (h : ∀ e ∈ s, e ∈ s2) (hn : nT s2) : ALv S0 E Γ s2 := ⟨hn, fun v hv ix nm tv mt q => by
  obtain ⟨jx, j1, j2, j3, j4⟩ := a.2 v hv ix nm tv mt q
  exact ⟨jx, j1, j2, j3, h _ j4⟩⟩
end LY12
end
