section LY5
variable {R : yR} {S0 S S1 : Sg} {P h L : Nat} {Γ : List Nat} {α : Type}
/-- the rows of points are as they were -/
def KX (S S1 : Sg) : Prop := (∀ P L : Nat, LZ P L S S1) ∧ Zr S1 = Zr S ∧ Zl S1 = Zl S ∧ (∀ r : Nat, r ≠ 51 → Zq S1 r = Zq S r) ∧ Zi S1 = Zi S
theorem KX.rf : KX S S := ⟨fun _ _ => LZ.rf, rfl, rfl, fun _ _ => rfl, rfl⟩
theorem KX.tr {S2 : Sg} (a : KX S S1) (b : KX S1 S2) : KX S S2 := ⟨fun P L => (a.1 P L).tr (b.1 P L) (Nat.le_refl _) (Nat.le_refl _), b.2.1.trans a.2.1, b.2.2.1.trans a.2.2.1, fun r hr => (b.2.2.2.1 r hr).trans (a.2.2.2.1 r hr), b.2.2.2.2.trans a.2.2.2.2⟩
theorem NW.kx (a : NW S S1) : KX S S1 := ⟨fun _ _ => a.lz, a.2.2.1, a.2.2.2.1, fun _ _ => by rw [a.2.2.2.2.1], a.2.1⟩
theorem KX.lx (a : KX S S1) : LX S S1 := (a.1 0 0).1
theorem LPt.kx {Sb : Sg} {Lb z n z2 n2 : Nat} {x : pRc} (p : LPt R S0 Sb S P h Γ L Lb x z n) (c : LC R S0 S1 (P + 1) h Γ L) (k : KX S S1) (hu : UsK S0 S S1) (hz : Zz S1 ≤ Zz Sb + z2) (hn : Zn S1 ≤ Zn Sb + n2) : LPt R S0 Sb S1 P h Γ L Lb x z2 n2 := ⟨c, p.2.1.tr (k.1 _ _) (Nat.le_refl _) (Nat.le_refl _), ⟨fun r h1 h2 h3 => by rw [k.2.1]; exact p.2.2.1.1 r h1 h2 h3, by rw [k.2.2.1]; exact p.2.2.1.2.1, fun r h1 h2 => by rw [k.2.2.2.1 r (by omega)]; exact p.2.2.1.2.2 r h1 h2⟩, hz, hn, p.2.2.2.2.2.1, p.2.2.2.2.2.2.kq hu (k.1 0 0) p.2.1.1 (fun j => ⟨by rw [k.2.2.2.1 36 (by decide)], by rw [k.2.2.2.1 37 (by decide)], by rw [k.2.2.2.1 42 (by decide)], by rw [k.2.2.2.1 38 (by decide)]⟩)⟩
theorem UsK.mk (c : LC R S0 S P h Γ L) (bo : ∀ a ∈ ZL S, a ∈ ZL S1 ∧ ZF S1 a = ZF S a) (h51 : ∀ u x : Nat, u < 256 → x ∈ ZL S → Zq S1 51 u = some x → Zq S 51 u = some x) : UsK S0 S S1 := fun x hx h => by
  rcases h with ⟨u, h1, h2⟩ | ⟨v, ix, nm, ty, mu, w, fs, gs, h1, h2, h3, h4, h5⟩
  · exact Or.inl ⟨u, h1, h51 u x h1 hx h2⟩
  · obtain ⟨wh, w1, w2, w3⟩ := c.2.2.2.2.2.2.1 v ix nm ty mu h1
    rw [(bo v w1).2] at h2
    have e : fs[4]? = some wh := by rw [w2] at h2; cases h2; rfl
    rw [e] at h3; cases h3
    rcases w3 with w3 | ⟨w', w4, w5⟩
    · cases w3
    · cases w4
      obtain ⟨_, _, _, _, w6, _⟩ := w5
      rw [(bo w w6).2] at h4
      exact Or.inr ⟨v, ix, nm, ty, mu, w, fs, gs, h1, h2, e, h4, h5⟩
theorem ZF_un {c : va_E} {n a : Nat} (h : a ≠ Zz S) : ZF (Un S c n) a = ZF S a := updE_n h
theorem ZF_uz {c : va_E} {n : Nat} : ZF (Un S c n) (Zz S) = c := updE_s
/-- new cells of A: an object a, and others -/
def FRC (S A : Sg) (a : Nat) (c : va_E) (l : List (Nat × va_E)) (z n : Nat) : Prop := NW S A ∧ Zz S ≤ a ∧ (a ∈ ZL A ∧ ZF A a = c) ∧ (∀ p ∈ l, p.1 ≠ a ∧ p.1 ∈ ZL A ∧ ZF A p.1 = p.2) ∧ Zz A = z ∧ Zn A = n
theorem FRC.o1 (hz : ∀ a ∈ ZL S, a < Zz S) {c : va_E} {m : Nat} : FRC S (Un S c m) (Zz S) c [] (Zz S + 1) (Zn S + m) := ⟨(NW.rf hz).un, Nat.le_refl _, ⟨List.mem_cons_self, ZF_uz⟩, (fun _ h => nomatch h), rfl, rfl⟩
theorem FRC.un {A : Sg} {a m z n : Nat} {c c2 : va_E} {l : List (Nat × va_E)} (f : FRC S A a c l z n) : FRC S (Un A c2 m) a c ((z, c2) :: l) (z + 1) (n + m) := by
  obtain ⟨w, h0, ⟨h1, h2⟩, h3, h4, h5⟩ := f
  subst h4; subst h5
  have hl : ∀ x ∈ ZL A, x < Zz A := w.2.2.2.2.2.2.2.2
  refine ⟨w.un, h0, ⟨List.mem_cons_of_mem _ h1, (ZF_un (Nat.ne_of_lt (hl _ h1))).trans h2⟩, fun p hp => ?_, rfl, rfl⟩
  rcases List.mem_cons.mp hp with e | e
  · subst e; exact ⟨(Nat.ne_of_lt (hl _ h1)).symm, List.mem_cons_self, ZF_uz⟩
  · exact ⟨(h3 p e).1, List.mem_cons_of_mem _ (h3 p e).2.1, (ZF_un (Nat.ne_of_lt (hl _ (h3 p e).2.1))).trans (h3 p e).2.2⟩
theorem FRC.uf {A : Sg} {a z n : Nat} {c c2 : va_E} {l : List (Nat × va_E)} (f : FRC S A a c l z n) (hz : ∀ a ∈ ZL S, a < Zz S) : FRC S (UF A a c2) a c2 l z n := ⟨f.1.uF (fun w => Nat.lt_irrefl _ (Nat.lt_of_lt_of_le (hz _ w) f.2.1)), f.2.1, ⟨f.2.2.1.1, ZF_s⟩, fun p hp => ⟨(f.2.2.2.1 p hp).1, (f.2.2.2.1 p hp).2.1, (ZF_n (f.2.2.2.1 p hp).1).trans (f.2.2.2.1 p hp).2.2⟩, f.2.2.2.2⟩
/-- a new object -/
theorem FRC.rO {ci N : Nat} {vs : List Value} {g : Sg → Nat → Option (Sg × α)} {Q : Sg → α → Prop} (hz : ∀ a ∈ ZL S, a < Zz S) (h1 : Zz S + 1 ≤ R.K.2.1) (h2 : Zn S + N ≤ R.K.2.2) (k : ∀ A : Sg, FRC S A (Zz S) (.inr (ci, vs)) [] (Zz S + 1) (Zn S + N) → Rt (g A (Zz S)) Q) : Rt (bnd (nO R.K S ci N vs) g) Q := Rt.be (nO_ok ⟨h1, h2⟩) (k _ (FRC.o1 hz))
/-- a field of the object -/
theorem FRC.rP {A : Sg} {a z n ci i : Nat} {vs vs2 : List Value} {v : Value} {l : List (Nat × va_E)} {g : Sg → Option (Sg × α)} {Q : Sg → α → Prop} (f : FRC S A a (.inr (ci, vs)) l z n) (hz : ∀ a ∈ ZL S, a < Zz S) (hi : Nat.ble (i + 1) vs.length = true) (e : vs.set i v = vs2) (k : ∀ B : Sg, FRC S B a (.inr (ci, vs2)) l z n → Rt (g B) Q) : Rt ((pV A ci (some a) i v).bind g) Q := by
  subst e
  exact Rt.bd (pV_mk f.2.2.1.1 f.2.2.1.2 (Nat.le_of_ble_eq_true hi)) (k _ (f.uf hz))
/-- a new row of numbers -/
theorem FRC.rA {A : Sg} {a z n m : Nat} {c : va_E} {l : List (Nat × va_E)} {g : Sg → Nat → Option (Sg × α)} {Q : Sg → α → Prop} (f : FRC S A a c l z n) (hm : m ≤ 100000) (h1 : z + 1 ≤ R.K.2.1) (h2 : n + m ≤ R.K.2.2) (k : ∀ B : Sg, FRC S B a c ((z, .inl (R.K.1 0, m, .inl (fun _ => 0))) :: l) (z + 1) (n + m) → Rt (g B z) Q) : Rt (bnd (nA R.K A (nI m)) g) Q := by
  have e4 := f.2.2.2.2.1
  have e5 := f.2.2.2.2.2
  refine Rt.be (nA_ok hm ⟨by omega, by omega⟩) ?_
  rw [e4]
  exact k _ f.un
/-- a new row of references -/
theorem FRC.rQ {A : Sg} {a z n m t : Nat} {c : va_E} {l : List (Nat × va_E)} {g : Sg → Nat → Option (Sg × α)} {Q : Sg → α → Prop} (f : FRC S A a c l z n) (hm : m ≤ 100000) (h1 : z + 1 ≤ R.K.2.1) (h2 : n + m ≤ R.K.2.2) (k : ∀ B : Sg, FRC S B a c ((z, .inl (R.K.1 t, m, .inr (.inr (.inr (.inr (fun _ => none)))))) :: l) (z + 1) (n + m) → Rt (g B z) Q) : Rt (bnd (nQ R.K t A (nI m)) g) Q := by
  have e4 := f.2.2.2.2.1
  have e5 := f.2.2.2.2.2
  refine Rt.be (nQ_ok hm ⟨by omega, by omega⟩) ?_
  rw [e4]
  exact k _ f.un
/-- what a new path is -/
def NPA (K : Ky) (S S1 : Sg) (n : Nat) : Prop := FRC S S1 (Zz S) (.inr (18, [.null, .int (nI n), .ref (Zz S + 1), .ref (Zz S + 2)])) [(Zz S + 2, .inl (K.1 4, n + 1, .inr (.inr (.inr (.inr (fun _ => none)))))), (Zz S + 1, .inl (K.1 0, n, .inl (fun _ => 0)))] (Zz S + 3) (Zn S + 4 + n + (n + 1))
/-- a new path of n steps -/
theorem npt_ {n : Nat} {g : Sg → Nat → Option (Sg × α)} {Q : Sg → α → Prop} (hz : ∀ a ∈ ZL S, a < Zz S) (hn : n ≤ 1000) (h1 : Zz S + 3 ≤ R.K.2.1) (h2 : Zn S + 2 * n + 5 ≤ R.K.2.2) (k : ∀ S1 : Sg, NPA R.K S S1 n → Rt (g S1 (Zz S)) Q) : Rt (bnd (nO R.K S 18 4 [.null, .int 0, .null, .null]) fun S5 a6 => bnd (f_X18_init R.K S5 a6 (nI n)) fun S7 _ => g S7 a6) Q := by
  refine FRC.rO hz (by omega) (by omega) (fun A fA => ?_)
  refine Rt.bn (Q := fun S1 _ => NPA R.K S S1 n) ?_ (fun S1 _ q => k S1 q)
  unfold f_X18_init
  refine fA.rP hz rfl rfl (fun B fB => ?_)
  refine fB.rA (by omega) (by omega) (by omega) (fun C fC => ?_)
  refine fC.rP hz rfl rfl (fun D fD => ?_)
  rw [nI_1]
  refine fD.rQ (by omega) (by omega) (by omega) (fun G fG => ?_)
  exact fG.rP hz rfl rfl (fun H fH => Rt.rt fH)
/-- just -/
theorem jst_ {u : Nat} (c : LC R S0 S P h Γ L) (hu : u < 256) (h1 : Zz S + 1 ≤ R.K.2.1) (h2 : Zn S + 1 ≤ R.K.2.2) : Rt (f_just R.K S (nI u)) (fun S1 r => ∃ (a : Nat) (f : Nat → Int32), r = some a ∧ LC R S0 S1 P h Γ L ∧ KX S S1 ∧ a ∈ ZL S1 ∧ ZF S1 a = .inl (R.K.1 0, 1, .inl f) ∧ f 0 = nI u ∧ Zz S1 ≤ Zz S + 1 ∧ Zn S1 ≤ Zn S + 1 ∧ Zq S1 51 u = some a ∧ UsK S0 S S1) := by
  have hz := c.hz
  unfold f_just f_just_27
  refine Rt.bd (rQ_n (show u < rlen 51 from hu) (by decide)) ?_
  rcases c.2.2.2.2.2.1.1 u hu with e | ⟨a, f, e1, e2, e3, e4⟩
  · rw [e]
    refine Rt.ip rfl (Rt.be (nA_ok (n := 1) (by omega) ⟨h1, h2⟩) ?_)
    have w0 : NW S (Un S (.inl (R.K.1 0, 1, .inl (fun _ => 0))) 1) := (NW.rf hz).un
    have c0 := c.nw w0
    generalize hA : Un S (.inl (R.K.1 0, 1, .inl (fun _ => 0))) 1 = A at w0 c0
    have a1 : Zz S ∈ ZL A := by rw [← hA]; exact List.mem_cons_self
    have a2 : ZF A (Zz S) = .inl (R.K.1 0, 1, .inl (fun _ => 0)) := by rw [← hA]; exact ZF_uz
    have a3 : Zz A = Zz S + 1 := by rw [← hA]; rfl
    have a4 : Zn A = Zn S + 1 := by rw [← hA]; rfl
    clear hA
    refine Rt.bd (wA_n (show u < rlen 51 from hu) (by decide) (okA_mk a1 a2)) ?_
    refine Rt.bd (rQ_n (show u < rlen 51 from hu) (by decide)) ?_
    rw [show Zq (Uq A 51 (va_up (Zq A 51) u (some (Zz S)))) 51 u = some (Zz S) by rw [Zq_us, va_up_self]]
    have hno : Zz S ∉ ZL S := fun w => Nat.lt_irrefl _ (hz _ w)
    refine Rt.bd (bI_n (n := 1) (j := 0) (f := fun _ => 0) (v := nI u) (show Zz S ∈ ZL (Uq A 51 (va_up (Zq A 51) u (some (Zz S)))) from a1) a2 (by decide) (by decide)) ?_
    generalize hB : UF (Uq A 51 (va_up (Zq A 51) u (some (Zz S)))) (Zz S) (.inl (R.K.1 0, 1, .inl (upd (fun _ => 0) 0 (nI u)))) = B
    have b1 : Zz S ∈ ZL B := by rw [← hB]; exact a1
    have b2 : ZF B (Zz S) = .inl (R.K.1 0, 1, .inl (upd (fun _ => 0) 0 (nI u))) := by rw [← hB]; exact ZF_s
    have bo : ∀ a ∈ ZL S, a ∈ ZL B ∧ ZF B a = ZF S a := fun a ha => by
      rw [← hB]
      exact ⟨(w0.1 a ha).1, (ZF_n (fun e => by rw [e] at ha; exact hno ha)).trans (w0.1 a ha).2⟩
    have bq : ∀ r : Nat, r ≠ 51 → Zq B r = Zq S r := fun r hr => by rw [← hB]; exact (Zq_un (S := A) hr).trans (congrFun w0.2.2.2.2.1 r)
    have b5 : Zq B 51 = va_up (Zq S 51) u (some (Zz S)) := by rw [← hB]; have e := Zq_us (S := A) (r := 51) (f := va_up (Zq A 51) u (some (Zz S))); rw [show Zq A 51 = Zq S 51 by rw [w0.2.2.2.2.1]] at e ⊢; exact e
    have bz : Zz B = Zz S + 1 ∧ Zn B = Zn S + 1 := by rw [← hB]; exact ⟨a3, a4⟩
    have bi : Zi B = Zi S ∧ Zr B = Zr S ∧ Zl B = Zl S ∧ Zf B = Zf S := by rw [← hB]; exact ⟨w0.2.1, w0.2.2.1, w0.2.2.2.1, w0.2.2.2.2.2.1⟩
    have bh : ∀ a ∈ ZL B, a < Zz B := by rw [← hB]; exact w0.2.2.2.2.2.2.2.2
    clear hB
    have hx : LX S B := ⟨fun a ha => ⟨(bo a ha).1, Or.inl (bo a ha).2⟩, fun _ _ _ _ _ => by rw [bi.1], fun _ _ => by rw [bi.2.1], fun _ _ => by rw [bi.2.2.1], fun r hr => bq r (fun e => hr (Or.inr (Or.inr e))), bi.2.2.2, by omega, by omega⟩
    have hk : KX S B := ⟨fun P L => ⟨hx, fun k _ => ⟨fun _ _ _ => by rw [bi.2.1], by rw [bi.2.2.1], fun r h1 h2 => by rw [bq r (by omega)]⟩, fun l _ => ⟨by rw [bq 43 (by decide)], fun _ _ _ => by rw [bi.2.1]⟩, fun x hx fs e => (bo x hx).2.trans e⟩, bi.2.1, bi.2.2.1, bq, bi.1⟩
    refine Rt.bd (rQ_n (show u < rlen 51 from hu) (by decide)) (Rt.rt ⟨Zz S, _, by rw [b5, va_up_self], ?_, hk, b1, b2, if_pos rfl, by omega, by omega, by rw [b5, va_up_self], ?_⟩)
    rotate_left
    · exact UsK.mk c bo (fun u2 y _ hy e => by
        rw [b5] at e
        by_cases eu : u2 = u
        · subst eu; rw [va_up_self] at e; cases e; exact absurd hy hno
        · rw [va_up_ne _ _ eu] at e; exact e)
    refine ⟨c.1.tr hx, by rw [bi.1]; exact c.2.1, by rw [bi.1]; exact c.2.2.1, by rw [bi.1, bq 49 (by decide)]; exact c.2.2.2.1, by rw [bi.1]; exact c.2.2.2.2.1, ⟨fun x hx2 => ?_, c.2.2.2.2.2.1.2.st hx (fun l _ _ => by rw [bq 43 (by decide)]) (fun l _ _ => Or.inl (by rw [bi.2.1])) (by rw [bi.1])⟩, c.2.2.2.2.2.2.1.st hx (fun a ha _ _ => (bo a ha).2), bh⟩
    rw [b5]
    by_cases ex : x = u
    · subst ex; rw [va_up_self]; exact Or.inr ⟨Zz S, _, rfl, b1, b2, if_pos rfl⟩
    · rw [va_up_ne _ _ ex]
      rcases c.2.2.2.2.2.1.1 x hx2 with q | ⟨a, f, q1, q2, q3, q4⟩
      · exact Or.inl q
      · exact Or.inr ⟨a, f, q1, (bo a q2).1, (bo a q2).2.trans q3, q4⟩
  · rw [e1]
    refine Rt.iq (fun w => by cases w) (Rt.bd (rQ_n (show u < rlen 51 from hu) (by decide)) (Rt.rt ⟨a, f, e1, c, KX.rf, e2, e3, e4, by omega, by omega, e1, UsK.rf⟩))
end LY5
