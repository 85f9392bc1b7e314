theorem iv_ex {F F2 : Nat → va_E} {z w z2 w2 : Nat} (h1 : z2 ≤ z) (h2 : w ≤ w2) (h : ∀ a : Nat, z ≤ a → a < w → F2 a = F a) : exS (iv z w) F (iv z2 w2) F2 := fun a ha => by
  obtain ⟨b1, b2⟩ := iv_m.mp ha
  exact ⟨iv_m.mpr ⟨by omega, by omega⟩, h a b1 b2⟩
theorem St.le {X : Nat → Prop} {S S2 : Sg} {a z n z2 n2 : Nat} {c : va_E} (h : St X S S2 a c z n) (h1 : z ≤ z2) (h2 : n ≤ n2) : St X S S2 a c z2 n2 := ⟨h.1, h.2.1, h.2.2.1, h.2.2.2.1, by have := h.2.2.2.2.1; omega, by have := h.2.2.2.2.2; omega⟩
/-- what the reading of an exp gives -/
def XP (K : Ky) (T : Nat) (S : Sg) (pp ns vv bb n D E : Nat) (S2 : Sg) (r : Option Nat) : Prop := ∃ pp2 bb2 e : Nat, r = some e ∧ RZ S2 T pp2 ns vv bb2 ∧ GR nX S S2 ∧ (pp ≤ pp2 ∧ bb ≤ bb2 ∧ bb2 ≤ bb + (pp2 - pp)) ∧ Zz S2 ≤ Zz S + 8 * (pp2 - pp) + D ∧ Zn S2 ≤ Zn S + 120 * (pp2 - pp) + E ∧ (Zz S ≤ e ∧ e < Zz S2 ∧ ∃ vs : List Value, ZF S2 e = .inr (15, vs)) ∧ (Zi S2 3 = 0 → bb2 ≤ 54 ∧ isE (iv (Zz S) (Zz S2)) (ZF S2) (K.1 9) (K.1 0) n (16 - ns) e pp pp2 bb bb2)
theorem XP.le {K : Ky} {T : Nat} {S : Sg} {pp ns vv bb n D E n2 D2 E2 : Nat} {S2 : Sg} {r : Option Nat} (h : XP K T S pp ns vv bb n D E S2 r) (h1 : n ≤ n2) (h2 : D ≤ D2) (h3 : E ≤ E2) : XP K T S pp ns vv bb n2 D2 E2 S2 r := by
  obtain ⟨pp2, bb2, e, q1, q2, q3, q4, q5, q6, q7, q8⟩ := h
  exact ⟨pp2, bb2, e, q1, q2, q3, q4, by omega, by omega, q7, fun z => ⟨(q8 z).1, isE_im exS.rf _ h1 (q8 z).2⟩⟩
/-- the chains and the unary ones below -/
def HVc (K : Ky) (T : Nat) (V : Sg → Int32 → Option (Sg × Option Nat)) (d : Nat) : Prop := ∀ (S : Sg) (pp ns vv bb l : Nat), 1 ≤ l → l ≤ 6 → RZ S T pp ns vv bb → (Zi S 3 = 0 → bb ≤ 54) → 8 - l ≤ d → (Zi S 3 = 0 → ns ≤ 16 ∧ 7 * (17 - ns) + 8 - l ≤ d) → Zz S + 8 * (T - pp) + 8 ≤ K.2.1 → Zn S + 120 * (T - pp) + 360 ≤ K.2.2 → Rt (V S (nI l)) (XP K T S pp ns vv bb (24 * (16 - ns) + (24 - l)) 3 48)
def HVu (K : Ky) (T : Nat) (V : Sg → Option (Sg × Option Nat)) (d : Nat) : Prop := ∀ (S : Sg) (pp ns vv bb : Nat), RZ S T pp ns vv bb → (Zi S 3 = 0 → bb ≤ 54) → 1 ≤ d → (Zi S 3 = 0 → ns ≤ 16 ∧ 7 * (17 - ns) + 1 ≤ d) → Zz S + 8 * (T - pp) + 7 ≤ K.2.1 → Zn S + 120 * (T - pp) + 340 ≤ K.2.2 → Rt (V S) (XP K T S pp ns vv bb (24 * (16 - ns) + 18) 3 48)
section EXL
variable {K : Ky} {T : Nat} {V : Sg → Int32 → Option (Sg × Option Nat)} {V2 : Sg → Option (Sg × Option Nat)} {d : Nat} {S : Sg} {pp ns vv bb e : Nat} {fs : List Value}
theorem exp_ (hV : HVc K T V d) (z : RZ S T pp ns vv bb) (hb : Zi S 3 = 0 → bb ≤ 54) (hd : 7 ≤ d) (hd2 : Zi S 3 = 0 → ns ≤ 16 ∧ 7 * (17 - ns) + 7 ≤ d) (r1 : Zz S + 8 * (T - pp) + 8 ≤ K.2.1) (r2 : Zn S + 120 * (T - pp) + 360 ≤ K.2.2) : Rt (f_exp K V V2 S) (XP K T S pp ns vv bb (24 * (16 - ns) + 23) 3 48) := by
  unfold f_exp
  exact Rt.bn (hV S pp ns vv bb 1 (by omega) (by omega) z hb (by omega) (fun q => by have := hd2 q; omega) r1 r2) (fun S2 r q => Rt.rt q)
/-- what a member gives that fills the exp e: its values now, and what is known without a fault -/
def EP (K : Ky) (T : Nat) (S : Sg) (pp ns vv bb e : Nat) (Q : Sg → Nat → Nat → List Value → Prop) (S2 : Sg) : Prop := ∃ (pp2 bb2 : Nat) (fs2 : List Value), RZ S2 T pp2 ns vv bb2 ∧ St (fun b => b = e) S S2 e (.inr (15, fs2)) (8 * (pp2 - pp)) (120 * (pp2 - pp)) ∧ (pp ≤ pp2 ∧ bb ≤ bb2 ∧ bb2 ≤ bb + (pp2 - pp)) ∧ fs2.length = 14 ∧ (Zi S2 3 = 0 → bb2 ≤ 54 ∧ pp < pp2 ∧ Q S2 pp2 bb2 fs2)
/-- a bracket -/
theorem brk_ (hV : HVc K T V d) (z : RZ S T pp ns vv bb) (hb : Zi S 3 = 0 → bb ≤ 54) (hd : 7 ≤ d) (hd2 : Zi S 3 = 0 → ns ≤ 16 ∧ 7 * (17 - ns) ≤ d) (hn : ns ≤ 99) (r1 : Zz S + 8 * (T - pp) + 3 ≤ K.2.1) (r2 : Zn S + 120 * (T - pp) + 280 ≤ K.2.2) (he : e ∈ ZL S) (hF : ZF S e = .inr (15, fs)) (hl : fs.length = 14) : Rt (f_enterBracket K V V2 S (some e)) (fun S2 _ => EP K T S pp ns vv bb e (fun S2 pp2 bb2 fs2 => ∃ o p' q' : Nat, fs2 = fs.set 8 (.ref o) ∧ pp < p' ∧ q' ≤ pp2 ∧ isE (iv (Zz S) (Zz S2)) (ZF S2) (K.1 9) (K.1 0) (24 * (16 - ns)) (16 - ns) o p' q' bb bb2) S2) := by
  have hp := z.1.2.1; have hT := z.1.2.2.1
  have hez := z.2.2.2.2 e he
  have s0 : St (fun b => b = e) S S e (.inr (15, fs)) 0 0 := ⟨GR.rf, fun _ => rfl, he, hF, Nat.le_refl _, Nat.le_refl _⟩
  have h58 : ∀ (S4 : Sg) (p4 b4 : Nat) (fs4 : List Value), RZ S4 T p4 (ns + 1) vv b4 → St (fun b => b = e) S S4 e (.inr (15, fs4)) (8 * (p4 - pp)) (120 * (p4 - pp)) → (pp ≤ p4 ∧ bb ≤ b4 ∧ b4 ≤ bb + (p4 - pp)) → fs4.length = 14 → (Zi S4 3 = 0 → b4 ≤ 54 ∧ pp < p4 ∧ ∃ o p' q' : Nat, fs4 = fs.set 8 (.ref o) ∧ pp < p' ∧ q' ≤ p4 ∧ isE (iv (Zz S) (Zz S4)) (ZF S4) (K.1 9) (K.1 0) (24 * (16 - ns)) (16 - ns) o p' q' bb b4) → Rt (f_enterBracket_58 K V V2 S4) (fun S2 _ => EP K T S pp ns vv bb e (fun S2 pp2 bb2 fs2 => ∃ o p' q' : Nat, fs2 = fs.set 8 (.ref o) ∧ pp < p' ∧ q' ≤ pp2 ∧ isE (iv (Zz S) (Zz S2)) (ZF S2) (K.1 9) (K.1 0) (24 * (16 - ns)) (16 - ns) o p' q' bb bb2) S2) := fun S4 p4 b4 fs4 z4 s4 h1 hl4 h2 => by
    unfold f_enterBracket_58
    refine Rt.nd z4 (fun S5 g5 z5 i5 => Rt.bn (take_ z5 (by decide)) (fun S6 _ q6 => Rt.rt ?_))
    obtain ⟨p6, z6, g6, k1, k2, k3⟩ := q6
    have g46 := g5.tr g6
    refine ⟨p6, b4, fs4, z6, (s4.ss g46).le (by omega) (by omega), by omega, hl4, fun q => ?_⟩
    have q4 : Zi S4 3 = 0 := by rw [← i5]; exact g6.1.2.2.2.2.2 q
    obtain ⟨c1, c2, o, p', q', c3, c4, c5, c6⟩ := h2 q4
    refine ⟨c1, by omega, o, p', q', c3, c4, by omega, ?_⟩
    rw [g46.2.1, g46.2.2.2.1]; exact c6
  have h37 : ∀ S1 : Sg, SS S S1 → RZ S1 T pp (ns + 1) vv bb → (Zi S1 3 = 0 → ns ≠ 16) → Rt (f_enterBracket_37 K V V2 S1 (some e)) (fun S2 _ => EP K T S pp ns vv bb e (fun S2 pp2 bb2 fs2 => ∃ o p' q' : Nat, fs2 = fs.set 8 (.ref o) ∧ pp < p' ∧ q' ≤ pp2 ∧ isE (iv (Zz S) (Zz S2)) (ZF S2) (K.1 9) (K.1 0) (24 * (16 - ns)) (16 - ns) o p' q' bb bb2) S2) := fun S1 g1 z1 h1 => by
    unfold f_enterBracket_37
    refine Rt.bn (take_ z1 (by decide)) (fun S2 _ q2 => ?_)
    obtain ⟨p2, z2, g2, k1, k2, k3⟩ := q2
    have g02 := g1.tr g2
    refine Rt.ok (fun q => ?_) (fun q => h58 S2 p2 bb fs z2 ((s0.ss g02).le (by omega) (by omega)) (by omega) hl (fun z => absurd z q))
    have q1 : Zi S1 3 = 0 := g2.1.2.2.2.2.2 q
    have q0 : Zi S 3 = 0 := g1.1.2.2.2.2.2 q1
    have n16 := h1 q1
    obtain ⟨d1, d2⟩ := hd2 q0
    have hp2 := (k3 q).2
    have e1 := g02.2.2.2.1; have e2 := g02.2.2.2.2
    have hT2 := z2.1.2.1
    refine Rt.bn (exp_ hV z2 (fun _ => hb q0) hd (fun _ => ⟨by omega, by omega⟩) (by omega) (by omega)) (fun S3 r3 q3 => ?_)
    obtain ⟨p3, b3, o, e3, z3, g3, k4, k5, k6, k7, k8⟩ := q3
    subst e3
    have s3 := (s0.ss g02).cl g3 (show e < Zz S2 by omega) (z1 := 8 * (p3 - p2) + 3) (n1 := 120 * (p3 - p2) + 48) (by omega) (by omega)
    refine Rt.pv s3 z3 (by rw [hl]; decide) (show va_rf (some o) = .ref o from rfl) (fun S4 s4 z4 u4 => ?_)
    refine h58 S4 p3 b3 (fs.set 8 (.ref o)) z4 (s4.le (by omega) (by omega)) (by omega) (by rw [List.length_set]; exact hl) (fun q4 => ?_)
    have q3 : Zi S3 3 = 0 := by rw [← u4.2.2.2.2.1]; exact q4
    obtain ⟨c1, c2⟩ := k8 q3
    have c3 := isE_mem c2
    refine ⟨c1, by omega, o, p2, p3, rfl, by omega, by omega, isE_im (iv_ex (by omega) (by rw [u4.2.2.1]; omega) (fun a h1 h2 => u4.1 a (by omega))) _ (by omega) c2⟩
  unfold f_enterBracket
  have hno : Rt (f_enterBracket_27 K V V2 S (some e)) (fun S2 _ => EP K T S pp ns vv bb e (fun S2 pp2 bb2 fs2 => ∃ o p' q' : Nat, fs2 = fs.set 8 (.ref o) ∧ pp < p' ∧ q' ≤ pp2 ∧ isE (iv (Zz S) (Zz S2)) (ZF S2) (K.1 9) (K.1 0) (24 * (16 - ns)) (16 - ns) o p' q' bb bb2) S2) ∨ (Zi S 3 = 0 ∧ Zr S 5 pp = 61) := by
    by_cases hk : Zi S 3 = 0 ∧ Zr S 5 pp = 61
    · exact Or.inr hk
    · left
      unfold f_enterBracket_27
      refine Rt.ni z (fun S1 g1 z1 i1 => ?_)
      -- no bracket here: a fault, or there was one
      unfold f_enterBracket_37
      refine Rt.bn (take_ z1 (by decide)) (fun S2 _ q2 => ?_)
      obtain ⟨p2, z2, g2, k1, k2, k3⟩ := q2
      have g02 := g1.tr g2
      refine Rt.ok (fun q => ?_) (fun q => h58 S2 p2 bb fs z2 ((s0.ss g02).le (by omega) (by omega)) (by omega) hl (fun z => absurd z q))
      refine absurd ⟨g02.1.2.2.2.2.2 q, ?_⟩ hk
      rw [← g1.1.2.1.1]; exact (k3 q).1
  refine Rt.ok (fun q => Rt.is z (fun hk => ?_) (fun hk => hno.resolve_right (fun h => hk h.2))) (fun q => hno.resolve_right (fun h => q h.1))
  rw [z.1.1]
  refine Rt.bn (enter_ z (by omega)) (fun S1 _ q1 => ?_)
  exact h37 S1 q1.2.1 q1.1 q1.2.2
end EXL
