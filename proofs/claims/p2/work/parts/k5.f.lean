-- k5.f.lean.txt
section
/-- the items in a row: each in its own interval of addresses -/
def itJ (K : Ky) (F : Nat → va_E) (fk : Nat → Int32) (f : Nat → Option Nat) (n z0 z1 q : Nat) : Prop := ∃ ws ps ms : Nat → Nat, ws 0 = z0 ∧ ws n = z1 ∧ ps 0 = 0 ∧ ps n = q ∧ ∀ i : Nat, i < n → f i = some (ws i) ∧ ws i < ws (i + 1) ∧ isIt K (iv (ws i) (ws (i + 1))) F fk (ws i) (ps i) (ms i) (ps (i + 1))
theorem itJ_0 {K : Ky} {F : Nat → va_E} {fk : Nat → Int32} {f : Nat → Option Nat} {z : Nat} : itJ K F fk f 0 z z 0 := ⟨fun _ => z, fun _ => 0, fun _ => 0, rfl, rfl, rfl, rfl, fun i hi => absurd hi (by omega)⟩
theorem mono_le {ws : Nat → Nat} {n : Nat} (h : ∀ i : Nat, i < n → ws i < ws (i + 1)) : ∀ {i : Nat}, i ≤ n → ws 0 ≤ ws i
  | 0, _ => Nat.le_refl _
  | i + 1, hi => Nat.le_trans (mono_le h (show i ≤ n by omega)) (Nat.le_of_lt (h i (by omega)))
theorem mono_le2 {ws : Nat → Nat} {n : Nat} (h : ∀ i : Nat, i < n → ws i < ws (i + 1)) : ∀ (d : Nat) {i : Nat}, i + d ≤ n → ws i ≤ ws (i + d)
  | 0, _, _ => Nat.le_refl _
  | d + 1, i, hi => Nat.le_trans (mono_le2 h d (show i + d ≤ n by omega)) (Nat.le_of_lt (h (i + d) (by omega)))
theorem itJ_add {K : Ky} {F F2 : Nat → va_E} {fk : Nat → Int32} {f f2 : Nat → Option Nat} {n z0 z1 q m z2 q2 : Nat} (h : itJ K F fk f n z0 z1 q) (hF : ∀ a : Nat, z0 ≤ a → a < z1 → F2 a = F a) (hs : ∀ i : Nat, i < n → f2 i = f i) (hf : f2 n = some z1) (hz : z1 < z2) (hi : isIt K (iv z1 z2) F2 fk z1 q m q2) : itJ K F2 fk f2 (n + 1) z0 z2 q2 := by
  obtain ⟨ws, ps, ms, h1, h2, h3, h4, h5⟩ := h
  have hm : ∀ i : Nat, i < n → ws i < ws (i + 1) := fun i hi => (h5 i hi).2.1
  refine ⟨fun j => if j = n + 1 then z2 else ws j, fun j => if j = n + 1 then q2 else ps j, fun j => if j = n then m else ms j, (if_neg (by omega)).trans h1, if_pos rfl, (if_neg (by omega)).trans h3, if_pos rfl, fun i hi2 => ?_⟩
  dsimp only
  rw [if_neg (show i ≠ n + 1 by omega)]
  by_cases e : i = n
  · subst e
    rw [if_pos rfl, if_pos rfl, if_pos rfl, if_neg (show i ≠ i + 1 by omega), h2, h4]
    exact ⟨hf, hz, hi⟩
  · rw [if_neg (show ¬ i + 1 = n + 1 by omega), if_neg (show ¬ i + 1 = n + 1 by omega), if_neg e, if_neg (show i ≠ n + 1 by omega), hs i (by omega)]
    obtain ⟨k1, k2, k3⟩ := h5 i (by omega)
    have b1 := mono_le hm (show i ≤ n by omega)
    have b2 := mono_le2 hm (n - (i + 1)) (i := i + 1) (by omega)
    rw [show i + 1 + (n - (i + 1)) = n by omega] at b2
    exact ⟨k1, k2, isI_ex (fun a ha => ⟨ha, hF a (by have := (iv_m.mp ha).1; omega) (by have := (iv_m.mp ha).2; omega)⟩) k3⟩
/-- what the reading of the items leaves as it was -/
def FrP (S S2 : Sg) : Prop := (∀ j : Nat, j ≠ 3 → j ≠ 4 → j ≠ 10 → j ≠ 12 → j ≠ 13 → j ≠ 14 → j ≠ 15 → j ≠ 16 → j ≠ 17 → Zi S2 j = Zi S j) ∧ (Zr S2 = Zr S ∧ Zl S2 = Zl S ∧ (∀ r : Nat, r ≠ 11 → Zq S2 r = Zq S r) ∧ Zf S2 = Zf S) ∧ (∀ a : Nat, a < Zz S → ZF S2 a = ZF S a) ∧ (∀ a : Nat, a ∈ ZL S2 ↔ a ∈ ZL S ∨ (Zz S ≤ a ∧ a < Zz S2)) ∧ (Zz S ≤ Zz S2 ∧ Zn S ≤ Zn S2) ∧ (Zi S2 3 = 0 → Zi S 3 = 0)
theorem FrP.rf {S : Sg} : FrP S S := ⟨fun _ _ _ _ _ _ _ _ _ _ => rfl, ⟨rfl, rfl, fun _ _ => rfl, rfl⟩, fun _ _ => rfl, fun a => ⟨Or.inl, fun h => h.elim id (fun h => absurd h (by omega))⟩, ⟨Nat.le_refl _, Nat.le_refl _⟩, id⟩
theorem FrP.g {X : Nat → Prop} {S S1 S2 : Sg} (h : FrP S S1) (g : GR X S1 S2) (hX : ∀ a : Nat, a < Zz S → ¬ X a) : FrP S S2 := by
  obtain ⟨h1, ⟨h2, h3, h4, h5⟩, h6, h7, h8, h9⟩ := h
  obtain ⟨g1, ⟨g2, g3, g4, g5⟩, g6, g7, g8, g9⟩ := g
  refine ⟨fun j a b c d e f x y z => (g1 j a b c x y z).trans (h1 j a b c d e f x y z), ⟨g2.trans h2, g3.trans h3, fun r hr => (congrFun g4 r).trans (h4 r hr), g5.trans h5⟩, fun a ha => (g6 a (by omega) (hX a ha)).trans (h6 a ha), fun a => ?_, ⟨by omega, by omega⟩, fun q => h9 (g9 q)⟩
  rw [g7, h7]
  constructor
  · rintro ((h | h) | h)
    · exact Or.inl h
    · exact Or.inr ⟨h.1, by omega⟩
    · exact Or.inr ⟨by omega, h.2⟩
  · rintro (h | h)
    · exact Or.inl (Or.inl h)
    · rcases Nat.lt_or_ge a (Zz S1) with z | z
      · exact Or.inl (Or.inr ⟨h.1, z⟩)
      · exact Or.inr ⟨z, h.2⟩
theorem FrP.pf {S S1 S2 : Sg} (h : FrP S S1) (g : PF S1 S2) : FrP S S2 := by
  obtain ⟨h1, ⟨h2, h3, h4, h5⟩, h6, h7, h8, h9⟩ := h
  obtain ⟨⟨g1, g2, g3, g4⟩, ⟨g5, g6, g7, g8⟩, g9, g10⟩ := g
  exact ⟨fun j a b c d e f x y z => (g9 j a b e f).trans (h1 j a b c d e f x y z), ⟨g5.trans h2, g6.trans h3, fun r hr => (congrFun g7 r).trans (h4 r hr), g8.trans h5⟩, fun a ha => by rw [g1]; exact h6 a ha, fun a => by rw [g2, g3]; exact h7 a, by rw [g3, g4]; exact h8, fun q => h9 (g10 q)⟩
theorem FrP.q {S S1 : Sg} {f : Nat → Option Nat} {v : Int32} (h : FrP S S1) : FrP S (Ui (Uq S1 11 f) 12 v) := ⟨fun j a b c d e k x y z => (Zi_n d).trans (h.1 j a b c d e k x y z), ⟨h.2.1.1, h.2.1.2.1, fun r hr => (va_up_ne _ _ hr).trans (h.2.1.2.2.1 r hr), h.2.1.2.2.2⟩, h.2.2.1, h.2.2.2.1, h.2.2.2.2.1, fun q => h.2.2.2.2.2 (by rwa [Zi_n (by decide)] at q)⟩
theorem FrP.ui {S S1 : Sg} {k : Nat} {v : Int32} (h : FrP S S1) (hk : k = 10 ∨ k = 12 ∨ k = 13 ∨ k = 14 ∨ k = 15 ∨ k = 16 ∨ k = 17) : FrP S (Ui S1 k v) := ⟨fun j a b c d e f x y z => (Zi_n (by rcases hk with w | w | w | w | w | w | w <;> rw [w] <;> assumption)).trans (h.1 j a b c d e f x y z), h.2.1, h.2.2.1, h.2.2.2.1, h.2.2.2.2.1, fun q => h.2.2.2.2.2 (by rwa [Zi_n (by rcases hk with w | w | w | w | w | w | w <;> rw [w] <;> decide)] at q)⟩
/-- the items as far as they were read -/
def PrI (K : Ky) (T : Nat) (S S1 : Sg) (p1 : Nat) : Prop := ∃ ns vv bb : Nat, RZ S1 T p1 ns vv bb ∧ FrP S S1 ∧ Zz S1 ≤ Zz S + 8 * p1 + 20 ∧ Zn S1 ≤ Zn S + 120 * p1 + 200 ∧ (Zi S1 3 = 0 → ns = 0 ∧ Zz S1 ≤ Zz S + 8 * p1 ∧ Zn S1 ≤ Zn S + 120 * p1 ∧ ∃ n t u : Nat, Zi S1 12 = nI n ∧ Zi S1 13 = nI t ∧ Zi S1 14 = nI u ∧ n = t + u ∧ t ≤ 30 ∧ u ≤ 40 ∧ itJ K (ZF S1) (Zr S 5) (Zq S1 11) n (Zz S) (Zz S1) p1)
section PRG
variable {K : Ky} {T : Nat} {S : Sg}
theorem x16_ {X : Nat → Prop} {S2 : Sg} {e zz nn pp ns vv bb : Nat} {fs : List Value} (s : St X S S2 e (.inr (16, fs)) zz nn) (h : RZ S2 T pp ns vv bb) (hl : 8 < fs.length) (r1 : Zz S2 + 1 ≤ K.2.1) (r2 : Zn S2 + 13 ≤ K.2.2) : Rt (f_X16_init K S2 e) (fun S3 _ => St X S S3 e (.inr (16, fs.set 8 (.ref (Zz S2)))) (zz + 1) (nn + 13) ∧ RZ S3 T pp ns vv bb ∧ NR S2 S3 e (.inl (K.1 0, 13, .inl (fun _ => 0)))) := by
  unfold f_X16_init
  exact Rt.nap (n := 13) s h hl (by decide) r1 r2 (fun S3 s3 z3 n3 => Rt.rt ⟨s3, z3, n3⟩)
theorem prg25 (r1 : Zz S + 8 * T + 60 ≤ K.2.1) (r2 : Zn S + 120 * T + 900 ≤ K.2.2) : ∀ (m : Nat) {S1 : Sg} {p1 : Nat}, 1 ≤ m → (Zi S1 3 = 0 → T + 1 ≤ p1 + m) → PrI K T S S1 p1 → Rt (f_program_25 K m S1) (fun S2 _ => ∃ p2 : Nat, PrI K T S S2 p2 ∧ (Zi S2 3 = 0 → Zr S 5 p2 = 0))
  | 0, _, _, h, _, _ => absurd h (by omega)
  | m + 1, S1, p1, _, hm, hI => by
    have hI0 := hI
    obtain ⟨ns, vv, bb, z1, f1, k1, k2, hgd⟩ := hI
    have hT1 := z1.1.2.1; have hT := z1.1.2.2.1
    unfold f_program_25
    refine Rt.ok (fun q1 => ?_) (fun q1 => by unfold f_program_159; exact Rt.rt ⟨p1, hI0, fun q => absurd q q1⟩)
    refine Rt.is z1 (fun w => by unfold f_program_159; exact Rt.rt ⟨p1, hI0, fun _ => by rw [← f1.2.1.1]; exact w⟩) (fun w0 => ?_)
    have hm1 := hm q1
    obtain ⟨c1, c2, c3, n, t, u, c4, c5, c6, c7, c8, c9, c10⟩ := hgd q1
    subst c1
    have h77 : (Zr S1 5 p1 = 10 ∨ Zr S1 5 p1 = 11 ∨ Zr S1 5 p1 = 12) → Rt (f_program_77 K (f_program_25 K m) S1) (fun S2 _ => ∃ p2 : Nat, PrI K T S S2 p2 ∧ (Zi S2 3 = 0 → Zr S 5 p2 = 0)) := fun hk => by
      unfold f_program_77
      refine Rt.nw (X := nX) z1 (by omega) (by omega) (fun S2 s2 z2 i2 => ?_)
      have x2 := s2.2.2.2.2.1; have y2 := s2.2.2.2.2.2
      refine Rt.bn (x16_ s2 z2 (Nat.le_of_ble_eq_true rfl) (by omega) (by omega)) (fun S3 _ q3 => ?_)
      obtain ⟨s3, z3, n3⟩ := q3
      have e2 : Zz S2 = Zz S1 + 1 := by have := z2.2.2.2.2 _ s2.2.2.1; omega
      rw [e2] at s3
      refine Rt.pv s3 z3 (Nat.le_of_ble_eq_true rfl) (show Value.int (Zi S3 10) = .int (nI p1) by rw [z3.1.1]) (fun S4 s4 z4 u4 => ?_)
      refine Rt.bd z4.kd ?_
      refine Rt.pv s4 z4 (Nat.le_of_ble_eq_true rfl) (show Value.int (Zr S4 5 p1) = .int (Zr S1 5 p1) by rw [s4.1.2.1.1]) (fun S5 s5 z5 u5 => ?_)
      have s5 : St nX S1 S5 (Zz S1) (.inr (16, itV p1 0 (Zr S1 5 p1) 0 0 (Zz S1 + 1) .null .null .null .null .null .null .null .null 0)) 2 35 := s5
      have i5 : Zi S5 = Zi S1 := by rw [u5.2.2.2.2.1, u4.2.2.2.2.1, n3.2.2.2.2, i2]
      have e5 : Zz S5 = Zz S1 + 2 := by rw [u5.2.2.1, u4.2.2.1, n3.2.2.2.1, e2]
      have m5 : Zz S1 + 1 ∈ ZL S5 := by rw [u5.2.1, u4.2.1]; have := n3.2.1; rwa [e2] at this
      have g5 : ZF S5 (Zz S1 + 1) = .inl (K.1 0, 13, .inl (fun _ => 0)) := by rw [u5.1 _ (by omega), u4.1 _ (by omega)]; have := n3.2.2.1; rwa [e2] at this
      have k5 : Zr S5 5 p1 = Zr S1 5 p1 := by rw [s5.1.2.1.1]
      have x5 := s5.2.2.2.2.2
      have f5 : FrP S S5 := f1.g s5.1 (fun a _ q => q)
      have hz01 := f1.2.2.2.2.1.1
      -- behind the item
      have h128 : ∀ (S6 : Sg) (k : Nat) (mx : Nat), (k = 13 ∧ mx = 30 ∨ k = 14 ∧ mx = 40) → ItC K T S5 p1 (Zz S1) k (nI mx) S6 → Rt (f_program_128 K (f_program_25 K m) S6 (some (Zz S1))) (fun S2 _ => ∃ p2 : Nat, PrI K T S S2 p2 ∧ (Zi S2 3 = 0 → Zr S 5 p2 = 0)) := fun S6 k mx hkm hC => by
        obtain ⟨S', hp', ⟨p6, ns6, vv6, bb6, fs6, z6, g6, w1, w2, w3, w4, w5⟩, w6⟩ := hC
        have f6 : FrP S S6 := (f5.pf hp').g g6 (fun a ha q => by rcases q with q | q <;> omega)
        have e' : Zz S' = Zz S1 + 2 := hp'.1.2.2.1.trans e5
        have n' : Zn S' = Zn S5 := hp'.1.2.2.2
        unfold f_program_128
        refine Rt.ok (fun q6 => ?_) (fun q6 => Rt.rt ⟨p6, ⟨ns6, vv6, bb6, z6, f6, by omega, by omega, fun q => absurd q q6⟩, fun q => absurd q q6⟩)
        obtain ⟨d1, d2, d3, d4, mm, d5⟩ := w5 q6
        obtain ⟨a1, a2⟩ := w6 q6
        have i12 : Zi S6 12 = nI n := by rw [g6.1 12 (by decide) (by decide) (by decide) (by decide) (by decide) (by decide), hp'.2.2.1 12 (by decide) (by decide) (by decide) (by decide), i5]; exact c4
        have hcn : ∃ t6 u6 : Nat, Zi S6 13 = nI t6 ∧ Zi S6 14 = nI u6 ∧ n + 1 = t6 + u6 ∧ t6 ≤ 30 ∧ u6 ≤ 40 := by
          have i13 : Zi S6 13 = Zi S' 13 := g6.1 13 (by decide) (by decide) (by decide) (by decide) (by decide) (by decide)
          have i14 : Zi S6 14 = Zi S' 14 := g6.1 14 (by decide) (by decide) (by decide) (by decide) (by decide) (by decide)
          rcases hkm with ⟨v1, v2⟩ | ⟨v1, v2⟩
          · subst v1 v2
            rw [i5, c5] at a1 a2
            exact ⟨t + 1, u, by rw [i13, a2, Zi_s, nI_1], by rw [i14, a2, Zi_n (by decide), i5, c6], by omega, by have : t ≠ 30 := fun w => a1 (by rw [w]); omega, c9⟩
          · subst v1 v2
            rw [i5, c6] at a1 a2
            exact ⟨t, u + 1, by rw [i13, a2, Zi_n (by decide), i5, c5], by rw [i14, a2, Zi_s, nI_1], by omega, c8, by have : u ≠ 40 := fun w => a1 (by rw [w]); omega⟩
        obtain ⟨t6, u6, b1, b2, b3, b4, b5⟩ := hcn
        rw [i12]
        refine Rt.bd (wQ_n (show n < rlen 11 by show n < 70; omega) (by decide) (okO_mk (vs := _) w4.1 w4.2)) ?_
        refine Rt.bd (v := Ui (Uq S6 11 (va_up (Zq S6 11) n (some (Zz S1)))) 12 (nI (n + 1))) (by show some (Ui (Uq S6 11 (va_up (Zq S6 11) n (some (Zz S1)))) 12 (Zi S6 12 + 1)) = _; rw [i12, nI_1]) ?_
        have hq1 : Zq S6 11 = Zq S1 11 := by rw [g6.2.1.2.2.1, hp'.2.1.2.2.1, s5.1.2.1.2.2.1]
        have hfk : Zr S' 5 = Zr S 5 := by rw [hp'.2.1.1, f5.2.1.1]
        rw [hfk] at d5
        have hz6 : ∀ a : Nat, Zz S ≤ a → a < Zz S1 → ZF S6 a = ZF S1 a := fun a _ h2 => by rw [g6.2.2.1 a (by omega) (fun q => by rcases q with q | q <;> omega), hp'.1.1, s5.1.2.2.1 a (by omega) (fun q => q)]
        refine prg25 r1 r2 m (p1 := p6) (by omega) (fun _ => by omega) ⟨ns6, vv6, bb6, ?_, f6.q, by show Zz S6 ≤ _; omega, by show Zn S6 ≤ _; omega, fun q => ⟨d2, by show Zz S6 ≤ _; omega, by show Zn S6 ≤ _; omega, n + 1, t6, u6, Zi_s, (Zi_n (by decide)).trans b1, (Zi_n (by decide)).trans b2, b3, b4, b5, ?_⟩⟩
        · exact ⟨⟨(Zi_n (by decide)).trans z6.1.1, z6.1.2⟩, (Zi_n (by decide)).trans z6.2.1, (Zi_n (by decide)).trans z6.2.2.1, (Zi_n (by decide)).trans z6.2.2.2.1, z6.2.2.2.2⟩
        · have e6 : Zz S1 < Zz S6 := by have := g6.2.2.2.2.1.1; omega
          rw [Zq_iu]
          exact itJ_add c10 hz6 (fun i hi => (va_up_ne _ _ (by omega)).trans (congrFun hq1 i)) (va_up_self _ _ _) e6 d5
      refine Rt.bd (oI_mk s5.2.2.1 s5.2.2.2.1 rfl) ?_
      refine Rt.it (fun hc => ?_) (fun hc => ?_)
      · rw [hc] at s5
        refine Rt.bn (fun_ z5 e5 s5.2.2.1 s5.2.2.2.1 m5 g5 (k5.trans hc) (by omega) (by omega)) (fun S6 _ q6 => h128 S6 14 40 (Or.inr ⟨rfl, rfl⟩) q6)
      · refine Rt.bn (tit_ z5 e5 s5.2.2.1 s5.2.2.2.1 m5 g5 (by rcases hk with w | w | w; exact Or.inl w; exact Or.inr w; exact absurd w hc) k5 (by omega) (by omega)) (fun S6 _ q6 => h128 S6 13 30 (Or.inl ⟨rfl, rfl⟩) q6)
    refine Rt.is z1 (fun w => h77 (Or.inl w)) (fun w1 => Rt.is z1 (fun w => h77 (Or.inr (Or.inl w))) (fun w2 => Rt.is z1 (fun w => h77 (Or.inr (Or.inr w))) (fun w3 => ?_)))
    rw [z1.1.1]
    exact Rt.be (fail_ (by omega)) (Rt.rt ⟨p1, ⟨0, vv, bb, z1.fl, f1.g SS.fl.1 (fun _ _ q => q), by rw [flS_st.2.2.1]; omega, by rw [flS_st.2.2.2.1]; omega, fun q => absurd q (flS_n0 (by decide))⟩, fun q => absurd q (flS_n0 (by decide))⟩)
/-- program -/
theorem prg_ (h0 : Zr S 5 (T - 1) = 0) (hT : 0 < T) (hT2 : T ≤ 3001) (hL : ∀ a ∈ ZL S, a < Zz S) {vv bb : Nat} (hv : Zi S 16 = nI vv) (hb : Zi S 17 = nI bb) (r1 : Zz S + 8 * T + 60 ≤ K.2.1) (r2 : Zn S + 120 * T + 900 ≤ K.2.2) : Rt (f_program K S) (fun S2 _ => ∃ p2 : Nat, PrI K T S S2 p2 ∧ (Zi S2 3 = 0 → Zr S 5 p2 = 0)) := by
  unfold f_program
  refine Rt.bd (v := Ui S 12 (nI 0)) rfl (Rt.bd (v := Ui (Ui S 12 (nI 0)) 13 (nI 0)) rfl (Rt.bd (v := Ui (Ui (Ui S 12 (nI 0)) 13 (nI 0)) 14 (nI 0)) rfl (Rt.bd (v := Ui (Ui (Ui (Ui S 12 (nI 0)) 13 (nI 0)) 14 (nI 0)) 10 (nI 0)) rfl (Rt.bd (v := Ui (Ui (Ui (Ui (Ui S 12 (nI 0)) 13 (nI 0)) 14 (nI 0)) 10 (nI 0)) 15 (nI 0)) rfl ?_))))
  refine prg25 r1 r2 bigN (p1 := 0) (by decide) (fun _ => by show T + 1 ≤ 0 + 1000000000000; omega) ⟨0, vv, bb, ⟨⟨(Zi_n (by decide)).trans Zi_s, hT, hT2, h0⟩, Zi_s, hv, hb, hL⟩, ((((FrP.rf.ui (by decide)).ui (by decide)).ui (by decide)).ui (by decide)).ui (by decide), by show Zz S ≤ _; omega, by show Zn S ≤ _; omega, fun q => ⟨rfl, by show Zz S ≤ _; omega, by show Zn S ≤ _; omega, 0, 0, 0, rfl, rfl, rfl, rfl, by omega, by omega, itJ_0⟩⟩
end PRG
end
-- k6.a.lean.txt
section
/-- what was read: rows' classes and room, the state then, tokens, bytes, items, where they lie, their tokens, kinds, the last token; the rows of parameters' variables, with their tokens -/
abbrev yR : Type := Ky × Sg × Nat × Nat × Nat × (Nat → Nat) × (Nat → Nat) × (Nat → Nat) × (Nat → Int32) × Nat × (Nat → Option Nat)
def yR.K (R : yR) : Ky := R.1
def yR.S (R : yR) : Sg := R.2.1
def yR.T (R : yR) : Nat := R.2.2.1
def yR.zs (R : yR) : Nat := R.2.2.2.1
def yR.im (R : yR) : Nat := R.2.2.2.2.1
def yR.ws (R : yR) : Nat → Nat := R.2.2.2.2.2.1
def yR.ps (R : yR) : Nat → Nat := R.2.2.2.2.2.2.1
def yR.ms (R : yR) : Nat → Nat := R.2.2.2.2.2.2.2.1
def yR.ik (R : yR) : Nat → Int32 := R.2.2.2.2.2.2.2.2.1
def yR.qz (R : yR) : Nat := R.2.2.2.2.2.2.2.2.2.1
def yR.pw (R : yR) : Nat → Option Nat := R.2.2.2.2.2.2.2.2.2.2
/-- how many types there are -/
def tmS (S : Sg) : Nat := (Zi S 19).toNatClampNeg
/-- x is a type: its kind, its item, what it is of -/
def isTy (S : Sg) (x : Nat) (kd ix : Int32) (o : Option Nat) : Prop := ∃ t : Nat, t < tmS S ∧ Zq S 18 t = some x ∧ x ∈ ZL S ∧ ZF S x = .inr (20, [.int kd, .int ix, .int (nI t), va_rf o])
theorem va_rf_inj {o p : Option Nat} (h : va_rf o = va_rf p) : o = p := by
  cases o with
  | none => cases p with
    | none => rfl
    | some _ => cases h
  | some a => cases p with
    | none => cases h
    | some b => cases h; rfl
theorem isTy_fn {S : Sg} {x : Nat} {kd ix kd2 ix2 : Int32} {o o2 : Option Nat} (h : isTy S x kd ix o) (g : isTy S x kd2 ix2 o2) : kd = kd2 ∧ ix = ix2 ∧ o = o2 := by
  obtain ⟨t, h1, h2, h3, h4⟩ := h
  obtain ⟨u, g1, g2, g3, g4⟩ := g
  rw [h4] at g4
  have e := (Prod.mk.inj (Sum.inr.inj g4)).2
  simp only [List.cons.injEq, Value.int.injEq, and_true] at e
  exact ⟨e.1, e.2.1, va_rf_inj e.2.2.2⟩
/-- a variable: its number, name, type, whether it is mutable -/
def vrC (ix : Nat) (nm : Int32) (ty : Option Nat) (mu : Int32) : va_E := .inr (21, [.int (nI ix), .int nm, va_rf ty, .int mu, .null])
/-- v is a variable -/
def isV (S : Sg) (v ix : Nat) (nm : Int32) (ty : Option Nat) (mu : Int32) : Prop := v ∈ ZL S ∧ ZF S v = vrC ix nm ty mu
/-- a type of values: plain, an item's, or a box of one -/
def vTyn (S : Sg) : Nat → Nat → Prop
  | 0, _ => False
  | n + 1, x => ∃ (kd ix : Int32) (o : Option Nat), isTy S x kd ix o ∧ ((kd = 0 ∨ kd = 1 ∨ kd = 2 ∨ kd = 3 ∨ kd = 4) ∨ (kd = 5 ∧ ∃ u : Nat, o = some u ∧ vTyn S n u))
def vTy (S : Sg) (x : Nat) : Prop := ∃ n : Nat, vTyn S n x
/-- .. or a reference to one -/
def rTy (S : Sg) (x : Nat) : Prop := vTy S x ∨ ∃ (kd : Int32) (u : Nat), isTy S x kd 0 (some u) ∧ (kd = 6 ∨ kd = 7) ∧ vTy S u
theorem vTyn_im {S S2 : Sg} (h : ∀ (x : Nat) (kd ix : Int32) (o : Option Nat), isTy S x kd ix o → isTy S2 x kd ix o) : ∀ {n x : Nat}, vTyn S n x → vTyn S2 n x
  | 0, _, q => q.elim
  | n + 1, x, ⟨kd, ix, o, q1, q2⟩ => ⟨kd, ix, o, h _ _ _ _ q1, q2.imp id (fun ⟨a, u, b, c⟩ => ⟨a, u, b, vTyn_im h c⟩)⟩
theorem vTy.im {S S2 : Sg} {x : Nat} (h : vTy S x) (g : ∀ (x : Nat) (kd ix : Int32) (o : Option Nat), isTy S x kd ix o → isTy S2 x kd ix o) : vTy S2 x := h.elim (fun n h => ⟨n, vTyn_im g h⟩)
theorem rTy.im {S S2 : Sg} {x : Nat} (h : rTy S x) (g : ∀ (x : Nat) (kd ix : Int32) (o : Option Nat), isTy S x kd ix o → isTy S2 x kd ix o) : rTy S2 x := h.imp (fun h => h.im g) (fun ⟨kd, u, h1, h2, h3⟩ => ⟨kd, u, g _ _ _ _ h1, h2, h3.im g⟩)
/-- .. but for the ints, the rows and the function that is typed -/
def VZ (R : yR) (X : Nat → Prop) (S S2 : Sg) : Prop := (∀ a ∈ ZL R.S, ¬ X a → ZF S2 a = ZF S a) ∧ (∀ a ∈ ZL S, a ∈ ZL S2) ∧ (∀ (x : Nat) (kd ix : Int32) (o : Option Nat), isTy S x kd ix o → isTy S2 x kd ix o) ∧ (∀ (v ix : Nat) (nm : Int32) (ty : Option Nat) (mu : Int32), isV S v ix nm ty mu → ∃ t2 : Option Nat, isV S2 v ix nm t2 mu ∧ ((ty = none ∧ ∀ x : Nat, t2 = some x → rTy S2 x) ∨ t2 = ty)) ∧ (Zi S2 3 = 0 → Zi S 3 = 0)
/-- from S to S2: of what was read only cells of X are written; types stay, variables may get their type -/
def VX (R : yR) (X : Nat → Prop) (S S2 : Sg) : Prop := ((∀ j : Nat, j ≠ 3 → j ≠ 4 → j ≠ 19 → j ≠ 23 → j ≠ 24 → Zi S2 j = Zi S j) ∧ Zr S2 = Zr S ∧ Zl S2 = Zl S ∧ (∀ r : Nat, r ≠ 18 → r ≠ 22 → Zq S2 r = Zq S r) ∧ Zf S2 = Zf S) ∧ VZ R X S S2
/-- the scope stays -/
def VS (S S2 : Sg) : Prop := Zi S2 23 = Zi S 23 ∧ Zi S2 24 = Zi S 24 ∧ (Zq S2 22 = Zq S 22 ∧ ∀ (a k : Nat) (vs : List Value), k = 13 ∨ k = 19 → a ∈ ZL S → ZF S a = .inr (k, vs) → a ∈ ZL S2 ∧ ZF S2 a = .inr (k, vs)) ∧ ∀ (v ix : Nat) (nm : Int32) (ty : Option Nat) (mu : Int32), isV S v ix nm ty mu → isV S2 v ix nm ty mu
theorem VX.rf {R : yR} {X : Nat → Prop} {S : Sg} : VX R X S S := ⟨⟨fun _ _ _ _ _ _ => rfl, rfl, rfl, fun _ _ _ => rfl, rfl⟩, fun _ _ _ => rfl, fun _ h => h, fun _ _ _ _ h => h, fun _ _ _ _ _ h => ⟨_, h, Or.inr rfl⟩, id⟩
theorem VX.tr {R : yR} {X Y : Nat → Prop} {S S1 S2 : Sg} (h : VX R X S S1) (g : VX R Y S1 S2) (hX : ∀ a : Nat, Y a → X a) : VX R X S S2 := by
  obtain ⟨⟨h1, h2, h3, h4, h5⟩, h6, h7, h8, h9, h10⟩ := h
  obtain ⟨⟨g1, g2, g3, g4, g5⟩, g6, g7, g8, g9, g10⟩ := g
  refine ⟨⟨fun j a b c d e => (g1 j a b c d e).trans (h1 j a b c d e), g2.trans h2, g3.trans h3, fun r a b => (g4 r a b).trans (h4 r a b), g5.trans h5⟩, fun a ha q => (g6 a ha (fun w => q (hX a w))).trans (h6 a ha q), fun a ha => g7 a (h7 a ha), fun x kd ix o q => g8 x kd ix o (h8 x kd ix o q), fun v ix nm ty mu q => ?_, fun q => h10 (g10 q)⟩
  obtain ⟨t1, a1, a2⟩ := h9 v ix nm ty mu q
  obtain ⟨t2, b1, b2⟩ := g9 v ix nm t1 mu a1
  refine ⟨t2, b1, ?_⟩
  rcases a2 with ⟨a2, a3⟩ | a2
  · rcases b2 with ⟨b2, b3⟩ | b2
    · exact Or.inl ⟨a2, b3⟩
    · exact Or.inl ⟨a2, fun x e => (a3 x (b2.symm.trans e)).im g8⟩
  · rcases b2 with ⟨b2, b3⟩ | b2
    · exact Or.inl ⟨a2.symm.trans b2, b3⟩
    · exact Or.inr (b2.trans a2)
theorem VX.mo {R : yR} {X Y : Nat → Prop} {S S2 : Sg} (h : VX R X S S2) (hX : ∀ a : Nat, X a → Y a) : VX R Y S S2 := ⟨h.1, fun a ha q => h.2.1 a ha (fun w => q (hX a w)), h.2.2⟩
theorem VX.n {R : yR} {X : Nat → Prop} {S S1 S2 : Sg} (h : VX R X S S1) (g : VX R nX S1 S2) : VX R X S S2 := h.tr g (fun _ q => q.elim)
theorem VX.b {R : yR} {X : Nat → Prop} {S S1 S2 : Sg} (h : VX R nX S S1) (g : VX R X S1 S2) : VX R X S S2 := (h.mo (fun _ q => q.elim)).tr g (fun _ q => q)
theorem VS.rf {S : Sg} : VS S S := ⟨rfl, rfl, ⟨rfl, fun _ _ _ _ h1 h2 => ⟨h1, h2⟩⟩, fun _ _ _ _ _ h => h⟩
theorem VS.tr {S S1 S2 : Sg} (h : VS S S1) (g : VS S1 S2) : VS S S2 := ⟨g.1.trans h.1, g.2.1.trans h.2.1, ⟨g.2.2.1.1.trans h.2.2.1.1, fun a k vs hk h1 h2 => g.2.2.1.2 a k vs hk (h.2.2.1.2 a k vs hk h1 h2).1 (h.2.2.1.2 a k vs hk h1 h2).2⟩, fun v ix nm ty mu q => g.2.2.2 v ix nm ty mu (h.2.2.2 v ix nm ty mu q)⟩
/-- the typing's state: c the tokens that the types made so far may be charged to, nv variables made -/
def TS (R : yR) (c nv : Nat) (S : Sg) : Prop := ∃ (G : Nat → va_E) (tm : Nat) (Y : Nat → Int32 × Int32 × Option Nat) (ad : Nat → Nat), TQ R.K S G R.T R.zs R.im R.ws R.ps R.ms R.ik R.qz tm Y ad (Zz R.S) (Zn R.S) nv ∧ (∀ a ∈ ZL R.S, a ∈ ZL S ∧ G a = ZF R.S a) ∧ ptN Y tm ≤ c + 4 ∧ ((∀ j : Nat, j ≠ 3 → j ≠ 4 → j ≠ 19 → j ≠ 21 → j ≠ 23 → j ≠ 24 → Zi S j = Zi R.S j) ∧ (∀ r : Nat, r ≠ 20 → Zr S r = Zr R.S r) ∧ Zl S = Zl R.S ∧ ∀ r : Nat, r ≠ 18 → r ≠ 22 → Zq S r = Zq R.S r)
/-- room for the typing -/
def yRm (R : yR) : Prop := Zz R.S + 40000 ≤ R.K.2.1 ∧ Zn R.S + 400000 ≤ R.K.2.2 ∧ ∀ i j : Nat, i < 14 → j < 14 → i ≠ j → R.K.1 i ≠ R.K.1 j
section TSL
variable {R : yR} {c nv : Nat} {S : Sg}
theorem TS.up (h : TS R c nv S) {c2 : Nat} (hc : c ≤ c2) : TS R c2 nv S := by
  obtain ⟨G, tm, Y, ad, h1, h2, h3, h4⟩ := h
  exact ⟨G, tm, Y, ad, h1, h2, by omega, h4⟩
theorem TS.fk (h : TS R c nv S) {r : Nat} (hr : r ≠ 20) : Zr S r = Zr R.S r := by
  obtain ⟨G, tm, Y, ad, h1, h2, h3, h4⟩ := h
  exact h4.2.1 r hr
theorem TS.L (h : TS R c nv S) {a : Nat} (ha : a ∈ ZL R.S) : a ∈ ZL S := by
  obtain ⟨G, tm, Y, ad, h1, h2, h3, h4⟩ := h
  exact (h2 a ha).1
theorem TQ.tm9 {K : Ky} {G : Nat → va_E} {T zs im : Nat} {xI ps ms : Nat → Nat} {ik : Nat → Int32} {qz tm : Nat} {Y : Nat → Int32 × Int32 × Option Nat} {ad : Nat → Nat} {z0 n0 vt : Nat} (h : TQ K S G T zs im xI ps ms ik qz tm Y ad z0 n0 vt) (ht : tm ≤ 2000) : tmS S = tm := by unfold tmS; rw [h.2.2.2.1, nI_clamp (by omega)]
theorem TQ.ty9 {K : Ky} {G : Nat → va_E} {T zs im : Nat} {xI ps ms : Nat → Nat} {ik : Nat → Int32} {qz tm : Nat} {Y : Nat → Int32 × Int32 × Option Nat} {ad : Nat → Nat} {z0 n0 vt : Nat} (h : TQ K S G T zs im xI ps ms ik qz tm Y ad z0 n0 vt) (ht : tm ≤ 2000) {t : Nat} (htt : t < tm) : isTy S (ad t) (Y t).1 (Y t).2.1 (Y t).2.2 := by
  obtain ⟨h1, h2, h3⟩ := h.ty htt
  exact ⟨t, by rw [h.tm9 ht]; exact htt, h1, h2, h3⟩
theorem TQ.of9 {K : Ky} {G : Nat → va_E} {T zs im : Nat} {xI ps ms : Nat → Nat} {ik : Nat → Int32} {qz tm : Nat} {Y : Nat → Int32 × Int32 × Option Nat} {ad : Nat → Nat} {z0 n0 vt : Nat} (h : TQ K S G T zs im xI ps ms ik qz tm Y ad z0 n0 vt) (ht : tm ≤ 2000) {x : Nat} {kd ix : Int32} {o : Option Nat} (hx : isTy S x kd ix o) : ∃ t : Nat, t < tm ∧ x = ad t ∧ Y t = (kd, ix, o) := by
  have hx' := hx
  obtain ⟨t, h1, h2, h3, h4⟩ := hx
  rw [h.tm9 ht] at h1
  obtain ⟨g1, g2, g3⟩ := h.ty h1
  have e : x = ad t := Option.some.inj (h2.symm.trans g1)
  subst e
  obtain ⟨e1, e2, e3⟩ := isTy_fn hx' (h.ty9 ht h1)
  exact ⟨t, h1, rfl, Prod.ext e1.symm (Prod.ext e2.symm e3.symm)⟩
theorem TS.at (h : TS R c nv S) (hc : c ≤ 1990) {x : Nat} {kd ix : Int32} {o : Option Nat} (hx : isTy S x kd ix o) : yOK R.im R.ik (kd, ix, o) ∧ ∀ u : Nat, o = some u → ∃ (k i : Int32) (p : Option Nat), isTy S u k i p := by
  obtain ⟨G, tm, Y, ad, h1, h2, h3, h4⟩ := h
  have htm : tm ≤ 2000 := by have := ptN_ge (Y := Y) (tm := tm); omega
  obtain ⟨t, g1, g2, g3⟩ := h1.of9 htm hx
  refine ⟨by rw [← g3]; exact h1.1.2.2.2.2 t g1, fun u hu => ?_⟩
  obtain ⟨_, _, _, k4⟩ := h1.1.2.2.2.1.1 t g1
  rw [g3] at k4
  rcases k4 with k4 | ⟨v, k5, k6⟩
  · rw [hu] at k4; cases k4
  · rw [hu] at k6
    cases k6
    exact ⟨_, _, _, h1.ty9 htm (by omega)⟩
theorem TS.eq (h : TS R c nv S) (hc : c ≤ 1990) {x y : Nat} {kd ix : Int32} {o : Option Nat} (hx : isTy S x kd ix o) (hy : isTy S y kd ix o) : x = y := by
  obtain ⟨G, tm, Y, ad, h1, h2, h3, h4⟩ := h
  have htm : tm ≤ 2000 := by have := ptN_ge (Y := Y) (tm := tm); omega
  obtain ⟨t, g1, g2, g3⟩ := h1.of9 htm hx
  obtain ⟨u, k1, k2, k3⟩ := h1.of9 htm hy
  rw [g2, k2, h1.1.2.2.2.1.2 t u g1 k1 (g3.trans k3.symm)]
/-- a member of the typing that only makes types -/
theorem TS.bk {G : Nat → va_E} {tm : Nat} {Y : Nat → Int32 × Int32 × Option Nat} {ad : Nat → Nat} {S2 : Sg} {G2 : Nat → va_E} {tm2 : Nat} {Y2 : Nat → Int32 × Int32 × Option Nat} {ad2 : Nat → Nat} {dp : Nat} (h1 : TQ R.K S G R.T R.zs R.im R.ws R.ps R.ms R.ik R.qz tm Y ad (Zz R.S) (Zn R.S) nv) (h2 : ∀ a ∈ ZL R.S, a ∈ ZL S ∧ G a = ZF R.S a) (h3 : ptN Y tm ≤ c + 4) (h4 : (∀ j : Nat, j ≠ 3 → j ≠ 4 → j ≠ 19 → j ≠ 21 → j ≠ 23 → j ≠ 24 → Zi S j = Zi R.S j) ∧ (∀ r : Nat, r ≠ 20 → Zr S r = Zr R.S r) ∧ Zl S = Zl R.S ∧ ∀ r : Nat, r ≠ 18 → r ≠ 22 → Zq S r = Zq R.S r) (g : TyM R.K S G R.T R.zs R.im R.ws R.ps R.ms R.ik R.qz tm Y ad (Zz R.S) (Zn R.S) nv dp S2 G2 tm2 Y2 ad2) (hc : c + dp ≤ 1990) : TS R (c + dp) nv S2 ∧ VX R nX S S2 ∧ VS S S2 ∧ tm2 ≤ 2000 := by
  obtain ⟨g1, g2, g3, g4, g5, g6⟩ := g
  have htm : tm ≤ 2000 := by have := ptN_ge (Y := Y) (tm := tm); omega
  have htm2 : tm2 ≤ 2000 := by have := ptN_ge (Y := Y2) (tm := tm2); omega
  have hV : ∀ (v ix : Nat) (nm : Int32) (ty : Option Nat) (mu : Int32), isV S v ix nm ty mu → isV S2 v ix nm ty mu := fun v ix nm ty mu q => ⟨(g3 v q.1).1, (g3 v q.1).2.trans q.2⟩
  refine ⟨⟨G2, tm2, Y2, ad2, g1, fun a ha => ⟨(g3 a (h2 a ha).1).1, ((g2.1 a (h2 a ha).1).2).trans (h2 a ha).2⟩, by omega, fun j a b c d e f => (g4.1 j a b c).trans (h4.1 j a b c d e f), fun r hr => (congrFun g4.2.1 r).trans (h4.2.1 r hr), g4.2.2.1.trans h4.2.2.1, fun r a b => (g4.2.2.2.1 r a).trans (h4.2.2.2 r a b)⟩, ⟨⟨fun j a b c _ _ => g4.1 j a b c, g4.2.1, g4.2.2.1, fun r a _ => g4.2.2.2.1 r a, g4.2.2.2.2⟩, fun a ha _ => (g3 a (h2 a ha).1).2, fun a ha => (g3 a ha).1, fun x kd ix o q => ?_, fun v ix nm ty mu q => ⟨ty, hV v ix nm ty mu q, Or.inr rfl⟩, g5⟩, ⟨g4.1 23 (by decide) (by decide) (by decide), g4.1 24 (by decide) (by decide) (by decide), ⟨g4.2.2.2.1 22 (by decide), fun a k vs _ q1 q2 => ⟨(g3 a q1).1, (g3 a q1).2.trans q2⟩⟩, hV⟩, htm2⟩
  obtain ⟨t, k1, k2, k3⟩ := h1.of9 htm q
  have k4 := g1.ty9 htm2 (t := t) (Nat.lt_of_lt_of_le k1 g2.2.1)
  rw [(g2.2.2 t k1).1, (g2.2.2 t k1).2, k3, ← k2] at k4
  exact k4
/-- type -/
theorem typ_ (hK : yRm R) (hv : nv ≤ 10000) (h : TS R c nv S) {kd ix : Int32} {o : Option Nat} (hy : yOK R.im R.ik (kd, ix, o)) (ho : o = none ∨ ∃ (u : Nat) (k i : Int32) (p : Option Nat), o = some u ∧ isTy S u k i p) (hc : c < 1990) : Rt (f_type R.K S kd ix o) (fun S2 r => ∃ x : Nat, r = some x ∧ TS R (c + 1) nv S2 ∧ isTy S2 x kd ix o ∧ VX R nX S S2 ∧ VS S S2 ∧ Zi S2 3 = Zi S 3) := by
  obtain ⟨G, tm, Y, ad, h1, h2, h3, h4⟩ := h
  have htm : tm < 2000 := by have := ptN_ge (Y := Y) (tm := tm); omega
  refine (type_ ⟨hK.1, hK.2.1⟩ hv h1 hy ?_ htm).mo (fun S2 r q => ?_)
  · rcases ho with ho | ⟨u, k, i, p, ho, hu⟩
    · exact Or.inl ho
    · obtain ⟨t, g1, g2, g3⟩ := h1.of9 (by omega) hu
      exact Or.inr ⟨t, g1, by rw [ho, g2]⟩
  · obtain ⟨G2, tm2, Y2, ad2, t2, q1, q2, q3, q4, q5, q6⟩ := q
    obtain ⟨b1, b2, b3, b4⟩ := TS.bk h1 h2 h3 h4 q1.m (by omega)
    have k := q1.1.ty9 b4 q2
    rw [q4] at k
    exact ⟨ad2 t2, q3, b1, k, b2, b3, q1.2.2.2.2.1⟩
/-- plainType -/
theorem plt_ (hK : yRm R) (hv : nv ≤ 10000) (h : TS R c nv S) {kd : Int32} (hk : kd = 0 ∨ kd = 1 ∨ kd = 2 ∨ kd = 8) (hc : c ≤ 1990) : Rt (f_plainType R.K S kd) (fun S2 r => ∃ x : Nat, r = some x ∧ TS R c nv S2 ∧ isTy S2 x kd 0 none ∧ VX R nX S S2 ∧ VS S S2 ∧ Zi S2 3 = Zi S 3) := by
  obtain ⟨G, tm, Y, ad, h1, h2, h3, h4⟩ := h
  refine (plain_ ⟨hK.1, hK.2.1⟩ hv h1 hk (by omega)).mo (fun S2 r q => ?_)
  obtain ⟨G2, tm2, Y2, ad2, t2, q1, q2, q3, q4, q5⟩ := q
  obtain ⟨b1, b2, b3, b4⟩ := TS.bk (dp := 0) h1 h2 h3 h4 q1.m (by omega)
  have k := q1.1.ty9 b4 q2
  rw [q4] at k
  exact ⟨ad2 t2, q3, b1, k, b2, b3, q1.2.2.2.2.1⟩
theorem ref_ {K : Ky} {x : Nat} {kd ix : Int32} {o : Option Nat} (h : isTy S x kd ix o) : f_refers K S (some x) = some (S, if kd = 6 ∨ kd = 7 then 1 else 0) := by
  obtain ⟨t, h1, h2, h3, h4⟩ := h
  unfold f_refers f_refers_18 f_refers_23
  rw [zb0, zb1, oI_mk h3 h4 (v := kd) rfl]
  show (if kd = 6 then _ else if kd = 7 then _ else _) = _
  by_cases e : kd = 6
  · rw [if_pos e, if_pos (Or.inl e)]
  · by_cases e2 : kd = 7
    · rw [if_neg e, if_pos e2, if_pos (Or.inr e2)]
    · rw [if_neg e, if_neg e2, if_neg (fun q => q.elim e e2)]
theorem cop_ {K : Ky} {x : Nat} {kd ix : Int32} {o : Option Nat} (h : isTy S x kd ix o) : f_copied K S (some x) = some (S, if kd = 0 ∨ kd = 1 ∨ kd = 6 then 1 else 0) := by
  obtain ⟨t, h1, h2, h3, h4⟩ := h
  unfold f_copied f_copied_24 f_copied_29
  rw [zb0, zb1, oI_mk h3 h4 (v := kd) rfl]
  show (if kd = 0 then _ else if kd = 1 then _ else if kd = 6 then _ else _) = _
  by_cases e : kd = 0
  · rw [if_pos e, if_pos (Or.inl e)]
  · by_cases e2 : kd = 1
    · rw [if_neg e, if_pos e2, if_pos (Or.inr (Or.inl e2))]
    · by_cases e3 : kd = 6
      · rw [if_neg e, if_neg e2, if_pos e3, if_pos (Or.inr (Or.inr e3))]
      · rw [if_neg e, if_neg e2, if_neg e3, if_neg (fun q => q.elim e (fun q => q.elim e2 e3))]
theorem snm_ (h : TS R c nv S) {ta tb : Nat} (hta : ta < R.T) (htb : tb < R.T) : Rt (f_sameName R.K S (nI ta) (nI tb)) (fun S2 r => S2 = S ∧ (r = 0 ∨ r = 1)) := by
  obtain ⟨G, tm, Y, ad, h1, h2, h3, h4⟩ := h
  exact sam_ h1 hta htb
theorem inm_ (h : TS R c nv S) {tj : Nat} (htj : tj < R.T) : Rt (f_itemNamed R.K S (nI tj)) (fun S2 r => S2 = S ∧ (r = -1 ∨ ∃ i : Nat, i < R.im ∧ r = nI i)) := by
  obtain ⟨G, tm, Y, ad, h1, h2, h3, h4⟩ := h
  exact itN_ h1 htj
theorem TS.tb (h : TS R c nv S) : R.T ≤ 3001 := by
  obtain ⟨G, tm, Y, ad, h1, h2, h3, h4⟩ := h
  exact h1.tb
theorem VX.fl {X : Nat → Prop} {wh x : Int32} : VX R X S (flS S wh x) := ⟨⟨fun j a b _ _ _ => flS_i a b, flS_fr.2.1, flS_fr.2.2.1, fun r a _ => flS_fr.2.2.2.1 r a, flS_fr.2.2.2.2⟩, fun a _ _ => by rw [flS_st.2.1], fun a ha => by rw [flS_st.1]; exact ha, fun y kd ix o ⟨t, h1, h2, h3, h4⟩ => ⟨t, by unfold tmS; rw [flS_st.2.2.2.2.2]; exact h1, by rw [flS_st.2.2.2.2.1]; exact h2, by rw [flS_st.1]; exact h3, by rw [flS_st.2.1]; exact h4⟩, fun v ix nm ty mu q => ⟨ty, ⟨by rw [flS_st.1]; exact q.1, by rw [flS_st.2.1]; exact q.2⟩, Or.inr rfl⟩, SS.fl.1.2.2.2.2.2⟩
theorem VS.fl {wh x : Int32} : VS S (flS S wh x) := ⟨flS_i (by decide) (by decide), flS_i (by decide) (by decide), ⟨by rw [flS_st.2.2.2.2.1], fun a k vs _ q1 q2 => ⟨by rw [flS_st.1]; exact q1, by rw [flS_st.2.1]; exact q2⟩⟩, fun v ix nm ty mu q => ⟨by rw [flS_st.1]; exact q.1, by rw [flS_st.2.1]; exact q.2⟩⟩
theorem TS.fl (h : TS R c nv S) {wh x : Int32} : TS R c nv (flS S wh x) := by
  obtain ⟨G, tm, Y, ad, h1, h2, h3, h4⟩ := h
  exact ⟨G, tm, Y, ad, h1.fl, fun a ha => ⟨by rw [flS_st.1]; exact (h2 a ha).1, (h2 a ha).2⟩, h3, fun j a b c d e f => (flS_i a b).trans (h4.1 j a b c d e f), fun r hr => (congrFun flS_fr.2.1 r).trans (h4.2.1 r hr), flS_fr.2.2.1.trans h4.2.2.1, fun r a b => (flS_fr.2.2.2.1 r a).trans (h4.2.2.2 r a b)⟩
/-- a cell that was read is written, as it may be -/
theorem TS.uf (h : TS R c nv S) {a : Nat} {x : va_E} (ha : a ∈ ZL R.S) (hx : cs (ZF R.S a) x) : TS R c nv (UF S a x) := by
  obtain ⟨G, tm, Y, ad, h1, h2, h3, h4⟩ := h
  refine ⟨G, tm, Y, ad, ⟨tgd_up h1.1 (by rw [(h2 a ha).2]; exact hx), h1.2.1, h1.2.2.1, h1.2.2.2.1, h1.2.2.2.2.1, h1.2.2.2.2.2.1, h1.2.2.2.2.2.2⟩, h2, h3, h4⟩
theorem VX.uf {X : Nat → Prop} {a : Nat} {x : va_E} (hX : X a) (hc : ∀ vs : List Value, ¬ ZF S a = .inr (20, vs)) (hd : ∀ vs : List Value, ¬ ZF S a = .inr (21, vs)) : VX R X S (UF S a x) := ⟨⟨fun _ _ _ _ _ _ => rfl, rfl, rfl, fun _ _ _ => rfl, rfl⟩, fun b _ q => ZF_n (fun e => q (e ▸ hX)), fun _ h => h, fun y kd ix o ⟨t, h1, h2, h3, h4⟩ => ⟨t, h1, h2, h3, (ZF_n (fun e => hc _ (e ▸ h4))).trans h4⟩, fun v ix nm ty mu q => ⟨ty, ⟨q.1, (ZF_n (fun e => hd _ (e ▸ q.2))).trans q.2⟩, Or.inr rfl⟩, id⟩
theorem VS.uf {a : Nat} {x : va_E} (hd : ∀ (k : Nat) (vs : List Value), k ≠ 15 → ¬ ZF S a = .inr (k, vs)) : VS S (UF S a x) := ⟨rfl, rfl, ⟨rfl, fun b k vs hk q1 q2 => ⟨q1, (ZF_n (b := b) (fun e => hd k vs (by rcases hk with w | w <;> subst w <;> decide) (by rw [← e]; exact q2))).trans q2⟩⟩, fun v ix nm ty mu q => ⟨q.1, (ZF_n (fun e => hd 21 _ (by decide) (e ▸ q.2))).trans q.2⟩⟩
/-- fail, at a token -/
theorem fai_ (h : TS R c nv S) {K : Ky} {wh : Int32} {tj : Nat} (htj : tj < R.T) : f_fail K S wh (nI tj) = some (flS S wh (Zr S 6 tj), ()) := fail_ (by have := h.tb; omega)
end TSL
end
-- k6.b.lean.txt
section
/-- .. or nothing -/
def xTy (S : Sg) (x : Nat) : Prop := rTy S x ∨ isTy S x 8 0 none
theorem xTy.im {S S2 : Sg} {x : Nat} (h : xTy S x) (g : ∀ (x : Nat) (kd ix : Int32) (o : Option Nat), isTy S x kd ix o → isTy S2 x kd ix o) : xTy S2 x := h.imp (fun h => h.im g) (g _ _ _ _)
theorem vTy.ty {S : Sg} {x : Nat} (h : vTy S x) : ∃ (kd ix : Int32) (o : Option Nat), isTy S x kd ix o ∧ kd ≠ 6 ∧ kd ≠ 7 ∧ kd ≠ 8 := by
  obtain ⟨n, h⟩ := h
  cases n with
  | zero => exact h.elim
  | succ n =>
    obtain ⟨kd, ix, o, h1, h2⟩ := h
    refine ⟨kd, ix, o, h1, ?_⟩
    rcases h2 with (h2 | h2 | h2 | h2 | h2) | ⟨h2, _⟩ <;> subst h2 <;> decide
theorem rTy.ty {S : Sg} {x : Nat} (h : rTy S x) : ∃ (kd ix : Int32) (o : Option Nat), isTy S x kd ix o ∧ kd ≠ 8 := by
  rcases h with h | ⟨kd, u, h1, h2, _⟩
  · obtain ⟨kd, ix, o, h1, _, _, h2⟩ := h.ty
    exact ⟨kd, ix, o, h1, h2⟩
  · exact ⟨kd, 0, some u, h1, by rcases h2 with e | e <;> subst e <;> decide⟩
theorem xTy.ty {S : Sg} {x : Nat} (h : xTy S x) : ∃ (kd ix : Int32) (o : Option Nat), isTy S x kd ix o := by
  rcases h with h | h
  · obtain ⟨kd, ix, o, h1, _⟩ := h.ty; exact ⟨kd, ix, o, h1⟩
  · exact ⟨_, _, _, h⟩
theorem xTy.v {S : Sg} {x : Nat} {kd ix : Int32} {o : Option Nat} (h : xTy S x) (g : isTy S x kd ix o) (h6 : kd ≠ 6) (h7 : kd ≠ 7) (h8 : kd ≠ 8) : vTy S x := by
  rcases h with (h | ⟨k, u, h1, h2, _⟩) | h
  · exact h
  · obtain ⟨e, _⟩ := isTy_fn g h1
    rcases h2 with w | w
    · exact absurd (e.trans w) h6
    · exact absurd (e.trans w) h7
  · exact absurd (isTy_fn g h).1 h8
theorem xTy.r {S : Sg} {x : Nat} {kd ix : Int32} {o : Option Nat} (h : xTy S x) (g : isTy S x kd ix o) (h8 : kd ≠ 8) : rTy S x := h.elim id (fun h => absurd (isTy_fn g h).1 h8)
theorem rTy.v {S : Sg} {x : Nat} {kd ix : Int32} {o : Option Nat} (h : rTy S x) (g : isTy S x kd ix o) (h6 : kd ≠ 6) (h7 : kd ≠ 7) : vTy S x := by
  obtain ⟨k2, i2, o2, g2, h8⟩ := h.ty
  obtain ⟨e, _⟩ := isTy_fn g g2
  exact xTy.v (Or.inl h) g h6 h7 (by rw [e]; exact h8)
theorem vTy.pl {S : Sg} {x : Nat} {kd ix : Int32} {o : Option Nat} (g : isTy S x kd ix o) (h : kd = 0 ∨ kd = 1 ∨ kd = 2 ∨ kd = 3 ∨ kd = 4) : vTy S x := ⟨1, kd, ix, o, g, Or.inl h⟩
theorem vTy.bx {S : Sg} {x u : Nat} {ix : Int32} (g : isTy S x 5 ix (some u)) (h : vTy S u) : vTy S x := by
  obtain ⟨n, h⟩ := h
  exact ⟨n + 1, 5, ix, some u, g, Or.inr ⟨rfl, u, rfl, h⟩⟩
/-- what a box holds -/
theorem vTy.of {S : Sg} {x u : Nat} {ix : Int32} (h : vTy S x) (g : isTy S x 5 ix (some u)) : vTy S u := by
  obtain ⟨n, h⟩ := h
  cases n with
  | zero => exact h.elim
  | succ n =>
    obtain ⟨kd, ix2, o, h1, h2⟩ := h
    obtain ⟨e1, e2, e3⟩ := isTy_fn g h1
    subst e1
    rcases h2 with h2 | ⟨_, w, h3, h4⟩
    · exact absurd h2 (by decide)
    · rw [← e3] at h3; cases h3; exact ⟨n, h4⟩
/-- what a place of this type leads to -/
theorem rTy.of {S : Sg} {x u : Nat} {kd ix : Int32} (h : rTy S x) (g : isTy S x kd ix (some u)) (hk : kd = 5 ∨ kd = 6 ∨ kd = 7) : vTy S u := by
  rcases h with h | ⟨k, w, h1, h2, h3⟩
  · obtain ⟨k2, i2, o2, g2, h6, h7, _⟩ := h.ty
    obtain ⟨e, _⟩ := isTy_fn g g2
    rcases hk with w | w | w
    · subst w; exact h.of g
    · exact absurd (e.symm.trans w) h6
    · exact absurd (e.symm.trans w) h7
  · obtain ⟨e1, e2, e3⟩ := isTy_fn g h1
    cases e3; exact h3
section RES
variable {R : yR} {c nv : Nat} {S : Sg}
theorem vTn_ty {K : Ky} {G : Nat → va_E} {T zs im : Nat} {xI ps ms : Nat → Nat} {ik : Nat → Int32} {qz tm : Nat} {Y : Nat → Int32 × Int32 × Option Nat} {ad : Nat → Nat} {z0 n0 vt : Nat} (h : TQ K S G T zs im xI ps ms ik qz tm Y ad z0 n0 vt) (ht : tm ≤ 2000) : ∀ {n t : Nat}, vTn Y ad tm n t → vTyn S n (ad t)
  | 0, _, q => q.elim
  | n + 1, t, q => ⟨_, _, _, h.ty9 ht q.1, q.2.imp id (fun ⟨a, u, b, c⟩ => ⟨a, ad u, b, vTn_ty h ht c⟩)⟩
/-- resolve -/
theorem rsv_ (hK : yRm R) (hv : nv ≤ 10000) (h : TS R c nv S) {d n wr pp qq : Nat} {mb : Int32} (hd : n ≤ d) (hw : isT (ZL R.S) (ZF R.S) (Zr R.S 5) n wr pp qq) (hq : qq ≤ R.T) (hc : c + (qq - pp) ≤ 1990) : Rt (f_resolve R.K d S (some wr) mb) (fun S2 r => ∃ x : Nat, r = some x ∧ TS R (c + (qq - pp)) nv S2 ∧ VX R nX S S2 ∧ VS S S2 ∧ (∃ (kd ix : Int32) (o : Option Nat), isTy S2 x kd ix o) ∧ (Zi S2 3 = 0 → rTy S2 x ∧ (mb = 0 → vTy S2 x))) := by
  obtain ⟨G, tm, Y, ad, h1, h2, h3, h4⟩ := h
  have hw2 : isT (ZL S) G (Zr S 5) n wr pp qq := by rw [h4.2.1 5 (by decide)]; exact isT_ex h2 hw
  refine (res_ ⟨hK.1, hK.2.1⟩ hv d n hd h1 hw2 hq (by omega)).mo (fun S2 r q => ?_)
  obtain ⟨G2, tm2, Y2, ad2, t2, q1, q2, q3, q4⟩ := q
  obtain ⟨b1, b2, b3, b4⟩ := TS.bk h1 h2 h3 h4 q1 hc
  refine ⟨ad2 t2, q3, b1, b2, b3, ⟨_, _, _, q1.1.ty9 b4 q2⟩, fun z => ?_⟩
  obtain ⟨k1, k2⟩ := q4 z
  have hvt : ∀ {t : Nat}, vT Y2 ad2 tm2 t → vTy S2 (ad2 t) := fun ⟨n, w⟩ => ⟨n, vTn_ty q1.1 b4 w⟩
  refine ⟨?_, fun e => hvt (k2 e)⟩
  rcases k1 with k1 | ⟨k1, k3, u, k4, k5⟩
  · exact Or.inl (hvt k1)
  · have k6 := q1.1.ty9 b4 k1
    rw [k4] at k6
    have k7 := q1.1.1.2.2.2.2 t2 k1
    have e0 : (Y2 t2).2.1 = 0 := by
      rcases k7 with ⟨w, _⟩ | ⟨w, _⟩ | ⟨w, _⟩ | ⟨_, w, _⟩
      · rcases k3 with e | e <;> rw [e] at w <;> exact absurd w (by decide)
      · rcases k3 with e | e <;> rw [e] at w <;> exact absurd w (by decide)
      · rcases k3 with e | e <;> rw [e] at w <;> exact absurd w (by decide)
      · exact w
    rw [e0] at k6
    exact Or.inr ⟨_, ad2 u, k6, k3, hvt k5⟩
end RES
/-- an int of an object, as a number -/
def fN (fs : List Value) (k : Nat) : Nat := match fs[k]? with
  | some (.int v) => v.toNatClampNeg
  | _ => 0
/-- a reference of an object -/
def rN (fs : List Value) (k : Nat) : Option Nat := match fs[k]? with
  | some (.ref a) => some a
  | _ => none
/-- the token that a cell owns: an exp, a statement, an arm -/
def ownT (F : Nat → va_E) (a : Nat) : Option Nat := match F a with
  | .inl _ => none
  | .inr (c, fs) => if c = 15 then (if fN fs 0 = 14 then some (fN fs 3) else if fN fs 0 = 8 then (match rN fs 10 with
      | some sa => (match F sa with
        | .inl (_, _, .inl g) => some (g 0).toNatClampNeg
        | _ => none)
      | none => none) else some (fN fs 1)) else if c = 19 then some (fN fs 1) else if c = 13 then some (fN fs 0) else none
/-- cells that own tokens from p to below q, and the rows of variables of such arms and functions -/
def Xo (R : yR) (p q a : Nat) : Prop := (∃ t : Nat, ownT (ZF R.S) a = some t ∧ p ≤ t ∧ t < q) ∨ (∃ b t : Nat, a = b + 2 ∧ ownT (ZF R.S) b = some t ∧ p ≤ t ∧ t < q ∧ ZF R.S a = .inl (R.K.1 5, 12, .inr (.inr (.inr (.inr (fun _ => none)))))) ∨ (∃ t : Nat, R.pw a = some t ∧ p ≤ t ∧ t < q ∧ ZF R.S a = .inl (R.K.1 5, 13, .inr (.inr (.inr (.inr (fun _ => none))))))
theorem Xo_mo {R : yR} {p q p2 q2 a : Nat} (h : Xo R p q a) (hp : p2 ≤ p) (hq : q ≤ q2) : Xo R p2 q2 a := h.imp (fun ⟨t, h1, h2, h3⟩ => ⟨t, h1, by omega, by omega⟩) (fun h => h.imp (fun ⟨b, t, h0, h1, h2, h3, h4⟩ => ⟨b, t, h0, h1, by omega, by omega, h4⟩) (fun ⟨t, h1, h2, h3, h4⟩ => ⟨t, h1, by omega, by omega, h4⟩))
/-- never written by exps and statements -/
def nXo (R : yR) (a : Nat) : Prop := a ∈ ZL R.S ∧ ∀ p q : Nat, ¬ Xo R p q a
theorem nXo.ro {R : yR} {a n : Nat} {k : ClassId} {f : vRw} (ha : a ∈ ZL R.S) (hF : ZF R.S a = .inl (k, n, f)) (h : k ≠ R.K.1 5 ∨ f ≠ .inr (.inr (.inr (.inr (fun _ => none))))) : nXo R a := by
  refine ⟨ha, fun p q w => ?_⟩
  rcases w with ⟨t, w, _⟩ | ⟨b, t, _, _, _, _, w⟩ | ⟨t, _, _, _, w⟩
  · unfold ownT at w; rw [hF] at w; cases w
  · rw [hF] at w; cases w; rcases h with h | h <;> exact h rfl
  · rw [hF] at w; cases w; rcases h with h | h <;> exact h rfl
theorem nXo.ob {R : yR} {a k : Nat} {fs : List Value} (ha : a ∈ ZL R.S) (hF : ZF R.S a = .inr (k, fs)) (h : k = 14 ∨ k = 16 ∨ k = 17 ∨ k = 18 ∨ k = 20 ∨ k = 21 ∨ k = 22) : nXo R a := by
  refine ⟨ha, fun p q w => ?_⟩
  rcases w with ⟨t, w, _⟩ | ⟨b, t, _, _, _, _, w⟩ | ⟨t, _, _, _, w⟩
  · unfold ownT at w; rw [hF] at w
    rcases h with e | e | e | e | e | e | e <;> subst e <;> cases w
  · rw [hF] at w; cases w
  · rw [hF] at w; cases w
theorem VZ.nx {R : yR} {p q a : Nat} {S S2 : Sg} (h : VZ R (Xo R p q) S S2) (ha : nXo R a) : ZF S2 a = ZF S a := h.1 a ha.1 (ha.2 p q)
theorem VX.nx {R : yR} {p q a : Nat} {S S2 : Sg} (h : VX R (Xo R p q) S S2) (ha : nXo R a) : ZF S2 a = ZF S a := h.2.1 a ha.1 (ha.2 p q)
/-- an exp's own token -/
theorem own_a {F : Nat → va_E} {e : Nat} {kd : Int32} {tk : Nat} {sg nm : Int32} {num : Int64} {mu : Int32} {vo li si : Value} {mn : Nat} (hF : F e = xpC kd tk sg nm num mu vo li si mn) (h14 : kd.toNatClampNeg ≠ 14) (h8 : kd.toNatClampNeg ≠ 8) (ht : tk ≤ 100000) : ownT F e = some tk := by
  unfold ownT
  rw [hF]
  show (if 15 = 15 then (if kd.toNatClampNeg = 14 then _ else if kd.toNatClampNeg = 8 then _ else some (nI tk).toNatClampNeg) else _) = _
  rw [if_pos rfl, if_neg h14, if_neg h8, nI_clamp (by omega)]
theorem own_m {F : Nat → va_E} {e : Nat} {tk nm : Nat} {sg : Int32} {num : Int64} {mu : Int32} {vo li si : Value} {mn : Nat} (hF : F e = xpC 14 tk sg (nI nm) num mu vo li si mn) (ht : nm ≤ 100000) : ownT F e = some nm := by
  unfold ownT
  rw [hF]
  show (if 15 = 15 then (if (14 : Int32).toNatClampNeg = 14 then some (nI nm).toNatClampNeg else _) else _) = _
  rw [if_pos rfl, if_pos (by decide), nI_clamp (by omega)]
theorem own_c {F : Nat → va_E} {e : Nat} {tk : Nat} {sg nm : Int32} {num : Int64} {mu : Int32} {vo li : Value} {sa mn cap s : Nat} {k : ClassId} {g : Nat → Int32} (hF : F e = xpC 8 tk sg nm num mu vo li (.ref sa) mn) (hs : F sa = .inl (k, cap, .inl g)) (hg : g 0 = nI s) (ht : s ≤ 100000) : ownT F e = some s := by
  unfold ownT
  rw [hF]
  show (if 15 = 15 then (if (8 : Int32).toNatClampNeg = 14 then _ else if (8 : Int32).toNatClampNeg = 8 then (match F sa with
        | .inl (_, _, .inl g) => some (g 0).toNatClampNeg
        | _ => none) else _) else _) = _
  rw [if_pos rfl, if_neg (by decide), if_pos (by decide), hs]
  show some (g 0).toNatClampNeg = _
  rw [hg, nI_clamp (by omega)]
theorem chP_ps {z : Nat} {P : Nat → Nat → Nat → Nat → Nat → Prop} {f : Nat → Option Nat} {g : Nat → Int32} {n : Nat} {ps bs : Nat → Nat} (hP : ∀ x p q b c : Nat, P x p q b c → p < q) (h : ∀ i : Nat, i < n → ∃ x p' s : Nat, f i = some x ∧ ps i < p' ∧ P x p' (ps (i + 1)) (bs i) (bs (i + 1)) ∧ g i = nI s ∧ ((s = 0 ∧ z = 0) ∨ (ps i ≤ s ∧ s < p'))) : ∀ (d : Nat) {i : Nat}, i + d ≤ n → ps i ≤ ps (i + d)
  | 0, _, _ => Nat.le_refl _
  | d + 1, i, hi => by
    have h1 := chP_ps hP h d (i := i) (by omega)
    obtain ⟨x, p', s, _, h2, h3, _⟩ := h (i + d) (by omega)
    have := hP _ _ _ _ _ h3
    show ps i ≤ ps (i + d + 1)
    omega
theorem isE_own {L : List Nat} {F : Nat → va_E} {kE kI : ClassId} {n k e p q b c : Nat} (h : isE L F kE kI n k e p q b c) (hq : q ≤ 100000) : ∃ t : Nat, ownT F e = some t ∧ p ≤ t ∧ t < q := by
  cases n with
  | zero => exact h.elim
  | succ n =>
    have hp := h.2.1
    rcases h.2.2 with ⟨kd, num, k1, k2, k3⟩ | ⟨k2, k3⟩ | ⟨kd, o, p', q', k1, k2, k3, k4, k5⟩ | ⟨mu, o, p', k1, k2, k3, k5⟩ | ⟨o, nm, q', k2, k3, k4, k5⟩ | ⟨o, q1, b1, mn, li, si, k2, k3, k5, k6⟩ | ⟨kd, sg, nm, mn, p', z9, li, si, k2, k3, k4, k5⟩
    · exact ⟨p, own_a k2 (by rcases k1 with e | e | e <;> subst e <;> decide) (by rcases k1 with e | e | e <;> subst e <;> decide) (by omega), Nat.le_refl _, hp⟩
    · exact ⟨p, own_a k2 (by decide) (by decide) (by omega), Nat.le_refl _, hp⟩
    · exact ⟨p, own_a k2 (by rcases k1 with e | e | e | e | e | e <;> subst e <;> decide) (by rcases k1 with e | e | e | e | e | e <;> subst e <;> decide) (by omega), Nat.le_refl _, hp⟩
    · exact ⟨p, own_a k2 (by decide) (by decide) (by omega), Nat.le_refl _, hp⟩
    · have := (isE_mem k5).2
      exact ⟨nm, own_m k2 (by omega), by omega, k4⟩
    · have h5 := (isE_mem k5).2
      obtain ⟨kz, _, k6⟩ := k6
      rcases k6 with ⟨w, _⟩ | ⟨la, sa, cap, q0, f, g, w1, w2, w3, w4, w5, w6, w7, w8, ps, bs, w9, w10, w11, w12, w13⟩
      · omega
      · obtain ⟨x, p', s, v1, v2, v3, v4, v5⟩ := w13 0 (by omega)
        have v6 : p' < ps 1 := (isE_mem v3).2
        have v7 := chP_ps (P := isE L F kE kI n kz) (fun x p q b c z => (isE_mem z).2) w13 (mn - 1) (n := mn) (i := 1) (by omega)
        rw [show 1 + (mn - 1) = mn by omega, w10] at v7
        have hs : ps 0 ≤ s ∧ s < p' := v5.elim (fun w => absurd w.2 (by decide)) id
        subst w2
        exact ⟨s, own_c k2 w6 v4 (by omega), by omega, by omega⟩
    · exact ⟨p, own_a k2 (by rcases k3 with ⟨e, _⟩ | ⟨e, _⟩ | ⟨e, _⟩ <;> subst e <;> decide) (by rcases k3 with ⟨e, _⟩ | ⟨e, _⟩ | ⟨e, _⟩ <;> subst e <;> decide) (by omega), Nat.le_refl _, hp⟩
end
-- k6.c.lean.txt
section
/-- an exp, typed: the item or field it names, the variant, its type, its variable -/
def xtC (kd : Int32) (tk : Nat) (sg nm ix vr : Int32) (num : Int64) (mu : Int32) (vo li si : Value) (mn : Nat) (ty va : Value) : va_E := .inr (15, [.int kd, .int (nI tk), .int sg, .int nm, .int ix, .int vr, .long num, .int mu, vo, li, si, .int (nI mn), ty, va])
/-- the field k of the struct i has the type x -/
def fld (R : yR) (S : Sg) (i k x : Nat) : Prop := ∃ (fs : List Value) (mn ta : Nat) (f : Nat → Option Nat), i < R.im ∧ R.ik i = 10 ∧ nXo R (R.ws i) ∧ ZF S (R.ws i) = .inr (16, fs) ∧ fs[3]? = some (.int (nI mn)) ∧ k < mn ∧ mn ≤ 12 ∧ fs[10]? = some (.ref ta) ∧ nXo R ta ∧ ZF S ta = .inl (R.K.1 4, 13, .inr (.inr (.inr (.inr f)))) ∧ f k = some x ∧ vTy S x
/-- a place, typed: exp e, tokens p to q: the variable v, the way π to it, its type x; mu: it may be written, mv: 1 a part of the variable, 2 in a box of one -/
def xPl (R : yR) (S : Sg) (Γ : List Nat) : Nat → Nat → Nat → Nat → Nat → List (Nat × Nat) → Nat → Nat → Nat → Prop
  | 0, _, _, _, _, _, _, _, _ => False
  | n + 1, e, p, q, v, π, x, mu, mv => (e ∈ ZL R.S ∧ (∃ t : Nat, ownT (ZF R.S) e = some t ∧ p ≤ t ∧ t < q) ∧ p < q) ∧ rTy S x ∧
    ((∃ (ix : Nat) (nm : Int32), ZF S e = xtC 2 p 0 (nI p) 0 0 0 0 .null .null .null 0 (.ref x) (.ref v) ∧ π = [] ∧ v ∈ Γ ∧ isV S v ix nm (some x) (nI mu) ∧ mu ≤ 1 ∧ mv = 1) ∨
     (∃ o p' q' : Nat, ZF S e = xtC 7 p 0 0 0 0 0 0 (.ref o) .null .null 0 (.ref x) .null ∧ p < p' ∧ q' ≤ q ∧ xPl R S Γ n o p' q' v π x mu mv) ∨
     (∃ (o p' q' y m2 w2 : Nat) (kd : Int32) (π2 : List (Nat × Nat)), ZF S e = xtC 11 p 0 0 0 0 0 0 (.ref o) .null .null 0 (.ref x) .null ∧ p < p' ∧ q' ≤ q ∧ xPl R S Γ n o p' q' v π2 y m2 w2 ∧ isTy S y kd 0 (some x) ∧ π = π2 ++ [(1, 0)] ∧ ((kd = 5 ∧ mu = m2 ∧ mv = (if w2 = 1 then 2 else 0)) ∨ (kd = 6 ∧ mu = 0 ∧ mv = 0) ∨ (kd = 7 ∧ mu = 1 ∧ mv = 0))) ∨
     (∃ (o nm q' y i k w2 : Nat) (π2 : List (Nat × Nat)), ZF S e = xtC 14 p 0 (nI nm) (nI k) 0 0 0 (.ref o) .null .null 0 (.ref x) .null ∧ q' < nm ∧ nm < q ∧ xPl R S Γ n o p q' v π2 y mu w2 ∧ isTy S y 3 (nI i) none ∧ fld R S i k x ∧ π = π2 ++ [(0, k)] ∧ mv = (if w2 = 1 then 1 else 0)))
/-- disjoint tokens -/
def dj (p q p2 q2 : Nat) : Prop := q ≤ p2 ∨ q2 ≤ p
theorem Xo_dj {R : yR} {a p9 q9 p8 q8 : Nat} (x1 : Xo R p9 q9 a) (x2 : Xo R p8 q8 a) (x3 : dj p9 q9 p8 q8) : False := by
  rcases x1 with ⟨t, x1, x4, x5⟩ | ⟨b9, t, x0, x1, x4, x5, x6⟩ | ⟨t, x1, x4, x5, x6⟩
  · rcases x2 with ⟨t2, x2, x7, x8⟩ | ⟨b8, t2, y0, x2, x7, x8, x9⟩ | ⟨t2, x2, x7, x8, x9⟩
    · rw [x1] at x2; cases x2; rcases x3 with x3 | x3 <;> omega
    · unfold ownT at x1; rw [x9] at x1; cases x1
    · unfold ownT at x1; rw [x9] at x1; cases x1
  · rcases x2 with ⟨t2, x2, x7, x8⟩ | ⟨b8, t2, y0, x2, x7, x8, x9⟩ | ⟨t2, x2, x7, x8, x9⟩
    · unfold ownT at x2; rw [x6] at x2; cases x2
    · have : b9 = b8 := by omega
      subst this
      rw [x1] at x2; cases x2; rcases x3 with x3 | x3 <;> omega
    · rw [x6] at x9; cases x9
  · rcases x2 with ⟨t2, x2, x7, x8⟩ | ⟨b8, t2, y0, x2, x7, x8, x9⟩ | ⟨t2, x2, x7, x8, x9⟩
    · unfold ownT at x2; rw [x6] at x2; cases x2
    · rw [x6] at x9; cases x9
    · rw [x1] at x2; cases x2; rcases x3 with x3 | x3 <;> omega
section XPL
variable {R : yR} {S S2 : Sg} {Γ : List Nat} {p2 q2 : Nat}
theorem own_n {a p q t : Nat} (h : ownT (ZF R.S) a = some t) (ha : ∃ fs : List Value, ZF R.S a = .inr (15, fs)) (h1 : p ≤ t) (h2 : t < q) (hd : dj p q p2 q2) : ¬ Xo R p2 q2 a := by
  rintro (⟨t2, g1, g2, g3⟩ | ⟨b, t2, _, _, _, _, g⟩ | ⟨t2, _, _, _, g⟩)
  · rw [h] at g1; cases g1
    rcases hd with hd | hd <;> omega
  · obtain ⟨fs, ha⟩ := ha
    rw [ha] at g; cases g
  · obtain ⟨fs, ha⟩ := ha
    rw [ha] at g; cases g
theorem fld.vz (hV : VZ R (Xo R p2 q2) S S2) {i k x : Nat} (h : fld R S i k x) : fld R S2 i k x := by
  obtain ⟨fs, mn, ta, f, h1, h2, h3, h4, h5, h6, h7, h8, h9, h10, h11, h12⟩ := h
  exact ⟨fs, mn, ta, f, h1, h2, h3, (hV.nx h3).trans h4, h5, h6, h7, h8, h9, (hV.nx h9).trans h10, h11, h12.im hV.2.2.1⟩
theorem fld.vx (hV : VX R (Xo R p2 q2) S S2) {i k x : Nat} (h : fld R S i k x) : fld R S2 i k x := fld.vz hV.2 h
/-- a typed place stays, whatever else is typed -/
theorem xPl_vz (hV : VZ R (Xo R p2 q2) S S2) : ∀ {n e p q v : Nat} {π : List (Nat × Nat)} {x mu mv : Nat}, xPl R S Γ n e p q v π x mu mv → (∀ a : Nat, a ∈ ZL R.S → (∃ t : Nat, ownT (ZF R.S) a = some t ∧ p ≤ t ∧ t < q) → (∃ vs : List Value, ZF S a = .inr (15, vs)) → ZF S2 a = ZF S a) → xPl R S2 Γ n e p q v π x mu mv
  | 0, _, _, _, _, _, _, _, _, h, _ => h.elim
  | n + 1, e, p, q, v, π, x, mu, mv, h, hd => by
    obtain ⟨⟨h1, h2, h3⟩, h4, h5⟩ := h
    refine ⟨⟨h1, h2, h3⟩, h4.im hV.2.2.1, ?_⟩
    have he : (∃ vs : List Value, ZF S e = .inr (15, vs)) → ZF S2 e = ZF S e := fun w => hd e h1 h2 w
    rcases h5 with ⟨ix, nm, k1, k2, k3, k4, k5, k6⟩ | ⟨o, p', q', k1, k2, k3, k4⟩ | ⟨o, p', q', y, m2, w2, kd, π2, k1, k2, k3, k4, k5, k6, k7⟩ | ⟨o, nm, q', y, i, k, w2, π2, k1, k2, k3, k4, k5, k6, k7, k8⟩
    · refine Or.inl ⟨ix, nm, (he ⟨_, k1⟩).trans k1, k2, k3, ?_, k5, k6⟩
      obtain ⟨t2, g1, g2⟩ := hV.2.2.2.1 v ix nm (some x) _ k4
      rcases g2 with g2 | g2
      · cases g2.1
      · rw [← g2]; exact g1
    · exact Or.inr (Or.inl ⟨o, p', q', (he ⟨_, k1⟩).trans k1, k2, k3, xPl_vz hV k4 (fun a a1 ⟨t, a2, a3, a4⟩ a5 => hd a a1 ⟨t, a2, by omega, by omega⟩ a5)⟩)
    · exact Or.inr (Or.inr (Or.inl ⟨o, p', q', y, m2, w2, kd, π2, (he ⟨_, k1⟩).trans k1, k2, k3, xPl_vz hV k4 (fun a a1 ⟨t, a2, a3, a4⟩ a5 => hd a a1 ⟨t, a2, by omega, by omega⟩ a5), hV.2.2.1 _ _ _ _ k5, k6, k7⟩))
    · exact Or.inr (Or.inr (Or.inr ⟨o, nm, q', y, i, k, w2, π2, (he ⟨_, k1⟩).trans k1, k2, k3, xPl_vz hV k4 (fun a a1 ⟨t, a2, a3, a4⟩ a5 => hd a a1 ⟨t, a2, a3, by omega⟩ a5), hV.2.2.1 _ _ _ _ k5, k6.vz hV, k7, k8⟩))
theorem xPl_vx (hV : VX R (Xo R p2 q2) S S2) : ∀ {n e p q v : Nat} {π : List (Nat × Nat)} {x mu mv : Nat}, xPl R S Γ n e p q v π x mu mv → (∀ a : Nat, a ∈ ZL R.S → (∃ t : Nat, ownT (ZF R.S) a = some t ∧ p ≤ t ∧ t < q) → (∃ vs : List Value, ZF S a = .inr (15, vs)) → ZF S2 a = ZF S a) → xPl R S2 Γ n e p q v π x mu mv := xPl_vz hV.2
/-- its cell -/
theorem xPl_c {n e p q v : Nat} {π : List (Nat × Nat)} {x mu mv : Nat} (h : xPl R S Γ n e p q v π x mu mv) : e ∈ ZL R.S ∧ p < q ∧ rTy S x ∧ (mu ≤ 1 ∧ mv ≤ 2) ∧ ∃ (kd : Int32) (fs : List Value), ZF S e = .inr (15, fs) ∧ fs[0]? = some (.int kd) ∧ fs[1]? = some (.int (nI p)) ∧ fs[12]? = some (.ref x) ∧ (kd = 2 ∨ kd = 7 ∨ kd = 11 ∨ kd = 14) := by
  cases n with
  | zero => exact h.elim
  | succ n =>
    obtain ⟨⟨h1, h2, h3⟩, h4, h5⟩ := h
    have hm : ∀ {n e p q v : Nat} {π : List (Nat × Nat)} {x mu mv : Nat}, xPl R S Γ n e p q v π x mu mv → mu ≤ 1 ∧ mv ≤ 2 := by
      intro n
      induction n with
      | zero => exact fun h => h.elim
      | succ n ih =>
        intro e p q v π x mu mv h
        rcases h.2.2 with ⟨ix, nm, k1, k2, k3, k4, k5, k6⟩ | ⟨o, p', q', k1, k2, k3, k4⟩ | ⟨o, p', q', y, m2, w2, kd, π2, k1, k2, k3, k4, k5, k6, k7⟩ | ⟨o, nm, q', y, i, k, w2, π2, k1, k2, k3, k4, k5, k6, k7, k8⟩
        · omega
        · exact ih k4
        · have := ih k4
          rcases k7 with ⟨_, e1, e2⟩ | ⟨_, e1, e2⟩ | ⟨_, e1, e2⟩
          · rw [e1, e2]; constructor
            · omega
            · split <;> omega
          · omega
          · omega
        · have := ih k4
          constructor
          · omega
          · rw [k8]; split <;> omega
    refine ⟨h1, h3, h4, hm (n := n + 1) ⟨⟨h1, h2, h3⟩, h4, h5⟩, ?_⟩
    rcases h5 with ⟨ix, nm, k1, k2, k3, k4, k5, k6⟩ | ⟨o, p', q', k1, k2, k3, k4⟩ | ⟨o, p', q', y, m2, w2, kd, π2, k1, k2, k3, k4, k5, k6, k7⟩ | ⟨o, nm, q', y, i, k, w2, π2, k1, k2, k3, k4, k5, k6, k7, k8⟩ <;> exact ⟨_, _, k1, rfl, rfl, rfl, by decide⟩
/-- bare -/
theorem bar_ {K : Ky} (hL : ∀ a ∈ ZL R.S, a ∈ ZL S) : ∀ {n m : Nat} {e p q v : Nat} {π : List (Nat × Nat)} {x mu mv : Nat}, xPl R S Γ n e p q v π x mu mv → n ≤ m → ∃ n2 e2 p' q' : Nat, n2 ≤ n ∧ f_bare_2 K m S (some e) = some (S, some e2) ∧ xPl R S Γ n2 e2 p' q' v π x mu mv ∧ p ≤ p' ∧ q' ≤ q ∧ ∃ (kd : Int32) (fs : List Value), ZF S e2 = .inr (15, fs) ∧ fs[0]? = some (.int kd) ∧ (kd = 2 ∨ kd = 11 ∨ kd = 14)
  | 0, _, _, _, _, _, _, _, _, _, h, _ => h.elim
  | n + 1, 0, _, _, _, _, _, _, _, _, _, hm => absurd hm (by omega)
  | n + 1, m + 1, e, p, q, v, π, x, mu, mv, h, hm => by
    have h0 := h
    obtain ⟨⟨h1, h2, h3⟩, h4, h5⟩ := h
    have hn : ∀ (kd : Int32) (fs : List Value), ZF S e = .inr (15, fs) → fs[0]? = some (.int kd) → (kd = 2 ∨ kd = 11 ∨ kd = 14) → ∃ n2 e2 p' q' : Nat, n2 ≤ n + 1 ∧ f_bare_2 K (m + 1) S (some e) = some (S, some e2) ∧ xPl R S Γ n2 e2 p' q' v π x mu mv ∧ p ≤ p' ∧ q' ≤ q ∧ ∃ (kd : Int32) (fs : List Value), ZF S e2 = .inr (15, fs) ∧ fs[0]? = some (.int kd) ∧ (kd = 2 ∨ kd = 11 ∨ kd = 14) := fun kd fs g1 g2 g3 => by
      refine ⟨n + 1, e, p, q, Nat.le_refl _, ?_, h0, Nat.le_refl _, Nat.le_refl _, kd, fs, g1, g2, g3⟩
      unfold f_bare_2
      rw [oI_mk (hL e h1) g1 g2]
      show (if kd = 7 then _ else some (S, some e)) = _
      rw [if_neg (by rcases g3 with w | w | w <;> subst w <;> decide)]
    rcases h5 with ⟨ix, nm, k1, k2, k3, k4, k5, k6⟩ | ⟨o, p', q', k1, k2, k3, k4⟩ | ⟨o, p', q', y, m2, w2, kd, π2, k1, k2, k3, k4, k5, k6, k7⟩ | ⟨o, nm, q', y, i, k, w2, π2, k1, k2, k3, k4, k5, k6, k7, k8⟩
    · exact hn 2 _ k1 rfl (by decide)
    · obtain ⟨n2, e2, p3, q3, g1, g2, g3, g4, g5, g6⟩ := bar_ (K := K) hL k4 (m := m) (by omega)
      refine ⟨n2, e2, p3, q3, by omega, ?_, g3, by omega, by omega, g6⟩
      unfold f_bare_2
      rw [oI_mk (hL e h1) k1 (v := 7) rfl, Option.bind_some, if_pos rfl, oR_mk (hL e h1) k1 (v := some o) rfl, Option.bind_some]
      exact g2
    · exact hn 11 _ k1 rfl (by decide)
    · exact hn 14 _ k1 rfl (by decide)
theorem bare_ {K : Ky} (hL : ∀ a ∈ ZL R.S, a ∈ ZL S) {n : Nat} {e p q v : Nat} {π : List (Nat × Nat)} {x mu mv : Nat} (h : xPl R S Γ n e p q v π x mu mv) (hn : n ≤ 1000) : ∃ n2 e2 p' q' : Nat, n2 ≤ n ∧ f_bare K S (some e) = some (S, some e2) ∧ xPl R S Γ n2 e2 p' q' v π x mu mv ∧ p ≤ p' ∧ q' ≤ q ∧ ∃ (kd : Int32) (fs : List Value), ZF S e2 = .inr (15, fs) ∧ fs[0]? = some (.int kd) ∧ (kd = 2 ∨ kd = 11 ∨ kd = 14) := by
  unfold f_bare
  exact bar_ hL h (by show n ≤ 1000000000000; omega)
/-- depth -/
theorem dep_7 {K : Ky} (hL : ∀ a ∈ ZL R.S, a ∈ ZL S) : ∀ {n m d : Nat} {e p q v : Nat} {π : List (Nat × Nat)} {x mu mv : Nat}, xPl R S Γ n e p q v π x mu mv → (∃ (kd : Int32) (fs : List Value), ZF S e = .inr (15, fs) ∧ fs[0]? = some (.int kd) ∧ (kd = 2 ∨ kd = 11 ∨ kd = 14)) → n ≤ m → n ≤ 1000 → f_depth_7 K m S (nI d) (some e) = some (S, nI (d + π.length))
  | 0, _, _, _, _, _, _, _, _, _, _, h, _, _, _ => h.elim
  | n + 1, 0, _, _, _, _, _, _, _, _, _, _, _, hm, _ => absurd hm (by omega)
  | n + 1, m + 1, d, e, p, q, v, π, x, mu, mv, h, hk, hm, hn => by
    obtain ⟨⟨h1, h2, h3⟩, h4, h5⟩ := h
    have hgo : ∀ {o p' q' y m2 w2 : Nat} {π2 : List (Nat × Nat)} {s : Nat × Nat} {kd : Int32} {fs : List Value}, ZF S e = .inr (15, fs) → fs[0]? = some (.int kd) → (kd = 14 ∨ kd = 11) → fs[8]? = some (.ref o) → xPl R S Γ n o p' q' v π2 y m2 w2 → π = π2 ++ [s] → f_depth_7 K (m + 1) S (nI d) (some e) = some (S, nI (d + π.length)) := fun {o p' q' y m2 w2 π2 s kd fs} g1 g2 g3 g4 g5 g6 => by
      obtain ⟨n2, e2, p3, q3, a1, a2, a3, a4, a5, a6⟩ := bare_ (K := K) hL g5 (by omega)
      have a7 := dep_7 (K := K) hL (m := m) (d := d + 1) a3 a6 (by omega) (by omega)
      have h25 : f_depth_25 K (f_depth_7 K m) S (nI d) (some e) = some (S, nI (d + π.length)) := by
        unfold f_depth_25
        rw [oR_mk (hL e h1) g1 (v := some o) g4, Option.bind_some, a2]
        show f_depth_7 K m S (nI d + 1) (some e2) = _
        rw [nI_1, a7, g6, List.length_append]
        show some (S, nI (d + 1 + π2.length)) = some (S, nI (d + (π2.length + 1)))
        rw [show d + 1 + π2.length = d + (π2.length + 1) by omega]
      unfold f_depth_7
      rw [oI_mk (hL e h1) g1 g2]
      show (if kd = 14 then _ else if kd = 11 then _ else _) = _
      rcases g3 with w | w
      · rw [if_pos w]; exact h25
      · rw [if_neg (by rw [w]; decide), if_pos w]; exact h25
    rcases h5 with ⟨ix, nm, k1, k2, k3, k4, k5, k6⟩ | ⟨o, p', q', k1, k2, k3, k4⟩ | ⟨o, p', q', y, m2, w2, kd, π2, k1, k2, k3, k4, k5, k6, k7⟩ | ⟨o, nm, q', y, i, k, w2, π2, k1, k2, k3, k4, k5, k6, k7, k8⟩
    · unfold f_depth_7
      rw [oI_mk (hL e h1) k1 (v := 2) rfl, Option.bind_some, if_neg (by decide), Option.bind_some, if_neg (by decide), k2]
      rfl
    · obtain ⟨kd, fs, w1, w2, w3⟩ := hk
      rw [k1] at w1; cases w1; cases w2
      exact absurd w3 (by decide)
    · exact hgo k1 rfl (Or.inr rfl) rfl k4 k6
    · exact hgo k1 rfl (Or.inl rfl) rfl k4 k7
theorem dep_ {K : Ky} (hL : ∀ a ∈ ZL R.S, a ∈ ZL S) {n : Nat} {e p q v : Nat} {π : List (Nat × Nat)} {x mu mv : Nat} (h : xPl R S Γ n e p q v π x mu mv) (hn : n ≤ 1000) : f_depth K S (some e) = some (S, nI π.length) := by
  obtain ⟨n2, e2, p3, q3, a1, a2, a3, a4, a5, a6⟩ := bare_ (K := K) hL h hn
  unfold f_depth
  rw [a2]
  show f_depth_7 K bigN S (nI 0) (some e2) = _
  rw [dep_7 hL a3 a6 (by show n2 ≤ 1000000000000; omega) (by omega), Nat.zero_add]
end XPL
end
-- k6.d.lean.txt
section
section XPM
variable {R : yR} {S S2 : Sg} {Γ : List Nat}
/-- isPart -/
theorem isp_5 {K : Ky} (hL : ∀ a ∈ ZL R.S, a ∈ ZL S) : ∀ {n m : Nat} {e p q v : Nat} {π : List (Nat × Nat)} {x mu mv : Nat}, xPl R S Γ n e p q v π x mu mv → (∃ (kd : Int32) (fs : List Value), ZF S e = .inr (15, fs) ∧ fs[0]? = some (.int kd) ∧ (kd = 2 ∨ kd = 11 ∨ kd = 14)) → n ≤ m → n ≤ 1000 → Rt (f_isPart_5 K m S (some e)) (fun S2 r => S2 = S ∧ r = if mv = 1 then 1 else 0)
  | 0, _, _, _, _, _, _, _, _, _, h, _, _, _ => h.elim
  | n + 1, 0, _, _, _, _, _, _, _, _, _, _, hm, _ => absurd hm (by omega)
  | n + 1, m + 1, e, p, q, v, π, x, mu, mv, h, hk, hm, hn => by
    obtain ⟨⟨h1, h2, h3⟩, h4, h5⟩ := h
    unfold f_isPart_5 f_isPart_38
    rcases h5 with ⟨ix, nm, k1, k2, k3, k4, k5, k6⟩ | ⟨o, p', q', k1, k2, k3, k4⟩ | ⟨o, p', q', y, m2, w2, kd, π2, k1, k2, k3, k4, k5, k6, k7⟩ | ⟨o, nm, q', y, i, k, w2, π2, k1, k2, k3, k4, k5, k6, k7, k8⟩
    · refine Rt.bd (oI_mk (hL e h1) k1 (v := 2) rfl) (Rt.iq (by decide) (Rt.bd (oI_mk (hL e h1) k1 (v := 2) rfl) (Rt.ip rfl (Rt.zr (Or.inr rfl) ⟨rfl, ?_⟩))))
      rw [k6, if_pos rfl]
    · obtain ⟨kd, fs, w1, w2, w3⟩ := hk
      rw [k1] at w1; cases w1; cases w2
      exact absurd w3 (by decide)
    · refine Rt.bd (oI_mk (hL e h1) k1 (v := 11) rfl) (Rt.iq (by decide) (Rt.bd (oI_mk (hL e h1) k1 (v := 11) rfl) (Rt.iq (by decide) (Rt.zr (Or.inl rfl) ⟨rfl, ?_⟩))))
      rw [if_neg]
      rcases k7 with ⟨_, _, w⟩ | ⟨_, _, w⟩ | ⟨_, _, w⟩ <;> rw [w]
      · split <;> omega
      · omega
      · omega
    · obtain ⟨n2, e2, p3, q3, a1, a2, a3, a4, a5, a6⟩ := bare_ (K := K) hL k4 (by omega)
      refine Rt.bd (oI_mk (hL e h1) k1 (v := 14) rfl) (Rt.ip rfl (Rt.bd (oR_mk (hL e h1) k1 (v := some o) rfl) (Rt.be a2 ?_)))
      refine (isp_5 (K := K) hL a3 a6 (m := m) (by omega) (by omega)).mo (fun S2 r q => ⟨q.1, q.2.trans ?_⟩)
      rw [k8]
      by_cases w : w2 = 1
      · rw [if_pos w, if_pos (if_pos w)]
      · rw [if_neg w, if_neg (by rw [if_neg w]; decide)]
theorem ispt_ {K : Ky} (hL : ∀ a ∈ ZL R.S, a ∈ ZL S) {n : Nat} {e p q v : Nat} {π : List (Nat × Nat)} {x mu mv : Nat} (h : xPl R S Γ n e p q v π x mu mv) (hn : n ≤ 1000) : Rt (f_isPart K S (some e)) (fun S2 r => S2 = S ∧ r = if mv = 1 then 1 else 0) := by
  obtain ⟨n2, e2, p3, q3, a1, a2, a3, a4, a5, a6⟩ := bare_ (K := K) hL h hn
  unfold f_isPart
  exact Rt.be a2 (isp_5 hL a3 a6 (by show n2 ≤ 1000000000000; omega) (by omega))
/-- movable -/
theorem mov_ {K : Ky} (hL : ∀ a ∈ ZL R.S, a ∈ ZL S) {n : Nat} {e p q v : Nat} {π : List (Nat × Nat)} {x mu mv : Nat} (h : xPl R S Γ n e p q v π x mu mv) (hn : n ≤ 1000) : Rt (f_movable K S (some e)) (fun S2 r => S2 = S ∧ ((r = 0 ∧ mv = 0) ∨ (r = 1 ∧ mv ≠ 0))) := by
  obtain ⟨n2, e2, p3, q3, a1, a2, a3, a4, a5, a6⟩ := bare_ (K := K) hL h hn
  unfold f_movable f_movable_49 f_movable_45 f_movable_50
  refine Rt.be a2 (Rt.bn (ispt_ hL a3 (by omega)) (fun S3 r3 q3' => ?_))
  obtain ⟨rfl, e3⟩ := q3'
  cases n2 with
  | zero => exact a3.elim
  | succ n2 =>
  obtain ⟨⟨h1, h2, h3⟩, h4, h5⟩ := a3
  by_cases hmv : mv = 1
  · rw [if_pos hmv] at e3; subst e3
    exact Rt.iq (by decide) (Rt.zr (Or.inr rfl) ⟨rfl, Or.inr ⟨rfl, by omega⟩⟩)
  · rw [if_neg hmv] at e3; subst e3
    refine Rt.ip rfl ?_
    rcases h5 with ⟨ix, nm, k1, k2, k3, k4, k5, k6⟩ | ⟨o, p', q', k1, k2, k3, k4⟩ | ⟨o, p', q', y, m2, w2, kd, π2, k1, k2, k3, k4, k5, k6, k7⟩ | ⟨o, nm, q', y, i, k, w2, π2, k1, k2, k3, k4, k5, k6, k7, k8⟩
    · exact absurd k6 hmv
    · obtain ⟨kd, fs, w1, w2, w3⟩ := a6
      rw [k1] at w1; cases w1; cases w2
      exact absurd w3 (by decide)
    · obtain ⟨c1, c2, c3, c4, ck, cf, c5, c6, c7, c8, c9⟩ := xPl_c k4
      obtain ⟨ty, y1, y2, y3, y4⟩ := k5
      refine Rt.bd (oI_mk (hL _ h1) k1 (v := 11) rfl) (Rt.ip rfl (Rt.bd (oR_mk (hL _ h1) k1 (v := some o) rfl) (Rt.bd (oR_mk (hL _ c1) c5 (v := some y) c8) (Rt.bd (oI_mk y3 y4 (v := kd) rfl) ?_))))
      rcases k7 with ⟨w, u1, u2⟩ | ⟨w, u1, u2⟩ | ⟨w, u1, u2⟩
      · refine Rt.ip w (Rt.bd (oR_mk (hL _ h1) k1 (v := some o) rfl) (Rt.bn (ispt_ hL k4 (by omega)) (fun S4 r4 q4 => ?_)))
        obtain ⟨rfl, e4⟩ := q4
        by_cases hw : w2 = 1
        · rw [if_pos hw] at e4 u2; subst e4
          exact Rt.iq (by decide) (Rt.zr (Or.inr rfl) ⟨rfl, Or.inr ⟨rfl, by omega⟩⟩)
        · rw [if_neg hw] at e4 u2; subst e4
          exact Rt.ip rfl (Rt.zr (Or.inl rfl) ⟨rfl, Or.inl ⟨rfl, u2⟩⟩)
      · exact Rt.iq (by rw [w]; decide) (Rt.zr (Or.inl rfl) ⟨rfl, Or.inl ⟨rfl, u2⟩⟩)
      · exact Rt.iq (by rw [w]; decide) (Rt.zr (Or.inl rfl) ⟨rfl, Or.inl ⟨rfl, u2⟩⟩)
    · refine Rt.bd (oI_mk (hL _ h1) k1 (v := 14) rfl) (Rt.iq (by decide) (Rt.zr (Or.inl rfl) ⟨rfl, Or.inl ⟨rfl, ?_⟩⟩))
      by_cases hw : w2 = 1
      · rw [if_pos hw] at k8; exact absurd k8 hmv
      · rw [if_neg hw] at k8; exact k8
/-- mutable -/
theorem mut_ {K : Ky} (hL : ∀ a ∈ ZL R.S, a ∈ ZL S) : ∀ {n d : Nat} {e p q v : Nat} {π : List (Nat × Nat)} {x mu mv : Nat}, xPl R S Γ n e p q v π x mu mv → n ≤ d → n ≤ 1000 → Rt (f_mutable K d S (some e)) (fun S2 r => S2 = S ∧ r = nI mu)
  | 0, _, _, _, _, _, _, _, _, _, h, _, _ => h.elim
  | n + 1, 0, _, _, _, _, _, _, _, _, _, hm, _ => absurd hm (by omega)
  | n + 1, d + 1, e, p, q, v, π, x, mu, mv, h, hm, hn => by
    obtain ⟨n2, e2, p3, q3, a1, a2, a3, a4, a5, a6⟩ := bare_ (K := K) hL h hn
    have hmu := (xPl_c h).2.2.2.1.1
    have hz : nI mu = 0 ∨ nI mu = 1 := by
      rcases Nat.lt_or_ge mu 1 with w | w
      · rw [show mu = 0 by omega]; exact Or.inl rfl
      · rw [show mu = 1 by omega]; exact Or.inr rfl
    unfold f_mutable f_mutable_72 f_mutable_76 f_mutable_77
    refine Rt.be a2 ?_
    cases n2 with
    | zero => exact a3.elim
    | succ n2 =>
    obtain ⟨⟨h1, h2, h3⟩, h4, h5⟩ := a3
    rcases h5 with ⟨ix, nm, k1, k2, k3, k4, k5, k6⟩ | ⟨o, p', q', k1, k2, k3, k4⟩ | ⟨o, p', q', y, m2, w2, kd, π2, k1, k2, k3, k4, k5, k6, k7⟩ | ⟨o, nm, q', y, i, k, w2, π2, k1, k2, k3, k4, k5, k6, k7, k8⟩
    · exact Rt.bd (oI_mk (hL _ h1) k1 (v := 2) rfl) (Rt.ip rfl (Rt.bd (oR_mk (hL _ h1) k1 (v := some v) rfl) (Rt.bd (oI_mk k4.1 k4.2 (v := nI mu) rfl) (Rt.zr hz ⟨rfl, rfl⟩))))
    · obtain ⟨kd, fs, w1, w2, w3⟩ := a6
      rw [k1] at w1; cases w1; cases w2
      exact absurd w3 (by decide)
    · obtain ⟨c1, c2, c3, c4, ck, cf, c5, c6, c7, c8, c9⟩ := xPl_c k4
      obtain ⟨ty, y1, y2, y3, y4⟩ := k5
      refine Rt.bd (oI_mk (hL _ h1) k1 (v := 11) rfl) (Rt.iq (by decide) (Rt.bd (oI_mk (hL _ h1) k1 (v := 11) rfl) (Rt.iq (by decide) (Rt.bd (oR_mk (hL _ h1) k1 (v := some o) rfl) (Rt.bd (oR_mk (hL _ c1) c5 (v := some y) c8) (Rt.bd (oI_mk y3 y4 (v := kd) rfl) ?_))))))
      rcases k7 with ⟨w, u1, u2⟩ | ⟨w, u1, u2⟩ | ⟨w, u1, u2⟩
      · refine Rt.iq (by rw [w]; decide) (Rt.ip w (Rt.bd (oR_mk (hL _ h1) k1 (v := some o) rfl) (Rt.bn (mut_ hL k4 (d := d) (by omega) (by omega)) (fun S4 r4 q4 => ?_))))
        obtain ⟨rfl, e4⟩ := q4
        rw [← u1] at e4
        subst e4
        refine Rt.it (fun z => Rt.zr (Or.inl rfl) ⟨rfl, z.symm⟩) (fun z => Rt.zr (Or.inr rfl) ⟨rfl, ?_⟩)
        exact (hz.elim (fun w => absurd w z) id).symm
      · exact Rt.iq (by rw [w]; decide) (Rt.iq (by rw [w]; decide) (Rt.zr (Or.inl rfl) ⟨rfl, by rw [u1]; rfl⟩))
      · exact Rt.ip w (Rt.zr (Or.inr rfl) ⟨rfl, by rw [u1]; rfl⟩)
    · refine Rt.bd (oI_mk (hL _ h1) k1 (v := 14) rfl) (Rt.iq (by decide) (Rt.bd (oI_mk (hL _ h1) k1 (v := 14) rfl) (Rt.ip rfl (Rt.bd (oR_mk (hL _ h1) k1 (v := some o) rfl) (Rt.bn (mut_ hL k4 (d := d) (by omega) (by omega)) (fun S4 r4 q4 => ?_))))))
      obtain ⟨rfl, e4⟩ := q4
      subst e4
      exact Rt.zr hz ⟨rfl, rfl⟩
end XPM
end
-- k6.e.lean.txt
section
/-- a row of types -/
def rTs (R : yR) (S : Sg) (ta cap mn : Nat) (f : Nat → Option Nat) (P : Nat → Prop) : Prop := nXo R ta ∧ ZF S ta = .inl (R.K.1 4, cap, .inr (.inr (.inr (.inr f)))) ∧ ∀ k : Nat, k < mn → ∃ x : Nat, f k = some x ∧ P x
/-- the parts of a variant, typed -/
def paY (R : yR) (S : Sg) (pa mk : Nat) (f : Nat → Option Nat) : Prop := nXo R pa ∧ ((ZF S pa = .inr (17, [.int 0, .null, .null]) ∧ mk = 0) ∨ ∃ wa ta : Nat, ZF S pa = .inr (17, [.int (nI mk), .ref wa, .ref ta]) ∧ mk ≤ 12 ∧ rTs R S ta 12 mk f (vTy S))
/-- what an item has beside its names: fields, variants, or parameters and result -/
def ItK (R : yR) (S : Sg) (i mn : Nat) (fs : List Value) : Prop :=
  (R.ik i = 10 ∧ ∃ (ta : Nat) (f : Nat → Option Nat), fs[10]? = some (.ref ta) ∧ rTs R S ta 13 mn f (vTy S)) ∨
  (R.ik i = 11 ∧ ∃ (vr : Nat) (fv : Nat → Option Nat), fs[11]? = some (.ref vr) ∧ nXo R vr ∧ ZF S vr = .inl (R.K.1 13, 13, .inr (.inr (.inr (.inr fv)))) ∧ ∀ k : Nat, k < mn → ∃ (pa mk : Nat) (f : Nat → Option Nat), fv k = some pa ∧ paY R S pa mk f) ∨
  (R.ik i = 12 ∧ ∃ (ta gv lo : Nat) (f : Nat → Option Nat) (go : Nat → Int32) (rl : Int32), fs[10]? = some (.ref ta) ∧ rTs R S ta 13 mn f (rTy S) ∧ fs[15]? = some (.ref gv) ∧ xTy S gv ∧ fs[7]? = some (.int rl) ∧ (rl = -1 ∨ ∃ l : Nat, l < 8 ∧ rl = nI l) ∧ fs[13]? = some (.ref lo) ∧ nXo R lo ∧ ZF S lo = .inl (R.K.1 0, 13, .inl go) ∧ ∀ k : Nat, k < mn → (go k = -1 ∨ ∃ l : Nat, l < 8 ∧ go k = nI l))
/-- an item whose types are told -/
def ItY (R : yR) (S : Sg) (i : Nat) : Prop := nXo R (R.ws i) ∧ Zq R.S 11 i = some (R.ws i) ∧ ∃ (fs : List Value) (mn na : Nat) (g : Nat → Int32), ZF S (R.ws i) = .inr (16, fs) ∧ fs[2]? = some (.int (R.ik i)) ∧ fs[3]? = some (.int (nI mn)) ∧ mn ≤ 12 ∧ fs[8]? = some (.ref na) ∧ nXo R na ∧ ZF S na = .inl (R.K.1 0, 13, .inl g) ∧ (∀ j : Nat, j < mn → ∃ s : Nat, g j = nI s ∧ s < R.T) ∧ ItK R S i mn fs
def ITA (R : yR) (S : Sg) : Prop := ∀ i : Nat, i < R.im → ItY R S i
/-- the scope: Γ the variables, in their order -/
def SCO (R : yR) (S : Sg) (Γ : List Nat) : Prop := Zi S 23 = nI Γ.length ∧ Γ.length ≤ 40 ∧ ∀ (k v : Nat), Γ[k]? = some v → Zq S 22 k = some v ∧ ∃ (ix nm mu : Nat) (ty : Option Nat), isV S v ix (nI nm) ty (nI mu) ∧ nm < R.T ∧ mu ≤ 1 ∧ ∀ x : Nat, ty = some x → rTy S x
section ITL
variable {R : yR} {S S2 : Sg} {p q c nv : Nat}
theorem rTs.vz (hV : VZ R (Xo R p q) S S2) {ta cap mn : Nat} {f : Nat → Option Nat} {P P2 : Nat → Prop} (h : rTs R S ta cap mn f P) (hP : ∀ x : Nat, P x → P2 x) : rTs R S2 ta cap mn f P2 := ⟨h.1, (hV.nx h.1).trans h.2.1, fun k hk => by obtain ⟨x, h1, h2⟩ := h.2.2 k hk; exact ⟨x, h1, hP x h2⟩⟩
theorem rTs.vx (hV : VX R (Xo R p q) S S2) {ta cap mn : Nat} {f : Nat → Option Nat} {P P2 : Nat → Prop} (h : rTs R S ta cap mn f P) (hP : ∀ x : Nat, P x → P2 x) : rTs R S2 ta cap mn f P2 := rTs.vz hV.2 h hP
theorem paY.vz (hV : VZ R (Xo R p q) S S2) {pa mk : Nat} {f : Nat → Option Nat} (h : paY R S pa mk f) : paY R S2 pa mk f := ⟨h.1, by
  rw [hV.nx h.1]
  exact h.2.imp id (fun ⟨wa, ta, h1, h2, h3⟩ => ⟨wa, ta, h1, h2, h3.vz hV (fun x q => q.im hV.2.2.1)⟩)⟩
theorem paY.vx (hV : VX R (Xo R p q) S S2) {pa mk : Nat} {f : Nat → Option Nat} (h : paY R S pa mk f) : paY R S2 pa mk f := paY.vz hV.2 h
theorem ItY.vz (hV : VZ R (Xo R p q) S S2) {i : Nat} (h : ItY R S i) : ItY R S2 i := by
  obtain ⟨h1, h2, fs, mn, na, g, h3, h4, h5, h6, h7, h8, h9, h10, h11⟩ := h
  refine ⟨h1, h2, fs, mn, na, g, (hV.nx h1).trans h3, h4, h5, h6, h7, h8, (hV.nx h8).trans h9, h10, ?_⟩
  rcases h11 with ⟨k1, ta, f, k2, k3⟩ | ⟨k1, vr, fv, k2, k3, k4, k5⟩ | ⟨k1, ta, gv, lo, f, go, rl, k2, k3, k4, k5, k6, k7, k8, k9, l1, l2⟩
  · exact Or.inl ⟨k1, ta, f, k2, k3.vz hV (fun x q => q.im hV.2.2.1)⟩
  · exact Or.inr (Or.inl ⟨k1, vr, fv, k2, k3, (hV.nx k3).trans k4, fun k hk => by obtain ⟨pa, mk, f, e1, e2⟩ := k5 k hk; exact ⟨pa, mk, f, e1, e2.vz hV⟩⟩)
  · exact Or.inr (Or.inr ⟨k1, ta, gv, lo, f, go, rl, k2, k3.vz hV (fun x q => q.im hV.2.2.1), k4, k5.im hV.2.2.1, k6, k7, k8, k9, (hV.nx k9).trans l1, l2⟩)
theorem ItY.vx (hV : VX R (Xo R p q) S S2) {i : Nat} (h : ItY R S i) : ItY R S2 i := ItY.vz hV.2 h
theorem ITA.vz (hV : VZ R (Xo R p q) S S2) (h : ITA R S) : ITA R S2 := fun i hi => (h i hi).vz hV
theorem ITA.vx (hV : VX R (Xo R p q) S S2) (h : ITA R S) : ITA R S2 := ITA.vz hV.2 h
theorem SCO.vx {X : Nat → Prop} (hV : VX R X S S2) (hs : VS S S2) {Γ : List Nat} (h : SCO R S Γ) : SCO R S2 Γ := by
  refine ⟨hs.1.trans h.1, h.2.1, fun k v hk => ?_⟩
  obtain ⟨h1, ix, nm, mu, ty, h2, h3, h4, h5⟩ := h.2.2 k v hk
  exact ⟨by rw [hs.2.2.1.1]; exact h1, ix, nm, mu, ty, hs.2.2.2 _ _ _ _ _ h2, h3, h4, fun x q => (h5 x q).im hV.2.2.2.1⟩
/-- a cell that was read, as it is now -/
theorem TS.ob (h : TS R c nv S) {a k : Nat} {fs : List Value} (ha : a ∈ ZL R.S) (hG : ZF R.S a = .inr (k, fs)) : a ∈ ZL S ∧ ∃ gs : List Value, ZF S a = .inr (k, gs) ∧ gs.length = fs.length ∧ (∀ j : Nat, mtF k j = false → gs[j]? = fs[j]?) ∧ cs (ZF R.S a) (.inr (k, gs)) := by
  obtain ⟨G, tm, Y, ad, h1, h2, h3, h4⟩ := h
  obtain ⟨g1, g2⟩ := h2 a ha
  obtain ⟨gs, k1, k2, k3⟩ := rl_ob h1.1.2.1 g1 (g2.trans hG)
  refine ⟨g1, gs, k1, k2, k3, ?_⟩
  have := h1.1.2.1 a g1
  rw [g2, k1] at this
  exact this
/-- behind a member of the typing of exps -/
def yXP (R : yR) (c nv : Nat) (S : Sg) (p q : Nat) (S2 : Sg) (x : Nat) : Prop := TS R c nv S2 ∧ VX R (Xo R p q) S S2 ∧ VS S S2 ∧ ∃ (kd ix : Int32) (o : Option Nat), isTy S2 x kd ix o
/-- told -/
theorem tol_ {K : Ky} (h : TS R c nv S) {e t x : Nat} {fs : List Value} (he : e ∈ ZL R.S) (hG : ZF R.S e = .inr (15, fs)) (hl : fs.length = 14) (ho : ownT (ZF R.S) e = some t) (h1 : p ≤ t) (h2 : t < q) (hx : ∃ (kd ix : Int32) (o : Option Nat), isTy S x kd ix o) : ∃ gs : List Value, ZF S e = .inr (15, gs) ∧ f_told K S (some e) (some x) = some (UF S e (.inr (15, gs.set 12 (.ref x))), some x) ∧ yXP R c nv S p q (UF S e (.inr (15, gs.set 12 (.ref x)))) x := by
  obtain ⟨g0, gs, g1, g2, g3, g4⟩ := h.ob he hG
  refine ⟨gs, g1, ?_, h.uf he (cs_put g4 rfl), VX.uf (Or.inl ⟨t, ho, h1, h2⟩) (fun vs w => by rw [g1] at w; cases w) (fun vs w => by rw [g1] at w; cases w), VS.uf (fun k vs hk w => by rw [g1] at w; cases w; exact hk rfl), ?_⟩
  · unfold f_told
    rw [pV_mk g0 g1 (by rw [g2, hl]; decide)]
    rfl
  · obtain ⟨kd, ix, o, ty, y1, y2, y3, y4⟩ := hx
    exact ⟨kd, ix, o, ty, y1, y2, y3, (ZF_n (fun w => by rw [w, g1] at y4; cases y4)).trans y4⟩
/-- wrong -/
theorem wrg_ (hK : yRm R) (hv : nv ≤ 10000) (hc : c ≤ 1990) (h : TS R c nv S) {e t tj : Nat} {wh : Int32} {fs : List Value} (he : e ∈ ZL R.S) (hG : ZF R.S e = .inr (15, fs)) (hl : fs.length = 14) (ho : ownT (ZF R.S) e = some t) (h1 : p ≤ t) (h2 : t < q) (htj : tj < R.T) (hw : wh ≠ 0) : Rt (f_wrong R.K S (some e) wh (nI tj)) (fun S2 r => ∃ x : Nat, r = some x ∧ yXP R c nv S p q S2 x ∧ ¬ Zi S2 3 = 0) := by
  unfold f_wrong
  refine Rt.be (fai_ h htj) (Rt.bn (plt_ hK hv h.fl (Or.inl rfl) hc) (fun S3 r3 q3 => ?_))
  obtain ⟨x, rfl, t3, y3, v3, s3, z3⟩ := q3
  obtain ⟨gs, g1, g2, g3⟩ := tol_ (K := R.K) t3 he hG hl ho h1 h2 ⟨_, _, _, y3⟩
  refine Rt.be g2 (Rt.rt ⟨x, rfl, ⟨g3.1, ((VX.fl (X := nX)).n v3).b g3.2.1, (VS.fl.tr s3).tr g3.2.2.1, g3.2.2.2⟩, ?_⟩)
  show ¬ Zi S3 3 = 0
  rw [z3]; exact flS_n0 hw
end ITL
end
-- k6.f.lean.txt
section
theorem UF_UF {S : Sg} {a : Nat} {c1 c2 : va_E} : UF (UF S a c1) a c2 = UF S a c2 := by
  unfold UF
  have : updE (updE (ZF S) a c1) a c2 = updE (ZF S) a c2 := by
    funext b
    by_cases e : b = a
    · subst e; rw [updE_s, updE_s]
    · rw [updE_n e, updE_n e, updE_n e]
  show (_, _, _, _, _, _, updE (updE (ZF S) a c1) a c2, _, _) = _
  rw [this]
  rfl
theorem UF_id {S : Sg} {a : Nat} {c1 : va_E} (h : ZF S a = c1) : UF S a c1 = S := by
  have : updE (ZF S) a c1 = ZF S := by
    funext b
    by_cases e : b = a
    · subst e; rw [updE_s, h]
    · rw [updE_n e]
  show (Zi S, Zr S, Zl S, Zq S, Zf S, ZL S, updE (ZF S) a c1, Zz S, Zn S) = S
  rw [this]
  rfl
/-- the exp's cells are as they were read -/
def Unt (R : yR) (S : Sg) (p q : Nat) : Prop := ∀ a ∈ ZL R.S, Xo R p q a → ZF S a = ZF R.S a
theorem Unt.su {R : yR} {S : Sg} {p q p2 q2 : Nat} (h : Unt R S p q) (hp : p ≤ p2) (hq : q2 ≤ q) : Unt R S p2 q2 := fun a ha w => h a ha (Xo_mo w hp hq)
section PLC
variable {R : yR} {Γ : List Nat} {c nv : Nat}
/-- what place gives -/
def PlP (R : yR) (Γ : List Nat) (c nv : Nat) (S : Sg) (n e p q : Nat) (S2 : Sg) (r : Option Nat) : Prop := ∃ x : Nat, r = some x ∧ yXP R c nv S p q S2 x ∧ (Zi S2 3 = 0 → ∃ (v : Nat) (π : List (Nat × Nat)) (mu mv : Nat), xPl R S2 Γ n e p q v π x mu mv ∧ π.length ≤ 4)
theorem PlP.bad {S S2 : Sg} {n e p q x : Nat} (h : yXP R c nv S p q S2 x) (hz : ¬ Zi S2 3 = 0) : PlP R Γ c nv S n e p q S2 (some x) := ⟨x, rfl, h, fun q => absurd q hz⟩
/-- behind a member or a star: not too deep -/
theorem pl250 (hK : yRm R) (hv : nv ≤ 10000) (hc : c ≤ 1990) {V : Sg → Option Nat → Option (Sg × Option Nat)} {S S1 : Sg} {n e p q t x tj : Nat} {fs : List Value} (he : e ∈ ZL R.S) (hG : ZF R.S e = .inr (15, fs)) (hl : fs.length = 14) (ho : ownT (ZF R.S) e = some t) (h1 : p ≤ t) (h2 : t < q) (htj : tj < R.T) (hn : n ≤ 1000) (hX : yXP R c nv S p q S1 x) (hg : Zi S1 3 = 0 → ∃ (v : Nat) (π : List (Nat × Nat)) (mu mv : Nat), xPl R S1 Γ n e p q v π x mu mv ∧ π.length ≤ 100) : Rt (f_place_250 R.K V S1 (some e) (nI tj) (some x)) (PlP R Γ c nv S n e p q) := by
  unfold f_place_250 f_place_277 f_place_279
  refine Rt.ok (fun z => ?_) (fun z => Rt.rt (PlP.bad hX z))
  obtain ⟨v, π, mu, mv, g1, g2⟩ := hg z
  refine Rt.be (dep_ (fun a ha => hX.1.L ha) g1 hn) (Rt.it (fun w => ?_) (fun w => ?_))
  · have hle : π.length ≤ 4 := (nI_leI (a := π.length) (b := 4) (by omega) (by decide)).mp w
    exact Rt.rt ⟨x, rfl, hX, fun _ => ⟨v, π, mu, mv, g1, hle⟩⟩
  · refine Rt.bn (wrg_ hK hv hc hX.1 he hG hl ho h1 h2 htj (by decide)) (fun S3 r3 q3 => ?_)
    obtain ⟨x3, rfl, k1, k2⟩ := q3
    exact Rt.rt (PlP.bad ⟨k1.1, hX.2.1.tr k1.2.1 (fun _ w => w), hX.2.2.1.tr k1.2.2.1, k1.2.2.2⟩ k2)
/-- a name: the scope is looked through -/
theorem pl56 (hK : yRm R) (hv : nv ≤ 10000) (hc : c ≤ 1990) {V : Sg → Option Nat → Option (Sg × Option Nat)} {S : Sg} {n e p q : Nat} (h : TS R c nv S) (hS : SCO R S Γ) (he : e ∈ ZL R.S) (hG : ZF R.S e = xpC 2 p 0 (nI p) 0 0 .null .null .null 0) (hF : ZF S e = ZF R.S e) (hpq : p < q) (hq : q ≤ R.T) : ∀ (m k : Nat) (w : Option Nat), Γ.length < k + m → k ≤ Γ.length → (w = none ∨ ∃ v : Nat, v ∈ Γ ∧ w = some v) → Rt (f_place_56 R.K V m (UF S e (xtC 2 p 0 (nI p) 0 0 0 0 .null .null .null 0 .null (va_rf w))) (some e) (nI k)) (PlP R Γ c nv S (n + 1) e p q)
  | 0, k, w, a, b, _ => absurd a (by omega)
  | m + 1, k, w, a, b, hw => by
    have hT := h.tb
    have ho : ownT (ZF R.S) e = some p := own_a hG (by decide) (by decide) (by omega)
    have hc1 : cs (ZF R.S e) (xtC 2 p 0 (nI p) 0 0 0 0 .null .null .null 0 .null (va_rf w)) := by
      rw [hG]
      exact cs_put (k := 13) (c := 15) (gs := [.int 2, .int (nI p), .int 0, .int (nI p), .int 0, .int 0, .long 0, .int 0, .null, .null, .null, .int (nI 0), .null, .null]) (cs_rf _) rfl
    have t1 : TS R c nv (UF S e (xtC 2 p 0 (nI p) 0 0 0 0 .null .null .null 0 .null (va_rf w))) := h.uf he hc1
    have hne : ∀ (k : Nat) (vs : List Value), k ≠ 15 → ¬ ZF S e = .inr (k, vs) := fun k vs hk w => by rw [hF, hG] at w; cases w; exact hk rfl
    have v1 : VX R (Xo R p q) S (UF S e (xtC 2 p 0 (nI p) 0 0 0 0 .null .null .null 0 .null (va_rf w))) := VX.uf (Or.inl ⟨p, ho, Nat.le_refl _, hpq⟩) (fun vs => hne _ _ (by decide)) (fun vs => hne _ _ (by decide))
    have s1 : VS S (UF S e (xtC 2 p 0 (nI p) 0 0 0 0 .null .null .null 0 .null (va_rf w))) := VS.uf hne
    have c1 : ZF (UF S e (xtC 2 p 0 (nI p) 0 0 0 0 .null .null .null 0 .null (va_rf w))) e = xtC 2 p 0 (nI p) 0 0 0 0 .null .null .null 0 .null (va_rf w) := ZF_s
    have S1o := SCO.vx v1 s1 hS
    have hUF : ∀ c2 : va_E, UF (UF S e (xtC 2 p 0 (nI p) 0 0 0 0 .null .null .null 0 .null (va_rf w))) e c2 = UF S e c2 := fun _ => UF_UF
    revert t1 v1 s1 c1 S1o hUF
    generalize UF S e (xtC 2 p 0 (nI p) 0 0 0 0 .null .null .null 0 .null (va_rf w)) = S1
    intro t1 v1 s1 c1 S1o hUF
    have he1 := t1.L he
    unfold f_place_56 f_place_94 f_place_153
    rw [S1o.1]
    refine Rt.it (fun hk => ?_) (fun hk => ?_)
    · refine Rt.bd (oR_mk he1 c1 rfl) ?_
      rcases hw with hw | ⟨v, hw1, hw2⟩
      · refine Rt.ip hw (Rt.bd (oI_mk he1 c1 rfl) (Rt.bn (wrg_ hK hv hc t1 he hG rfl ho (Nat.le_refl _) hpq (by omega) (by decide)) (fun S3 r3 q3 => ?_)))
        obtain ⟨x3, rfl, k1, k2⟩ := q3
        exact Rt.rt (PlP.bad ⟨k1.1, v1.tr k1.2.1 (fun _ w => w), s1.tr k1.2.2.1, k1.2.2.2⟩ k2)
      · subst hw2
        obtain ⟨j, hj⟩ := List.mem_iff_getElem?.mp hw1
        obtain ⟨k1, ix, nm, mu, ty, k2, k3, k4, k5⟩ := S1o.2.2 j v hj
        refine Rt.iq (by simp) (Rt.bd (oR_mk he1 c1 rfl) (Rt.bd (oR_mk k2.1 k2.2 rfl) ?_))
        cases ty with
        | none =>
          refine Rt.ip rfl (Rt.bd (oI_mk he1 c1 rfl) (Rt.bn (wrg_ hK hv hc t1 he hG rfl ho (Nat.le_refl _) hpq (by omega) (by decide)) (fun S3 r3 q3 => ?_)))
          obtain ⟨x3, rfl, k1, k2⟩ := q3
          exact Rt.rt (PlP.bad ⟨k1.1, v1.tr k1.2.1 (fun _ w => w), s1.tr k1.2.2.1, k1.2.2.2⟩ k2)
        | some x =>
          have hx := k5 x rfl
          obtain ⟨gs, g1, g2, g3⟩ := tol_ (K := R.K) (x := x) t1 he hG rfl ho (Nat.le_refl p) hpq (xTy.ty (Or.inl hx))
          rw [c1] at g1
          cases g1
          refine Rt.iq (by simp) (Rt.bd (oR_mk he1 c1 rfl) (Rt.bd (oR_mk k2.1 k2.2 rfl) (Rt.be g2 (Rt.rt ⟨x, rfl, ⟨g3.1, v1.tr g3.2.1 (fun _ w => w), s1.tr g3.2.2.1, g3.2.2.2⟩, fun _ => ⟨v, [], mu, 1, ?_, by decide⟩⟩))))
          exact ⟨⟨he, ⟨p, ho, Nat.le_refl _, hpq⟩, hpq⟩, hx.im g3.2.1.2.2.2.1, Or.inl ⟨ix, nI nm, ZF_s, rfl, hw1, g3.2.2.1.2.2.2 _ _ _ _ _ k2, k4, rfl⟩⟩
    · have hlt : k < Γ.length := by
        rcases Nat.lt_or_ge k Γ.length with z | z
        · exact z
        · exact absurd (nI_le z (by have := S1o.2.1; omega)) hk
      have hg : Γ[k]? = some Γ[k] := List.getElem?_eq_getElem hlt
      obtain ⟨k1, ix, nm, mu, ty, k2, k3, k4, k5⟩ := S1o.2.2 k _ hg
      have hrq : rQ S1 22 (nI k) = some (some Γ[k]) := by rw [rQ_n (show k < rlen 22 by show k < 40; have := S1o.2.1; omega) (by decide), k1]
      refine Rt.bd hrq (Rt.bd (oI_mk k2.1 k2.2 rfl) (Rt.bd (oI_mk he1 c1 rfl) (Rt.bn (snm_ t1 k3 (by omega)) (fun S3 r3 q3 => ?_))))
      obtain ⟨rfl, _⟩ := q3
      rw [nI_1]
      refine Rt.it (fun _ => ?_) (fun _ => ?_)
      · have := pl56 (V := V) hK hv hc h hS he hG hF hpq hq (n := n) m (k + 1) w (by omega) (by omega) hw
        rw [← hUF, UF_id c1] at this
        exact this
      · refine Rt.bd hrq (Rt.bd (pV_mk he1 c1 (Nat.le_of_ble_eq_true rfl)) ?_)
        rw [hUF]
        exact pl56 (V := V) hK hv hc h hS he hG hF hpq hq (n := n) m (k + 1) (some Γ[k]) (by omega) (by omega) (Or.inr ⟨_, List.getElem_mem hlt, rfl⟩)
end PLC
end
