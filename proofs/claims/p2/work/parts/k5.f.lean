/-- the items in a row: each in its own interval of addresses -/
def itJ (K : Ky) (F : Nat → va_E) (fk : Nat → Int32) (f : Nat → Option Nat) (n z0 z1 q : Nat) : Prop := ∃ ws ps ms : Nat → Nat, ws 0 = z0 ∧ ws n = z1 ∧ ps 0 = 0 ∧ ps n = q ∧ ∀ i : Nat, i < n → f i = some (ws i) ∧ ws i < ws (i + 1) ∧ isIt K (iv (ws i) (ws (i + 1))) F fk (ws i) (ps i) (ms i) (ps (i + 1))
theorem itJ_0 {K : Ky} {F : Nat → va_E} {fk : Nat → Int32} {f : Nat → Option Nat} {z : Nat} : itJ K F fk f 0 z z 0 := ⟨fun _ => z, fun _ => 0, fun _ => 0, rfl, rfl, rfl, rfl, fun i hi => absurd hi (by omega)⟩
theorem mono_le {ws : Nat → Nat} {n : Nat} (h : ∀ i : Nat, i < n → ws i < ws (i + 1)) : ∀ {i : Nat}, i ≤ n → ws 0 ≤ ws i
  | 0, _ => Nat.le_refl _
  | i + 1, hi => Nat.le_trans (mono_le h (show i ≤ n by omega)) (Nat.le_of_lt (h i (by omega)))
theorem mono_le2 {ws : Nat → Nat} {n : Nat} (h : ∀ i : Nat, i < n → ws i < ws (i + 1)) : ∀ (d : Nat) {i : Nat}, i + d ≤ n → ws i ≤ ws (i + d)
  | 0, _, _ => Nat.le_refl _
  | d + 1, i, hi => Nat.le_trans (mono_le2 h d (show i + d ≤ n by omega)) (Nat.le_of_lt (h (i + d) (by omega)))
theorem itJ_add {K : Ky} {F F2 : Nat → va_E} {fk : Nat → Int32} {f f2 : Nat → Option Nat} {n z0 z1 q m z2 q2 : Nat} (h : itJ K F fk f n z0 z1 q) (hF : ∀ a : Nat, z0 ≤ a → a < z1 → F2 a = F a) (hs : ∀ i : Nat, i < n → f2 i = f i) (hf : f2 n = some z1) (hz : z1 < z2) (hi : isIt K (iv z1 z2) F2 fk z1 q m q2) : itJ K F2 fk f2 (n + 1) z0 z2 q2 := by
  obtain ⟨ws, ps, ms, h1, h2, h3, h4, h5⟩ := h
  have hm : ∀ i : Nat, i < n → ws i < ws (i + 1) := fun i hi => (h5 i hi).2.1
  refine ⟨fun j => if j = n + 1 then z2 else ws j, fun j => if j = n + 1 then q2 else ps j, fun j => if j = n then m else ms j, (if_neg (by omega)).trans h1, if_pos rfl, (if_neg (by omega)).trans h3, if_pos rfl, fun i hi2 => ?_⟩
  dsimp only
  rw [if_neg (show i ≠ n + 1 by omega)]
  by_cases e : i = n
  · subst e
    rw [if_pos rfl, if_pos rfl, if_pos rfl, if_neg (show i ≠ i + 1 by omega), h2, h4]
    exact ⟨hf, hz, hi⟩
  · rw [if_neg (show ¬ i + 1 = n + 1 by omega), if_neg (show ¬ i + 1 = n + 1 by omega), if_neg e, if_neg (show i ≠ n + 1 by omega), hs i (by omega)]
    obtain ⟨k1, k2, k3⟩ := h5 i (by omega)
    have b1 := mono_le hm (show i ≤ n by omega)
    have b2 := mono_le2 hm (n - (i + 1)) (i := i + 1) (by omega)
    rw [show i + 1 + (n - (i + 1)) = n by omega] at b2
    exact ⟨k1, k2, isI_ex (fun a ha => ⟨ha, hF a (by have := (iv_m.mp ha).1; omega) (by have := (iv_m.mp ha).2; omega)⟩) k3⟩
/-- what the reading of the items leaves as it was -/
def FrP (S S2 : Sg) : Prop := (∀ j : Nat, j ≠ 3 → j ≠ 4 → j ≠ 10 → j ≠ 12 → j ≠ 13 → j ≠ 14 → j ≠ 15 → j ≠ 16 → j ≠ 17 → Zi S2 j = Zi S j) ∧ (Zr S2 = Zr S ∧ Zl S2 = Zl S ∧ (∀ r : Nat, r ≠ 11 → Zq S2 r = Zq S r) ∧ Zf S2 = Zf S) ∧ (∀ a : Nat, a < Zz S → ZF S2 a = ZF S a) ∧ (∀ a : Nat, a ∈ ZL S2 ↔ a ∈ ZL S ∨ (Zz S ≤ a ∧ a < Zz S2)) ∧ (Zz S ≤ Zz S2 ∧ Zn S ≤ Zn S2) ∧ (Zi S2 3 = 0 → Zi S 3 = 0)
theorem FrP.rf {S : Sg} : FrP S S := ⟨fun _ _ _ _ _ _ _ _ _ _ => rfl, ⟨rfl, rfl, fun _ _ => rfl, rfl⟩, fun _ _ => rfl, fun a => ⟨Or.inl, fun h => h.elim id (fun h => absurd h (by omega))⟩, ⟨Nat.le_refl _, Nat.le_refl _⟩, id⟩
theorem FrP.g {X : Nat → Prop} {S S1 S2 : Sg} (h : FrP S S1) (g : GR X S1 S2) (hX : ∀ a : Nat, a < Zz S → ¬ X a) : FrP S S2 := by
  obtain ⟨h1, ⟨h2, h3, h4, h5⟩, h6, h7, h8, h9⟩ := h
  obtain ⟨g1, ⟨g2, g3, g4, g5⟩, g6, g7, g8, g9⟩ := g
  refine ⟨fun j a b c d e f x y z => (g1 j a b c x y z).trans (h1 j a b c d e f x y z), ⟨g2.trans h2, g3.trans h3, fun r hr => (congrFun g4 r).trans (h4 r hr), g5.trans h5⟩, fun a ha => (g6 a (by omega) (hX a ha)).trans (h6 a ha), fun a => ?_, ⟨by omega, by omega⟩, fun q => h9 (g9 q)⟩
  rw [g7, h7]
  constructor
  · rintro ((h | h) | h)
    · exact Or.inl h
    · exact Or.inr ⟨h.1, by omega⟩
    · exact Or.inr ⟨by omega, h.2⟩
  · rintro (h | h)
    · exact Or.inl (Or.inl h)
    · rcases Nat.lt_or_ge a (Zz S1) with z | z
      · exact Or.inl (Or.inr ⟨h.1, z⟩)
      · exact Or.inr ⟨z, h.2⟩
theorem FrP.pf {S S1 S2 : Sg} (h : FrP S S1) (g : PF S1 S2) : FrP S S2 := by
  obtain ⟨h1, ⟨h2, h3, h4, h5⟩, h6, h7, h8, h9⟩ := h
  obtain ⟨⟨g1, g2, g3, g4⟩, ⟨g5, g6, g7, g8⟩, g9, g10⟩ := g
  exact ⟨fun j a b c d e f x y z => (g9 j a b e f).trans (h1 j a b c d e f x y z), ⟨g5.trans h2, g6.trans h3, fun r hr => (congrFun g7 r).trans (h4 r hr), g8.trans h5⟩, fun a ha => by rw [g1]; exact h6 a ha, fun a => by rw [g2, g3]; exact h7 a, by rw [g3, g4]; exact h8, fun q => h9 (g10 q)⟩
theorem FrP.q {S S1 : Sg} {f : Nat → Option Nat} {v : Int32} (h : FrP S S1) : FrP S (Ui (Uq S1 11 f) 12 v) := ⟨fun j a b c d e k x y z => (Zi_n d).trans (h.1 j a b c d e k x y z), ⟨h.2.1.1, h.2.1.2.1, fun r hr => (va_up_ne _ _ hr).trans (h.2.1.2.2.1 r hr), h.2.1.2.2.2⟩, h.2.2.1, h.2.2.2.1, h.2.2.2.2.1, fun q => h.2.2.2.2.2 (by rwa [Zi_n (by decide)] at q)⟩
theorem FrP.ui {S S1 : Sg} {k : Nat} {v : Int32} (h : FrP S S1) (hk : k = 10 ∨ k = 12 ∨ k = 13 ∨ k = 14 ∨ k = 15 ∨ k = 16 ∨ k = 17) : FrP S (Ui S1 k v) := ⟨fun j a b c d e f x y z => (Zi_n (by rcases hk with w | w | w | w | w | w | w <;> rw [w] <;> assumption)).trans (h.1 j a b c d e f x y z), h.2.1, h.2.2.1, h.2.2.2.1, h.2.2.2.2.1, fun q => h.2.2.2.2.2 (by rwa [Zi_n (by rcases hk with w | w | w | w | w | w | w <;> rw [w] <;> decide)] at q)⟩
/-- the items as far as they were read -/
def PrI (K : Ky) (T : Nat) (S S1 : Sg) (p1 : Nat) : Prop := ∃ ns vv bb : Nat, RZ S1 T p1 ns vv bb ∧ FrP S S1 ∧ Zz S1 ≤ Zz S + 8 * p1 + 20 ∧ Zn S1 ≤ Zn S + 120 * p1 + 200 ∧ (Zi S1 3 = 0 → ns = 0 ∧ Zz S1 ≤ Zz S + 8 * p1 ∧ Zn S1 ≤ Zn S + 120 * p1 ∧ ∃ n t u : Nat, Zi S1 12 = nI n ∧ Zi S1 13 = nI t ∧ Zi S1 14 = nI u ∧ n = t + u ∧ t ≤ 30 ∧ u ≤ 40 ∧ itJ K (ZF S1) (Zr S 5) (Zq S1 11) n (Zz S) (Zz S1) p1)
section PRG
variable {K : Ky} {T : Nat} {S : Sg}
theorem x16_ {X : Nat → Prop} {S2 : Sg} {e zz nn pp ns vv bb : Nat} {fs : List Value} (s : St X S S2 e (.inr (16, fs)) zz nn) (h : RZ S2 T pp ns vv bb) (hl : 8 < fs.length) (r1 : Zz S2 + 1 ≤ K.2.1) (r2 : Zn S2 + 13 ≤ K.2.2) : Rt (f_X16_init K S2 e) (fun S3 _ => St X S S3 e (.inr (16, fs.set 8 (.ref (Zz S2)))) (zz + 1) (nn + 13) ∧ RZ S3 T pp ns vv bb ∧ NR S2 S3 e (.inl (K.1 0, 13, .inl (fun _ => 0)))) := by
  unfold f_X16_init
  exact Rt.nap (n := 13) s h hl (by decide) r1 r2 (fun S3 s3 z3 n3 => Rt.rt ⟨s3, z3, n3⟩)
theorem prg25 (r1 : Zz S + 8 * T + 60 ≤ K.2.1) (r2 : Zn S + 120 * T + 900 ≤ K.2.2) : ∀ (m : Nat) {S1 : Sg} {p1 : Nat}, 1 ≤ m → (Zi S1 3 = 0 → T + 1 ≤ p1 + m) → PrI K T S S1 p1 → Rt (f_program_25 K m S1) (fun S2 _ => ∃ p2 : Nat, PrI K T S S2 p2 ∧ (Zi S2 3 = 0 → Zr S 5 p2 = 0))
  | 0, _, _, h, _, _ => absurd h (by omega)
  | m + 1, S1, p1, _, hm, hI => by
    have hI0 := hI
    obtain ⟨ns, vv, bb, z1, f1, k1, k2, hgd⟩ := hI
    have hT1 := z1.1.2.1; have hT := z1.1.2.2.1
    unfold f_program_25
    refine Rt.ok (fun q1 => ?_) (fun q1 => by unfold f_program_159; exact Rt.rt ⟨p1, hI0, fun q => absurd q q1⟩)
    refine Rt.is z1 (fun w => by unfold f_program_159; exact Rt.rt ⟨p1, hI0, fun _ => by rw [← f1.2.1.1]; exact w⟩) (fun w0 => ?_)
    have hm1 := hm q1
    obtain ⟨c1, c2, c3, n, t, u, c4, c5, c6, c7, c8, c9, c10⟩ := hgd q1
    subst c1
    have h77 : (Zr S1 5 p1 = 10 ∨ Zr S1 5 p1 = 11 ∨ Zr S1 5 p1 = 12) → Rt (f_program_77 K (f_program_25 K m) S1) (fun S2 _ => ∃ p2 : Nat, PrI K T S S2 p2 ∧ (Zi S2 3 = 0 → Zr S 5 p2 = 0)) := fun hk => by
      unfold f_program_77
      refine Rt.nw (X := nX) z1 (by omega) (by omega) (fun S2 s2 z2 i2 => ?_)
      have x2 := s2.2.2.2.2.1; have y2 := s2.2.2.2.2.2
      refine Rt.bn (x16_ s2 z2 (Nat.le_of_ble_eq_true rfl) (by omega) (by omega)) (fun S3 _ q3 => ?_)
      obtain ⟨s3, z3, n3⟩ := q3
      have e2 : Zz S2 = Zz S1 + 1 := by have := z2.2.2.2.2 _ s2.2.2.1; omega
      rw [e2] at s3
      refine Rt.pv s3 z3 (Nat.le_of_ble_eq_true rfl) (show Value.int (Zi S3 10) = .int (nI p1) by rw [z3.1.1]) (fun S4 s4 z4 u4 => ?_)
      refine Rt.bd z4.kd ?_
      refine Rt.pv s4 z4 (Nat.le_of_ble_eq_true rfl) (show Value.int (Zr S4 5 p1) = .int (Zr S1 5 p1) by rw [s4.1.2.1.1]) (fun S5 s5 z5 u5 => ?_)
      have s5 : St nX S1 S5 (Zz S1) (.inr (16, itV p1 0 (Zr S1 5 p1) 0 0 (Zz S1 + 1) .null .null .null .null .null .null .null .null 0)) 2 35 := s5
      have i5 : Zi S5 = Zi S1 := by rw [u5.2.2.2.2.1, u4.2.2.2.2.1, n3.2.2.2.2, i2]
      have e5 : Zz S5 = Zz S1 + 2 := by rw [u5.2.2.1, u4.2.2.1, n3.2.2.2.1, e2]
      have m5 : Zz S1 + 1 ∈ ZL S5 := by rw [u5.2.1, u4.2.1]; have := n3.2.1; rwa [e2] at this
      have g5 : ZF S5 (Zz S1 + 1) = .inl (K.1 0, 13, .inl (fun _ => 0)) := by rw [u5.1 _ (by omega), u4.1 _ (by omega)]; have := n3.2.2.1; rwa [e2] at this
      have k5 : Zr S5 5 p1 = Zr S1 5 p1 := by rw [s5.1.2.1.1]
      have x5 := s5.2.2.2.2.2
      have f5 : FrP S S5 := f1.g s5.1 (fun a _ q => q)
      have hz01 := f1.2.2.2.2.1.1
      -- behind the item
      have h128 : ∀ (S6 : Sg) (k : Nat) (mx : Nat), (k = 13 ∧ mx = 30 ∨ k = 14 ∧ mx = 40) → ItC K T S5 p1 (Zz S1) k (nI mx) S6 → Rt (f_program_128 K (f_program_25 K m) S6 (some (Zz S1))) (fun S2 _ => ∃ p2 : Nat, PrI K T S S2 p2 ∧ (Zi S2 3 = 0 → Zr S 5 p2 = 0)) := fun S6 k mx hkm hC => by
        obtain ⟨S', hp', ⟨p6, ns6, vv6, bb6, fs6, z6, g6, w1, w2, w3, w4, w5⟩, w6⟩ := hC
        have f6 : FrP S S6 := (f5.pf hp').g g6 (fun a ha q => by rcases q with q | q <;> omega)
        have e' : Zz S' = Zz S1 + 2 := hp'.1.2.2.1.trans e5
        have n' : Zn S' = Zn S5 := hp'.1.2.2.2
        unfold f_program_128
        refine Rt.ok (fun q6 => ?_) (fun q6 => Rt.rt ⟨p6, ⟨ns6, vv6, bb6, z6, f6, by omega, by omega, fun q => absurd q q6⟩, fun q => absurd q q6⟩)
        obtain ⟨d1, d2, d3, d4, mm, d5⟩ := w5 q6
        obtain ⟨a1, a2⟩ := w6 q6
        have i12 : Zi S6 12 = nI n := by rw [g6.1 12 (by decide) (by decide) (by decide) (by decide) (by decide) (by decide), hp'.2.2.1 12 (by decide) (by decide) (by decide) (by decide), i5]; exact c4
        have hcn : ∃ t6 u6 : Nat, Zi S6 13 = nI t6 ∧ Zi S6 14 = nI u6 ∧ n + 1 = t6 + u6 ∧ t6 ≤ 30 ∧ u6 ≤ 40 := by
          have i13 : Zi S6 13 = Zi S' 13 := g6.1 13 (by decide) (by decide) (by decide) (by decide) (by decide) (by decide)
          have i14 : Zi S6 14 = Zi S' 14 := g6.1 14 (by decide) (by decide) (by decide) (by decide) (by decide) (by decide)
          rcases hkm with ⟨v1, v2⟩ | ⟨v1, v2⟩
          · subst v1 v2
            rw [i5, c5] at a1 a2
            exact ⟨t + 1, u, by rw [i13, a2, Zi_s, nI_1], by rw [i14, a2, Zi_n (by decide), i5, c6], by omega, by have : t ≠ 30 := fun w => a1 (by rw [w]); omega, c9⟩
          · subst v1 v2
            rw [i5, c6] at a1 a2
            exact ⟨t, u + 1, by rw [i13, a2, Zi_n (by decide), i5, c5], by rw [i14, a2, Zi_s, nI_1], by omega, c8, by have : u ≠ 40 := fun w => a1 (by rw [w]); omega⟩
        obtain ⟨t6, u6, b1, b2, b3, b4, b5⟩ := hcn
        rw [i12]
        refine Rt.bd (wQ_n (show n < rlen 11 by show n < 70; omega) (by decide) (okO_mk (vs := _) w4.1 w4.2)) ?_
        refine Rt.bd (v := Ui (Uq S6 11 (va_up (Zq S6 11) n (some (Zz S1)))) 12 (nI (n + 1))) (by show some (Ui (Uq S6 11 (va_up (Zq S6 11) n (some (Zz S1)))) 12 (Zi S6 12 + 1)) = _; rw [i12, nI_1]) ?_
        have hq1 : Zq S6 11 = Zq S1 11 := by rw [g6.2.1.2.2.1, hp'.2.1.2.2.1, s5.1.2.1.2.2.1]
        have hfk : Zr S' 5 = Zr S 5 := by rw [hp'.2.1.1, f5.2.1.1]
        rw [hfk] at d5
        have hz6 : ∀ a : Nat, Zz S ≤ a → a < Zz S1 → ZF S6 a = ZF S1 a := fun a _ h2 => by rw [g6.2.2.1 a (by omega) (fun q => by rcases q with q | q <;> omega), hp'.1.1, s5.1.2.2.1 a (by omega) (fun q => q)]
        refine prg25 r1 r2 m (p1 := p6) (by omega) (fun _ => by omega) ⟨ns6, vv6, bb6, ?_, f6.q, by show Zz S6 ≤ _; omega, by show Zn S6 ≤ _; omega, fun q => ⟨d2, by show Zz S6 ≤ _; omega, by show Zn S6 ≤ _; omega, n + 1, t6, u6, Zi_s, (Zi_n (by decide)).trans b1, (Zi_n (by decide)).trans b2, b3, b4, b5, ?_⟩⟩
        · exact ⟨⟨(Zi_n (by decide)).trans z6.1.1, z6.1.2⟩, (Zi_n (by decide)).trans z6.2.1, (Zi_n (by decide)).trans z6.2.2.1, (Zi_n (by decide)).trans z6.2.2.2.1, z6.2.2.2.2⟩
        · have e6 : Zz S1 < Zz S6 := by have := g6.2.2.2.2.1.1; omega
          rw [Zq_iu]
          exact itJ_add c10 hz6 (fun i hi => (va_up_ne _ _ (by omega)).trans (congrFun hq1 i)) (va_up_self _ _ _) e6 d5
      refine Rt.bd (oI_mk s5.2.2.1 s5.2.2.2.1 rfl) ?_
      refine Rt.it (fun hc => ?_) (fun hc => ?_)
      · rw [hc] at s5
        refine Rt.bn (fun_ z5 e5 s5.2.2.1 s5.2.2.2.1 m5 g5 (k5.trans hc) (by omega) (by omega)) (fun S6 _ q6 => h128 S6 14 40 (Or.inr ⟨rfl, rfl⟩) q6)
      · refine Rt.bn (tit_ z5 e5 s5.2.2.1 s5.2.2.2.1 m5 g5 (by rcases hk with w | w | w; exact Or.inl w; exact Or.inr w; exact absurd w hc) k5 (by omega) (by omega)) (fun S6 _ q6 => h128 S6 13 30 (Or.inl ⟨rfl, rfl⟩) q6)
    refine Rt.is z1 (fun w => h77 (Or.inl w)) (fun w1 => Rt.is z1 (fun w => h77 (Or.inr (Or.inl w))) (fun w2 => Rt.is z1 (fun w => h77 (Or.inr (Or.inr w))) (fun w3 => ?_)))
    rw [z1.1.1]
    exact Rt.be (fail_ (by omega)) (Rt.rt ⟨p1, ⟨0, vv, bb, z1.fl, f1.g SS.fl.1 (fun _ _ q => q), by rw [flS_st.2.2.1]; omega, by rw [flS_st.2.2.2.1]; omega, fun q => absurd q (flS_n0 (by decide))⟩, fun q => absurd q (flS_n0 (by decide))⟩)
/-- program -/
theorem prg_ (h0 : Zr S 5 (T - 1) = 0) (hT : 0 < T) (hT2 : T ≤ 3001) (hL : ∀ a ∈ ZL S, a < Zz S) {vv bb : Nat} (hv : Zi S 16 = nI vv) (hb : Zi S 17 = nI bb) (r1 : Zz S + 8 * T + 60 ≤ K.2.1) (r2 : Zn S + 120 * T + 900 ≤ K.2.2) : Rt (f_program K S) (fun S2 _ => ∃ p2 : Nat, PrI K T S S2 p2 ∧ (Zi S2 3 = 0 → Zr S 5 p2 = 0)) := by
  unfold f_program
  refine Rt.bd (v := Ui S 12 (nI 0)) rfl (Rt.bd (v := Ui (Ui S 12 (nI 0)) 13 (nI 0)) rfl (Rt.bd (v := Ui (Ui (Ui S 12 (nI 0)) 13 (nI 0)) 14 (nI 0)) rfl (Rt.bd (v := Ui (Ui (Ui (Ui S 12 (nI 0)) 13 (nI 0)) 14 (nI 0)) 10 (nI 0)) rfl (Rt.bd (v := Ui (Ui (Ui (Ui (Ui S 12 (nI 0)) 13 (nI 0)) 14 (nI 0)) 10 (nI 0)) 15 (nI 0)) rfl ?_))))
  refine prg25 r1 r2 bigN (p1 := 0) (by decide) (fun _ => by show T + 1 ≤ 0 + 1000000000000; omega) ⟨0, vv, bb, ⟨⟨(Zi_n (by decide)).trans Zi_s, hT, hT2, h0⟩, Zi_s, hv, hb, hL⟩, ((((FrP.rf.ui (by decide)).ui (by decide)).ui (by decide)).ui (by decide)).ui (by decide), by show Zz S ≤ _; omega, by show Zn S ≤ _; omega, fun q => ⟨rfl, by show Zz S ≤ _; omega, by show Zn S ≤ _; omega, 0, 0, 0, rfl, rfl, rfl, rfl, by omega, by omega, itJ_0⟩⟩
end PRG
