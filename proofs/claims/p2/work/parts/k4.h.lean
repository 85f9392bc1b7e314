-- k4.h.lean.txt
section
/-- the values of an exp as its reader makes it -/
def xpV (kd : Int32) (tk : Nat) (sg nm : Int32) (num : Int64) (mu : Int32) (vo li si : Value) (mn : Nat) : List Value := [.int kd, .int (nI tk), .int sg, .int nm, .int 0, .int 0, .long num, .int mu, vo, li, si, .int (nI mn), .null, .null]
theorem St.tr {X : Nat → Prop} {S S1 S2 : Sg} {a z1 n1 z2 n2 : Nat} {c1 c2 : va_E} (h : St X S S1 a c1 z1 n1) (g : St X S1 S2 a c2 z2 n2) : St X S S2 a c2 (z1 + z2) (n1 + n2) := ⟨h.1.tr g.1 (fun _ _ q => q), h.2.1, g.2.2.1, g.2.2.2.1, by have := h.2.2.2.2.1; have := g.2.2.2.2.1; omega, by have := h.2.2.2.2.2; have := g.2.2.2.2.2; omega⟩
section NML
variable {K : Ky} {T : Nat} {V : Sg → Int32 → Option (Sg × Option Nat)} {V2 : Sg → Option (Sg × Option Nat)} {d : Nat} {S : Sg} {pp ns vv bb e : Nat}
/-- what the member of a name makes of e -/
def NmQ (K : Ky) (S : Sg) (pp ns bb : Nat) (S2 : Sg) (pp2 bb2 : Nat) (fs2 : List Value) : Prop := (fs2 = xpV 2 pp 0 (nI pp) 0 0 .null .null .null 0 ∧ bb2 = bb) ∨ ∃ (kd sg : Int32) (li si : Value) (mn p' : Nat), fs2 = xpV kd pp sg (nI pp) 0 0 .null li si mn ∧ ((kd = 3 ∧ sg = 0) ∨ (kd = 6 ∧ sg = nI (pp + 2) ∧ pp + 2 < pp2)) ∧ pp < p' ∧ isQk 0 (16 - ns) (isE (iv (Zz S) (Zz S2)) (ZF S2) (K.1 9) (K.1 0) (24 * (16 - ns))) (iv (Zz S) (Zz S2)) (ZF S2) (K.1 9) (K.1 0) li si mn p' pp2 bb bb2
theorem nam_ (hV : HVc K T V d) (h : RZ S T pp ns vv bb) (hk2 : Zr S 5 pp = 2) (q0 : Zi S 3 = 0) (hb : bb ≤ 54) (hn : ns ≤ 16) (hd : 7 * (17 - ns) ≤ d) (r1 : Zz S + 8 * (T - pp) + 3 ≤ K.2.1) (r2 : Zn S + 120 * (T - pp) + 280 ≤ K.2.2) (he : e ∈ ZL S) (hF : ZF S e = .inr (15, xpV 0 pp 0 0 0 0 .null .null .null 0)) : Rt (f_named K V V2 S (some e)) (fun S2 _ => EP K T S pp ns vv bb e (NmQ K S pp ns bb) S2) := by
  have hp := h.1.2.1; have hT := h.1.2.2.1
  have s0 : St (fun b => b = e) S S e (.inr (15, xpV 0 pp 0 0 0 0 .null .null .null 0)) 0 0 := ⟨GR.rf, fun _ => rfl, he, hF, Nat.le_refl _, Nat.le_refl _⟩
  unfold f_named f_named_92
  refine Rt.pv s0 h (Nat.le_of_ble_eq_true rfl) (show Value.int (Zi S 10) = .int (nI pp) by rw [h.1.1]) (fun S1 s1 z1 u1 => ?_)
  refine Rt.pi z1 (z1.nx (k := 2) (by rw [u1.2.2.2.2.2.1]; exact hk2) (by decide)) (fun S2 g2 z2 i2 => ?_)
  have s2 : St (fun b => b = e) S S2 e (.inr (15, xpV 0 pp 0 (nI pp) 0 0 .null .null .null 0)) 0 0 := s1.ss g2
  have y1 : Zz S2 = Zz S := g2.2.2.2.1.trans u1.2.2.1
  have y2 : Zn S2 = Zn S := g2.2.2.2.2.trans u1.2.2.2.1
  have q2 : Zi S2 3 = 0 := by rw [i2, u1.2.2.2.2.1]; exact q0
  -- the list behind
  have hlist : ∀ (S4 : Sg) (p4 : Nat) (kd sg : Int32), St (fun b => b = e) S S4 e (.inr (15, xpV kd pp sg (nI pp) 0 0 .null .null .null 0)) 0 0 → RZ S4 T p4 ns vv bb → Zz S4 = Zz S → Zn S4 = Zn S → pp < p4 → (Zi S4 3 = 0 → (kd = 3 ∧ sg = 0) ∨ (kd = 6 ∧ sg = nI (pp + 2) ∧ pp + 2 < p4)) → Rt (bnd (f_list K V V2 S4 (some e)) fun S16 v17 => some (S16, ())) (fun S2 _ => EP K T S pp ns vv bb e (NmQ K S pp ns bb) S2) := fun S4 p4 kd sg s4 z4 w1 w2 w3 w4 => by
    have hT4 := z4.1.2.1
    refine Rt.bn (lst_ hV z4 (fun _ => hb) (by omega) (fun _ => ⟨hn, hd⟩) (by omega) (by omega) (by omega) s4.2.2.1 s4.2.2.2.1 rfl rfl rfl rfl (kd := kd) rfl) (fun S5 _ q5 => Rt.rt ?_)
    obtain ⟨p5, b5, fs5, z5, s5, k1, k2, k3⟩ := q5
    refine ⟨p5, b5, fs5, z5, (s4.tr s5).le (by omega) (by omega), by omega, k2, fun q => ?_⟩
    obtain ⟨k4, k5, li, si, mn, k6, k7⟩ := k3 q
    rw [w1] at k7
    refine ⟨k4, by omega, Or.inr ⟨kd, sg, li, si, mn, p4, k6, ?_, w3, k7⟩⟩
    rcases w4 (s5.1.2.2.2.2.2 q) with w | ⟨wa, wb, wc⟩
    · exact Or.inl w
    · exact Or.inr ⟨wa, wb, by omega⟩
  have hnone : ∀ (S4 : Sg) (p4 : Nat) (fs4 : List Value), St (fun b => b = e) S S4 e (.inr (15, fs4)) 0 0 → RZ S4 T p4 ns vv bb → pp < p4 → fs4.length = 14 → (Zi S4 3 = 0 → NmQ K S pp ns bb S4 p4 bb fs4) → Rt (some (S4, ())) (fun S2 _ => EP K T S pp ns vv bb e (NmQ K S pp ns bb) S2) := fun S4 p4 fs4 s4 z4 w1 w2 w3 => Rt.rt ⟨p4, bb, fs4, z4, s4.le (by omega) (by omega), by omega, w2, fun q => ⟨hb, w1, w3 q⟩⟩
  refine Rt.is z2 (fun hk => ?_) (fun hk => ?_)
  · refine Rt.pv s2 z2 (Nat.le_of_ble_eq_true rfl) rfl (fun S4 s4 z4 u4 => ?_)
    exact hlist S4 (pp + 1) 3 0 s4 z4 (u4.2.2.1.trans y1) (u4.2.2.2.1.trans y2) (by omega) (fun _ => Or.inl ⟨rfl, rfl⟩)
  · refine Rt.bn (takes_ z2 (by decide)) (fun S3 r3 q3 => ?_)
    obtain ⟨p3, z3, g3, i3, q3⟩ := q3
    have s3 := s2.ss g3
    rcases q3 with ⟨e1, e2, _⟩ | ⟨e1, e2, _, _⟩
    · subst e1 e2
      refine Rt.ip rfl (Rt.pv s3 z3 (Nat.le_of_ble_eq_true rfl) rfl (fun S4 s4 z4 u4 => ?_))
      exact hnone S4 _ _ s4 z4 (by omega) rfl (fun _ => Or.inl ⟨rfl, rfl⟩)
    · subst e1 e2
      refine Rt.iq (by decide) (Rt.pv s3 z3 (Nat.le_of_ble_eq_true rfl) rfl (fun S4 s4 z4 u4 => ?_))
      refine Rt.bn (name_ z4) (fun S5 r5 q5 => ?_)
      obtain ⟨p5, z5, g5, w1, w2, w3⟩ := q5
      have s5 := s4.ss g5
      refine Rt.pv s5 z5 (Nat.le_of_ble_eq_true rfl) rfl (fun S6 s6 z6 u6 => ?_)
      have i6 : Zi S6 3 = Zi S5 3 := by rw [u6.2.2.2.2.1]
      have y3 : Zz S6 = Zz S := u6.2.2.1.trans (g5.2.2.2.1.trans (u4.2.2.1.trans (g3.2.2.2.1.trans y1)))
      have y4 : Zn S6 = Zn S := u6.2.2.2.1.trans (g5.2.2.2.2.trans (u4.2.2.2.1.trans (g3.2.2.2.2.trans y2)))
      have s6 : St (fun b => b = e) S S6 e (.inr (15, xpV 6 pp r5 (nI pp) 0 0 .null .null .null 0)) 0 0 := s6
      have hg6 : Zi S6 3 = 0 → r5 = nI (pp + 2) ∧ pp + 2 < p5 := fun q => by
        obtain ⟨w4, w5, w6⟩ := w3 (by rw [← i6]; exact q)
        exact ⟨w6, by omega⟩
      have hno : Rt (some (S6, ())) (fun S2 _ => EP K T S pp ns vv bb e (NmQ K S pp ns bb) S2) := hnone S6 p5 _ s6 z6 (by omega) rfl (fun q => Or.inr ⟨6, r5, .null, .null, 0, pp + 1, rfl, Or.inr ⟨rfl, hg6 q⟩, by omega, 0, Or.inr rfl, Or.inl ⟨rfl, rfl, rfl, by omega⟩⟩)
      refine Rt.ok (fun q => Rt.is z6 (fun _ => ?_) (fun _ => hno)) (fun _ => hno)
      exact hlist S6 p5 6 r5 s6 z6 y3 y4 (by omega) (fun q => Or.inr ⟨rfl, hg6 q⟩)
/-- primary -/
theorem pri_ (hV : HVc K T V d) (h : RZ S T pp ns vv bb) (q0 : Zi S 3 = 0) (hb : bb ≤ 54) (hn : ns ≤ 16) (hd : 7 * (17 - ns) ≤ d) (r1 : Zz S + 8 * (T - pp) + 4 ≤ K.2.1) (r2 : Zn S + 120 * (T - pp) + 300 ≤ K.2.2) : Rt (f_primary K V V2 S) (XP K T S pp ns vv bb (24 * (16 - ns) + 1) 1 14) := by
  have hp := h.1.2.1; have hT := h.1.2.2.1
  unfold f_primary f_primary_253
  refine Rt.nw (X := nX) h (by omega) (by omega) (fun S1 s1 z1 i1 => ?_)
  refine Rt.pv s1 z1 (Nat.le_of_ble_eq_true rfl) (show Value.int (Zi S1 10) = .int (nI pp) by rw [z1.1.1]) (fun S5 s5 z5 u5 => ?_)
  have s5 : St nX S S5 (Zz S) (.inr (15, xpV 0 pp 0 0 0 0 .null .null .null 0)) 1 14 := s5
  have q5 : Zi S5 3 = 0 := by rw [u5.2.2.2.2.1, i1]; exact q0
  have f5 : Zr S5 5 = Zr S 5 := by rw [s5.1.2.1.1]
  have hz1 : Zz S1 = Zz S + 1 := by have := s1.2.2.2.2.1; have := z1.2.2.2.2 _ s1.2.2.1; omega
  have y1 : Zz S5 = Zz S + 1 := u5.2.2.1.trans hz1
  have y2 := s5.2.2.2.2.2
  have hpn : ∀ k : Int32, Zr S5 5 pp = k → k ≠ 0 → pp + 1 < T := fun k e1 e2 => z5.nx e1 e2
  have hal : ∀ {Q : Sg} {c : va_E} {p2 n2 v2 b2 zz nn : Nat}, St nX S Q (Zz S) c zz nn → RZ Q T p2 n2 v2 b2 → Zz S ≤ Zz S ∧ Zz S < Zz Q := fun s w => ⟨Nat.le_refl _, w.2.2.2.2 _ s.2.2.1⟩
  -- a member has filled the exp
  have hEP : ∀ (S6 : Sg) (p6 : Nat) (fs6 : List Value) (Q : Sg → Nat → Nat → List Value → Prop) (S7 : Sg), St nX S S6 (Zz S) (.inr (15, fs6)) 1 14 → Zz S6 = Zz S + 1 → pp ≤ p6 → EP K T S6 p6 ns vv bb (Zz S) Q S7 → (∀ (p7 b7 : Nat) (fs7 : List Value), RZ S7 T p7 ns vv b7 → ZF S7 (Zz S) = .inr (15, fs7) → p6 < p7 → Zz S < Zz S7 → (∀ (a b : Nat), Q S7 p7 b7 fs7 → True) → Q S7 p7 b7 fs7 → isE (iv (Zz S) (Zz S7)) (ZF S7) (K.1 9) (K.1 0) (24 * (16 - ns) + 1) (16 - ns) (Zz S) pp p7 bb b7) → Rt (some (S7, some (Zz S))) (XP K T S pp ns vv bb (24 * (16 - ns) + 1) 1 14) := fun S6 p6 fs6 Q S7 s6 w1 w2 hE w3 => by
    obtain ⟨p7, b7, fs7, z7, s7, k1, k2, k3⟩ := hE
    have s07 : St nX S S7 (Zz S) (.inr (15, fs7)) (1 + 8 * (p7 - p6)) (14 + 120 * (p7 - p6)) := ⟨s6.1.tr s7.1 (fun b hb q => absurd q (by omega)), fun q => absurd q (by omega), s7.2.2.1, s7.2.2.2.1, by have := s7.2.2.2.2.1; have := s6.2.2.2.2.1; omega, by have := s7.2.2.2.2.2; have := s6.2.2.2.2.2; omega⟩
    have x1 := s07.2.2.2.2.1; have x2 := s07.2.2.2.2.2
    refine Rt.rt ⟨p7, b7, Zz S, rfl, z7, s07.1, by omega, by omega, by omega, ⟨(hal s07 z7).1, (hal s07 z7).2, _, s07.2.2.2.1⟩, fun q => ?_⟩
    obtain ⟨k4, k5, k6⟩ := k3 q
    exact ⟨k4, w3 p7 b7 fs7 z7 s07.2.2.2.1 k5 (hal s07 z7).2 (fun _ _ _ => trivial) k6⟩
  -- a leaf
  have hleaf : ∀ (S6 : Sg) (kd : Int32) (num : Int64), St nX S S6 (Zz S) (.inr (15, xpV kd pp 0 0 num 0 .null .null .null 0)) 1 14 → RZ S6 T (pp + 1) ns vv bb → (kd = 0 ∨ kd = 1 ∨ kd = 15) → Rt (some (S6, some (Zz S))) (XP K T S pp ns vv bb (24 * (16 - ns) + 1) 1 14) := fun S6 kd num s6 z6 hk => by
    have x1 := s6.2.2.2.2.1; have x2 := s6.2.2.2.2.2
    exact Rt.rt ⟨pp + 1, bb, Zz S, rfl, z6, s6.1, by omega, by omega, by omega, ⟨(hal s6 z6).1, (hal s6 z6).2, _, s6.2.2.2.1⟩, fun _ => ⟨hb, isE_1 (iv_m.mpr (hal s6 z6)) (by omega) hk s6.2.2.2.1⟩⟩
  refine Rt.bd z5.kd ?_
  refine Rt.it (fun k2 => ?_) (fun _ => Rt.it (fun k3 => ?_) (fun _ => Rt.it (fun k21 => ?_) (fun _ => Rt.it (fun k22 => ?_) (fun _ => Rt.it (fun k24 => ?_) (fun _ => Rt.it (fun k25 => ?_) (fun _ => Rt.it (fun k28 => ?_) (fun _ => Rt.it (fun k61 => ?_) (fun _ => ?_))))))))
  · refine Rt.bn (nam_ hV z5 k2 q5 hb hn hd (by omega) (by omega) s5.2.2.1 s5.2.2.2.1) (fun S7 _ q7 => ?_)
    refine hEP S5 pp _ _ S7 s5 y1 (Nat.le_refl _) q7 (fun p7 b7 fs7 z7 hF7 hp7 hz7 _ hQ => ?_)
    have hx : exS (iv (Zz S5) (Zz S7)) (ZF S7) (iv (Zz S) (Zz S7)) (ZF S7) := iv_ex (by omega) (Nat.le_refl _) (fun _ _ _ => rfl)
    rcases hQ with ⟨c1, c2⟩ | ⟨kd, sg, li, si, mn, p', c1, c2, c3, c4⟩
    · subst c1 c2
      exact isE_2 (iv_m.mpr ⟨Nat.le_refl _, hz7⟩) hp7 hF7
    · subst c1
      refine isE_7 (z := 0) (iv_m.mpr ⟨Nat.le_refl _, hz7⟩) hp7 hF7 ?_ c3 (isQk_im hx (Nat.le_refl _) (fun k k2 x p q b c hk w => isE_im hx _ (Nat.le_refl _) w hk) c4)
      rcases c2 with ⟨c2, c5⟩ | ⟨c2, c5, c6⟩
      · exact Or.inl ⟨c2, rfl, c5⟩
      · exact Or.inr (Or.inr ⟨c2, rfl, c5, c6⟩)
  · refine Rt.pv s5 z5 (Nat.le_of_ble_eq_true rfl) rfl (fun S6 s6 z6 u6 => ?_)
    refine Rt.bd (v := Zl S6 8 pp) (by rw [z6.1.1]; exact rJ_n (show pp < 3002 by omega) (by decide)) ?_
    refine Rt.pv s6 z6 (Nat.le_of_ble_eq_true rfl) rfl (fun S7 s7 z7 u7 => ?_)
    refine Rt.pi z7 (hpn _ k3 (by decide)) (fun S8 g8 z8 i8 => ?_)
    exact hleaf S8 0 (Zl S6 8 pp) (s7.ss g8) z8 (Or.inl rfl)
  · unfold f_primary_131 f_primary_151 f_primary_253
    refine Rt.pv s5 z5 (Nat.le_of_ble_eq_true rfl) rfl (fun S6 s6 z6 u6 => Rt.is z6 (fun _ => ?_) (fun _ => ?_))
    · refine Rt.pv s6 z6 (Nat.le_of_ble_eq_true rfl) rfl (fun S7 s7 z7 u7 => Rt.pi z7 (hpn _ k21 (by decide)) (fun S8 g8 z8 i8 => hleaf S8 1 1 (s7.ss g8) z8 (Or.inr (Or.inl rfl))))
    · refine Rt.pv s6 z6 (Nat.le_of_ble_eq_true rfl) rfl (fun S7 s7 z7 u7 => Rt.pi z7 (hpn _ k21 (by decide)) (fun S8 g8 z8 i8 => hleaf S8 1 0 (s7.ss g8) z8 (Or.inr (Or.inl rfl))))
  · unfold f_primary_131 f_primary_151 f_primary_253
    refine Rt.pv s5 z5 (Nat.le_of_ble_eq_true rfl) rfl (fun S6 s6 z6 u6 => Rt.is z6 (fun _ => ?_) (fun _ => ?_))
    · refine Rt.pv s6 z6 (Nat.le_of_ble_eq_true rfl) rfl (fun S7 s7 z7 u7 => Rt.pi z7 (hpn _ k22 (by decide)) (fun S8 g8 z8 i8 => hleaf S8 1 1 (s7.ss g8) z8 (Or.inr (Or.inl rfl))))
    · refine Rt.pv s6 z6 (Nat.le_of_ble_eq_true rfl) rfl (fun S7 s7 z7 u7 => Rt.pi z7 (hpn _ k22 (by decide)) (fun S8 g8 z8 i8 => hleaf S8 1 0 (s7.ss g8) z8 (Or.inr (Or.inl rfl))))
  · refine Rt.pv s5 z5 (Nat.le_of_ble_eq_true rfl) rfl (fun S6 s6 z6 u6 => ?_)
    have w1 := u6.2.2.1; have w2 := u6.2.2.2.1
    refine Rt.bn (nfs_ hV z6 (by rw [u6.2.2.2.2.2.1]; exact k24) (fun _ => hb) (by omega) (fun _ => ⟨hn, hd⟩) (by omega) (by omega) (by omega) s6.2.2.1 s6.2.2.2.1 rfl rfl rfl rfl rfl rfl) (fun S7 _ q7 => ?_)
    refine hEP S6 pp _ _ S7 s6 (by omega) (Nat.le_refl _) q7 (fun p7 b7 fs7 z7 hF7 hp7 hz7 _ hQ => ?_)
    obtain ⟨li, si, mn, c1, c2, c3⟩ := hQ
    subst c1
    have hx : exS (iv (Zz S6) (Zz S7)) (ZF S7) (iv (Zz S) (Zz S7)) (ZF S7) := iv_ex (by omega) (Nat.le_refl _) (fun _ _ _ => rfl)
    exact isE_7 (z := 1) (iv_m.mpr ⟨Nat.le_refl _, hz7⟩) hp7 hF7 (Or.inr (Or.inl ⟨rfl, rfl, rfl, c2, rfl⟩)) (by omega) (isQk_im hx (Nat.le_refl _) (fun k k2 x p q b c hk w => isE_im hx _ (Nat.le_refl _) w hk) c3)
  · refine Rt.pv s5 z5 (Nat.le_of_ble_eq_true rfl) rfl (fun S6 s6 z6 u6 => ?_)
    have w1 := u6.2.2.1; have w2 := u6.2.2.2.1
    refine Rt.pi z6 (hpn _ k25 (by decide)) (fun S8 g8 z8 i8 => ?_)
    have w3 := g8.2.2.2.1; have w4 := g8.2.2.2.2
    have s8 := s6.ss g8
    refine Rt.bn (brk_ hV z8 (fun _ => hb) (by omega) (fun _ => ⟨hn, hd⟩) (by omega) (by omega) (by omega) s8.2.2.1 s8.2.2.2.1 rfl) (fun S7 _ q7 => ?_)
    refine hEP S8 (pp + 1) _ _ S7 s8 (by omega) (by omega) q7 (fun p7 b7 fs7 z7 hF7 hp7 hz7 _ hQ => ?_)
    obtain ⟨o, p', q', c1, c2, c3, c4⟩ := hQ
    subst c1
    have hx : exS (iv (Zz S8) (Zz S7)) (ZF S7) (iv (Zz S) (Zz S7)) (ZF S7) := iv_ex (by omega) (Nat.le_refl _) (fun _ _ _ => rfl)
    exact isE_3 (iv_m.mpr ⟨Nat.le_refl _, hz7⟩) (by omega) (Or.inl rfl) hF7 (by omega) c3 (isE_im hx _ (Nat.le_refl _) c4)
  · refine Rt.pv s5 z5 (Nat.le_of_ble_eq_true rfl) rfl (fun S6 s6 z6 u6 => ?_)
    refine Rt.pi z6 (hpn _ k28 (by decide)) (fun S8 g8 z8 i8 => hleaf S8 15 0 (s6.ss g8) z8 (Or.inr (Or.inr rfl)))
  · refine Rt.pv s5 z5 (Nat.le_of_ble_eq_true rfl) rfl (fun S6 s6 z6 u6 => ?_)
    have w1 := u6.2.2.1; have w2 := u6.2.2.2.1
    refine Rt.bn (brk_ hV z6 (fun _ => hb) (by omega) (fun _ => ⟨hn, hd⟩) (by omega) (by omega) (by omega) s6.2.2.1 s6.2.2.2.1 rfl) (fun S7 _ q7 => ?_)
    refine hEP S6 pp _ _ S7 s6 (by omega) (by omega) q7 (fun p7 b7 fs7 z7 hF7 hp7 hz7 _ hQ => ?_)
    obtain ⟨o, p', q', c1, c2, c3, c4⟩ := hQ
    subst c1
    have hx : exS (iv (Zz S6) (Zz S7)) (ZF S7) (iv (Zz S) (Zz S7)) (ZF S7) := iv_ex (by omega) (Nat.le_refl _) (fun _ _ _ => rfl)
    exact isE_3 (iv_m.mpr ⟨Nat.le_refl _, hz7⟩) (by omega) (Or.inr (Or.inl rfl)) hF7 (by omega) c3 (isE_im hx _ (Nat.le_refl _) c4)
  · rw [z5.1.1]
    refine Rt.be (fail_ (by omega)) (Rt.rt ?_)
    have s6 := s5.ss (SS.fl (S := S5) (wh := 1) (x := Zr S5 6 pp))
    have x1 := s6.2.2.2.2.1; have x2 := s6.2.2.2.2.2
    exact ⟨pp, bb, Zz S, rfl, z5.fl, s6.1, by omega, by omega, by omega, ⟨(hal s6 z5.fl).1, (hal s6 z5.fl).2, _, s6.2.2.2.1⟩, fun w => absurd w (flS_n0 (by decide))⟩
end NML
end
-- k4.i.lean.txt
section
section SUL
variable {K : Ky} {T : Nat} {V : Sg → Int32 → Option (Sg × Option Nat)} {V2 : Sg → Option (Sg × Option Nat)} {d : Nat} {S : Sg} {pp ns vv bb e : Nat}
/-- members behind -/
theorem suf7 (r1 : Zz S + 8 * (T - pp) + 5 ≤ K.2.1) (r2 : Zn S + 120 * (T - pp) + 320 ≤ K.2.2) : ∀ (m : Nat) {S1 : Sg} {p1 b1 e1 i : Nat}, 1 ≤ m → (Zi S1 3 = 0 → T + 1 ≤ p1 + m ∧ i ≤ 16) → RZ S1 T p1 ns vv b1 → GR nX S S1 → (pp ≤ p1 ∧ bb ≤ b1 ∧ b1 ≤ bb + (p1 - pp)) → Zz S1 ≤ Zz S + 8 * (p1 - pp) + 1 → Zn S1 ≤ Zn S + 120 * (p1 - pp) + 14 → (Zz S ≤ e1 ∧ e1 < Zz S1 ∧ ∃ vs : List Value, ZF S1 e1 = .inr (15, vs)) → (Zi S1 3 = 0 → b1 ≤ 54 ∧ isE (iv (Zz S) (Zz S1)) (ZF S1) (K.1 9) (K.1 0) (24 * (16 - ns) + 1 + i) (16 - ns) e1 pp p1 bb b1) → Rt (f_suffixed_7 K V V2 m S1 (some e1) (nI i)) (XP K T S pp ns vv bb (24 * (16 - ns) + 17) 1 14)
  | 0, _, _, _, _, _, h, _, _, _, _, _, _, _, _ => absurd h (by omega)
  | m + 1, S1, p1, b1, e1, i, _, hm, z1, g1, k1, k2, k3, k4, k5 => by
    have hT1 := z1.1.2.1; have hT := z1.1.2.2.1
    have hend : (Zi S1 3 = 0 → i ≤ 16) → Rt (some (S1, some e1)) (XP K T S pp ns vv bb (24 * (16 - ns) + 17) 1 14) := fun hi => Rt.rt ⟨p1, b1, e1, rfl, z1, g1, k1, k2, k3, k4, fun q => ⟨(k5 q).1, isE_im exS.rf _ (by have := hi q; omega) (k5 q).2⟩⟩
    unfold f_suffixed_7 f_suffixed_91
    refine Rt.ok (fun q1 => ?_) (fun q1 => hend (fun q => absurd q q1))
    obtain ⟨hm1, hi⟩ := hm q1
    refine Rt.is z1 (fun hk => ?_) (fun _ => hend (fun _ => hi))
    obtain ⟨c1, c2⟩ := k5 q1
    have hp1 := z1.nx hk (by decide)
    obtain ⟨vs, hv1, hv2⟩ := isE_tok c2
    have h38 : ∀ S2 : Sg, SS S1 S2 → RZ S2 T p1 ns vv b1 → (Zi S2 3 = 0 → i < 16) → Rt (f_suffixed_38 K V V2 (f_suffixed_7 K V V2 m) S2 (some e1) (nI i)) (XP K T S pp ns vv bb (24 * (16 - ns) + 17) 1 14) := fun S2 g2 z2 h2 => by
      unfold f_suffixed_38
      refine Rt.pi z2 hp1 (fun S3 g3 z3 i3 => ?_)
      have g13 := g2.tr g3
      have y1 := g13.2.2.2.1; have y2 := g13.2.2.2.2
      refine Rt.nw (X := nX) z3 (by omega) (by omega) (fun S4 s4 z4 i4 => ?_)
      refine Rt.pv s4 z4 (Nat.le_of_ble_eq_true rfl) rfl (fun S5 s5 z5 u5 => ?_)
      have hne : e1 ≠ Zz S3 := by omega
      have he5 : e1 ∈ ZL S5 := (s5.1.2.2.2.1 e1).mpr (Or.inl (by rw [g13.2.2.1]; exact (g1.2.2.2.1 e1).mpr (Or.inr ⟨k4.1, k4.2.1⟩)))
      have hF5 : ZF S5 e1 = .inr (15, vs) := (s5.1.2.2.1 e1 (by omega) (fun q => q)).trans (by rw [g13.2.1]; exact hv1)
      refine Rt.bd (oI_mk he5 hF5 hv2) ?_
      refine Rt.pv s5 z5 (Nat.le_of_ble_eq_true rfl) rfl (fun S6 s6 z6 u6 => ?_)
      refine Rt.pv s6 z6 (Nat.le_of_ble_eq_true rfl) (show va_rf (some e1) = .ref e1 from rfl) (fun S7 s7 z7 u7 => ?_)
      refine Rt.bn (name_ z7) (fun S8 r8 q8 => ?_)
      obtain ⟨p8, z8, g8, w1, w2, w3⟩ := q8
      refine Rt.pv (s7.ss g8) z8 (Nat.le_of_ble_eq_true rfl) rfl (fun S9 s9 z9 u9 => ?_)
      rw [nI_1]
      have s9 : St nX S3 S9 (Zz S3) (.inr (15, xpV 14 pp 0 r8 0 0 (.ref e1) .null .null 0)) 1 14 := s9
      have x1 := s9.2.2.2.2.1; have x2 := s9.2.2.2.2.2
      have x3 := z9.2.2.2.2 _ s9.2.2.1
      have i9 : Zi S9 3 = Zi S8 3 := by rw [u9.2.2.2.2.1]
      have hgd : Zi S9 3 = 0 → Zi S2 3 = 0 := fun q => by rw [← i3]; exact s9.1.2.2.2.2.2 q
      have g19 : GR nX S1 S9 := g13.1.n s9.1
      have x4 := g1.2.2.2.2.1.1
      refine suf7 r1 r2 m (by omega) (fun q => ⟨?_, by have := h2 (hgd q); omega⟩) z9 (g1.n g19) (by omega) (by omega) (by omega) ⟨by omega, x3, _, s9.2.2.2.1⟩ (fun q => ⟨c1, ?_⟩)
      · have := w3 (by rw [← i9]; exact q); omega
      · obtain ⟨w4, w5, w6⟩ := w3 (by rw [← i9]; exact q)
        subst w6
        have hx : exS (iv (Zz S) (Zz S1)) (ZF S1) (iv (Zz S) (Zz S9)) (ZF S9) := iv_ex (Nat.le_refl _) (by omega) (fun a _ h => g19.2.2.1 a h (fun q => q))
        exact isE_5 (n := 24 * (16 - ns) + 1 + i) (iv_m.mpr ⟨by omega, x3⟩) (by omega) s9.2.2.2.1 (show p1 < p1 + 1 by omega) (by omega) (isE_im hx _ (Nat.le_refl _) c2)
    refine Rt.it (fun h16 => ?_) (fun h16 => ?_)
    · rw [z1.1.1]
      exact Rt.be (fail_ (by omega)) (h38 _ SS.fl z1.fl (fun q => absurd q (flS_n0 (by decide))))
    · refine h38 S1 SS.rf z1 (fun _ => ?_)
      rcases Nat.lt_or_ge i 16 with w | w
      · exact w
      · exact absurd (by rw [show i = 16 by omega]; rfl) h16
theorem suf_ (hV : HVc K T V d) (h : RZ S T pp ns vv bb) (q0 : Zi S 3 = 0) (hb : bb ≤ 54) (hn : ns ≤ 16) (hd : 7 * (17 - ns) ≤ d) (r1 : Zz S + 8 * (T - pp) + 5 ≤ K.2.1) (r2 : Zn S + 120 * (T - pp) + 320 ≤ K.2.2) : Rt (f_suffixed K V V2 S) (XP K T S pp ns vv bb (24 * (16 - ns) + 17) 1 14) := by
  have hp := h.1.2.1; have hT := h.1.2.2.1
  unfold f_suffixed
  refine Rt.bn (pri_ hV h q0 hb hn hd (by omega) (by omega)) (fun S1 r1' q1 => ?_)
  obtain ⟨p1, b1, e1, c0, c1, c2, c3, c4, c5, c6, c7⟩ := q1
  subst c0
  exact suf7 r1 r2 bigN (i := 0) (by decide) (fun _ => ⟨by show T + 1 ≤ p1 + 1000000000000; omega, by omega⟩) c1 c2 c3 c4 c5 c6 c7
/-- unary -/
theorem una_ (hV : HVc K T V d) (hU : HVu K T V2 d) (h : RZ S T pp ns vv bb) (hb : Zi S 3 = 0 → bb ≤ 54) (hd : Zi S 3 = 0 → ns ≤ 16 ∧ 7 * (17 - ns) ≤ d) (r1 : Zz S + 8 * (T - pp) + 7 ≤ K.2.1) (r2 : Zn S + 120 * (T - pp) + 340 ≤ K.2.2) : Rt (f_unary K V V2 S) (XP K T S pp ns vv bb (24 * (16 - ns) + 18) 3 48) := by
  have hp := h.1.2.1; have hT := h.1.2.2.1
  unfold f_unary
  refine Rt.nw (X := nX) h (by omega) (by omega) (fun S5 s5 z5 i5 => ?_)
  have x1 := s5.2.2.2.2.1; have x2 := s5.2.2.2.2.2; have x3 := z5.2.2.2.2 _ s5.2.2.1
  have hal : ∀ {Q : Sg} {c : va_E} {p2 n2 v2 b2 zz nn : Nat}, St nX S Q (Zz S) c zz nn → RZ Q T p2 n2 v2 b2 → Zz S ≤ Zz S ∧ Zz S < Zz Q := fun s w => ⟨Nat.le_refl _, w.2.2.2.2 _ s.2.2.1⟩
  refine Rt.ok (fun q5 => ?_) (fun q5 => Rt.rt ⟨pp, bb, Zz S, rfl, z5, s5.1, by omega, by omega, by omega, ⟨Nat.le_refl _, x3, _, s5.2.2.2.1⟩, fun q => absurd q q5⟩)
  have q0 : Zi S 3 = 0 := by rw [← i5]; exact q5
  have hb := hb q0
  obtain ⟨hn, hd⟩ := hd q0
  refine Rt.bd z5.kd ?_
  have s5 : St nX S S5 (Zz S) (.inr (15, xpV 0 0 0 0 0 0 .null .null .null 0)) 1 14 := s5
  have f5 : Zr S5 5 = Zr S 5 := by rw [s5.1.2.1.1]
  -- the exp below
  have h164 : ∀ (S6 : Sg) (kd mu : Int32) (p6 b6 : Nat), St nX S S6 (Zz S) (.inr (15, xpV kd pp 0 0 0 mu .null .null .null 0)) 1 14 → RZ S6 T p6 (ns + 1) vv b6 → pp < p6 → bb ≤ b6 → b6 ≤ bb + (p6 - pp) → (Zi S6 3 = 0 → ns ≠ 16 ∧ b6 ≤ 54 ∧ (((kd = 9 ∨ kd = 10 ∨ kd = 11 ∨ kd = 13) ∧ mu = 0 ∧ b6 = bb) ∨ (kd = 12 ∧ (mu = 0 ∨ mu = 1) ∧ b6 = bb + 1))) → Rt (f_unary_164 K V V2 S6 (some (Zz S))) (XP K T S pp ns vv bb (24 * (16 - ns) + 18) 3 48) := fun S6 kd mu p6 b6 s6 z6 hp6 hb6 hb7 hg => by
    have e1 := s6.2.2.2.2.1; have e2 := s6.2.2.2.2.2; have e3 := z6.1.2.1
    unfold f_unary_164
    refine Rt.bn (hU S6 p6 (ns + 1) vv b6 z6 (fun q => (hg q).2.1) (by omega) (fun q => by have := (hg q).1; omega) (by omega) (by omega)) (fun S7 r7 q7 => ?_)
    obtain ⟨p7, b7, o, c0, z7, g7, k1, k2, k3, k4, k5⟩ := q7
    subst c0
    have s7 := s6.cl g7 (hal s6 z6).2 (z1 := 8 * (p7 - p6) + 3) (n1 := 120 * (p7 - p6) + 48) (by omega) (by omega)
    refine Rt.pv s7 z7 (Nat.le_of_ble_eq_true rfl) (show va_rf (some o) = .ref o from rfl) (fun S8 s8 z8 u8 => ?_)
    refine Rt.nd z8 (fun S9 g9 z9 i9 => Rt.rt ?_)
    have s9 : St nX S S9 (Zz S) (.inr (15, xpV kd pp 0 0 0 mu (.ref o) .null .null 0)) (1 + (8 * (p7 - p6) + 3)) (14 + (120 * (p7 - p6) + 48)) := s8.ss g9
    have e4 := s9.2.2.2.2.1; have e5 := s9.2.2.2.2.2
    refine ⟨p7, b7, Zz S, rfl, z9, s9.1, by omega, by omega, by omega, ⟨(hal s9 z9).1, (hal s9 z9).2, _, s9.2.2.2.1⟩, fun q => ?_⟩
    have q7 : Zi S7 3 = 0 := by rw [← u8.2.2.2.2.1, ← i9]; exact q
    have q6 : Zi S6 3 = 0 := g7.2.2.2.2.2 q7
    obtain ⟨c1, c2⟩ := k5 q7
    obtain ⟨c3, c4, c5⟩ := hg q6
    have b3 := s6.1.2.2.2.2.1.1
    have b4 := (hal s6 z6).2
    have b5 : Zz S9 = Zz S7 := g9.2.2.2.1.trans u8.2.2.1
    have hx : exS (iv (Zz S6) (Zz S7)) (ZF S7) (iv (Zz S) (Zz S9)) (ZF S9) := iv_ex (by omega) (by omega) (fun a h1 _ => by rw [g9.2.1]; exact u8.1 a (by omega))
    have c6 := isE_im (k2 := 16 - ns) hx (24 * (16 - ns) + 17) (by omega) c2
    have c7 := (isE_mem c2).2
    refine ⟨c1, ?_⟩
    rcases c5 with ⟨c5, c8, c9⟩ | ⟨c5, c8, c9⟩
    · subst c8 c9
      refine isE_3 (n := 24 * (16 - ns) + 17) (iv_m.mpr (hal s9 z9)) (by omega) ?_ s9.2.2.2.1 hp6 (Nat.le_refl _) c6
      rcases c5 with w | w | w | w
      · exact Or.inr (Or.inr (Or.inl w))
      · exact Or.inr (Or.inr (Or.inr (Or.inl w)))
      · exact Or.inr (Or.inr (Or.inr (Or.inr (Or.inl w))))
      · exact Or.inr (Or.inr (Or.inr (Or.inr (Or.inr w))))
    · subst c5 c9
      exact isE_4 (n := 24 * (16 - ns) + 17) (iv_m.mpr (hal s9 z9)) (by omega) c8 s9.2.2.2.1 hp6 c6
  have h117 : ∀ (S6 : Sg) (kd : Int32), St nX S S6 (Zz S) (.inr (15, xpV 0 pp 0 0 0 0 .null .null .null 0)) 1 14 → RZ S6 T pp ns vv bb → (Zr S 5 pp = 55 ∧ kd = 12) ∨ (¬ Zr S 5 pp = 55 ∧ Zr S 5 pp ≠ 0 ∧ (kd = 9 ∨ kd = 10 ∨ kd = 11 ∨ kd = 13)) → Rt (f_unary_117 K V V2 S6 (some (Zz S)) (Zr S 5 pp) kd (some (Zz S))) (XP K T S pp ns vv bb (24 * (16 - ns) + 18) 3 48) := fun S6 kd s6 z6 hk => by
    have hk0 : Zr S 5 pp ≠ 0 := by rcases hk with ⟨w, _⟩ | ⟨_, w, _⟩; rw [w]; decide; exact w
    unfold f_unary_117
    refine Rt.pv s6 z6 (Nat.le_of_ble_eq_true rfl) rfl (fun S7 s7 z7 u7 => ?_)
    rw [z7.1.1]
    refine Rt.bn (enter_ z7 (by omega)) (fun S8 _ q8 => ?_)
    obtain ⟨z8, g8, h8⟩ := q8
    have s8 : St nX S S8 (Zz S) (.inr (15, xpV kd pp 0 0 0 0 .null .null .null 0)) 1 14 := s7.ss g8
    have hp8 := z8.nx (k := Zr S 5 pp) (by rw [s8.1.2.1.1]) hk0
    rcases hk with ⟨w1, w2⟩ | ⟨w1, w0, w2⟩
    · refine Rt.ip w1 (Rt.bn (borrow_ z8) (fun S9 _ q9 => ?_))
      obtain ⟨z9, g9, h9⟩ := q9
      have s9 := s8.ss g9
      unfold f_unary_138
      refine Rt.pi z9 hp8 (fun S10 g10 z10 i10 => Rt.ip w1 (Rt.bn (takes_ z10 (by decide)) (fun S11 r11 q11 => ?_)))
      obtain ⟨p11, z11, g11, i11, q11⟩ := q11
      have hr : r11 = 0 ∨ r11 = 1 := by rcases q11 with ⟨w, _⟩ | ⟨w, _⟩; exact Or.inl w; exact Or.inr w
      have hp11 : pp < p11 := by rcases q11 with ⟨_, w, _⟩ | ⟨_, w, _⟩ <;> omega
      refine Rt.pz ((s9.ss g10).ss g11) z11 (Nat.le_of_ble_eq_true rfl) hr (fun S12 s12 z12 u12 => ?_)
      refine h164 S12 kd r11 p11 (bb + 1) s12 z12 hp11 (by omega) (by omega) (fun q => ?_)
      have q9 : Zi S9 3 = 0 := by rw [← i10, ← i11, ← u12.2.2.2.2.1]; exact q
      have := h9 q9
      exact ⟨h8 (g9.1.2.2.2.2.2 q9), by omega, Or.inr ⟨w2, hr, rfl⟩⟩
    · refine Rt.iq w1 ?_
      unfold f_unary_138
      refine Rt.pi z8 hp8 (fun S10 g10 z10 i10 => Rt.iq w1 ?_)
      exact h164 S10 kd 0 (pp + 1) bb (s8.ss g10) z10 (by omega) (by omega) (by omega) (fun q => ⟨h8 (by rw [← i10]; exact q), hb, Or.inl ⟨w2, rfl, rfl⟩⟩)
  have h62 : (Zr S 5 pp = 53 ∨ Zr S 5 pp = 41 ∨ Zr S 5 pp = 42 ∨ Zr S 5 pp = 55 ∨ Zr S 5 pp = 23) → Rt (f_unary_62 K V V2 S5 (some (Zz S)) (Zr S 5 pp)) (XP K T S pp ns vv bb (24 * (16 - ns) + 18) 3 48) := fun hk => by
    unfold f_unary_62
    refine Rt.pv s5 z5 (Nat.le_of_ble_eq_true rfl) (show Value.int (Zi S5 10) = .int (nI pp) by rw [z5.1.1]) (fun S6 s6 z6 u6 => ?_)
    have s6 : St nX S S6 (Zz S) (.inr (15, xpV 0 pp 0 0 0 0 .null .null .null 0)) 1 14 := s6
    have h0 : Zr S 5 pp ≠ 0 := by rcases hk with w | w | w | w | w <;> rw [w] <;> decide
    refine Rt.it (fun w => h117 S6 9 s6 z6 (Or.inr ⟨by rw [w]; decide, h0, Or.inl rfl⟩)) (fun _ => Rt.it (fun w => h117 S6 10 s6 z6 (Or.inr ⟨by rw [w]; decide, h0, Or.inr (Or.inl rfl)⟩)) (fun _ => Rt.it (fun w => h117 S6 11 s6 z6 (Or.inr ⟨by rw [w]; decide, h0, Or.inr (Or.inr (Or.inl rfl))⟩)) (fun _ => Rt.it (fun w => h117 S6 12 s6 z6 (Or.inl ⟨w, rfl⟩)) (fun w => h117 S6 13 s6 z6 (Or.inr ⟨w, h0, Or.inr (Or.inr (Or.inr rfl))⟩)))))
  rw [f5]
  refine Rt.it (fun w => h62 (Or.inl w)) (fun _ => Rt.it (fun w => h62 (Or.inr (Or.inl w))) (fun _ => Rt.it (fun w => h62 (Or.inr (Or.inr (Or.inl w)))) (fun _ => Rt.it (fun w => h62 (Or.inr (Or.inr (Or.inr (Or.inl w))))) (fun _ => Rt.it (fun w => h62 (Or.inr (Or.inr (Or.inr (Or.inr w))))) (fun _ => ?_)))))
  refine Rt.bn (suf_ hV z5 q5 hb hn hd (by omega) (by omega)) (fun S6 r6 q6 => Rt.rt ?_)
  obtain ⟨p6, b6, e6, c0, c1, c2, c3, c4, c5, c6, c7⟩ := q6
  have c8 := s5.1.2.2.2.2.1.1
  refine ⟨p6, b6, e6, c0, c1, s5.1.n c2, c3, by omega, by omega, ⟨by omega, c6.2.1, c6.2.2⟩, fun q => ⟨(c7 q).1, isE_im (iv_ex (by omega) (Nat.le_refl _) (fun _ _ _ => rfl)) _ (by omega) (c7 q).2⟩⟩
end SUL
end
-- k4.j.lean.txt
section
section CHL
variable {K : Ky} {T : Nat} {V : Sg → Int32 → Option (Sg × Option Nat)} {V2 : Sg → Option (Sg × Option Nat)} {d : Nat} {S SA : Sg} {pp ns vv bb ppA bbA x0 c l : Nat}
theorem lev_ {S : Sg} {x : Int32} : Rt (f_levelOf K S x) (fun S2 r => S2 = S ∧ (x = 0 → r = 0)) := by
  have h30 : Rt (f_levelOf_30 K S x) (fun S2 r => S2 = S ∧ (x = 0 → r = 0)) := by
    unfold f_levelOf_30 f_levelOf_42 f_levelOf_64 f_levelOf_69
    exact Rt.it (fun w => Rt.rt ⟨rfl, fun e => absurd (w.symm.trans e) (by decide)⟩) (fun _ => Rt.it (fun w => Rt.rt ⟨rfl, fun e => absurd (w.symm.trans e) (by decide)⟩) (fun _ => Rt.it (fun w => Rt.rt ⟨rfl, fun e => absurd (w.symm.trans e) (by decide)⟩) (fun _ => Rt.it (fun w => Rt.rt ⟨rfl, fun e => absurd (w.symm.trans e) (by decide)⟩) (fun _ => Rt.it (fun w => Rt.rt ⟨rfl, fun e => absurd (w.symm.trans e) (by decide)⟩) (fun _ => Rt.rt ⟨rfl, fun _ => rfl⟩)))))
  unfold f_levelOf
  exact Rt.it (fun w => Rt.rt ⟨rfl, fun e => absurd (w.symm.trans e) (by decide)⟩) (fun _ => Rt.it (fun w => Rt.rt ⟨rfl, fun e => absurd (w.symm.trans e) (by decide)⟩) (fun _ => Rt.it (fun _ => h30) (fun w => Rt.it (fun _ => h30) (fun _ => Rt.rt ⟨rfl, fun e => absurd (by rw [e]; decide) w⟩))))
/-- the first exp of a row whose owner came behind it -/
theorem rfirst {N kq z p0 q0 b1 b2 e x pp1 pp2 N1 : Nat} {S S2 : Sg} {fs : List Value} {sg : Int32} {M : List Nat} (hl : fs.length = 14) (h9 : fs[9]? = some .null) (h10 : fs[10]? = some .null) (h11 : fs[11]? = some (.int (nI 0))) (he : e ∈ ZL S2) (heS : Zz S ≤ e) (hF : ZF S2 e = .inr (15, fs)) (z2 : RZ S2 T pp2 ns vv b2) (hg : GR nX S S2) (hM : ∀ a ∈ M, Zz S ≤ a ∧ a < Zz S2) (heM : e ∉ M) (hx : okO S2 15 (some x) = true) (hxE : Zi S2 3 = 0 → isE M (ZF S2) (K.1 9) (K.1 0) N1 kq x pp1 pp2 b1 b2) (hN : N1 ≤ N) (hp0 : p0 ≤ q0) (hs : Zi S2 3 = 0 → q0 < pp1 ∧ ∃ s : Nat, sg = nI s ∧ ((s = 0 ∧ z = 0) ∨ (q0 ≤ s ∧ s < pp1))) (r1 : Zz S2 + 2 ≤ K.2.1) (r2 : Zn S2 + 8 ≤ K.2.2) : Rt (f_add K S2 (some e) (some x) sg) (fun S3 _ => ∃ cp3 : Nat, RD K N kq z S S3 e fs 1 cp3 p0 pp2 b1 b2 ∧ GR nX S S3 ∧ RZ S3 T pp2 ns vv b2 ∧ Zi S3 = Zi S2 ∧ Zz S3 ≤ Zz S2 + 2 ∧ Zn S3 ≤ Zn S2 + 4 * cp3) := by
  refine Rt.mo (add_ (X := fun b => b = e) (n := 0) (cp := 0) (f := fun _ => none) (g := fun _ => 0) z2.2.2.2.2 he hF hl h11 (by omega) hx rfl (Or.inl ⟨rfl, rfl, h9⟩) (fun i hi => absurd hi (by omega)) (by omega) r1 (by omega)) (fun S3 _ q => ?_)
  obtain ⟨la, sa, cp3, f2, g3, a1, a2, a3, a4, a5, a6, a7, a8, a9, a10, a11, a12, a13, a14⟩ := q
  have h23 := a2.2.2.2.2.1.1; have h02 := hg.2.2.2.2.1.1
  have hne : ∀ {b : Nat} {r : ClassId × vp_A}, ZF S3 b = .inl r → b ≠ e := fun hb q => by rw [q, a3] at hb; cases hb
  have hla := a11.resolve_left (hne a4.2.2.1)
  have hsa := a12.resolve_left (hne a4.2.2.2)
  have hcl : ∀ b ∈ M, ZF S3 b = ZF S2 b := fun b hb => a2.2.2.1 b (hM b hb).2 (fun q => heM (q ▸ hb))
  refine ⟨cp3, ⟨f2, g3, M, _, a2.in he, a3, heM, Or.inr ⟨la, sa, rfl, a4, by omega, a5, by omega, by omega, fun q => ?_, fun q => ?_⟩, by omega, fun a ha => ⟨(hM a ha).1, by have := (hM a ha).2; omega⟩, fun i hi => ?_, fun q3 => ?_⟩, hg.tr a2 (fun b hb q => absurd q (by omega)), ?_, a1, a13, by omega⟩
  · have := (hM _ q).2; omega
  · have := (hM _ q).2; omega
  · obtain rfl : i = 0 := by omega
    refine ⟨x, a9, ?_⟩
    obtain ⟨y1, vs, y2⟩ := okO_of hx
    by_cases ex : x = e
    · subst ex; exact okO_mk (a2.in y1) a3
    · exact okO_mk (a2.in y1) ((a2.2.2.1 x (z2.2.2.2.2 x y1) ex).trans y2)
  · have q2 : Zi S2 3 = 0 := by rw [← a1]; exact q3
    obtain ⟨c1, s, c2, c3⟩ := hs q2
    have hx2 : exS M (ZF S2) M (ZF S3) := fun b hb => ⟨hb, hcl b hb⟩
    exact chP_add (chP_0 (f := fun _ => none) (g := fun _ => 0) hp0) a8 a9 (a10.trans c2) c1 (isE_im hx2 _ hN (hxE q2)) c3
  · exact ⟨⟨by rw [a1]; exact z2.1.1, z2.1.2.1, z2.1.2.2.1, by rw [a2.2.1.1]; exact z2.1.2.2.2⟩, by rw [a1]; exact z2.2.1, by rw [a1]; exact z2.2.2.1, by rw [a1]; exact z2.2.2.2.1, a2.lt z2.2.2.2.2⟩
/-- a chain: the further exps -/
theorem chn29 (hV : HVc K T V d) (hl : 1 ≤ l ∧ l ≤ 5) (hd : 7 - l ≤ d) (hd2 : Zi SA 3 = 0 → ns ≤ 16 ∧ 7 * (17 - ns) + 7 - l ≤ d) (r1 : Zz S + 8 * (T - pp) + 8 ≤ K.2.1) (r2 : Zn S + 120 * (T - pp) + 360 ≤ K.2.2) (gA : GR nX S SA) (hpA : pp ≤ ppA ∧ bb ≤ bbA ∧ bbA ≤ bb + (ppA - pp)) (hfi : Zi SA 3 = 0 → isE (iv (Zz S) (Zz SA)) (ZF SA) (K.1 9) (K.1 0) (24 * (16 - ns) + (23 - l)) (16 - ns) x0 pp ppA bb bbA) (hc : Zz SA ≤ c) : ∀ (m : Nat) {S1 : Sg} {p1 b1 n cp : Nat}, 1 ≤ m → (Zi S1 3 = 0 → T + 1 ≤ p1 + m) → RD K (24 * (16 - ns) + (23 - l)) (15 - ns) 1 SA S1 c (xpV 8 pp 0 0 0 0 (.ref x0) .null .null 0) n cp ppA p1 bbA b1 → GR nX SA S1 → RZ S1 T p1 ns vv b1 → (bbA ≤ b1 ∧ b1 ≤ bb + (p1 - pp)) → 1 ≤ n → ppA + n ≤ p1 → Zz S1 + 3 * n ≤ Zz S + 8 * (p1 - pp) + 4 → Zn S1 + 72 * n ≤ Zn S + 120 * (p1 - pp) + 62 + 4 * cp → (Zi S1 3 = 0 → b1 ≤ 54) → (Zi S1 3 = 0 → ns ≤ 15) → Rt (f_chain_29 K V V2 m S1 (nI l) (some x0) (some c)) (XP K T S pp ns vv bb (24 * (16 - ns) + (24 - l)) 3 48)
  | 0, _, _, _, _, _, h, _, _, _, _, _, _, _, _, _, _, _ => absurd h (by omega)
  | m + 1, S1, p1, b1, n, cp, _, hm, hR, hg, z1, k1, k2, k3, k4, k5, k6, k15 => by
    have hT1 := z1.1.2.1; have hT := z1.1.2.2.1
    obtain ⟨c1, c2, fs1, c3, c4⟩ := hR.len rfl
    have h0A := gA.2.2.2.2.1.1
    have hA1 := hg.2.2.2.2.1.1
    have hend : Rt (f_chain_135 K V V2 S1 (some x0) (some c)) (XP K T S pp ns vv bb (24 * (16 - ns) + (24 - l)) 3 48) := by
      unfold f_chain_135 f_chain_144
      refine Rt.iq (fun q => by cases q) (Rt.rt ⟨p1, b1, c, rfl, z1, gA.n hg, by omega, by omega, by omega, ⟨by omega, z1.2.2.2.2 c c1, fs1, c3⟩, fun q => ⟨k6 q, ?_⟩⟩)
      have qA := hg.2.2.2.2.2 q
      obtain ⟨li, si, fs3, e1, e2, e3⟩ := RD.ql z1.2.2.2.2 hR rfl rfl rfl q
      subst e2
      have hx1 : exS (iv (Zz S) (Zz SA)) (ZF SA) (iv (Zz S) (Zz S1)) (ZF S1) := iv_ex (Nat.le_refl _) hA1 (fun a _ h => hg.2.2.1 a h (fun q => q))
      have hx2 : exS (iv (Zz SA) (Zz S1)) (ZF S1) (iv (Zz S) (Zz S1)) (ZF S1) := iv_ex h0A (Nat.le_refl _) (fun _ _ _ => rfl)
      rw [show 24 - l = 23 - l + 1 by omega]
      have hlt := (isE_mem (hfi qA)).2
      exact isE_6 (n := 24 * (16 - ns) + (23 - l)) (iv_m.mpr ⟨by omega, z1.2.2.2.2 c c1⟩) (by omega) e1 k2 (isE_im hx1 _ (Nat.le_refl _) (hfi qA)) ⟨15 - ns, Or.inl (by have := k15 q; omega), isQl_im hx2 (fun x p q b c w => isE_im hx2 _ (Nat.le_refl _) w) (e3 p1 (Nat.le_refl _))⟩
    unfold f_chain_29
    refine Rt.ok (fun q1 => ?_) (fun _ => hend)
    refine Rt.bd z1.kd (Rt.bn lev_ (fun S8 r8 q8 => ?_))
    obtain ⟨e8, q8⟩ := q8
    rw [e8]
    refine Rt.it (fun hv => ?_) (fun _ => hend)
    have hk0 : Zr S1 5 p1 ≠ 0 := fun w => by
      have := q8 w
      rw [hv] at this
      have := (nI_eq (a := l) (b := 0) (by omega) (by decide)).mp this
      omega
    have qA := hg.2.2.2.2.2 q1
    obtain ⟨d1, d2⟩ := hd2 qA
    have hm1 := hm q1
    refine Rt.pi z1 (z1.nx rfl hk0) (fun S10 g10 z10 i10 => ?_)
    rw [z1.1.1]
    refine Rt.bn (enter_ z10 (by omega)) (fun S11 _ q11 => ?_)
    obtain ⟨z11, g11, h11⟩ := q11
    have g111 := g10.tr g11
    have y1 := g111.2.2.2.1; have y2 := g111.2.2.2.2
    rw [nI_1]
    refine Rt.bn (hV S11 (p1 + 1) (ns + 1) vv b1 (l + 1) (by omega) (by omega) z11 (fun _ => k6 q1) (by omega) (fun q => by have := h11 q; omega) (by omega) (by omega)) (fun S13 r13 q13 => ?_)
    obtain ⟨p13, b13, x, e13, z13, g13, w1, w2, w3, w4, w5⟩ := q13
    subst e13
    have hT13 := z13.1.2.1
    refine Rt.nd z13 (fun S15 g15 z15 i15 => Rt.iq (fun q => by cases q) ?_)
    unfold f_chain_124
    have y3 := g15.2.2.2.1; have y4 := g15.2.2.2.2
    refine Rt.bn (rstep (X := nX) (S2 := S15) (fun q => absurd q (by omega)) rfl rfl rfl rfl (hR.ss g111) (hg.n g111.1) z11.2.2.2.2 z15 (g13.n g15.1) ⟨w4.1, by omega, by rw [g15.2.1]; exact w4.2.2⟩ (fun q => by rw [g15.2.1, y3]; exact isE_im exS.rf _ (Nat.le_refl _) (w5 (by rw [← i15]; exact q)).2) (show 24 * (16 - (ns + 1)) + (24 - (l + 1)) ≤ 24 * (16 - ns) + (23 - l) by omega) (fun q => ⟨by omega, p1, rfl, Or.inr ⟨by omega, by omega⟩⟩) (by omega) (by omega) (by omega)) (fun S3 _ q3 => ?_)
    obtain ⟨cp3, v1, v2, v3, v4, v5, v6, v7⟩ := q3
    have hgd : Zi S3 3 = 0 → Zi S13 3 = 0 := fun q => by rw [← i15, ← v4]; exact q
    refine chn29 hV hl hd hd2 r1 r2 gA hpA hfi hc m (by omega) (fun q => ?_) v1 v2 v3 (by omega) (by omega) (by omega) (by omega) (by omega) (fun q => (w5 (hgd q)).1) (fun q => k15 q1)
    omega
/-- chain -/
theorem chn_ (hV : HVc K T V d) (hU : HVu K T V2 d) (hl : 1 ≤ l ∧ l ≤ 6) (h : RZ S T pp ns vv bb) (hb : Zi S 3 = 0 → bb ≤ 54) (hd : 7 - l ≤ d) (hd2 : Zi S 3 = 0 → ns ≤ 16 ∧ 7 * (17 - ns) + 7 - l ≤ d) (r1 : Zz S + 8 * (T - pp) + 8 ≤ K.2.1) (r2 : Zn S + 120 * (T - pp) + 360 ≤ K.2.2) : Rt (f_chain K V V2 S (nI l)) (XP K T S pp ns vv bb (24 * (16 - ns) + (24 - l)) 3 48) := by
  have hp := h.1.2.1; have hT := h.1.2.2.1
  unfold f_chain f_chain_19
  rcases Nat.lt_or_ge 5 l with h6 | h5
  · obtain rfl : l = 6 := by omega
    refine Rt.iq (by decide) (Rt.bn (hU S pp ns vv bb h hb (by omega) (fun q => by have := hd2 q; omega) (by omega) (by omega)) (fun S3 r3 q3 => Rt.iq (by decide) (Rt.rt (q3.le (by omega) (by omega) (by omega)))))
  · have hle : nI l ≤ 5 := (nI_leI (a := l) (b := 5) (by omega) (by decide)).mpr h5
    refine Rt.ip hle ?_
    rw [nI_1]
    refine Rt.bn (hV S pp ns vv bb (l + 1) (by omega) (by omega) h hb (by omega) (fun q => by have := hd2 q; omega) r1 r2) (fun SA rA qA => ?_)
    have hXA := qA
    obtain ⟨ppA, bbA, x0, eA, zA, gA, w1, w2, w3, w4, w5⟩ := qA
    subst eA
    refine Rt.ip hle ?_
    have hend : Rt (f_chain_135 K V V2 SA (some x0) none) (XP K T S pp ns vv bb (24 * (16 - ns) + (24 - l)) 3 48) := by
      unfold f_chain_135 f_chain_144
      exact Rt.ip rfl (Rt.rt (hXA.le (by omega) (Nat.le_refl _) (Nat.le_refl _)))
    obtain ⟨m, em, hm⟩ := bigN_gt (n := 10000) (by decide)
    rw [em]
    unfold f_chain_29
    have hTA := zA.1.2.1
    refine Rt.ok (fun q1 => ?_) (fun _ => hend)
    refine Rt.bd zA.kd (Rt.bn lev_ (fun S8 r8 q8 => ?_))
    obtain ⟨e8, q8⟩ := q8
    rw [e8]
    refine Rt.it (fun hv => ?_) (fun _ => hend)
    have hk0 : Zr SA 5 ppA ≠ 0 := fun w => by
      have := q8 w
      rw [hv] at this
      have := (nI_eq (a := l) (b := 0) (by omega) (by decide)).mp this
      omega
    have q0 := gA.2.2.2.2.2 q1
    obtain ⟨d1, d2⟩ := hd2 q0
    obtain ⟨c1, c2⟩ := w5 q1
    obtain ⟨vs, hv1, hv2⟩ := isE_tok c2
    have hlt := (isE_mem c2).2
    refine Rt.pi zA (zA.nx rfl hk0) (fun S10 g10 z10 i10 => ?_)
    rw [zA.1.1]
    refine Rt.bn (enter_ z10 (by omega)) (fun S11 _ q11 => ?_)
    obtain ⟨z11, g11, h11⟩ := q11
    have g111 := g10.tr g11
    have y1 := g111.2.2.2.1; have y2 := g111.2.2.2.2
    rw [nI_1]
    refine Rt.bn (hV S11 (ppA + 1) (ns + 1) vv bbA (l + 1) (by omega) (by omega) z11 (fun _ => c1) (by omega) (fun q => by have := h11 q; omega) (by omega) (by omega)) (fun S13 r13 q13 => ?_)
    obtain ⟨p13, b13, x, e13, z13, g13, v1, v2, v3, v4, v5⟩ := q13
    subst e13
    have hT13 := z13.1.2.1
    refine Rt.nd z13 (fun S15 g15 z15 i15 => Rt.ip rfl ?_)
    have y3 := g15.2.2.2.1; have y4 := g15.2.2.2.2
    refine Rt.nw (X := nX) z15 (by omega) (by omega) (fun S16 s16 z16 i16 => ?_)
    refine Rt.pv s16 z16 (Nat.le_of_ble_eq_true rfl) rfl (fun S20 s20 z20 u20 => ?_)
    have hgA20 : GR nX SA S20 := ((g111.1.n g13).n g15.1).n s20.1
    have hx0A : x0 ∈ ZL SA := (gA.2.2.2.1 x0).mpr (Or.inr ⟨w4.1, w4.2.1⟩)
    refine Rt.bd (oI_mk (hgA20.in hx0A) ((hgA20.2.2.1 x0 w4.2.1 (fun q => q)).trans hv1) hv2) ?_
    refine Rt.pv s20 z20 (Nat.le_of_ble_eq_true rfl) rfl (fun S22 s22 z22 u22 => ?_)
    refine Rt.pv s22 z22 (Nat.le_of_ble_eq_true rfl) (show va_rf (some x0) = .ref x0 from rfl) (fun S23 s23 z23 u23 => ?_)
    have s23 : St nX S15 S23 (Zz S15) (.inr (15, xpV 8 pp 0 0 0 0 (.ref x0) .null .null 0)) 1 14 := s23
    have hgA23 : GR nX SA S23 := ((g111.1.n g13).n g15.1).n s23.1
    have x1 := s23.2.2.2.2.1; have x2 := s23.2.2.2.2.2
    have x3 := z23.2.2.2.2 _ s23.2.2.1
    have x4 := hgA23.2.2.2.2.1.1
    have x5 := g13.2.2.2.2.1.1
    have x6 := gA.2.2.2.2.1.1
    have hcl : ∀ a : Nat, a < Zz S13 → ZF S23 a = ZF S13 a := fun a ha => (s23.1.2.2.1 a (by omega) (fun q => q)).trans (by rw [g15.2.1])
    have q23 : Zi S23 3 = 0 → Zi S13 3 = 0 := fun q => by rw [← i15]; exact s23.1.2.2.2.2.2 q
    unfold f_chain_124
    refine Rt.bn (rfirst (S := SA) (kq := 15 - ns) (z := 1) (N := 24 * (16 - ns) + (23 - l)) (p0 := ppA) (q0 := ppA) (b1 := bbA) (N1 := 24 * (16 - (ns + 1)) + (24 - (l + 1))) (pp1 := ppA + 1) (M := iv (Zz S11) (Zz S13)) rfl rfl rfl rfl s23.2.2.1 (by omega) s23.2.2.2.1 z23 hgA23 (fun a ha => by have := iv_m.mp ha; omega) (fun q => by have := iv_m.mp q; omega) ?_ (fun q => isE_im (fun a ha => ⟨ha, hcl a (iv_m.mp ha).2⟩) _ (Nat.le_refl _) (v5 (q23 q)).2) (by omega) (Nat.le_refl _) (fun _ => ⟨by omega, ppA, rfl, Or.inr ⟨by omega, by omega⟩⟩) (by omega) (by omega)) (fun S3 _ q3 => ?_)
    · obtain ⟨vs2, hv3⟩ := v4.2.2
      exact okO_mk (s23.1.in (by rw [g15.2.2.1]; exact (g13.2.2.2.1 x).mpr (Or.inr ⟨v4.1, v4.2.1⟩))) ((hcl x v4.2.1).trans hv3)
    obtain ⟨cp3, t1, t2, t3, t4, t5, t6⟩ := q3
    refine chn29 hV ⟨hl.1, h5⟩ hd (fun q => ⟨d1, by omega⟩) r1 r2 gA (by omega) (fun q => isE_im exS.rf _ (by omega) (w5 q).2) (by omega) m (by omega) (fun q => by omega) t1 t2 t3 (by omega) (Nat.le_refl _) (by omega) (by omega) (by omega) (fun q => (v5 (q23 (by rw [← t4]; exact q))).1) (fun q => by have := h11 (g13.2.2.2.2.2 (q23 (by rw [← t4]; exact q))); omega)
/-- all exps -/
theorem exps_ : ∀ d : Nat, HVc K T (f_chain9 K d) d ∧ HVu K T (f_unary9 K d) d
  | 0 => ⟨fun S pp ns vv bb l h1 h2 _ _ h5 _ _ _ => absurd h5 (by omega), fun S pp ns vv bb _ _ h5 _ _ _ => absurd h5 (by omega)⟩
  | d + 1 => by
    obtain ⟨h1, h2⟩ := exps_ d
    refine ⟨fun S pp ns vv bb l k1 k2 z hb k5 k6 r1 r2 => ?_, fun S pp ns vv bb z hb k5 k6 r1 r2 => ?_⟩
    · exact chn_ (V := f_chain9 K d) (V2 := f_unary9 K d) h1 h2 ⟨k1, k2⟩ z hb (by omega) (fun q => by have := k6 q; omega) r1 r2
    · exact una_ (V := f_chain9 K d) (V2 := f_unary9 K d) h1 h2 z hb (fun q => by have := k6 q; omega) r1 r2
end CHL
end
-- k4.k.lean.txt
section
/-- the values of a statement as its reader makes it -/
def sxV (kd : Int32) (tk : Nat) (nm mu rf : Int32) (wr ex pl bl cs bs ar : Value) (mn : Nat) : List Value := [.int kd, .int (nI tk), .int nm, .int mu, .int rf, wr, ex, pl, .null, bl, cs, bs, ar, .int (nI mn)]
section IPL
variable {K : Ky} {S : Sg} {L : List Nat}
/-- isPlace -/
theorem isp_2 (hL : ∀ a ∈ L, a ∈ ZL S) : ∀ {n m a : Nat}, pwE L (ZF S) n a → n ≤ m → Rt (f_isPlace_2 K m S (some a)) (fun S2 r => S2 = S ∧ ((r = 1 ∧ plE (ZF S) n a) ∨ (r = 0 ∧ ¬ plE (ZF S) n a)))
  | 0, _, _, h, _ => h.elim
  | n + 1, 0, _, _, hm => absurd hm (by omega)
  | n + 1, m + 1, a, h, hm => by
    obtain ⟨ha, kd, vo, fs, h1, h2, h3, h4⟩ := h
    have hk := oI_mk (hL a ha) h1 h2
    unfold f_isPlace_2
    refine Rt.iq (fun q => by cases q) (Rt.bd hk ?_)
    have h33 : (kd = 7 ∨ kd = 14 ∨ kd = 11) → Rt (f_isPlace_33 K (f_isPlace_2 K m) S (some a)) (fun S2 r => S2 = S ∧ ((r = 1 ∧ plE (ZF S) (n + 1) a) ∨ (r = 0 ∧ ¬ plE (ZF S) (n + 1) a))) := fun hkd => by
      obtain ⟨o, ho, hw⟩ := h4 hkd
      subst ho
      unfold f_isPlace_33
      refine Rt.bd (oR_mk (v := some o) (hL a ha) h1 h3) (Rt.mo (isp_2 hL hw (by omega)) (fun S2 r q => ?_))
      rw [plE_dn h1 h2 h3 hkd]; exact q
    refine Rt.it (fun w => h33 (Or.inl w)) (fun w1 => Rt.bd hk (Rt.it (fun w => h33 (Or.inr (Or.inl w))) (fun w2 => Rt.bd hk (Rt.it (fun w => h33 (Or.inr (Or.inr w))) (fun w3 => ?_)))))
    have hno : ¬ (kd = 7 ∨ kd = 14 ∨ kd = 11) := fun w => w.elim w1 (fun w => w.elim w2 w3)
    unfold f_isPlace_41 f_isPlace_57 f_isPlace_58
    refine Rt.iq (fun q => by cases q) (Rt.bd hk (Rt.it (fun w => ?_) (fun w => ?_)))
    · exact Rt.zr (Or.inr rfl) ⟨rfl, Or.inl ⟨rfl, (plE_end h1 h2 h3 hno).mpr w⟩⟩
    · exact Rt.zr (Or.inl rfl) ⟨rfl, Or.inr ⟨rfl, fun q => w ((plE_end h1 h2 h3 hno).mp q)⟩⟩
theorem isp_ (hL : ∀ a ∈ L, a ∈ ZL S) {n a : Nat} (h : pwE L (ZF S) n a) (hn : n ≤ 1000) : Rt (f_isPlace K S (some a)) (fun S2 r => S2 = S ∧ ((r = 1 ∧ plE (ZF S) n a) ∨ (r = 0 ∧ ¬ plE (ZF S) n a))) := isp_2 hL h (by show n ≤ 1000000000000; omega)
end IPL
section STM
variable {K : Ky} {T : Nat} {S : Sg} {pp ns vv bb s : Nat}
theorem ex140 (z : RZ S T pp ns vv bb) (hb : Zi S 3 = 0 → bb ≤ 54) (hn : Zi S 3 = 0 → ns ≤ 16) (r1 : Zz S + 8 * (T - pp) + 8 ≤ K.2.1) (r2 : Zn S + 120 * (T - pp) + 360 ≤ K.2.2) : Rt (f_exp K (f_chain9 K 140) (f_unary9 K 140) S) (XP K T S pp ns vv bb 408 3 48) := Rt.mo (exp_ (exps_ 140).1 z hb (by omega) (fun q => ⟨hn q, by omega⟩) r1 r2) (fun S2 r q => q.le (by omega) (Nat.le_refl _) (Nat.le_refl _))
theorem wr20 (z : RZ S T pp ns vv bb) (hn : Zi S 3 = 0 → ns ≤ 16) (r1 : Zz S + (T - pp) + 2 ≤ K.2.1) (r2 : Zn S + 5 * (T - pp) + 10 ≤ K.2.2) : Rt (f_written K 20 S) (WrP S T pp ns vv bb) := wri_ 20 z (by omega) (fun q => ⟨hn q, by omega⟩) r1 r2
/-- a statement in the store -/
def isS (K : Ky) (L : List Nat) (F : Nat → va_E) (fk : Nat → Int32) (n t a p q b c v w : Nat) : Prop := isN L F fk (K.1 9) (K.1 0) (K.1 11) (K.1 10) (K.1 7) (K.1 5) n t a p q b c v w
/-- what a member gives that fills the statement s -/
def SP (K : Ky) (T : Nat) (S : Sg) (pp ns vv bb s : Nat) (S2 : Sg) : Prop := ∃ (pp2 vv2 bb2 : Nat) (fs2 : List Value), RZ S2 T pp2 ns vv2 bb2 ∧ St (fun b => b = s) S S2 s (.inr (19, fs2)) (8 * (pp2 - pp) + 6) (120 * (pp2 - pp) + 96) ∧ (pp ≤ pp2 ∧ bb ≤ bb2 ∧ bb2 ≤ bb + (pp2 - pp)) ∧ (Zi S2 3 = 0 → Zz S2 + 4 ≤ Zz S + 8 * (pp2 - pp) ∧ Zn S2 + 64 ≤ Zn S + 120 * (pp2 - pp) ∧ bb2 ≤ 54 ∧ vv2 ≤ 40 ∧ pp < pp2 ∧ isS K (iv s (Zz S2)) (ZF S2) (Zr S 5) (2 * (16 - ns) + 2) 0 s pp pp2 bb bb2 vv vv2)
/-- let -/
theorem let_ (h : RZ S T pp ns vv bb) (hs : Zz S = s + 1) (he : s ∈ ZL S) (hF : ZF S s = .inr (19, sxV 0 pp 0 0 0 .null .null .null .null .null .null .null 0)) (hk : Zr S 5 pp = 13) (q0 : Zi S 3 = 0) (hb : bb ≤ 54) (hv : vv ≤ 40) (hn : ns ≤ 16) (r1 : Zz S + 8 * (T - pp) + 14 ≤ K.2.1) (r2 : Zn S + 120 * (T - pp) + 480 ≤ K.2.2) : Rt (f_let K S (some s)) (fun S2 _ => SP K T S pp ns vv bb s S2) := by
  have hp := h.1.2.1; have hT := h.1.2.2.1
  have s0 : St (fun b => b = s) S S s (.inr (19, sxV 0 pp 0 0 0 .null .null .null .null .null .null .null 0)) 0 0 := ⟨GR.rf, fun _ => rfl, he, hF, Nat.le_refl _, Nat.le_refl _⟩
  -- the end
  have h71 : ∀ (S9 : Sg) (p9 b9 nm wq : Nat) (mu rn : Int32) (wr ex : Value) (zz nn : Nat), St (fun b => b = s) S S9 s (.inr (19, sxV 0 pp rn mu 0 wr ex .null .null .null .null .null 0)) zz nn → RZ S9 T p9 ns (vv + 1) b9 → (pp + 1 ≤ p9 ∧ bb ≤ b9 ∧ b9 ≤ bb + (p9 - pp)) → zz + 4 ≤ 8 * (p9 - pp) → nn + 64 ≤ 120 * (p9 - pp) → (Zi S9 3 = 0 → b9 ≤ 54 ∧ vv ≠ 40 ∧ rn = nI nm ∧ pp < nm ∧ nm < p9 ∧ (mu = 0 ∨ mu = 1) ∧ (pp ≤ wq ∧ wq ≤ p9) ∧ (wr = .null ∨ ∃ t p' q' : Nat, wr = .ref t ∧ pp < p' ∧ q' ≤ wq ∧ isT (iv (Zz S) (Zz S9)) (ZF S9) (Zr S 5) 17 t p' q') ∧ ((ex = .null ∧ bb = b9) ∨ ∃ a p' q' : Nat, ex = .ref a ∧ wq < p' ∧ q' ≤ p9 ∧ isE (iv (Zz S) (Zz S9)) (ZF S9) (K.1 9) (K.1 0) 408 16 a p' q' bb b9)) → Rt (f_let_71 K S9) (fun S2 _ => SP K T S pp ns vv bb s S2) := fun S9 p9 b9 nm wq mu rn wr ex zz nn s9 z9 k1 k2 k3 k4 => by
    unfold f_let_71
    refine Rt.bn (take_ z9 (by decide)) (fun S2 _ q2 => Rt.rt ?_)
    obtain ⟨p2, z2, g2, w1, w2, w3⟩ := q2
    have s2 := s9.ss g2
    have x1 := s2.2.2.2.2.1; have x2 := s2.2.2.2.2.2
    refine ⟨p2, vv + 1, b9, _, z2, s2.le (by omega) (by omega), by omega, fun q => ?_⟩
    have q9 : Zi S9 3 = 0 := g2.1.2.2.2.2.2 q
    have w4 := (w3 q).2
    obtain ⟨c1, c2, c3, c4, c5, c6, c9, c7, c8⟩ := k4 q9
    have hx9 : exS (iv (Zz S) (Zz S9)) (ZF S9) (iv s (Zz S2)) (ZF S2) := iv_ex (by omega) (by rw [g2.2.2.2.1]; exact Nat.le_refl _) (fun a _ _ => by rw [g2.2.1])
    refine ⟨by omega, by omega, c1, by omega, by omega, ⟨iv_m.mpr ⟨Nat.le_refl _, z2.2.2.2.2 _ s2.2.2.1⟩, by omega, Or.inl ⟨nm, wq, mu, wr, ex, ?_, c4, by omega, c6, rfl, ⟨c9.1, by omega⟩, ?_, ?_⟩⟩⟩
    · rw [s2.2.2.2.1, c3]; rfl
    · rcases c7 with c7 | ⟨t, p', q', d1, d2, d3, d4⟩
      · exact Or.inl c7
      · exact Or.inr ⟨t, p', q', d1, d2, d3, isT_ex hx9 d4⟩
    · rcases c8 with c8 | ⟨a, p', q', d1, d2, d3, d4⟩
      · exact Or.inl c8
      · exact Or.inr ⟨a, p', q', d1, d2, by omega, isE_im hx9 _ (Nat.le_refl _) d4⟩
  -- the exp
  have h54 : ∀ (S7 : Sg) (p7 nm : Nat) (mu rn : Int32) (wr : Value) (zz nn : Nat), St (fun b => b = s) S S7 s (.inr (19, sxV 0 pp rn mu 0 wr .null .null .null .null .null .null 0)) zz nn → RZ S7 T p7 ns (vv + 1) bb → pp + 1 ≤ p7 → zz + 4 ≤ 8 * (p7 - pp) → nn + 64 ≤ 120 * (p7 - pp) → (Zi S7 3 = 0 → vv ≠ 40 ∧ rn = nI nm ∧ pp < nm ∧ nm < p7 ∧ (mu = 0 ∨ mu = 1) ∧ (wr = .null ∨ ∃ t p' q' : Nat, wr = .ref t ∧ pp < p' ∧ q' ≤ p7 ∧ isT (iv (Zz S) (Zz S7)) (ZF S7) (Zr S 5) 17 t p' q')) → Rt (f_let_54 K S7 (some s)) (fun S2 _ => SP K T S pp ns vv bb s S2) := fun S7 p7 nm mu rn wr zz nn s7 z7 k1 k2 k3 k4 => by
    unfold f_let_54
    refine Rt.bn (takes_ z7 (by decide)) (fun S8 r8 q8 => ?_)
    obtain ⟨p8, z8, g8, i8, q8⟩ := q8
    have s8 := s7.ss g8
    have x1 := s8.2.2.2.2.1; have x2 := s8.2.2.2.2.2
    have hT8 := z8.1.2.1
    rcases q8 with ⟨e1, e2, _⟩ | ⟨e1, e2, e3, _⟩
    · subst e1
      refine Rt.ip rfl (h71 S8 p8 bb nm p8 mu rn wr .null zz nn s8 z8 (by omega) (by omega) (by omega) (fun q => ?_))
      obtain ⟨c2, c3, c4, c5, c6, c7⟩ := k4 (by rw [← i8]; exact q)
      refine ⟨hb, c2, c3, c4, by omega, c6, ⟨by omega, Nat.le_refl _⟩, ?_, Or.inl ⟨rfl, rfl⟩⟩
      rw [g8.2.1, g8.2.2.2.1, e2]; exact c7
    · subst e1 e2
      refine Rt.iq (by decide) (Rt.bn (ex140 z8 (fun _ => hb) (fun _ => hn) (by omega) (by omega)) (fun S9 r9 q9 => ?_))
      obtain ⟨p9, b9, x, e9, z9, g9, w1, w2, w3, w4, w5⟩ := q9
      subst e9
      have s9 := s8.cl g9 (z8.2.2.2.2 _ s8.2.2.1) (z1 := 8 * (p9 - (p7 + 1)) + 3) (n1 := 120 * (p9 - (p7 + 1)) + 48) (by omega) (by omega)
      have c7' := k4 e3
      have hss : s < Zz S8 := z8.2.2.2.2 _ s8.2.2.1
      have h08 := s8.1.2.2.2.2.1.1
      refine Rt.pv s9 z9 (Nat.le_of_ble_eq_true rfl) (show va_rf (some x) = .ref x from rfl) (fun S10 s10 z10 u10 => ?_)
      refine h71 S10 p9 b9 nm p7 mu rn wr (.ref x) _ _ s10 z10 (by omega) (by omega) (by omega) (fun q => ?_)
      have q9 : Zi S9 3 = 0 := by rw [← u10.2.2.2.2.1]; exact q
      obtain ⟨c2, c3, c4, c5, c6, c7⟩ := c7'
      obtain ⟨v1, v2⟩ := w5 q9
      refine ⟨v1, c2, c3, c4, by omega, c6, ⟨by omega, by omega⟩, ?_, Or.inr ⟨x, p7 + 1, p9, rfl, by omega, Nat.le_refl _, ?_⟩⟩
      · rcases c7 with c7 | ⟨t, p', q', d1, d2, d3, d4⟩
        · exact Or.inl c7
        · refine Or.inr ⟨t, p', q', d1, d2, d3, ?_⟩
          refine isT_ex (iv_ex (Nat.le_refl _) (by have := g9.2.2.2.2.1.1; rw [u10.2.2.1, ← g8.2.2.2.1]; exact this) (fun a h1 h2 => ?_)) d4
          rw [u10.1 a (by omega), g9.2.2.1 a (by rw [g8.2.2.2.1]; exact h2) (fun q => q), g8.2.1]
      · exact isE_im (iv_ex h08 (by rw [u10.2.2.1]; exact Nat.le_refl _) (fun a h1 h2 => u10.1 a (by omega))) _ (Nat.le_refl _) v2
  unfold f_let
  refine Rt.pv s0 h (Nat.le_of_ble_eq_true rfl) rfl (fun S1 s1 z1 u1 => ?_)
  refine Rt.pi z1 (z1.nx (k := 13) (by rw [u1.2.2.2.2.2.1]; exact hk) (by decide)) (fun S2 g2 z2 i2 => ?_)
  refine Rt.bn (takes_ z2 (by decide)) (fun S3 r3 q3 => ?_)
  obtain ⟨p3, z3, g3, i3, q3⟩ := q3
  have s3 := (s1.ss g2).ss g3
  have hr3 : r3 = 0 ∨ r3 = 1 := by rcases q3 with ⟨w, _⟩ | ⟨w, _⟩; exact Or.inl w; exact Or.inr w
  have hp3 : pp + 1 ≤ p3 := by rcases q3 with ⟨_, w, _⟩ | ⟨_, w, _⟩ <;> omega
  refine Rt.pz s3 z3 (Nat.le_of_ble_eq_true rfl) hr3 (fun S5 s5 z5 u5 => ?_)
  refine Rt.bn (oneV_ z5) (fun S6 _ q6 => ?_)
  obtain ⟨z6, g6, h6⟩ := q6
  refine Rt.bn (name_ z6) (fun S8 r8 q8 => ?_)
  obtain ⟨p8, z8, g8, w1, w2, w3⟩ := q8
  have s8 := (s5.ss g6).ss g8
  refine Rt.pv s8 z8 (Nat.le_of_ble_eq_true rfl) rfl (fun S10 s10 z10 u10 => ?_)
  have s10 : St (fun b => b = s) S S10 s (.inr (19, sxV 0 pp r8 r3 0 .null .null .null .null .null .null .null 0)) 0 0 := s10
  have hg10 : Zi S10 3 = 0 → vv ≠ 40 ∧ r8 = nI p3 ∧ p8 = p3 + 1 := fun q => by
    have q8 : Zi S8 3 = 0 := by rw [← u10.2.2.2.2.1]; exact q
    obtain ⟨c1, c2, c3⟩ := w3 q8
    exact ⟨h6 (g8.1.2.2.2.2.2 q8) (by rw [← g6.1.2.1.1]; exact c1), c3, c2⟩
  refine Rt.bn (takes_ z10 (by decide)) (fun S11 r11 q11 => ?_)
  obtain ⟨p11, z11, g11, i11, q11⟩ := q11
  have s11 := s10.ss g11
  have x1 := s11.2.2.2.2.1; have x2 := s11.2.2.2.2.2
  have hT11 := z11.1.2.1
  rcases q11 with ⟨e1, e2, _⟩ | ⟨e1, e2, e3, _⟩
  · subst e1 e2
    refine Rt.ip rfl (h54 S11 _ p3 r3 r8 .null 0 0 s11 z11 (by omega) (by omega) (by omega) (fun q => ?_))
    obtain ⟨c1, c2, c3⟩ := hg10 (by rw [← i11]; exact q)
    exact ⟨c1, c2, by omega, by omega, hr3, Or.inl rfl⟩
  · subst e1 e2
    obtain ⟨c1, c2, c3⟩ := hg10 e3
    refine Rt.iq (by decide) (Rt.bn (wr20 z11 (fun _ => hn) (by omega) (by omega)) (fun S12 r12 q12 => ?_))
    obtain ⟨p12, a12, e12, z12, g12, v1, v2, v3, v4, v5⟩ := q12
    subst e12
    have h011 := s11.1.2.2.2.2.1.1
    have s12 := s11.cl g12 (z11.2.2.2.2 _ s11.2.2.1) (z1 := p12 - (p8 + 1) + 1) (n1 := 5 * (p12 - (p8 + 1)) + 5) (by omega) (by omega)
    refine Rt.pv s12 z12 (Nat.le_of_ble_eq_true rfl) (show va_rf (some a12) = .ref a12 from rfl) (fun S13 s13 z13 u13 => ?_)
    refine h54 S13 p12 p3 r3 r8 (.ref a12) _ _ s13 z13 (by omega) (by omega) (by omega) (fun q => ⟨c1, c2, by omega, by omega, hr3, Or.inr ⟨a12, p8 + 1, p12, rfl, by omega, Nat.le_refl _, ?_⟩⟩)
    have q12 : Zi S12 3 = 0 := by rw [← u13.2.2.2.2.1]; exact q
    have v6 := v5 q12
    rw [s11.1.2.1.1] at v6
    exact isT_ex (iv_ex h011 (by rw [u13.2.2.1]; exact Nat.le_refl _) (fun a h1 h2 => u13.1 a (by omega))) (isT_le v6 (by omega))
end STM
end
-- k4.l.lean.txt
section
section PLN
variable {K : Ky} {T : Nat} {S : Sg} {pp ns vv bb s : Nat}
/-- an exp, or a setting -/
theorem pln_ (h : RZ S T pp ns vv bb) (hs : Zz S = s + 1) (he : s ∈ ZL S) (hF : ZF S s = .inr (19, sxV 0 pp 0 0 0 .null .null .null .null .null .null .null 0)) (q0 : Zi S 3 = 0) (hb : bb ≤ 54) (hv : vv ≤ 40) (hn : ns ≤ 16) (r1 : Zz S + 8 * (T - pp) + 14 ≤ K.2.1) (r2 : Zn S + 120 * (T - pp) + 480 ≤ K.2.2) : Rt (f_plain K S (some s)) (fun S2 _ => SP K T S pp ns vv bb s S2) := by
  have hp := h.1.2.1; have hT := h.1.2.2.1
  have s0 : St (fun b => b = s) S S s (.inr (19, sxV 0 pp 0 0 0 .null .null .null .null .null .null .null 0)) 0 0 := ⟨GR.rf, fun _ => rfl, he, hF, Nat.le_refl _, Nat.le_refl _⟩
  have h80 : ∀ (S9 : Sg) (p9 b9 : Nat) (fs9 : List Value) (zz nn : Nat), St (fun b => b = s) S S9 s (.inr (19, fs9)) zz nn → RZ S9 T p9 ns vv b9 → (pp ≤ p9 ∧ bb ≤ b9 ∧ b9 ≤ bb + (p9 - pp)) → zz ≤ 8 * (p9 - pp) + 4 → nn ≤ 120 * (p9 - pp) + 56 → (Zi S9 3 = 0 → b9 ≤ 54 ∧ ((∃ x : Nat, fs9 = sxV 1 pp 0 0 0 .null (.ref x) .null .null .null .null .null 0 ∧ isE (iv (Zz S) (Zz S9)) (ZF S9) (K.1 9) (K.1 0) 408 16 x pp p9 bb b9) ∨ (∃ x y q1 p2 b1 : Nat, fs9 = sxV 2 pp 0 0 0 .null (.ref x) (.ref y) .null .null .null .null 0 ∧ isE (iv (Zz S) (Zz S9)) (ZF S9) (K.1 9) (K.1 0) 408 16 y pp q1 bb b1 ∧ plE (ZF S9) 408 y ∧ q1 < p2 ∧ isE (iv (Zz S) (Zz S9)) (ZF S9) (K.1 9) (K.1 0) 408 16 x p2 p9 b1 b9))) → Rt (f_plain_80 K S9) (fun S2 _ => SP K T S pp ns vv bb s S2) := fun S9 p9 b9 fs9 zz nn s9 z9 k1 k2 k3 k4 => by
    unfold f_plain_80
    refine Rt.bn (take_ z9 (by decide)) (fun S2 _ q2 => Rt.rt ?_)
    obtain ⟨p2, z2, g2, w1, w2, w3⟩ := q2
    have s2 := s9.ss g2
    have x1 := s2.2.2.2.2.1; have x2 := s2.2.2.2.2.2
    refine ⟨p2, vv, b9, _, z2, s2.le (by omega) (by omega), by omega, fun q => ?_⟩
    have q9 : Zi S9 3 = 0 := g2.1.2.2.2.2.2 q
    have w4 := (w3 q).2
    obtain ⟨c1, c2⟩ := k4 q9
    have hx9 : exS (iv (Zz S) (Zz S9)) (ZF S9) (iv s (Zz S2)) (ZF S2) := iv_ex (by omega) (by rw [g2.2.2.2.1]; exact Nat.le_refl _) (fun a _ _ => by rw [g2.2.1])
    have hm := iv_m.mpr ⟨Nat.le_refl s, z2.2.2.2.2 _ s2.2.2.1⟩
    refine ⟨by omega, by omega, c1, hv, by omega, hm, by omega, ?_⟩
    rcases c2 with ⟨x, e1, e2⟩ | ⟨x, y, q1, p3, b1, e1, e2, e3, e4, e5⟩
    · subst e1
      exact Or.inr (Or.inl ⟨1, x, pp, p9, Or.inl rfl, s2.2.2.2.1, Nat.le_refl _, by omega, isE_im hx9 _ (Nat.le_refl _) e2, rfl⟩)
    · subst e1
      exact Or.inr (Or.inr (Or.inl ⟨x, y, q1, p3, p9, b1, s2.2.2.2.1, isE_im hx9 _ (Nat.le_refl _) e2, plE_ex hx9 (isE_pw e2) e3, e4, by omega, isE_im hx9 _ (Nat.le_refl _) e5, rfl⟩))
  unfold f_plain
  refine Rt.pv s0 h (Nat.le_of_ble_eq_true rfl) rfl (fun S1 s1 z1 u1 => ?_)
  have y1 := u1.2.2.1; have y2 := u1.2.2.2.1
  have q1 : Zi S1 3 = 0 := by rw [u1.2.2.2.2.1]; exact q0
  refine Rt.bn (ex140 z1 (fun _ => hb) (fun _ => hn) (by omega) (by omega)) (fun S2 r2' q2 => ?_)
  obtain ⟨p2, b2, x, e2, z2, g2, w1, w2, w3, w4, w5⟩ := q2
  subst e2
  have hT2 := z2.1.2.1
  have s2 := s1.cl g2 (z1.2.2.2.2 _ s1.2.2.1) (z1 := 8 * (p2 - pp) + 3) (n1 := 120 * (p2 - pp) + 48) (by omega) (by omega)
  refine Rt.pv s2 z2 (Nat.le_of_ble_eq_true rfl) (show va_rf (some x) = .ref x from rfl) (fun S4 s4 z4 u4 => ?_)
  have s4 : St (fun b => b = s) S S4 s (.inr (19, sxV 1 pp 0 0 0 .null (.ref x) .null .null .null .null .null 0)) (0 + (8 * (p2 - pp) + 3)) (0 + (120 * (p2 - pp) + 48)) := s4
  have h24 := g2.2.2.2.2.1.1
  have hgd : Zi S4 3 = 0 → b2 ≤ 54 ∧ isE (iv (Zz S) (Zz S4)) (ZF S4) (K.1 9) (K.1 0) 408 16 x pp p2 bb b2 := fun q => by
    obtain ⟨c1, c2⟩ := w5 (by rw [← u4.2.2.2.2.1]; exact q)
    exact ⟨c1, isE_im (iv_ex (by omega) (by rw [u4.2.2.1]; exact Nat.le_refl _) (fun a h1 h2 => u4.1 a (by omega))) _ (Nat.le_refl _) c2⟩
  have hend : Rt (f_plain_80 K S4) (fun S2 _ => SP K T S pp ns vv bb s S2) := h80 S4 p2 b2 _ _ _ s4 z4 (by omega) (by omega) (by omega) (fun q => ⟨(hgd q).1, Or.inl ⟨x, rfl, (hgd q).2⟩⟩)
  refine Rt.ok (fun q4 => Rt.is z4 (fun hk => ?_) (fun _ => hend)) (fun _ => hend)
  obtain ⟨c1, c2⟩ := hgd q4
  have hlt := (isE_mem c2).2
  refine Rt.bd (oR_mk (v := some x) s4.2.2.1 s4.2.2.2.1 rfl) ?_
  refine Rt.bn (isp_ (fun a ha => (s4.1.2.2.2.1 a).mpr (Or.inr (iv_m.mp ha))) (isE_pw c2) (by omega)) (fun S10 r10 q10 => ?_)
  obtain ⟨e10, q10⟩ := q10
  rw [e10]
  rcases q10 with ⟨er, hpl⟩ | ⟨er, _⟩
  · subst er
    refine Rt.iq (by decide) (Rt.pi z4 (z4.nx hk (by decide)) (fun S12 g12 z12 i12 => ?_))
    have s12 := s4.ss g12
    refine Rt.pv s12 z12 (Nat.le_of_ble_eq_true rfl) rfl (fun S13 s13 z13 u13 => ?_)
    refine Rt.bd (oR_mk (v := some x) s13.2.2.1 s13.2.2.2.1 rfl) ?_
    refine Rt.pv s13 z13 (Nat.le_of_ble_eq_true rfl) (show va_rf (some x) = .ref x from rfl) (fun S15 s15 z15 u15 => ?_)
    have x1 := s15.2.2.2.2.1; have x2 := s15.2.2.2.2.2
    have h415 : ∀ a : Nat, a ≠ s → ZF S15 a = ZF S4 a := fun a ha => by rw [u15.1 a ha, u13.1 a ha, g12.2.1]
    have z415 : Zz S15 = Zz S4 := u15.2.2.1.trans (u13.2.2.1.trans g12.2.2.2.1)
    have hT15 := z15.1.2.1
    refine Rt.bn (ex140 z15 (fun _ => c1) (fun _ => hn) (by omega) (by omega)) (fun S16 r16 q16 => ?_)
    obtain ⟨p16, b16, y, e16, z16, g16, v1, v2, v3, v4, v5⟩ := q16
    subst e16
    have s16 := s15.cl g16 (z15.2.2.2.2 _ s15.2.2.1) (z1 := 8 * (p16 - (p2 + 1)) + 3) (n1 := 120 * (p16 - (p2 + 1)) + 48) (by omega) (by omega)
    refine Rt.pv s16 z16 (Nat.le_of_ble_eq_true rfl) (show va_rf (some y) = .ref y from rfl) (fun S18 s18 z18 u18 => ?_)
    have h15 := s15.1.2.2.2.2.1.1
    have hss : s < Zz S15 := z15.2.2.2.2 _ s15.2.2.1
    have h1516 := g16.2.2.2.2.1.1
    have hxa : exS (iv (Zz S) (Zz S4)) (ZF S4) (iv (Zz S) (Zz S18)) (ZF S18) := iv_ex (Nat.le_refl _) (by rw [u18.2.2.1]; omega) (fun a h1 h2 => by rw [u18.1 a (by omega), g16.2.2.1 a (by omega) (fun q => q)]; exact h415 a (by omega))
    refine h80 S18 p16 b16 _ _ _ s18 z18 (by omega) (by omega) (by omega) (fun q => ?_)
    obtain ⟨d1, d2⟩ := v5 (by rw [← u18.2.2.2.2.1]; exact q)
    exact ⟨d1, Or.inr ⟨y, x, p2, p2 + 1, b2, rfl, isE_im hxa _ (Nat.le_refl _) c2, plE_ex hxa (isE_pw c2) hpl, by omega, isE_im (iv_ex h15 (by rw [u18.2.2.1]; exact Nat.le_refl _) (fun a h1 h2 => u18.1 a (by omega))) _ (Nat.le_refl _) d2⟩⟩
  · subst er
    refine Rt.ip rfl ?_
    rw [z4.1.1]
    refine Rt.be (fail_ (by omega)) (Rt.rt ⟨p2, vv, b2, _, z4.fl, (s4.ss SS.fl).le (by omega) (by omega), by omega, fun q => absurd q (flS_n0 (by decide))⟩)
end PLN
end
-- k4.m.lean.txt
section
/-- what the reading of a block (t = 1), a statement (0), an arm (2) gives -/
def NP (K : Ky) (T : Nat) (S : Sg) (pp ns vv bb t ci n gz gn bz bn : Nat) (S2 : Sg) (r : Option Nat) : Prop := ∃ pp2 vv2 bb2 e : Nat, r = some e ∧ RZ S2 T pp2 ns vv2 bb2 ∧ GR nX S S2 ∧ (pp ≤ pp2 ∧ bb ≤ bb2 ∧ bb2 ≤ bb + (pp2 - pp)) ∧ Zz S2 ≤ Zz S + 8 * (pp2 - pp) + bz ∧ Zn S2 ≤ Zn S + 120 * (pp2 - pp) + bn ∧ (Zz S ≤ e ∧ e < Zz S2 ∧ ∃ vs : List Value, ZF S2 e = .inr (ci, vs)) ∧ (Zi S2 3 = 0 → Zz S2 + gz ≤ Zz S + 8 * (pp2 - pp) ∧ Zn S2 + gn ≤ Zn S + 120 * (pp2 - pp) ∧ bb2 ≤ 54 ∧ vv2 ≤ 40 ∧ isS K (iv (Zz S) (Zz S2)) (ZF S2) (Zr S 5) n t e pp pp2 bb bb2 vv vv2)
def HVb (K : Ky) (T : Nat) (V : Sg → Option (Sg × Option Nat)) (d : Nat) : Prop := ∀ (S : Sg) (pp ns vv bb : Nat), RZ S T pp ns vv bb → (Zi S 3 = 0 → bb ≤ 54 ∧ vv ≤ 40) → 1 ≤ d → (Zi S 3 = 0 → ns ≤ 16 ∧ 18 ≤ ns + d) → Zz S + 8 * (T - pp) + 12 ≤ K.2.1 → Zn S + 120 * (T - pp) + 460 ≤ K.2.2 → Rt (V S) (NP K T S pp ns vv bb 1 14 (2 * (16 - ns) + 1) 8 100 2 10)
theorem isS_im {K : Ky} {L L2 : List Nat} {F F2 : Nat → va_E} {fk : Nat → Int32} (hx : exS L F L2 F2) {n : Nat} (m : Nat) (hm : n ≤ m) {t a p q b c v w : Nat} (h : isS K L F fk n t a p q b c v w) : isS K L2 F2 fk m t a p q b c v w := isN_im hx m hm h
/-- the statements of the block e that were read since S -/
def BW (K : Ky) (fk : Nat → Int32) (N : Nat) (S S1 : Sg) (e : Nat) (pp n cp p1 bb b1 vv v1 : Nat) : Prop := ∃ (f : Nat → Option Nat) (L : List Nat) (la : Nat), e ∈ ZL S1 ∧ ZF S1 e = .inr (14, [.int (nI pp), .int 0, .ref la, .int (nI n)]) ∧ la ∈ ZL S1 ∧ ZF S1 la = .inl (K.1 11, cp, .inr (.inr (.inr (.inr f)))) ∧ Zz S ≤ e ∧ Zz S ≤ la ∧ e ∉ L ∧ la ∉ L ∧ n ≤ cp ∧ 4 ≤ cp ∧ cp ≤ 4 + 2 * n ∧ (∀ a ∈ L, Zz S ≤ a ∧ a < Zz S1) ∧ (∀ i : Nat, i < n → ∃ y : Nat, f i = some y ∧ okO S1 19 (some y) = true) ∧ (Zi S1 3 = 0 → chN (isS K L (ZF S1) fk N 0) f n (pp + 1) p1 bb b1 vv v1)
section BLK
variable {K : Ky} {T : Nat} {V : Sg → Option (Sg × Option Nat)} {fk : Nat → Int32} {N pp ns bb vv : Nat} {S : Sg} {e x : Nat} {P : Sg → Option Nat → Prop}
theorem bl138 {k61 : Sg → Option Nat → Option (Sg × Option Nat)} {S : Sg} {la cp n : Nat} {a b : Value} {f : Nat → Option Nat} (he : e ∈ ZL S) (hF : ZF S e = .inr (14, [a, b, .ref la, .int (nI n)])) (hl : la ∈ ZL S) (hR : ZF S la = .inl (K.1 11, cp, .inr (.inr (.inr (.inr f))))) (hn : n < cp) (hc : cp < 2 ^ 31) (hx : okO S 19 (some x) = true) : f_block_138 K V k61 S (some e) (some x) = k61 (UF (UF S la (.inl (K.1 11, cp, .inr (.inr (.inr (.inr (va_up f n (some x)))))))) e (.inr (14, [a, b, .ref la, .int (nI (n + 1))]))) (some e) := by
  have e1 : e ≠ la := ne_or hF hR
  have hF2 : ZF (UF S la (.inl (K.1 11, cp, .inr (.inr (.inr (.inr (va_up f n (some x)))))))) e = .inr (14, [a, b, .ref la, .int (nI n)]) := (ZF_n e1).trans hF
  unfold f_block_138
  rw [oR_mk (v := some la) he hF rfl]
  show (oI S 14 (some e) 3).bind _ = _
  rw [oI_mk he hF rfl]
  show (bQ K 11 19 S (some la) (nI n) (some x)).bind _ = _
  rw [bQ_n hl hR hn hc hx]
  show (oI (UF S la _) 14 (some e) 3).bind _ = _
  rw [oI_mk (S := UF S la _) he hF2 rfl]
  show (pV (UF S la _) 14 (some e) 3 (.int (nI n + 1))).bind _ = _
  rw [pV_mk (S := UF S la _) he hF2 (Nat.le_of_ble_eq_true rfl), nI_1]; rfl
theorem bl107 {k61 : Sg → Option Nat → Option (Sg × Option Nat)} {S0 : Sg} {la l2 cp n : Nat} {a b : Value} {f : Nat → Option Nat} (hn : n ≤ 3001) (hcp : n = cp) (hl2 : Zz S0 ≤ l2) (he0 : e < Zz S0) (kk : ∀ (S : Sg) (f2 : Nat → Option Nat), e ∈ ZL S → ZF S e = .inr (14, [a, b, .ref l2, .int (nI n)]) → l2 ∈ ZL S → ZF S l2 = .inl (K.1 11, 2 * n, .inr (.inr (.inr (.inr f2)))) → (∀ i : Nat, i < n → f2 i = f i) → GR (fun c => c = e) S0 S → Zi S = Zi S0 → Zz S = l2 + 1 → Zn S = Zn S0 + 2 * n → (∀ y : Nat, okO S0 19 (some y) = true → okO S 19 (some y) = true) → Rt (f_block_138 K V k61 S (some e) (some x)) P) : ∀ (m j : Nat), n < j + m → j ≤ n → ∀ {S : Sg} {f2 : Nat → Option Nat}, e ∈ ZL S → ZF S e = .inr (14, [a, b, .ref la, .int (nI n)]) → la ∈ ZL S → ZF S la = .inl (K.1 11, cp, .inr (.inr (.inr (.inr f)))) → l2 ∈ ZL S → ZF S l2 = .inl (K.1 11, 2 * n, .inr (.inr (.inr (.inr f2)))) → la ≠ l2 → (∀ i : Nat, i < n → ∃ y : Nat, f i = some y ∧ okO S 19 (some y) = true) → (∀ i : Nat, i < j → f2 i = f i) → GR (fun c => c = e) S0 S → Zi S = Zi S0 → Zz S = l2 + 1 → Zn S = Zn S0 + 2 * n → (∀ y : Nat, okO S0 19 (some y) = true → okO S 19 (some y) = true) → Rt (f_block_107 K V k61 m S (some e) (some x) (some l2) (nI j)) P
  | 0, j, w1, w2, _, _, _, _, _, _, _, _, _, _, _, _, _, _, _, _ => absurd w1 (by omega)
  | m + 1, j, w1, w2, S, f2, he, hF, hl, hR, h2, hR2, hne, hy, hfg, hg, hi, hz, hnn, hok => by
    have e1 : e ≠ l2 := ne_or hF hR2
    unfold f_block_107
    refine Rt.bd (oI_mk he hF rfl) (Rt.it (fun q => ?_) (fun q => ?_))
    · have hj : j = n := by
        rcases Nat.lt_or_ge j n with w | w
        · exact absurd q (fun q => by have := (nI_leI (by omega) (by omega)).mp q; omega)
        · omega
      subst hj
      refine Rt.bd (pV_mk (v := va_rf (some l2)) he hF (Nat.le_of_ble_eq_true rfl)) ?_
      refine kk _ f2 he ZF_s h2 ((ZF_n (fun q => e1 q.symm)).trans hR2) hfg (hg.tr GR.uf (fun c _ q => q)) hi hz hnn (fun y hy1 => ?_)
      have hy2 := hok y hy1
      obtain ⟨y1, vs, y2⟩ := okO_of hy2
      exact okO_mk y1 ((ZF_n (fun q => by rw [q, hF] at y2; cases y2)).trans y2)
    · have hj : j < n := by
        rcases Nat.lt_or_ge j n with w | w
        · exact w
        · exact absurd (nI_le w (by omega)) q
      obtain ⟨y, hfy, hoy⟩ := hy j hj
      refine Rt.bd (oR_mk (v := some la) he hF rfl) (Rt.bd (aQ_n hl hR (show j < cp by omega) (by omega)) ?_)
      rw [hfy]
      refine Rt.bd (bQ_n h2 hR2 (show j < 2 * n by omega) (by omega) hoy) ?_
      rw [nI_1]
      have hk : ∀ {y : Nat}, okO S 19 (some y) = true → okO (UF S l2 (.inl (K.1 11, 2 * n, .inr (.inr (.inr (.inr (va_up f2 j (some y)))))))) 19 (some y) = true → True := fun _ _ => trivial
      have hok2 : ∀ {u : Nat} {c : vp_A}, okO S 19 (some u) = true → okO (UF S l2 (.inl (K.1 11, c))) 19 (some u) = true := fun {u c} h => by
        obtain ⟨y1, vs, y2⟩ := okO_of h
        exact okO_mk y1 ((ZF_n (ne_or y2 hR2)).trans y2)
      refine bl107 hn hcp hl2 he0 kk m (j + 1) (by omega) (by omega) he ((ZF_n e1).trans hF) hl ((ZF_n hne).trans hR) h2 ZF_s hne (fun i hi => by obtain ⟨u, h1, h3⟩ := hy i hi; exact ⟨u, h1, hok2 h3⟩) (fun i hi => ?_) (hg.tr GR.uf (fun c hc q => absurd q (by omega))) hi hz hnn (fun u hu => hok2 (hok u hu))
      by_cases ei : i = j
      · subst ei; exact (va_up_self _ _ _).trans hfy.symm
      · exact (va_up_ne _ _ ei).trans (hfg i (by omega))
end BLK
end
-- k4.n.lean.txt
section
section BST
variable {K : Ky} {T : Nat} {V : Sg → Option (Sg × Option Nat)} {fk : Nat → Int32} {N N1 pp ns bb vv n cp p1 b1 v1 p2 b2 v2 e x : Nat} {S S1 S2 : Sg} {P : Sg → Option Nat → Prop}
/-- one statement more -/
theorem bstep {k61 : Sg → Option Nat → Option (Sg × Option Nat)} (hB : BW K fk N S S1 e pp n cp p1 bb b1 vv v1) (hg : GR nX S S1) (hz1 : ∀ a ∈ ZL S1, a < Zz S1) (z2 : RZ S2 T p2 ns v2 b2) (g2 : GR nX S1 S2) (hx : Zz S1 ≤ x ∧ x < Zz S2 ∧ ∃ vs : List Value, ZF S2 x = .inr (19, vs)) (hxN : Zi S2 3 = 0 → isS K (iv (Zz S1) (Zz S2)) (ZF S2) fk N1 0 x p1 p2 b1 b2 v1 v2) (hN : N1 ≤ N) (hn : n ≤ 3000) (r1 : Zz S2 + 1 ≤ K.2.1) (r2 : Zn S2 + 2 * n ≤ K.2.2) (kk : ∀ (S3 : Sg) (cp3 : Nat), BW K fk N S S3 e pp (n + 1) cp3 p2 bb b2 vv v2 → GR nX S S3 → RZ S3 T p2 ns v2 b2 → Zi S3 = Zi S2 → Zz S3 ≤ Zz S2 + 1 → Zn S3 + 2 * cp ≤ Zn S2 + 2 * cp3 → cp ≤ cp3 → Rt (k61 S3 (some e)) P) : Rt ((oI S2 14 (some e) 3).bind fun v21 => (oR S2 14 (some e) 2).bind fun v22 => (aLn K 11 S2 v22).bind fun v23 => if v21 = v23 then ((oI S2 14 (some e) 3).bind fun v24 => bnd (nQ K 11 S2 (2 * v24)) fun S25 a26 => f_block_107 K V k61 bigN S25 (some e) (some x) (some a26) 0) else (f_block_138 K V k61 S2 (some e) (some x))) P := by
  obtain ⟨f, L, la, h1, h2, h3, h4, h5, h6, h7, h8, h9, h10, h11, h12, h13, h14⟩ := hB
  have hez := hz1 e h1; have hlz := hz1 la h3
  have h12' := g2.2.2.2.2.1.1
  have he2 := g2.in h1; have hl2 := g2.in h3
  have hF2 : ZF S2 e = .inr (14, [.int (nI pp), .int 0, .ref la, .int (nI n)]) := (g2.2.2.1 e hez (fun q => q)).trans h2
  have hR2 : ZF S2 la = .inl (K.1 11, cp, .inr (.inr (.inr (.inr f)))) := (g2.2.2.1 la hlz (fun q => q)).trans h4
  have hxo : okO S2 19 (some x) = true := by
    obtain ⟨vs, hv⟩ := hx.2.2
    exact okO_mk ((g2.2.2.2.1 x).mpr (Or.inr ⟨hx.1, hx.2.1⟩)) hv
  have hy2 : ∀ i : Nat, i < n → ∃ y : Nat, f i = some y ∧ okO S2 19 (some y) = true := fun i hi => by
    obtain ⟨y, y1, y2⟩ := h13 i hi
    obtain ⟨y3, vs, y4⟩ := okO_of y2
    exact ⟨y, y1, okO_mk (g2.in y3) ((g2.2.2.1 y (hz1 y y3) (fun q => q)).trans y4)⟩
  have hg02 := hg.n g2
  have hML : ∀ a ∈ L ++ iv (Zz S1) (Zz S2), Zz S ≤ a ∧ a < Zz S2 ∧ a ≠ e ∧ a ≠ la := fun a ha => by
    have h01 := hg.2.2.2.2.1.1
    rcases List.mem_append.mp ha with q | q
    · have := h12 a q; exact ⟨this.1, by omega, fun w => h7 (w ▸ q), fun w => h8 (w ▸ q)⟩
    · have := iv_m.mp q; exact ⟨by omega, by omega, by omega, by omega⟩
  -- the row has room
  have hfin : ∀ (S5 : Sg) (lb cq : Nat) (f5 : Nat → Option Nat), e ∈ ZL S5 → ZF S5 e = .inr (14, [.int (nI pp), .int 0, .ref lb, .int (nI n)]) → lb ∈ ZL S5 → ZF S5 lb = .inl (K.1 11, cq, .inr (.inr (.inr (.inr f5)))) → n < cq → cq ≤ 4 + 2 * n → 4 ≤ cq → cp ≤ cq → (lb = la ∨ lb = Zz S2) → (∀ i : Nat, i < n → f5 i = f i) → GR (fun c => c = e) S2 S5 → Zi S5 = Zi S2 → Zz S5 ≤ Zz S2 + 1 → Zn S5 + 2 * cp ≤ Zn S2 + 2 * cq → (∀ y : Nat, okO S2 19 (some y) = true → okO S5 19 (some y) = true) → Rt (f_block_138 K V k61 S5 (some e) (some x)) P := fun S5 lb cq f5 w1 w2 w3 w4 w5 w6 w7 w8 w9 w10 w11 w12 w13 w14 w15 => by
    rw [bl138 w1 w2 w3 w4 w5 (by omega) (w15 x hxo)]
    have e1 : e ≠ lb := ne_or w2 w4
    have hlb : Zz S ≤ lb := by rcases w9 with q | q; rw [q]; exact h6; have := hg02.2.2.2.2.1.1; omega
    have hg5 : GR nX S S5 := hg02.tr w11 (fun c hc q => absurd q (by omega))
    have hg3 : GR nX S (UF (UF S5 lb (.inl (K.1 11, cq, .inr (.inr (.inr (.inr (va_up f5 n (some x)))))))) e (.inr (14, [.int (nI pp), .int 0, .ref lb, .int (nI (n + 1))]))) := (hg5.tr GR.uf (fun c hc q => absurd q (by omega))).tr GR.uf (fun c hc q => absurd q (by omega))
    have hcl : ∀ a ∈ L ++ iv (Zz S1) (Zz S2), ZF (UF (UF S5 lb (.inl (K.1 11, cq, .inr (.inr (.inr (.inr (va_up f5 n (some x)))))))) e (.inr (14, [.int (nI pp), .int 0, .ref lb, .int (nI (n + 1))]))) a = ZF S2 a := fun a ha => by
      obtain ⟨q1, q2, q3, q4⟩ := hML a ha
      rw [ZF_n q3, ZF_n (by rcases w9 with q | q; rw [q]; exact q4; omega), w11.2.2.1 a q2 q3]
    have h25 := w11.2.2.2.2.1.1
    refine kk _ cq ⟨va_up f5 n (some x), L ++ iv (Zz S1) (Zz S2), lb, w1, ZF_s, w3, (ZF_n (fun q => e1 q.symm)).trans ZF_s, h5, hlb, fun q => (hML e q).2.2.1 rfl, fun q => ?_, by omega, w7, by omega, fun a ha => ⟨(hML a ha).1, show a < Zz S5 by have := (hML a ha).2.1; omega⟩, fun i hi => ?_, fun q3 => ?_⟩ hg3 ⟨⟨by show Zi S5 10 = _; rw [w12]; exact z2.1.1, z2.1.2.1, z2.1.2.2.1, by show Zr S5 5 _ = _; rw [w11.2.1.1]; exact z2.1.2.2.2⟩, by show Zi S5 15 = _; rw [w12]; exact z2.2.1, by show Zi S5 16 = _; rw [w12]; exact z2.2.2.1, by show Zi S5 17 = _; rw [w12]; exact z2.2.2.2.1, w11.lt z2.2.2.2.2⟩ w12 w13 w14 w8
    · rcases w9 with w | w
      · exact (hML lb q).2.2.2 w
      · have := (hML lb q).2.1; omega
    · have key : ∀ {y : Nat}, okO S2 19 (some y) = true → okO (UF (UF S5 lb (.inl (K.1 11, cq, .inr (.inr (.inr (.inr (va_up f5 n (some x)))))))) e (.inr (14, [.int (nI pp), .int 0, .ref lb, .int (nI (n + 1))]))) 19 (some y) = true := fun {y} h => by
        obtain ⟨y1, vs, y2⟩ := okO_of (w15 y h)
        refine okO_mk y1 ((ZF_n (fun q => ?_)).trans ((ZF_n (ne_or y2 w4)).trans y2))
        rw [q, w2] at y2; cases y2
      by_cases ei : i = n
      · subst ei; exact ⟨x, va_up_self _ _ _, key hxo⟩
      · obtain ⟨y, y1, y2⟩ := hy2 i (by omega)
        exact ⟨y, (va_up_ne _ _ ei).trans ((w10 i (by omega)).trans y1), key y2⟩
    · have q2 : Zi S2 3 = 0 := by rw [← w12]; exact q3
      have q1 : Zi S1 3 = 0 := g2.2.2.2.2.2 q2
      have hx1 : exS L (ZF S1) (L ++ iv (Zz S1) (Zz S2)) (ZF (UF (UF S5 lb (.inl (K.1 11, cq, .inr (.inr (.inr (.inr (va_up f5 n (some x)))))))) e (.inr (14, [.int (nI pp), .int 0, .ref lb, .int (nI (n + 1))])))) := fun b hb => ⟨List.mem_append_left _ hb, (hcl b (List.mem_append_left _ hb)).trans (g2.2.2.1 b (h12 b hb).2 (fun q => q))⟩
      have hx2 : exS (iv (Zz S1) (Zz S2)) (ZF S2) (L ++ iv (Zz S1) (Zz S2)) (ZF (UF (UF S5 lb (.inl (K.1 11, cq, .inr (.inr (.inr (.inr (va_up f5 n (some x)))))))) e (.inr (14, [.int (nI pp), .int 0, .ref lb, .int (nI (n + 1))])))) := fun b hb => ⟨List.mem_append_right _ hb, hcl b (List.mem_append_right _ hb)⟩
      exact chN_add (chN_im (fun y p q b c v w z => isS_im hx1 _ (Nat.le_refl _) z) (h14 q1)) (fun i hi => (va_up_ne _ _ (by omega)).trans (w10 i hi)) (va_up_self _ _ _) (isS_im hx2 _ hN (hxN q2))
  refine Rt.bd (oI_mk he2 hF2 rfl) (Rt.bd (oR_mk (v := some la) he2 hF2 rfl) (Rt.bd (v := nI cp) ?_ ?_))
  · unfold aLn
    rw [aC_mk hl2 hR2]; exact if_pos rfl
  refine Rt.it (fun q => ?_) (fun q => ?_)
  · have hcn : n = cp := (nI_eq (by omega) (by omega)).mp q
    refine Rt.bd (oI_mk he2 hF2 rfl) ?_
    rw [nI_2]
    refine Rt.be (nQ_ok (n := 2 * n) (by omega) ⟨r1, r2⟩) ?_
    have hup : ∀ {a : Nat} {c : va_E}, a ∈ ZL S2 → ZF S2 a = c → ZF (Un S2 (.inl (K.1 11, 2 * n, .inr (.inr (.inr (.inr (fun _ => none)))))) (2 * n)) a = c := fun {a c} h1 h2 => (updE_n (by have := z2.2.2.2.2 a h1; omega)).trans h2
    have hoku : ∀ {y : Nat}, okO S2 19 (some y) = true → okO (Un S2 (.inl (K.1 11, 2 * n, .inr (.inr (.inr (.inr (fun _ => none)))))) (2 * n)) 19 (some y) = true := fun {y} h => by
      obtain ⟨y1, vs, y2⟩ := okO_of h
      exact okO_mk (List.mem_cons_of_mem _ y1) (hup y1 y2)
    refine bl107 (S0 := S2) (la := la) (l2 := Zz S2) (cp := cp) (f := f) (by omega) hcn (Nat.le_refl _) (by omega) (fun S5 f5 w1 w2 w3 w4 w5 w6 w7 w8 w9 w10 => hfin S5 (Zz S2) (2 * n) f5 w1 w2 w3 w4 (by omega) (by omega) (by omega) (by omega) (Or.inr rfl) w5 w6 w7 (by omega) (by omega) w10) bigN 0 (by show n < 0 + 1000000000000; omega) (by omega) (List.mem_cons_of_mem _ he2) (hup he2 hF2) (List.mem_cons_of_mem _ hl2) (hup hl2 hR2) List.mem_cons_self updE_s (by omega) (fun i hi => by obtain ⟨y, y1, y2⟩ := hy2 i hi; exact ⟨y, y1, hoku y2⟩) (fun i hi => absurd hi (by omega)) GR.un rfl rfl rfl (fun y hy => hoku hy)
  · have hlt : n < cp := by
      rcases Nat.lt_or_ge n cp with w | w
      · exact w
      · exact absurd (by rw [show n = cp by omega]) q
    exact hfin S2 la cp f he2 hF2 hl2 hR2 hlt h11 h10 (Nat.le_refl _) (Or.inl rfl) (fun _ _ => rfl) GR.rf rfl (by omega) (Nat.le_refl _) (fun _ h => h)
end BST
end
-- k4.o.lean.txt
section
/-- the statements below -/
def HSt (K : Ky) (T : Nat) (V : Sg → Option (Sg × Option Nat)) (d : Nat) : Prop := ∀ (S : Sg) (pp ns vv bb : Nat), RZ S T pp ns vv bb → Zi S 3 = 0 → bb ≤ 54 → vv ≤ 40 → ns ≤ 16 → 18 ≤ ns + d → Zz S + 8 * (T - pp) + 16 ≤ K.2.1 → Zn S + 120 * (T - pp) + 520 ≤ K.2.2 → Rt (f_statement K V S) (NP K T S pp ns vv bb 0 19 (2 * (16 - ns) + 2) 3 50 7 110)
section BLO
variable {K : Ky} {T : Nat} {V : Sg → Option (Sg × Option Nat)} {d pp ns bb vv : Nat} {S : Sg} {e : Nat}
/-- the end of a block -/
theorem bl161 {S1 : Sg} {p1 b1 v1 n cp : Nat} (hp : pp ≤ p1 ∧ bb ≤ b1 ∧ b1 ≤ bb + (p1 - pp)) (hB : BW K (Zr S 5) (2 * (16 - ns)) S S1 e pp n cp p1 bb b1 vv v1) (hg : GR nX S S1) (z1 : RZ S1 T p1 (ns + 1) v1 b1) (k1 : Zz S1 ≤ Zz S + 8 * (p1 - pp) + 2) (k2 : Zn S1 ≤ Zn S + 120 * (p1 - pp) + 10) (k3 : Zi S1 3 = 0 → pp < p1 ∧ b1 ≤ 54 ∧ v1 ≤ 40 ∧ Zz S1 + 2 * n + 6 ≤ Zz S + 8 * (p1 - pp) ∧ Zn S1 + 50 * n + 120 ≤ Zn S + 120 * (p1 - pp) + 2 * cp) : Rt (f_block_161 K V S1 (some e)) (NP K T S pp ns vv bb 1 14 (2 * (16 - ns) + 1) 8 100 2 10) := by
  obtain ⟨f, L, la, h1, h2, h3, h4, h5, h6, h7, h8, h9, h10, h11, h12, h13, h14⟩ := hB
  unfold f_block_161
  refine Rt.nd z1 (fun S5 g5 z5 i5 => ?_)
  have s5 : St nX S S5 e (.inr (14, [.int (nI pp), .int 0, .ref la, .int (nI n)])) (8 * (p1 - pp) + 2) (120 * (p1 - pp) + 10) := St.ss ⟨hg, fun q => absurd q (by omega), h1, h2, k1, k2⟩ g5
  refine Rt.pv s5 z5 (Nat.le_of_ble_eq_true rfl) (show Value.int (Zi S5 10) = .int (nI p1) by rw [z5.1.1]) (fun S6 s6 z6 u6 => ?_)
  refine Rt.bn (take_ z6 (by decide)) (fun S7 _ q7 => Rt.rt ?_)
  obtain ⟨p7, z7, g7, w1, w2, w3⟩ := q7
  have s7 : St nX S S7 e (.inr (14, [.int (nI pp), .int (nI p1), .ref la, .int (nI n)])) (8 * (p1 - pp) + 2) (120 * (p1 - pp) + 10) := s6.ss g7
  have x1 := s7.2.2.2.2.1; have x2 := s7.2.2.2.2.2
  have y1 : Zz S7 = Zz S1 := g7.2.2.2.1.trans (u6.2.2.1.trans g5.2.2.2.1)
  have y2 : Zn S7 = Zn S1 := g7.2.2.2.2.trans (u6.2.2.2.1.trans g5.2.2.2.2)
  have hss := z7.2.2.2.2 _ s7.2.2.1
  refine ⟨p7, v1, b1, e, rfl, z7, s7.1, by omega, by omega, by omega, ⟨h5, hss, _, s7.2.2.2.1⟩, fun q => ?_⟩
  have q1 : Zi S1 3 = 0 := by rw [← i5, ← u6.2.2.2.2.1]; exact g7.1.2.2.2.2.2 q
  have w4 := (w3 q).2
  obtain ⟨c1, c2, c3, c4, c5⟩ := k3 q1
  subst w4
  have hF : ∀ a : Nat, a ≠ e → ZF S7 a = ZF S1 a := fun a ha => by rw [g7.2.1, u6.1 a ha, g5.2.1]
  have hlz := z1.2.2.2.2 _ h3
  have e1 : la ≠ e := fun w => ne_or h2 h4 w.symm
  refine ⟨by omega, by omega, c2, c3, isN_B (n := 2 * (16 - ns)) (iv_m.mpr ⟨h5, hss⟩) (iv_m.mpr ⟨h6, by omega⟩) s7.2.2.2.1 ((hF la e1).trans h4) (by omega) h9 (chN_im (fun y p q b c v w z => isS_im (fun a ha => ⟨iv_m.mpr ⟨(h12 a ha).1, by have := (h12 a ha).2; omega⟩, hF a (fun w => h7 (w ▸ ha))⟩) _ (Nat.le_refl _) z) (h14 q1))⟩
theorem BW.cp {fk : Nat → Int32} {N n cp p1 b1 v1 : Nat} {S1 : Sg} (h : BW K fk N S S1 e pp n cp p1 bb b1 vv v1) : 4 ≤ cp ∧ cp ≤ 4 + 2 * n := by
  obtain ⟨f, L, la, h1, h2, h3, h4, h5, h6, h7, h8, h9, h10, h11, _⟩ := h
  exact ⟨h10, h11⟩
/-- .. its loop -/
theorem bl61 (hst : HSt K T V d) (hd : 18 ≤ ns + 1 + d) (r1 : Zz S + 8 * (T - pp) + 12 ≤ K.2.1) (r2 : Zn S + 120 * (T - pp) + 460 ≤ K.2.2) : ∀ (m : Nat) {S1 : Sg} {p1 b1 v1 n cp : Nat}, 1 ≤ m → (Zi S1 3 = 0 → T + 1 ≤ p1 + m) → (pp ≤ p1 ∧ bb ≤ b1 ∧ b1 ≤ bb + (p1 - pp)) → BW K (Zr S 5) (2 * (16 - ns)) S S1 e pp n cp p1 bb b1 vv v1 → GR nX S S1 → RZ S1 T p1 (ns + 1) v1 b1 → Zz S1 ≤ Zz S + 8 * (p1 - pp) + 2 → Zn S1 ≤ Zn S + 120 * (p1 - pp) + 10 → (Zi S1 3 = 0 → ns + 1 ≤ 16 ∧ pp + 1 + n ≤ p1 ∧ b1 ≤ 54 ∧ v1 ≤ 40 ∧ Zz S1 + 2 * n + 6 ≤ Zz S + 8 * (p1 - pp) ∧ Zn S1 + 50 * n + 120 ≤ Zn S + 120 * (p1 - pp) + 2 * cp) → Rt (f_block_61 K V m S1 (some e)) (NP K T S pp ns vv bb 1 14 (2 * (16 - ns) + 1) 8 100 2 10)
  | 0, _, _, _, _, _, _, h, _, _, _, _, _, _, _, _ => absurd h (by omega)
  | m + 1, S1, p1, b1, v1, n, cp, _, hm, hp, hB, hg, z1, k1, k2, k3 => by
    have hT1 := z1.1.2.1; have hT := z1.1.2.2.1
    have hcp := hB.cp
    have hend : Rt (f_block_161 K V S1 (some e)) (NP K T S pp ns vv bb 1 14 (2 * (16 - ns) + 1) 8 100 2 10) := bl161 hp hB hg z1 k1 k2 (fun q => by have := k3 q; exact ⟨by omega, this.2.2⟩)
    unfold f_block_61
    refine Rt.ok (fun q1 => Rt.is z1 (fun _ => hend) (fun _ => ?_)) (fun _ => hend)
    obtain ⟨c1, c2, c3, c4, c5, c6⟩ := k3 q1
    have hm1 := hm q1
    refine Rt.bn (hst S1 p1 (ns + 1) v1 b1 z1 q1 c3 c4 c1 hd (by omega) (by omega)) (fun S2 r2' q2 => ?_)
    obtain ⟨p2, v2, b2, x, e2, z2, g2, w1, w2, w3, w4, w5⟩ := q2
    subst e2
    have hT2 := z2.1.2.1
    have hfk : Zr S1 5 = Zr S 5 := by rw [hg.2.1.1]
    refine bstep hB hg z1.2.2.2.2 z2 g2 w4 (fun q => by rw [← hfk]; exact (w5 q).2.2.2.2) (show 2 * (16 - (ns + 1)) + 2 ≤ 2 * (16 - ns) by omega) (by omega) (by omega) (by omega) (fun S3 cp3 v3 g3 z3 i3 y1 y2 y3 => ?_)
    have hcp3 := v3.cp
    have hq2 : Zi S3 3 = 0 → Zi S2 3 = 0 := fun q => by rw [← i3]; exact q
    refine bl61 hst hd r1 r2 m (by omega) (fun q => ?_) (by omega) v3 g3 z3 (by omega) (by omega) (fun q => ?_)
    · have := (isN_lt (w5 (hq2 q)).2.2.2.2).2; omega
    · obtain ⟨d1, d2, d3, d4, d5⟩ := w5 (hq2 q)
      have := (isN_lt d5).2
      exact ⟨c1, by omega, d3, d4, by omega, by omega⟩
/-- a block -/
theorem blk_ (hst : HSt K T (f_block K d) d) : HVb K T (f_block K (d + 1)) (d + 1) := fun S pp ns vv bb h hb hd0 hd r1 r2 => by
  have hp := h.1.2.1; have hT := h.1.2.2.1
  unfold f_block
  refine Rt.nw (X := nX) h (by omega) (by omega) (fun S1 s1 z1 i1 => ?_)
  have x1 := s1.2.2.2.2.1; have x2 := s1.2.2.2.2.2
  have hez := z1.2.2.2.2 _ s1.2.2.1
  -- its row
  refine Rt.bn (Q := fun S3 _ => St nX S S3 (Zz S) (.inr (14, [.int 0, .int 0, .ref (Zz S1), .int (nI 0)])) 2 8 ∧ RZ S3 T pp ns vv bb ∧ Zi S3 = Zi S ∧ Zz S1 ∈ ZL S3 ∧ ZF S3 (Zz S1) = .inl (K.1 11, 4, .inr (.inr (.inr (.inr (fun _ => none))))) ∧ Zz S3 = Zz S1 + 1) ?_ (fun S3 _ q3 => ?_)
  · unfold f_X14_init
    refine Rt.be (nQ_ok (n := 4) (by decide) ⟨by omega, by omega⟩) ?_
    have s2 := s1.cl (GR.un (X := nX) (S := S1) (c := .inl (K.1 11, 4, .inr (.inr (.inr (.inr (fun _ => none)))))) (n := 4)) hez (z1 := 1) (n1 := 4) (Nat.le_refl _) (Nat.le_refl _)
    refine Rt.pv s2 z1.un (Nat.le_of_ble_eq_true rfl) (show va_rf (some (Zz S1)) = .ref (Zz S1) from rfl) (fun S3 s3 z3 u3 => Rt.rt ⟨s3, z3, u3.2.2.2.2.1.trans i1, by rw [u3.2.1]; exact List.mem_cons_self, by rw [u3.1 _ (by omega)]; exact updE_s, u3.2.2.1⟩)
  obtain ⟨s3, z3, i3, m3, f3, e3⟩ := q3
  have h01 := s1.1.2.2.2.2.1.1
  refine Rt.ok (fun q => ?_) (fun q => Rt.rt ⟨pp, vv, bb, Zz S, rfl, z3, s3.1, by omega, by have := s3.2.2.2.2.1; omega, by have := s3.2.2.2.2.2; omega, ⟨Nat.le_refl _, by omega, _, s3.2.2.2.1⟩, fun w => absurd w q⟩)
  have q0 : Zi S 3 = 0 := by rw [← i3]; exact q
  obtain ⟨hb1, hv1⟩ := hb q0
  obtain ⟨hn, hd⟩ := hd q0
  refine Rt.pv s3 z3 (Nat.le_of_ble_eq_true rfl) (show Value.int (Zi S3 10) = .int (nI pp) by rw [z3.1.1]) (fun S7 s7 z7 u7 => ?_)
  have s7 : St nX S S7 (Zz S) (.inr (14, [.int (nI pp), .int 0, .ref (Zz S1), .int (nI 0)])) 2 8 := s7
  have f7 : ZF S7 (Zz S1) = .inl (K.1 11, 4, .inr (.inr (.inr (.inr (fun _ => none))))) := by rw [u7.1 _ (by omega)]; exact f3
  have m7 : Zz S1 ∈ ZL S7 := by rw [u7.2.1]; exact m3
  have h55 : ∀ S8 : Sg, SS S7 S8 → RZ S8 T pp (ns + 1) vv bb → (Zi S8 3 = 0 → ns ≠ 16 ∨ ¬ Zr S 5 pp = 63) → Rt (f_block_55 K (f_block K d) S8 (some (Zz S))) (NP K T S pp ns vv bb 1 14 (2 * (16 - ns) + 1) 8 100 2 10) := fun S8 g8 z8 h8 => by
    unfold f_block_55
    refine Rt.bn (take_ z8 (by decide)) (fun S9 _ q9 => ?_)
    obtain ⟨p9, z9, g9, w1, w2, w3⟩ := q9
    have g79 := g8.tr g9
    have s9 := s7.ss g79
    have y1 := s9.2.2.2.2.1; have y2 := s9.2.2.2.2.2
    have hgd : Zi S9 3 = 0 → p9 = pp + 1 ∧ ns + 1 ≤ 16 := fun q => by
      have k1 := w3 q
      have := (h8 (g9.1.2.2.2.2.2 q)).resolve_right (fun w => w (by rw [← k1.1, g8.1.2.1.1, s7.1.2.1.1]))
      exact ⟨k1.2, by omega⟩
    refine bl61 hst (by omega) r1 r2 bigN (n := 0) (cp := 4) (by decide) (fun _ => by show T + 1 ≤ p9 + 1000000000000; omega) (by omega) ⟨fun _ => none, [], Zz S1, s9.2.2.1, s9.2.2.2.1, by rw [g79.2.2.1]; exact m7, by rw [g79.2.1]; exact f7, Nat.le_refl _, h01, List.not_mem_nil, List.not_mem_nil, by omega, by omega, by omega, fun a ha => absurd ha List.not_mem_nil, fun i hi => absurd hi (by omega), fun q => ?_⟩ s9.1 z9 (by omega) (by omega) (fun q => ?_)
    · rw [(hgd q).1]; exact chN_0
    · have := hgd q
      exact ⟨by omega, by omega, hb1, hv1, by omega, by omega⟩
  refine Rt.is z7 (fun hk => ?_) (fun hk => ?_)
  · rw [z7.1.1]
    refine Rt.bn (enter_ z7 (by omega)) (fun S8 _ q8 => ?_)
    exact h55 S8 q8.2.1 q8.1 (fun q => Or.inl (q8.2.2 q))
  · refine Rt.ni z7 (fun S8 g8 z8 i8 => h55 S8 g8 z8 (fun _ => Or.inr (by rw [← s7.1.2.1.1]; exact hk)))
end BLO
end
