/-- the values of an exp as its reader makes it -/
def xpV (kd : Int32) (tk : Nat) (sg nm : Int32) (num : Int64) (mu : Int32) (vo li si : Value) (mn : Nat) : List Value := [.int kd, .int (nI tk), .int sg, .int nm, .int 0, .int 0, .long num, .int mu, vo, li, si, .int (nI mn), .null, .null]
theorem St.tr {X : Nat → Prop} {S S1 S2 : Sg} {a z1 n1 z2 n2 : Nat} {c1 c2 : va_E} (h : St X S S1 a c1 z1 n1) (g : St X S1 S2 a c2 z2 n2) : St X S S2 a c2 (z1 + z2) (n1 + n2) := ⟨h.1.tr g.1 (fun _ _ q => q), h.2.1, g.2.2.1, g.2.2.2.1, by have := h.2.2.2.2.1; have := g.2.2.2.2.1; omega, by have := h.2.2.2.2.2; have := g.2.2.2.2.2; omega⟩
section NML
variable {K : Ky} {T : Nat} {V : Sg → Int32 → Option (Sg × Option Nat)} {V2 : Sg → Option (Sg × Option Nat)} {d : Nat} {S : Sg} {pp ns vv bb e : Nat}
/-- what the member of a name makes of e -/
def NmQ (K : Ky) (S : Sg) (pp ns bb : Nat) (S2 : Sg) (pp2 bb2 : Nat) (fs2 : List Value) : Prop := (fs2 = xpV 2 pp 0 (nI pp) 0 0 .null .null .null 0 ∧ bb2 = bb) ∨ ∃ (kd sg : Int32) (li si : Value) (mn p' : Nat), fs2 = xpV kd pp sg (nI pp) 0 0 .null li si mn ∧ ((kd = 3 ∧ sg = 0) ∨ (kd = 6 ∧ sg = nI (pp + 2) ∧ pp + 2 < pp2)) ∧ pp < p' ∧ isQk 0 (16 - ns) (isE (iv (Zz S) (Zz S2)) (ZF S2) (K.1 9) (K.1 0) (24 * (16 - ns))) (iv (Zz S) (Zz S2)) (ZF S2) (K.1 9) (K.1 0) li si mn p' pp2 bb bb2
theorem nam_ (hV : HVc K T V d) (h : RZ S T pp ns vv bb) (hk2 : Zr S 5 pp = 2) (q0 : Zi S 3 = 0) (hb : bb ≤ 54) (hn : ns ≤ 16) (hd : 7 * (17 - ns) ≤ d) (r1 : Zz S + 8 * (T - pp) + 3 ≤ K.2.1) (r2 : Zn S + 120 * (T - pp) + 280 ≤ K.2.2) (he : e ∈ ZL S) (hF : ZF S e = .inr (15, xpV 0 pp 0 0 0 0 .null .null .null 0)) : Rt (f_named K V V2 S (some e)) (fun S2 _ => EP K T S pp ns vv bb e (NmQ K S pp ns bb) S2) := by
  have hp := h.1.2.1; have hT := h.1.2.2.1
  have s0 : St (fun b => b = e) S S e (.inr (15, xpV 0 pp 0 0 0 0 .null .null .null 0)) 0 0 := ⟨GR.rf, fun _ => rfl, he, hF, Nat.le_refl _, Nat.le_refl _⟩
  unfold f_named f_named_92
  refine Rt.pv s0 h (Nat.le_of_ble_eq_true rfl) (show Value.int (Zi S 10) = .int (nI pp) by rw [h.1.1]) (fun S1 s1 z1 u1 => ?_)
  refine Rt.pi z1 (z1.nx (k := 2) (by rw [u1.2.2.2.2.2.1]; exact hk2) (by decide)) (fun S2 g2 z2 i2 => ?_)
  have s2 : St (fun b => b = e) S S2 e (.inr (15, xpV 0 pp 0 (nI pp) 0 0 .null .null .null 0)) 0 0 := s1.ss g2
  have y1 : Zz S2 = Zz S := g2.2.2.2.1.trans u1.2.2.1
  have y2 : Zn S2 = Zn S := g2.2.2.2.2.trans u1.2.2.2.1
  have q2 : Zi S2 3 = 0 := by rw [i2, u1.2.2.2.2.1]; exact q0
  -- the list behind
  have hlist : ∀ (S4 : Sg) (p4 : Nat) (kd sg : Int32), St (fun b => b = e) S S4 e (.inr (15, xpV kd pp sg (nI pp) 0 0 .null .null .null 0)) 0 0 → RZ S4 T p4 ns vv bb → Zz S4 = Zz S → Zn S4 = Zn S → pp < p4 → (Zi S4 3 = 0 → (kd = 3 ∧ sg = 0) ∨ (kd = 6 ∧ sg = nI (pp + 2) ∧ pp + 2 < p4)) → Rt (bnd (f_list K V V2 S4 (some e)) fun S16 v17 => some (S16, ())) (fun S2 _ => EP K T S pp ns vv bb e (NmQ K S pp ns bb) S2) := fun S4 p4 kd sg s4 z4 w1 w2 w3 w4 => by
    have hT4 := z4.1.2.1
    refine Rt.bn (lst_ hV z4 (fun _ => hb) (by omega) (fun _ => ⟨hn, hd⟩) (by omega) (by omega) (by omega) s4.2.2.1 s4.2.2.2.1 rfl rfl rfl rfl (kd := kd) rfl) (fun S5 _ q5 => Rt.rt ?_)
    obtain ⟨p5, b5, fs5, z5, s5, k1, k2, k3⟩ := q5
    refine ⟨p5, b5, fs5, z5, (s4.tr s5).le (by omega) (by omega), by omega, k2, fun q => ?_⟩
    obtain ⟨k4, k5, li, si, mn, k6, k7⟩ := k3 q
    rw [w1] at k7
    refine ⟨k4, by omega, Or.inr ⟨kd, sg, li, si, mn, p4, k6, ?_, w3, k7⟩⟩
    rcases w4 (s5.1.2.2.2.2.2 q) with w | ⟨wa, wb, wc⟩
    · exact Or.inl w
    · exact Or.inr ⟨wa, wb, by omega⟩
  have hnone : ∀ (S4 : Sg) (p4 : Nat) (fs4 : List Value), St (fun b => b = e) S S4 e (.inr (15, fs4)) 0 0 → RZ S4 T p4 ns vv bb → pp < p4 → fs4.length = 14 → (Zi S4 3 = 0 → NmQ K S pp ns bb S4 p4 bb fs4) → Rt (some (S4, ())) (fun S2 _ => EP K T S pp ns vv bb e (NmQ K S pp ns bb) S2) := fun S4 p4 fs4 s4 z4 w1 w2 w3 => Rt.rt ⟨p4, bb, fs4, z4, s4.le (by omega) (by omega), by omega, w2, fun q => ⟨hb, w1, w3 q⟩⟩
  refine Rt.is z2 (fun hk => ?_) (fun hk => ?_)
  · refine Rt.pv s2 z2 (Nat.le_of_ble_eq_true rfl) rfl (fun S4 s4 z4 u4 => ?_)
    exact hlist S4 (pp + 1) 3 0 s4 z4 (u4.2.2.1.trans y1) (u4.2.2.2.1.trans y2) (by omega) (fun _ => Or.inl ⟨rfl, rfl⟩)
  · refine Rt.bn (takes_ z2 (by decide)) (fun S3 r3 q3 => ?_)
    obtain ⟨p3, z3, g3, i3, q3⟩ := q3
    have s3 := s2.ss g3
    rcases q3 with ⟨e1, e2, _⟩ | ⟨e1, e2, _, _⟩
    · subst e1 e2
      refine Rt.ip rfl (Rt.pv s3 z3 (Nat.le_of_ble_eq_true rfl) rfl (fun S4 s4 z4 u4 => ?_))
      exact hnone S4 _ _ s4 z4 (by omega) rfl (fun _ => Or.inl ⟨rfl, rfl⟩)
    · subst e1 e2
      refine Rt.iq (by decide) (Rt.pv s3 z3 (Nat.le_of_ble_eq_true rfl) rfl (fun S4 s4 z4 u4 => ?_))
      refine Rt.bn (name_ z4) (fun S5 r5 q5 => ?_)
      obtain ⟨p5, z5, g5, w1, w2, w3⟩ := q5
      have s5 := s4.ss g5
      refine Rt.pv s5 z5 (Nat.le_of_ble_eq_true rfl) rfl (fun S6 s6 z6 u6 => ?_)
      have i6 : Zi S6 3 = Zi S5 3 := by rw [u6.2.2.2.2.1]
      have y3 : Zz S6 = Zz S := u6.2.2.1.trans (g5.2.2.2.1.trans (u4.2.2.1.trans (g3.2.2.2.1.trans y1)))
      have y4 : Zn S6 = Zn S := u6.2.2.2.1.trans (g5.2.2.2.2.trans (u4.2.2.2.1.trans (g3.2.2.2.2.trans y2)))
      have s6 : St (fun b => b = e) S S6 e (.inr (15, xpV 6 pp r5 (nI pp) 0 0 .null .null .null 0)) 0 0 := s6
      have hg6 : Zi S6 3 = 0 → r5 = nI (pp + 2) ∧ pp + 2 < p5 := fun q => by
        obtain ⟨w4, w5, w6⟩ := w3 (by rw [← i6]; exact q)
        exact ⟨w6, by omega⟩
      have hno : Rt (some (S6, ())) (fun S2 _ => EP K T S pp ns vv bb e (NmQ K S pp ns bb) S2) := hnone S6 p5 _ s6 z6 (by omega) rfl (fun q => Or.inr ⟨6, r5, .null, .null, 0, pp + 1, rfl, Or.inr ⟨rfl, hg6 q⟩, by omega, 0, Or.inr rfl, Or.inl ⟨rfl, rfl, rfl, by omega⟩⟩)
      refine Rt.ok (fun q => Rt.is z6 (fun _ => ?_) (fun _ => hno)) (fun _ => hno)
      exact hlist S6 p5 6 r5 s6 z6 y3 y4 (by omega) (fun q => Or.inr ⟨rfl, hg6 q⟩)
/-- primary -/
theorem pri_ (hV : HVc K T V d) (h : RZ S T pp ns vv bb) (q0 : Zi S 3 = 0) (hb : bb ≤ 54) (hn : ns ≤ 16) (hd : 7 * (17 - ns) ≤ d) (r1 : Zz S + 8 * (T - pp) + 4 ≤ K.2.1) (r2 : Zn S + 120 * (T - pp) + 300 ≤ K.2.2) : Rt (f_primary K V V2 S) (XP K T S pp ns vv bb (24 * (16 - ns) + 1) 1 14) := by
  have hp := h.1.2.1; have hT := h.1.2.2.1
  unfold f_primary f_primary_253
  refine Rt.nw (X := nX) h (by omega) (by omega) (fun S1 s1 z1 i1 => ?_)
  refine Rt.pv s1 z1 (Nat.le_of_ble_eq_true rfl) (show Value.int (Zi S1 10) = .int (nI pp) by rw [z1.1.1]) (fun S5 s5 z5 u5 => ?_)
  have s5 : St nX S S5 (Zz S) (.inr (15, xpV 0 pp 0 0 0 0 .null .null .null 0)) 1 14 := s5
  have q5 : Zi S5 3 = 0 := by rw [u5.2.2.2.2.1, i1]; exact q0
  have f5 : Zr S5 5 = Zr S 5 := by rw [s5.1.2.1.1]
  have hz1 : Zz S1 = Zz S + 1 := by have := s1.2.2.2.2.1; have := z1.2.2.2.2 _ s1.2.2.1; omega
  have y1 : Zz S5 = Zz S + 1 := u5.2.2.1.trans hz1
  have y2 := s5.2.2.2.2.2
  have hpn : ∀ k : Int32, Zr S5 5 pp = k → k ≠ 0 → pp + 1 < T := fun k e1 e2 => z5.nx e1 e2
  have hal : ∀ {Q : Sg} {c : va_E} {p2 n2 v2 b2 zz nn : Nat}, St nX S Q (Zz S) c zz nn → RZ Q T p2 n2 v2 b2 → Zz S ≤ Zz S ∧ Zz S < Zz Q := fun s w => ⟨Nat.le_refl _, w.2.2.2.2 _ s.2.2.1⟩
  -- a member has filled the exp
  have hEP : ∀ (S6 : Sg) (p6 : Nat) (fs6 : List Value) (Q : Sg → Nat → Nat → List Value → Prop) (S7 : Sg), St nX S S6 (Zz S) (.inr (15, fs6)) 1 14 → Zz S6 = Zz S + 1 → pp ≤ p6 → EP K T S6 p6 ns vv bb (Zz S) Q S7 → (∀ (p7 b7 : Nat) (fs7 : List Value), RZ S7 T p7 ns vv b7 → ZF S7 (Zz S) = .inr (15, fs7) → p6 < p7 → Zz S < Zz S7 → (∀ (a b : Nat), Q S7 p7 b7 fs7 → True) → Q S7 p7 b7 fs7 → isE (iv (Zz S) (Zz S7)) (ZF S7) (K.1 9) (K.1 0) (24 * (16 - ns) + 1) (16 - ns) (Zz S) pp p7 bb b7) → Rt (some (S7, some (Zz S))) (XP K T S pp ns vv bb (24 * (16 - ns) + 1) 1 14) := fun S6 p6 fs6 Q S7 s6 w1 w2 hE w3 => by
    obtain ⟨p7, b7, fs7, z7, s7, k1, k2, k3⟩ := hE
    have s07 : St nX S S7 (Zz S) (.inr (15, fs7)) (1 + 8 * (p7 - p6)) (14 + 120 * (p7 - p6)) := ⟨s6.1.tr s7.1 (fun b hb q => absurd q (by omega)), fun q => absurd q (by omega), s7.2.2.1, s7.2.2.2.1, by have := s7.2.2.2.2.1; have := s6.2.2.2.2.1; omega, by have := s7.2.2.2.2.2; have := s6.2.2.2.2.2; omega⟩
    have x1 := s07.2.2.2.2.1; have x2 := s07.2.2.2.2.2
    refine Rt.rt ⟨p7, b7, Zz S, rfl, z7, s07.1, by omega, by omega, by omega, ⟨(hal s07 z7).1, (hal s07 z7).2, _, s07.2.2.2.1⟩, fun q => ?_⟩
    obtain ⟨k4, k5, k6⟩ := k3 q
    exact ⟨k4, w3 p7 b7 fs7 z7 s07.2.2.2.1 k5 (hal s07 z7).2 (fun _ _ _ => trivial) k6⟩
  -- a leaf
  have hleaf : ∀ (S6 : Sg) (kd : Int32) (num : Int64), St nX S S6 (Zz S) (.inr (15, xpV kd pp 0 0 num 0 .null .null .null 0)) 1 14 → RZ S6 T (pp + 1) ns vv bb → (kd = 0 ∨ kd = 1 ∨ kd = 15) → Rt (some (S6, some (Zz S))) (XP K T S pp ns vv bb (24 * (16 - ns) + 1) 1 14) := fun S6 kd num s6 z6 hk => by
    have x1 := s6.2.2.2.2.1; have x2 := s6.2.2.2.2.2
    exact Rt.rt ⟨pp + 1, bb, Zz S, rfl, z6, s6.1, by omega, by omega, by omega, ⟨(hal s6 z6).1, (hal s6 z6).2, _, s6.2.2.2.1⟩, fun _ => ⟨hb, isE_1 (iv_m.mpr (hal s6 z6)) (by omega) hk s6.2.2.2.1⟩⟩
  refine Rt.bd z5.kd ?_
  refine Rt.it (fun k2 => ?_) (fun _ => Rt.it (fun k3 => ?_) (fun _ => Rt.it (fun k21 => ?_) (fun _ => Rt.it (fun k22 => ?_) (fun _ => Rt.it (fun k24 => ?_) (fun _ => Rt.it (fun k25 => ?_) (fun _ => Rt.it (fun k28 => ?_) (fun _ => Rt.it (fun k61 => ?_) (fun _ => ?_))))))))
  · refine Rt.bn (nam_ hV z5 k2 q5 hb hn hd (by omega) (by omega) s5.2.2.1 s5.2.2.2.1) (fun S7 _ q7 => ?_)
    refine hEP S5 pp _ _ S7 s5 y1 (Nat.le_refl _) q7 (fun p7 b7 fs7 z7 hF7 hp7 hz7 _ hQ => ?_)
    have hx : exS (iv (Zz S5) (Zz S7)) (ZF S7) (iv (Zz S) (Zz S7)) (ZF S7) := iv_ex (by omega) (Nat.le_refl _) (fun _ _ _ => rfl)
    rcases hQ with ⟨c1, c2⟩ | ⟨kd, sg, li, si, mn, p', c1, c2, c3, c4⟩
    · subst c1 c2
      exact isE_2 (iv_m.mpr ⟨Nat.le_refl _, hz7⟩) hp7 hF7
    · subst c1
      refine isE_7 (z := 0) (iv_m.mpr ⟨Nat.le_refl _, hz7⟩) hp7 hF7 ?_ c3 (isQk_im hx (Nat.le_refl _) (fun k k2 x p q b c hk w => isE_im hx _ (Nat.le_refl _) w hk) c4)
      rcases c2 with ⟨c2, c5⟩ | ⟨c2, c5, c6⟩
      · exact Or.inl ⟨c2, rfl, c5⟩
      · exact Or.inr (Or.inr ⟨c2, rfl, c5, c6⟩)
  · refine Rt.pv s5 z5 (Nat.le_of_ble_eq_true rfl) rfl (fun S6 s6 z6 u6 => ?_)
    refine Rt.bd (v := Zl S6 8 pp) (by rw [z6.1.1]; exact rJ_n (show pp < 3002 by omega) (by decide)) ?_
    refine Rt.pv s6 z6 (Nat.le_of_ble_eq_true rfl) rfl (fun S7 s7 z7 u7 => ?_)
    refine Rt.pi z7 (hpn _ k3 (by decide)) (fun S8 g8 z8 i8 => ?_)
    exact hleaf S8 0 (Zl S6 8 pp) (s7.ss g8) z8 (Or.inl rfl)
  · unfold f_primary_131 f_primary_151 f_primary_253
    refine Rt.pv s5 z5 (Nat.le_of_ble_eq_true rfl) rfl (fun S6 s6 z6 u6 => Rt.is z6 (fun _ => ?_) (fun _ => ?_))
    · refine Rt.pv s6 z6 (Nat.le_of_ble_eq_true rfl) rfl (fun S7 s7 z7 u7 => Rt.pi z7 (hpn _ k21 (by decide)) (fun S8 g8 z8 i8 => hleaf S8 1 1 (s7.ss g8) z8 (Or.inr (Or.inl rfl))))
    · refine Rt.pv s6 z6 (Nat.le_of_ble_eq_true rfl) rfl (fun S7 s7 z7 u7 => Rt.pi z7 (hpn _ k21 (by decide)) (fun S8 g8 z8 i8 => hleaf S8 1 0 (s7.ss g8) z8 (Or.inr (Or.inl rfl))))
  · unfold f_primary_131 f_primary_151 f_primary_253
    refine Rt.pv s5 z5 (Nat.le_of_ble_eq_true rfl) rfl (fun S6 s6 z6 u6 => Rt.is z6 (fun _ => ?_) (fun _ => ?_))
    · refine Rt.pv s6 z6 (Nat.le_of_ble_eq_true rfl) rfl (fun S7 s7 z7 u7 => Rt.pi z7 (hpn _ k22 (by decide)) (fun S8 g8 z8 i8 => hleaf S8 1 1 (s7.ss g8) z8 (Or.inr (Or.inl rfl))))
    · refine Rt.pv s6 z6 (Nat.le_of_ble_eq_true rfl) rfl (fun S7 s7 z7 u7 => Rt.pi z7 (hpn _ k22 (by decide)) (fun S8 g8 z8 i8 => hleaf S8 1 0 (s7.ss g8) z8 (Or.inr (Or.inl rfl))))
  · refine Rt.pv s5 z5 (Nat.le_of_ble_eq_true rfl) rfl (fun S6 s6 z6 u6 => ?_)
    have w1 := u6.2.2.1; have w2 := u6.2.2.2.1
    refine Rt.bn (nfs_ hV z6 (by rw [u6.2.2.2.2.2.1]; exact k24) (fun _ => hb) (by omega) (fun _ => ⟨hn, hd⟩) (by omega) (by omega) (by omega) s6.2.2.1 s6.2.2.2.1 rfl rfl rfl rfl rfl rfl) (fun S7 _ q7 => ?_)
    refine hEP S6 pp _ _ S7 s6 (by omega) (Nat.le_refl _) q7 (fun p7 b7 fs7 z7 hF7 hp7 hz7 _ hQ => ?_)
    obtain ⟨li, si, mn, c1, c2, c3⟩ := hQ
    subst c1
    have hx : exS (iv (Zz S6) (Zz S7)) (ZF S7) (iv (Zz S) (Zz S7)) (ZF S7) := iv_ex (by omega) (Nat.le_refl _) (fun _ _ _ => rfl)
    exact isE_7 (z := 1) (iv_m.mpr ⟨Nat.le_refl _, hz7⟩) hp7 hF7 (Or.inr (Or.inl ⟨rfl, rfl, rfl, c2, rfl⟩)) (by omega) (isQk_im hx (Nat.le_refl _) (fun k k2 x p q b c hk w => isE_im hx _ (Nat.le_refl _) w hk) c3)
  · refine Rt.pv s5 z5 (Nat.le_of_ble_eq_true rfl) rfl (fun S6 s6 z6 u6 => ?_)
    have w1 := u6.2.2.1; have w2 := u6.2.2.2.1
    refine Rt.pi z6 (hpn _ k25 (by decide)) (fun S8 g8 z8 i8 => ?_)
    have w3 := g8.2.2.2.1; have w4 := g8.2.2.2.2
    have s8 := s6.ss g8
    refine Rt.bn (brk_ hV z8 (fun _ => hb) (by omega) (fun _ => ⟨hn, hd⟩) (by omega) (by omega) (by omega) s8.2.2.1 s8.2.2.2.1 rfl) (fun S7 _ q7 => ?_)
    refine hEP S8 (pp + 1) _ _ S7 s8 (by omega) (by omega) q7 (fun p7 b7 fs7 z7 hF7 hp7 hz7 _ hQ => ?_)
    obtain ⟨o, p', q', c1, c2, c3, c4⟩ := hQ
    subst c1
    have hx : exS (iv (Zz S8) (Zz S7)) (ZF S7) (iv (Zz S) (Zz S7)) (ZF S7) := iv_ex (by omega) (Nat.le_refl _) (fun _ _ _ => rfl)
    exact isE_3 (iv_m.mpr ⟨Nat.le_refl _, hz7⟩) (by omega) (Or.inl rfl) hF7 (by omega) c3 (isE_im hx _ (Nat.le_refl _) c4)
  · refine Rt.pv s5 z5 (Nat.le_of_ble_eq_true rfl) rfl (fun S6 s6 z6 u6 => ?_)
    refine Rt.pi z6 (hpn _ k28 (by decide)) (fun S8 g8 z8 i8 => hleaf S8 15 0 (s6.ss g8) z8 (Or.inr (Or.inr rfl)))
  · refine Rt.pv s5 z5 (Nat.le_of_ble_eq_true rfl) rfl (fun S6 s6 z6 u6 => ?_)
    have w1 := u6.2.2.1; have w2 := u6.2.2.2.1
    refine Rt.bn (brk_ hV z6 (fun _ => hb) (by omega) (fun _ => ⟨hn, hd⟩) (by omega) (by omega) (by omega) s6.2.2.1 s6.2.2.2.1 rfl) (fun S7 _ q7 => ?_)
    refine hEP S6 pp _ _ S7 s6 (by omega) (by omega) q7 (fun p7 b7 fs7 z7 hF7 hp7 hz7 _ hQ => ?_)
    obtain ⟨o, p', q', c1, c2, c3, c4⟩ := hQ
    subst c1
    have hx : exS (iv (Zz S6) (Zz S7)) (ZF S7) (iv (Zz S) (Zz S7)) (ZF S7) := iv_ex (by omega) (Nat.le_refl _) (fun _ _ _ => rfl)
    exact isE_3 (iv_m.mpr ⟨Nat.le_refl _, hz7⟩) (by omega) (Or.inr (Or.inl rfl)) hF7 (by omega) c3 (isE_im hx _ (Nat.le_refl _) c4)
  · rw [z5.1.1]
    refine Rt.be (fail_ (by omega)) (Rt.rt ?_)
    have s6 := s5.ss (SS.fl (S := S5) (wh := 1) (x := Zr S5 6 pp))
    have x1 := s6.2.2.2.2.1; have x2 := s6.2.2.2.2.2
    exact ⟨pp, bb, Zz S, rfl, z5.fl, s6.1, by omega, by omega, by omega, ⟨(hal s6 z5.fl).1, (hal s6 z5.fl).2, _, s6.2.2.2.1⟩, fun w => absurd w (flS_n0 (by decide))⟩
end NML
