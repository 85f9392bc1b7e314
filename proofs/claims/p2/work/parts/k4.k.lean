/-- the values of a statement as its reader makes it -/
def sxV (kd : Int32) (tk : Nat) (nm mu rf : Int32) (wr ex pl bl cs bs ar : Value) (mn : Nat) : List Value := [.int kd, .int (nI tk), .int nm, .int mu, .int rf, wr, ex, pl, .null, bl, cs, bs, ar, .int (nI mn)]
section IPL
variable {K : Ky} {S : Sg} {L : List Nat}
/-- isPlace -/
theorem isp_2 (hL : ∀ a ∈ L, a ∈ ZL S) : ∀ {n m a : Nat}, pwE L (ZF S) n a → n ≤ m → Rt (f_isPlace_2 K m S (some a)) (fun S2 r => S2 = S ∧ ((r = 1 ∧ plE (ZF S) n a) ∨ (r = 0 ∧ ¬ plE (ZF S) n a)))
  | 0, _, _, h, _ => h.elim
  | n + 1, 0, _, _, hm => absurd hm (by omega)
  | n + 1, m + 1, a, h, hm => by
    obtain ⟨ha, kd, vo, fs, h1, h2, h3, h4⟩ := h
    have hk := oI_mk (hL a ha) h1 h2
    unfold f_isPlace_2
    refine Rt.iq (fun q => by cases q) (Rt.bd hk ?_)
    have h33 : (kd = 7 ∨ kd = 14 ∨ kd = 11) → Rt (f_isPlace_33 K (f_isPlace_2 K m) S (some a)) (fun S2 r => S2 = S ∧ ((r = 1 ∧ plE (ZF S) (n + 1) a) ∨ (r = 0 ∧ ¬ plE (ZF S) (n + 1) a))) := fun hkd => by
      obtain ⟨o, ho, hw⟩ := h4 hkd
      subst ho
      unfold f_isPlace_33
      refine Rt.bd (oR_mk (v := some o) (hL a ha) h1 h3) (Rt.mo (isp_2 hL hw (by omega)) (fun S2 r q => ?_))
      rw [plE_dn h1 h2 h3 hkd]; exact q
    refine Rt.it (fun w => h33 (Or.inl w)) (fun w1 => Rt.bd hk (Rt.it (fun w => h33 (Or.inr (Or.inl w))) (fun w2 => Rt.bd hk (Rt.it (fun w => h33 (Or.inr (Or.inr w))) (fun w3 => ?_)))))
    have hno : ¬ (kd = 7 ∨ kd = 14 ∨ kd = 11) := fun w => w.elim w1 (fun w => w.elim w2 w3)
    unfold f_isPlace_41 f_isPlace_57 f_isPlace_58
    refine Rt.iq (fun q => by cases q) (Rt.bd hk (Rt.it (fun w => ?_) (fun w => ?_)))
    · exact Rt.zr (Or.inr rfl) ⟨rfl, Or.inl ⟨rfl, (plE_end h1 h2 h3 hno).mpr w⟩⟩
    · exact Rt.zr (Or.inl rfl) ⟨rfl, Or.inr ⟨rfl, fun q => w ((plE_end h1 h2 h3 hno).mp q)⟩⟩
theorem isp_ (hL : ∀ a ∈ L, a ∈ ZL S) {n a : Nat} (h : pwE L (ZF S) n a) (hn : n ≤ 1000) : Rt (f_isPlace K S (some a)) (fun S2 r => S2 = S ∧ ((r = 1 ∧ plE (ZF S) n a) ∨ (r = 0 ∧ ¬ plE (ZF S) n a))) := isp_2 hL h (by show n ≤ 1000000000000; omega)
end IPL
section STM
variable {K : Ky} {T : Nat} {S : Sg} {pp ns vv bb s : Nat}
theorem ex140 (z : RZ S T pp ns vv bb) (hb : Zi S 3 = 0 → bb ≤ 54) (hn : Zi S 3 = 0 → ns ≤ 16) (r1 : Zz S + 8 * (T - pp) + 8 ≤ K.2.1) (r2 : Zn S + 120 * (T - pp) + 360 ≤ K.2.2) : Rt (f_exp K (f_chain9 K 140) (f_unary9 K 140) S) (XP K T S pp ns vv bb 408 3 48) := Rt.mo (exp_ (exps_ 140).1 z hb (by omega) (fun q => ⟨hn q, by omega⟩) r1 r2) (fun S2 r q => q.le (by omega) (Nat.le_refl _) (Nat.le_refl _))
theorem wr20 (z : RZ S T pp ns vv bb) (hn : Zi S 3 = 0 → ns ≤ 16) (r1 : Zz S + (T - pp) + 2 ≤ K.2.1) (r2 : Zn S + 5 * (T - pp) + 10 ≤ K.2.2) : Rt (f_written K 20 S) (WrP S T pp ns vv bb) := wri_ 20 z (by omega) (fun q => ⟨hn q, by omega⟩) r1 r2
/-- a statement in the store -/
def isS (K : Ky) (L : List Nat) (F : Nat → va_E) (fk : Nat → Int32) (n t a p q b c v w : Nat) : Prop := isN L F fk (K.1 9) (K.1 0) (K.1 11) (K.1 10) (K.1 7) (K.1 5) n t a p q b c v w
/-- what a member gives that fills the statement s -/
def SP (K : Ky) (T : Nat) (S : Sg) (pp ns vv bb s : Nat) (S2 : Sg) : Prop := ∃ (pp2 vv2 bb2 : Nat) (fs2 : List Value), RZ S2 T pp2 ns vv2 bb2 ∧ St (fun b => b = s) S S2 s (.inr (19, fs2)) (8 * (pp2 - pp) + 6) (120 * (pp2 - pp) + 96) ∧ (pp ≤ pp2 ∧ bb ≤ bb2 ∧ bb2 ≤ bb + (pp2 - pp)) ∧ (Zi S2 3 = 0 → Zz S2 + 4 ≤ Zz S + 8 * (pp2 - pp) ∧ Zn S2 + 64 ≤ Zn S + 120 * (pp2 - pp) ∧ bb2 ≤ 54 ∧ vv2 ≤ 40 ∧ pp < pp2 ∧ isS K (iv s (Zz S2)) (ZF S2) (Zr S 5) (2 * (16 - ns) + 2) 0 s pp pp2 bb bb2 vv vv2)
/-- let -/
theorem let_ (h : RZ S T pp ns vv bb) (hs : Zz S = s + 1) (he : s ∈ ZL S) (hF : ZF S s = .inr (19, sxV 0 pp 0 0 0 .null .null .null .null .null .null .null 0)) (hk : Zr S 5 pp = 13) (q0 : Zi S 3 = 0) (hb : bb ≤ 54) (hv : vv ≤ 40) (hn : ns ≤ 16) (r1 : Zz S + 8 * (T - pp) + 14 ≤ K.2.1) (r2 : Zn S + 120 * (T - pp) + 480 ≤ K.2.2) : Rt (f_let K S (some s)) (fun S2 _ => SP K T S pp ns vv bb s S2) := by
  have hp := h.1.2.1; have hT := h.1.2.2.1
  have s0 : St (fun b => b = s) S S s (.inr (19, sxV 0 pp 0 0 0 .null .null .null .null .null .null .null 0)) 0 0 := ⟨GR.rf, fun _ => rfl, he, hF, Nat.le_refl _, Nat.le_refl _⟩
  -- the end
  have h71 : ∀ (S9 : Sg) (p9 b9 nm wq : Nat) (mu rn : Int32) (wr ex : Value) (zz nn : Nat), St (fun b => b = s) S S9 s (.inr (19, sxV 0 pp rn mu 0 wr ex .null .null .null .null .null 0)) zz nn → RZ S9 T p9 ns (vv + 1) b9 → (pp + 1 ≤ p9 ∧ bb ≤ b9 ∧ b9 ≤ bb + (p9 - pp)) → zz + 4 ≤ 8 * (p9 - pp) → nn + 64 ≤ 120 * (p9 - pp) → (Zi S9 3 = 0 → b9 ≤ 54 ∧ vv ≠ 40 ∧ rn = nI nm ∧ pp < nm ∧ nm < p9 ∧ (mu = 0 ∨ mu = 1) ∧ (pp ≤ wq ∧ wq ≤ p9) ∧ (wr = .null ∨ ∃ t p' q' : Nat, wr = .ref t ∧ pp < p' ∧ q' ≤ wq ∧ isT (iv (Zz S) (Zz S9)) (ZF S9) (Zr S 5) 17 t p' q') ∧ ((ex = .null ∧ bb = b9) ∨ ∃ a p' q' : Nat, ex = .ref a ∧ wq < p' ∧ q' ≤ p9 ∧ isE (iv (Zz S) (Zz S9)) (ZF S9) (K.1 9) (K.1 0) 408 16 a p' q' bb b9)) → Rt (f_let_71 K S9) (fun S2 _ => SP K T S pp ns vv bb s S2) := fun S9 p9 b9 nm wq mu rn wr ex zz nn s9 z9 k1 k2 k3 k4 => by
    unfold f_let_71
    refine Rt.bn (take_ z9 (by decide)) (fun S2 _ q2 => Rt.rt ?_)
    obtain ⟨p2, z2, g2, w1, w2, w3⟩ := q2
    have s2 := s9.ss g2
    have x1 := s2.2.2.2.2.1; have x2 := s2.2.2.2.2.2
    refine ⟨p2, vv + 1, b9, _, z2, s2.le (by omega) (by omega), by omega, fun q => ?_⟩
    have q9 : Zi S9 3 = 0 := g2.1.2.2.2.2.2 q
    have w4 := (w3 q).2
    obtain ⟨c1, c2, c3, c4, c5, c6, c9, c7, c8⟩ := k4 q9
    have hx9 : exS (iv (Zz S) (Zz S9)) (ZF S9) (iv s (Zz S2)) (ZF S2) := iv_ex (by omega) (by rw [g2.2.2.2.1]; exact Nat.le_refl _) (fun a _ _ => by rw [g2.2.1])
    refine ⟨by omega, by omega, c1, by omega, by omega, ⟨iv_m.mpr ⟨Nat.le_refl _, z2.2.2.2.2 _ s2.2.2.1⟩, by omega, Or.inl ⟨nm, wq, mu, wr, ex, ?_, c4, by omega, c6, rfl, ⟨c9.1, by omega⟩, ?_, ?_⟩⟩⟩
    · rw [s2.2.2.2.1, c3]; rfl
    · rcases c7 with c7 | ⟨t, p', q', d1, d2, d3, d4⟩
      · exact Or.inl c7
      · exact Or.inr ⟨t, p', q', d1, d2, d3, isT_ex hx9 d4⟩
    · rcases c8 with c8 | ⟨a, p', q', d1, d2, d3, d4⟩
      · exact Or.inl c8
      · exact Or.inr ⟨a, p', q', d1, d2, by omega, isE_im hx9 _ (Nat.le_refl _) d4⟩
  -- the exp
  have h54 : ∀ (S7 : Sg) (p7 nm : Nat) (mu rn : Int32) (wr : Value) (zz nn : Nat), St (fun b => b = s) S S7 s (.inr (19, sxV 0 pp rn mu 0 wr .null .null .null .null .null .null 0)) zz nn → RZ S7 T p7 ns (vv + 1) bb → pp + 1 ≤ p7 → zz + 4 ≤ 8 * (p7 - pp) → nn + 64 ≤ 120 * (p7 - pp) → (Zi S7 3 = 0 → vv ≠ 40 ∧ rn = nI nm ∧ pp < nm ∧ nm < p7 ∧ (mu = 0 ∨ mu = 1) ∧ (wr = .null ∨ ∃ t p' q' : Nat, wr = .ref t ∧ pp < p' ∧ q' ≤ p7 ∧ isT (iv (Zz S) (Zz S7)) (ZF S7) (Zr S 5) 17 t p' q')) → Rt (f_let_54 K S7 (some s)) (fun S2 _ => SP K T S pp ns vv bb s S2) := fun S7 p7 nm mu rn wr zz nn s7 z7 k1 k2 k3 k4 => by
    unfold f_let_54
    refine Rt.bn (takes_ z7 (by decide)) (fun S8 r8 q8 => ?_)
    obtain ⟨p8, z8, g8, i8, q8⟩ := q8
    have s8 := s7.ss g8
    have x1 := s8.2.2.2.2.1; have x2 := s8.2.2.2.2.2
    have hT8 := z8.1.2.1
    rcases q8 with ⟨e1, e2, _⟩ | ⟨e1, e2, e3, _⟩
    · subst e1
      refine Rt.ip rfl (h71 S8 p8 bb nm p8 mu rn wr .null zz nn s8 z8 (by omega) (by omega) (by omega) (fun q => ?_))
      obtain ⟨c2, c3, c4, c5, c6, c7⟩ := k4 (by rw [← i8]; exact q)
      refine ⟨hb, c2, c3, c4, by omega, c6, ⟨by omega, Nat.le_refl _⟩, ?_, Or.inl ⟨rfl, rfl⟩⟩
      rw [g8.2.1, g8.2.2.2.1, e2]; exact c7
    · subst e1 e2
      refine Rt.iq (by decide) (Rt.bn (ex140 z8 (fun _ => hb) (fun _ => hn) (by omega) (by omega)) (fun S9 r9 q9 => ?_))
      obtain ⟨p9, b9, x, e9, z9, g9, w1, w2, w3, w4, w5⟩ := q9
      subst e9
      have s9 := s8.cl g9 (z8.2.2.2.2 _ s8.2.2.1) (z1 := 8 * (p9 - (p7 + 1)) + 3) (n1 := 120 * (p9 - (p7 + 1)) + 48) (by omega) (by omega)
      have c7' := k4 e3
      have hss : s < Zz S8 := z8.2.2.2.2 _ s8.2.2.1
      have h08 := s8.1.2.2.2.2.1.1
      refine Rt.pv s9 z9 (Nat.le_of_ble_eq_true rfl) (show va_rf (some x) = .ref x from rfl) (fun S10 s10 z10 u10 => ?_)
      refine h71 S10 p9 b9 nm p7 mu rn wr (.ref x) _ _ s10 z10 (by omega) (by omega) (by omega) (fun q => ?_)
      have q9 : Zi S9 3 = 0 := by rw [← u10.2.2.2.2.1]; exact q
      obtain ⟨c2, c3, c4, c5, c6, c7⟩ := c7'
      obtain ⟨v1, v2⟩ := w5 q9
      refine ⟨v1, c2, c3, c4, by omega, c6, ⟨by omega, by omega⟩, ?_, Or.inr ⟨x, p7 + 1, p9, rfl, by omega, Nat.le_refl _, ?_⟩⟩
      · rcases c7 with c7 | ⟨t, p', q', d1, d2, d3, d4⟩
        · exact Or.inl c7
        · refine Or.inr ⟨t, p', q', d1, d2, d3, ?_⟩
          refine isT_ex (iv_ex (Nat.le_refl _) (by have := g9.2.2.2.2.1.1; rw [u10.2.2.1, ← g8.2.2.2.1]; exact this) (fun a h1 h2 => ?_)) d4
          rw [u10.1 a (by omega), g9.2.2.1 a (by rw [g8.2.2.2.1]; exact h2) (fun q => q), g8.2.1]
      · exact isE_im (iv_ex h08 (by rw [u10.2.2.1]; exact Nat.le_refl _) (fun a h1 h2 => u10.1 a (by omega))) _ (Nat.le_refl _) v2
  unfold f_let
  refine Rt.pv s0 h (Nat.le_of_ble_eq_true rfl) rfl (fun S1 s1 z1 u1 => ?_)
  refine Rt.pi z1 (z1.nx (k := 13) (by rw [u1.2.2.2.2.2.1]; exact hk) (by decide)) (fun S2 g2 z2 i2 => ?_)
  refine Rt.bn (takes_ z2 (by decide)) (fun S3 r3 q3 => ?_)
  obtain ⟨p3, z3, g3, i3, q3⟩ := q3
  have s3 := (s1.ss g2).ss g3
  have hr3 : r3 = 0 ∨ r3 = 1 := by rcases q3 with ⟨w, _⟩ | ⟨w, _⟩; exact Or.inl w; exact Or.inr w
  have hp3 : pp + 1 ≤ p3 := by rcases q3 with ⟨_, w, _⟩ | ⟨_, w, _⟩ <;> omega
  refine Rt.pz s3 z3 (Nat.le_of_ble_eq_true rfl) hr3 (fun S5 s5 z5 u5 => ?_)
  refine Rt.bn (oneV_ z5) (fun S6 _ q6 => ?_)
  obtain ⟨z6, g6, h6⟩ := q6
  refine Rt.bn (name_ z6) (fun S8 r8 q8 => ?_)
  obtain ⟨p8, z8, g8, w1, w2, w3⟩ := q8
  have s8 := (s5.ss g6).ss g8
  refine Rt.pv s8 z8 (Nat.le_of_ble_eq_true rfl) rfl (fun S10 s10 z10 u10 => ?_)
  have s10 : St (fun b => b = s) S S10 s (.inr (19, sxV 0 pp r8 r3 0 .null .null .null .null .null .null .null 0)) 0 0 := s10
  have hg10 : Zi S10 3 = 0 → vv ≠ 40 ∧ r8 = nI p3 ∧ p8 = p3 + 1 := fun q => by
    have q8 : Zi S8 3 = 0 := by rw [← u10.2.2.2.2.1]; exact q
    obtain ⟨c1, c2, c3⟩ := w3 q8
    exact ⟨h6 (g8.1.2.2.2.2.2 q8) (by rw [← g6.1.2.1.1]; exact c1), c3, c2⟩
  refine Rt.bn (takes_ z10 (by decide)) (fun S11 r11 q11 => ?_)
  obtain ⟨p11, z11, g11, i11, q11⟩ := q11
  have s11 := s10.ss g11
  have x1 := s11.2.2.2.2.1; have x2 := s11.2.2.2.2.2
  have hT11 := z11.1.2.1
  rcases q11 with ⟨e1, e2, _⟩ | ⟨e1, e2, e3, _⟩
  · subst e1 e2
    refine Rt.ip rfl (h54 S11 _ p3 r3 r8 .null 0 0 s11 z11 (by omega) (by omega) (by omega) (fun q => ?_))
    obtain ⟨c1, c2, c3⟩ := hg10 (by rw [← i11]; exact q)
    exact ⟨c1, c2, by omega, by omega, hr3, Or.inl rfl⟩
  · subst e1 e2
    obtain ⟨c1, c2, c3⟩ := hg10 e3
    refine Rt.iq (by decide) (Rt.bn (wr20 z11 (fun _ => hn) (by omega) (by omega)) (fun S12 r12 q12 => ?_))
    obtain ⟨p12, a12, e12, z12, g12, v1, v2, v3, v4, v5⟩ := q12
    subst e12
    have h011 := s11.1.2.2.2.2.1.1
    have s12 := s11.cl g12 (z11.2.2.2.2 _ s11.2.2.1) (z1 := p12 - (p8 + 1) + 1) (n1 := 5 * (p12 - (p8 + 1)) + 5) (by omega) (by omega)
    refine Rt.pv s12 z12 (Nat.le_of_ble_eq_true rfl) (show va_rf (some a12) = .ref a12 from rfl) (fun S13 s13 z13 u13 => ?_)
    refine h54 S13 p12 p3 r3 r8 (.ref a12) _ _ s13 z13 (by omega) (by omega) (by omega) (fun q => ⟨c1, c2, by omega, by omega, hr3, Or.inr ⟨a12, p8 + 1, p12, rfl, by omega, Nat.le_refl _, ?_⟩⟩)
    have q12 : Zi S12 3 = 0 := by rw [← u13.2.2.2.2.1]; exact q
    have v6 := v5 q12
    rw [s11.1.2.1.1] at v6
    exact isT_ex (iv_ex h011 (by rw [u13.2.2.1]; exact Nat.le_refl _) (fun a h1 h2 => u13.1 a (by omega))) (isT_le v6 (by omega))
end STM
