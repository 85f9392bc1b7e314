section MAU
variable {K : Ky} {T : Nat} {V : Sg → Option (Sg × Option Nat)} {d pp ns bb vv s x p0 q0 b0 b9 : Nat} {S : Sg} {mu rf : Int32}
/-- the arms -/
theorem mt146 (hV : HVb K T V d) (hs : Zz S = s + 1) (hd : 18 ≤ ns + 1 + d) (hrf : (rf = 0 ∧ mu = 0 ∧ b0 = bb) ∨ (rf = 1 ∧ (mu = 0 ∨ mu = 1) ∧ b0 = bb + 1)) (hp0 : pp < p0) (r1 : Zz S + 8 * (T - pp) + 14 ≤ K.2.1) (r2 : Zn S + 120 * (T - pp) + 480 ≤ K.2.2) : ∀ (m : Nat) {S1 : Sg} {p1 b1 v1 n cp : Nat}, 1 ≤ m → (Zi S1 3 = 0 → T + 1 ≤ p1 + m) → (pp ≤ p1 ∧ bb ≤ b1 ∧ b1 ≤ bb + (p1 - pp)) → MW K (Zr S 5) (2 * (16 - ns) + 1) S S1 s x mu rf pp p0 q0 b0 b9 n cp p1 b1 vv v1 → GR (fun c => c = s) S S1 → RZ S1 T p1 (ns + 1) v1 b1 → Zz S1 ≤ Zz S + 8 * (p1 - pp) + 6 → Zn S1 ≤ Zn S + 120 * (p1 - pp) + 96 → (Zi S1 3 = 0 → ns + 1 ≤ 16 ∧ pp + 1 + n ≤ p1 ∧ b1 ≤ 54 ∧ v1 ≤ 40 ∧ Zz S1 + 4 * n + 12 ≤ Zz S + 8 * (p1 - pp) ∧ Zn S1 + 50 * n + 180 ≤ Zn S + 120 * (p1 - pp) + 2 * cp) → Rt (f_match_146 K V m S1 (some s)) (fun S2 _ => SP K T S pp ns vv bb s S2)
  | 0, _, _, _, _, _, _, h, _, _, _, _, _, _, _, _ => absurd h (by omega)
  | m + 1, S1, p1, b1, v1, n, cp, _, hm, hp, hB, hg, z1, k1, k2, k3 => by
    have hT1 := z1.1.2.1; have hT := z1.1.2.2.1
    have hcp := hB.cp
    have hend : Rt (f_match_240 K V S1) (fun S2 _ => SP K T S pp ns vv bb s S2) := mt240 hs hp hB hg z1 k1 k2 (fun q => by have := k3 q; exact ⟨hp0, this.2.2.1, this.2.2.2.1, this.2.2.2.2.1, this.2.2.2.2.2, hrf⟩)
    unfold f_match_146
    refine Rt.ok (fun q1 => Rt.is z1 (fun _ => hend) (fun _ => ?_)) (fun _ => hend)
    obtain ⟨c1, c2, c3, c4, c5, c6⟩ := k3 q1
    have hm1 := hm q1
    obtain ⟨f, L, la, h1, h2, h3, h4, h5, h6, h7, h8, h9, h10, h11, h12⟩ := hB
    have h01 := hg.2.2.2.2.1.1
    have hsz := z1.2.2.2.2 _ h1; have hlz := z1.2.2.2.2 _ h3
    have hgo : ∀ (S5 : Sg) (lb cq : Nat) (f5 : Nat → Option Nat), s ∈ ZL S5 → ZF S5 s = .inr (19, sxV 5 pp 0 mu rf .null (.ref x) .null .null .null .null (.ref lb) n) → lb ∈ ZL S5 → ZF S5 lb = .inl (K.1 7, cq, .inr (.inr (.inr (.inr f5)))) → n < cq → cq ≤ 4 + 2 * n → 4 ≤ cq → cp ≤ cq → (lb ∉ L ∧ Zz S ≤ lb) → (∀ i : Nat, i < n → f5 i = f i) → GR (fun c => c = s) S1 S5 → Zi S5 = Zi S1 → Zz S5 ≤ Zz S1 + 1 → Zn S5 + 2 * cp ≤ Zn S1 + 2 * cq → (∀ y : Nat, okO S1 13 (some y) = true → okO S5 13 (some y) = true) → Rt (f_match_214 K V (f_match_146 K V m) S5 (some s)) (fun S2 _ => SP K T S pp ns vv bb s S2) := fun S5 lb cq f5 w1 w2 w3 w4 w5 w6 w7 w8 w9 w10 w11 w12 w13 w14 w15 => by
      refine mt214 (cp := cp) hV hs c3 c4 c1 hd q1 hg z1 h10 h11 (h12 q1) w1 w2 w3 w4 w5 w6 w7 w9 w10 w11 w12 w15 (by omega) (by omega) (by omega) (fun S3 p2 b2 v2 x1 x2 x3 x4 x5 x6 x7 => ?_)
      refine mt146 hV hs hd hrf hp0 r1 r2 m (by omega) (fun q => ?_) (by omega) x1 x2 x3 (by omega) (by omega) (fun q => ?_)
      · have := (x7 q).1; omega
      · obtain ⟨y1, y2, y3, y4, y5⟩ := x7 q
        exact ⟨c1, by omega, y2, y3, by omega, by omega⟩
    refine Rt.bd (oI_mk (v := nI n) h1 h2 rfl) (Rt.bd (oR_mk (v := some la) h1 h2 rfl) (Rt.bd (v := nI cp) ?_ ?_))
    · unfold aLn
      rw [aC_mk h3 h4]; exact if_pos rfl
    refine Rt.it (fun q => ?_) (fun q => ?_)
    · have hcn : n = cp := (nI_eq (by omega) (by omega)).mp q
      refine Rt.bd (oI_mk (v := nI n) h1 h2 rfl) ?_
      rw [nI_2]
      refine Rt.be (nQ_ok (n := 2 * n) (by omega) ⟨by omega, by omega⟩) ?_
      have hup : ∀ {a : Nat} {c : va_E}, a ∈ ZL S1 → ZF S1 a = c → ZF (Un S1 (.inl (K.1 7, 2 * n, .inr (.inr (.inr (.inr (fun _ => none)))))) (2 * n)) a = c := fun {a c} h1 h2 => (updE_n (by have := z1.2.2.2.2 a h1; omega)).trans h2
      have hoku : ∀ {y : Nat}, okO S1 13 (some y) = true → okO (Un S1 (.inl (K.1 7, 2 * n, .inr (.inr (.inr (.inr (fun _ => none)))))) (2 * n)) 13 (some y) = true := fun {y} h => by
        obtain ⟨y1, vs, y2⟩ := okO_of h
        exact okO_mk (List.mem_cons_of_mem _ y1) (hup y1 y2)
      refine mt186 (S0 := S1) (la := la) (l2 := Zz S1) (cp := cp) (f := f) (by omega) hcn (Nat.le_refl _) hsz (fun S5 f5 w1 w2 w3 w4 w5 w6 w7 w8 w9 w10 => hgo S5 (Zz S1) (2 * n) f5 w1 w2 w3 w4 (by omega) (by omega) (by omega) (by omega) ⟨fun q => by have := (h10 _ q).2; omega, h01⟩ w5 w6 w7 (by omega) (by omega) w10) bigN 0 (by show n < 0 + 1000000000000; omega) (by omega) (List.mem_cons_of_mem _ h1) (hup h1 h2) (List.mem_cons_of_mem _ h3) (hup h3 h4) List.mem_cons_self updE_s (by omega) (fun i hi => by obtain ⟨y, y1, y2⟩ := h11 i hi; exact ⟨y, y1, hoku y2⟩) (fun i hi => absurd hi (by omega)) GR.un rfl rfl rfl (fun y hy => hoku hy)
    · have hlt : n < cp := by
        rcases Nat.lt_or_ge n cp with w | w
        · exact w
        · exact absurd (by rw [show n = cp by omega]) q
      exact hgo S1 la cp f h1 h2 h3 h4 hlt h9 h8 (Nat.le_refl _) ⟨h6, h5⟩ (fun _ _ => rfl) GR.rf rfl (by omega) (Nat.le_refl _) (fun _ h => h)
/-- match -/
theorem mat_ (hV : HVb K T V d) (h : RZ S T pp ns vv bb) (hs : Zz S = s + 1) (he : s ∈ ZL S) (hF : ZF S s = .inr (19, sxV 0 pp 0 0 0 .null .null .null .null .null .null .null 0)) (hk : Zr S 5 pp = 18) (q0' : Zi S 3 = 0) (hb : bb ≤ 54) (hv : vv ≤ 40) (hn : ns ≤ 16) (hd : 18 ≤ ns + d) (r1 : Zz S + 8 * (T - pp) + 14 ≤ K.2.1) (r2 : Zn S + 120 * (T - pp) + 480 ≤ K.2.2) : Rt (f_match K V S (some s)) (fun S2 _ => SP K T S pp ns vv bb s S2) := by
  have hp := h.1.2.1; have hT := h.1.2.2.1
  have s0 : St (fun b => b = s) S S s (.inr (19, sxV 0 pp 0 0 0 .null .null .null .null .null .null .null 0)) 0 0 := ⟨GR.rf, fun _ => rfl, he, hF, Nat.le_refl _, Nat.le_refl _⟩
  -- the exp is read
  have h53 : ∀ (S3 : Sg) (p3 b3 : Nat) (mu rf : Int32), St (fun b => b = s) S S3 s (.inr (19, sxV 5 pp 0 mu rf .null .null .null .null .null .null .null 0)) 0 0 → RZ S3 T p3 ns vv b3 → pp < p3 → (bb ≤ b3 ∧ b3 ≤ bb + (p3 - pp)) → (Zi S3 3 = 0 → b3 ≤ 54) → ((rf = 0 ∧ mu = 0 ∧ b3 = bb) ∨ (rf = 1 ∧ (mu = 0 ∨ mu = 1) ∧ b3 = bb + 1)) → Rt (f_match_53 K V S3 (some s)) (fun S2 _ => SP K T S pp ns vv bb s S2) := fun S3 p3 b3 mu rf s3 z3 hp3 hb3 hb4 hrf => by
    have x1 := s3.2.2.2.2.1; have x2 := s3.2.2.2.2.2; have hT3 := z3.1.2.1
    unfold f_match_53
    refine Rt.bn (ex140 z3 hb4 (fun _ => hn) (by omega) (by omega)) (fun S4 r4 q4 => ?_)
    obtain ⟨p4, b4, x, e4, z4, g4, w1, w2, w3, w4, w5⟩ := q4
    subst e4
    have hsz := z3.2.2.2.2 _ s3.2.2.1
    have s4 := s3.cl g4 hsz (z1 := 8 * (p4 - p3) + 3) (n1 := 120 * (p4 - p3) + 48) (by omega) (by omega)
    refine Rt.pv s4 z4 (Nat.le_of_ble_eq_true rfl) (show va_rf (some x) = .ref x from rfl) (fun S5 s5 z5 u5 => ?_)
    have s5 : St (fun b => b = s) S S5 s (.inr (19, sxV 5 pp 0 mu rf .null (.ref x) .null .null .null .null .null 0)) (0 + (8 * (p4 - p3) + 3)) (0 + (120 * (p4 - p3) + 48)) := s5
    have y1 := s5.2.2.2.2.1; have y2 := s5.2.2.2.2.2; have hT5 := z5.1.2.1
    have h03 := s3.1.2.2.2.2.1.1
    have h05 := s5.1.2.2.2.2.1.1
    have hgd : Zi S5 3 = 0 → b4 ≤ 54 ∧ isE (iv (Zz S) (Zz S5)) (ZF S5) (K.1 9) (K.1 0) 408 16 x p3 p4 b3 b4 := fun q => by
      obtain ⟨c1, c2⟩ := w5 (by rw [← u5.2.2.2.2.1]; exact q)
      exact ⟨c1, isE_im (iv_ex h03 (by rw [u5.2.2.1]; exact Nat.le_refl _) (fun a h1 h2 => u5.1 a (by omega))) _ (Nat.le_refl _) c2⟩
    have h94 : ∀ S6 : Sg, SS S5 S6 → RZ S6 T p4 ns vv b4 → (Zi S6 3 = 0 → rf = 1 → plE (ZF S5) 408 x) → Rt (f_match_94 K V S6 (some s)) (fun S2 _ => SP K T S pp ns vv bb s S2) := fun S6 g6 z6 h6 => by
      have s6 := s5.ss g6
      unfold f_match_94
      refine Rt.ok (fun q6 => ?_) (fun q6 => Rt.rt ⟨p4, vv, b4, _, z6, s6.le (by omega) (by omega), by omega, fun q => absurd q q6⟩)
      obtain ⟨c1, c2⟩ := hgd (g6.1.2.2.2.2.2 q6)
      have hlt := (isE_mem c2).2
      have h132 : ∀ S7 : Sg, SS S6 S7 → RZ S7 T p4 (ns + 1) vv b4 → (Zi S7 3 = 0 → ns ≠ 16 ∨ ¬ Zr S 5 p4 = 63) → Rt (f_match_132 K V S7 (some s)) (fun S2 _ => SP K T S pp ns vv bb s S2) := fun S7 g7 z7 h7 => by
        unfold f_match_132
        refine Rt.bn (take_ z7 (by decide)) (fun S8 _ q8 => ?_)
        obtain ⟨p8, z8, g8, v1, v2, v3⟩ := q8
        have g58 := (g6.tr g7).tr g8
        have s8 := s5.ss g58
        have t1 := s8.2.2.2.2.1; have t2 := s8.2.2.2.2.2; have hT8 := z8.1.2.1
        have e58 : Zz S8 = Zz S5 := g58.2.2.2.1
        refine Rt.be (nQ_ok (n := 4) (by decide) ⟨by omega, by omega⟩) ?_
        have hs8 := z8.2.2.2.2 _ s8.2.2.1
        have s9 := s8.cl (GR.un (X := nX) (S := S8) (c := .inl (K.1 7, 4, .inr (.inr (.inr (.inr (fun _ => none)))))) (n := 4)) hs8 (z1 := 1) (n1 := 4) (Nat.le_refl _) (Nat.le_refl _)
        refine Rt.pv s9 z8.un (Nat.le_of_ble_eq_true rfl) (show va_rf (some (Zz S8)) = .ref (Zz S8) from rfl) (fun S10 s10 z10 u10 => ?_)
        have t3 := s10.2.2.2.2.1; have t4 := s10.2.2.2.2.2
        have hF10 : ∀ a : Nat, a ≠ s → a < Zz S8 → ZF S10 a = ZF S5 a := fun a h1 h2 => by rw [u10.1 a h1]; exact (updE_n (by omega)).trans (by rw [g58.2.1])
        have e10 : Zz S10 = Zz S8 + 1 := u10.2.2.1
        have hgd8 : Zi S10 3 = 0 → p8 = p4 + 1 ∧ ns + 1 ≤ 16 := fun q => by
          have q8 : Zi S8 3 = 0 := by rw [u10.2.2.2.2.1] at q; exact q
          have k1 := v3 q8
          have := (h7 (g8.1.2.2.2.2.2 q8)).resolve_right (fun w => w (by rw [← k1.1, g7.1.2.1.1, g6.1.2.1.1, s5.1.2.1.1]))
          exact ⟨k1.2, by omega⟩
        have hxx : exS (iv (Zz S) (Zz S5)) (ZF S5) (iv (Zz S) (Zz S8)) (ZF S10) := iv_ex (Nat.le_refl _) (by omega) (fun a h1 h2 => hF10 a (by omega) (by omega))
        refine mt146 (x := x) (p0 := p3) (q0 := p4) (b0 := b3) (b9 := b4) (mu := mu) (rf := rf) hV hs (by omega) hrf hp3 r1 r2 bigN (n := 0) (cp := 4) (by decide) (fun _ => by show T + 1 ≤ p8 + 1000000000000; omega) (by omega) ⟨fun _ => none, iv (Zz S) (Zz S8), Zz S8, s10.2.2.1, s10.2.2.2.1, by rw [u10.2.1]; exact List.mem_cons_self, by rw [u10.1 _ (by omega)]; exact updE_s, by omega, fun q => by have := (iv_m.mp q).2; omega, by omega, by omega, by omega, fun a ha => by have := iv_m.mp ha; exact ⟨this.1, by omega⟩, fun i hi => absurd hi (by omega), fun q => ?_⟩ s10.1 z10 (by omega) (by omega) (fun q => ?_)
        · rw [(hgd8 q).1]
          exact ⟨isE_im hxx _ (Nat.le_refl _) c2, fun w => plE_ex hxx (isE_pw c2) (h6 q6 w), chN_0⟩
        · have := hgd8 q
          exact ⟨this.2, by omega, c1, hv, by omega, by omega⟩
      refine Rt.is z6 (fun hk => ?_) (fun hk => ?_)
      · rw [z6.1.1]
        refine Rt.bn (enter_ z6 (by omega)) (fun S7 _ q7 => ?_)
        exact h132 S7 q7.2.1 q7.1 (fun q => Or.inl (q7.2.2 q))
      · refine Rt.ni z6 (fun S7 g7 z7 i7 => h132 S7 g7 z7 (fun _ => Or.inr (by rw [← s5.1.2.1.1, ← g6.1.2.1.1]; exact hk)))
    refine Rt.ok (fun q5 => ?_) (fun q5 => h94 S5 SS.rf z5 (fun q => absurd q q5))
    obtain ⟨c1, c2⟩ := hgd q5
    refine Rt.bd (oI_mk (v := rf) s5.2.2.1 s5.2.2.2.1 rfl) (Rt.it (fun er => h94 S5 SS.rf z5 (fun _ w => absurd (er.symm.trans w) (by decide))) (fun _ => ?_))
    refine Rt.bd (oR_mk (v := some x) s5.2.2.1 s5.2.2.2.1 rfl) ?_
    refine Rt.bn (isp_ (fun a ha => (s5.1.2.2.2.1 a).mpr (Or.inr (iv_m.mp ha))) (isE_pw c2) (by omega)) (fun S6 r6 q6 => ?_)
    obtain ⟨e6, q6⟩ := q6
    rw [e6]
    rcases q6 with ⟨er, hpl⟩ | ⟨er, _⟩
    · subst er
      exact Rt.iq (by decide) (h94 S5 SS.rf z5 (fun _ _ => hpl))
    · subst er
      refine Rt.ip rfl ?_
      rw [z5.1.1]
      exact Rt.be (fail_ (by omega)) (h94 _ SS.fl z5.fl (fun q => absurd q (flS_n0 (by decide))))
  unfold f_match
  refine Rt.pv s0 h (Nat.le_of_ble_eq_true rfl) rfl (fun S1 s1 z1 u1 => ?_)
  refine Rt.pi z1 (z1.nx (k := 18) (by rw [u1.2.2.2.2.2.1]; exact hk) (by decide)) (fun S2 g2 z2 i2 => ?_)
  have s2 := s1.ss g2
  refine Rt.is z2 (fun hk2 => ?_) (fun _ => h53 S2 (pp + 1) bb 0 0 s2 z2 (by omega) (by omega) (fun _ => hb) (Or.inl ⟨rfl, rfl, rfl⟩))
  refine Rt.bn (borrow_ z2) (fun S5 _ q5 => ?_)
  obtain ⟨z5, g5, h5⟩ := q5
  refine Rt.pi z5 (z5.nx (k := 55) (by rw [g5.1.2.1.1]; exact hk2) (by decide)) (fun S7 g7 z7 i7 => ?_)
  have s7 := (s2.ss g5).ss g7
  refine Rt.pz s7 z7 (Nat.le_of_ble_eq_true rfl) (Or.inr rfl) (fun S8 s8 z8 u8 => ?_)
  refine Rt.bn (takes_ z8 (by decide)) (fun S9 r9 q9 => ?_)
  obtain ⟨p9, z9, g9, i9, q9⟩ := q9
  have hr9 : r9 = 0 ∨ r9 = 1 := by rcases q9 with ⟨w, _⟩ | ⟨w, _⟩; exact Or.inl w; exact Or.inr w
  have hp9 : pp + 2 ≤ p9 := by rcases q9 with ⟨_, w, _⟩ | ⟨_, w, _⟩ <;> omega
  refine Rt.pz (s8.ss g9) z9 (Nat.le_of_ble_eq_true rfl) hr9 (fun S11 s11 z11 u11 => ?_)
  refine h53 S11 p9 (bb + 1) r9 1 s11 z11 (by omega) (by omega) (fun q => ?_) (Or.inr ⟨rfl, hr9, rfl⟩)
  have q5 : Zi S5 3 = 0 := by rw [← i7, ← u8.2.2.2.2.1, ← i9, ← u11.2.2.2.2.1]; exact q
  have := h5 q5
  omega
end MAU
