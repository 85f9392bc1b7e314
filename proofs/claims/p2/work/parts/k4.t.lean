/-- the branches of the if s that were read since S -/
def RW (K : Ky) (fk : Nat → Int32) (N : Nat) (S S1 : Sg) (s pp : Nat) (mo : Int32) (n cp q0 bb b1 vv v1 : Nat) : Prop := ∃ (f g : Nat → Option Nat) (L : List Nat) (ca ba : Nat), s ∈ ZL S1 ∧ ZF S1 s = .inr (19, sxV 3 pp 0 0 0 .null .null .null .null (.ref ca) (.ref ba) .null n) ∧ rwB K S1 ca ba cp f g ∧ (Zz S ≤ ca ∧ Zz S ≤ ba ∧ ca ∉ L ∧ ba ∉ L) ∧ (n ≤ cp ∧ 4 ≤ cp ∧ cp ≤ 4 + 2 * n) ∧ (∀ a ∈ L, Zz S ≤ a ∧ a < Zz S1) ∧ (∀ i : Nat, i < n → ∃ y : Nat, g i = some y ∧ okO S1 14 (some y) = true) ∧ (∀ i : Nat, n ≤ i → f i = none) ∧ (∀ i x : Nat, f i = some x → okO S1 15 (some x) = true) ∧ (mo ≠ 0 → ∀ i : Nat, i < n → f i ≠ none) ∧ (∀ i : Nat, i < n → f i = none → i + 1 = n) ∧ (Zi S1 3 = 0 → chJ (brP L (ZF S1) fk (K.1 9) (K.1 0) (K.1 11) (K.1 10) (K.1 7) (K.1 5) N f) g n pp q0 bb b1 vv v1)
theorem chJ_r {P : Nat → Nat → Nat → Nat → Nat → Nat → Nat → Nat → Prop} {f f2 : Nat → Option Nat} {n p q b c v w : Nat} (hs : ∀ i : Nat, i < n → f2 i = f i) (h : chJ P f n p q b c v w) : chJ P f2 n p q b c v w := by
  obtain ⟨ps, bs, vs, h1, h2, h3, h4, h5, h6, h7⟩ := h
  refine ⟨ps, bs, vs, h1, h2, h3, h4, h5, h6, fun i hi => ?_⟩
  obtain ⟨x, g1, g2⟩ := h7 i hi
  exact ⟨x, (hs i hi).trans g1, g2⟩
theorem RW.ss {K : Ky} {fk : Nat → Int32} {N : Nat} {S S1 S2 : Sg} {s pp : Nat} {mo : Int32} {n cp q0 bb b1 vv v1 : Nat} (h : RW K fk N S S1 s pp mo n cp q0 bb b1 vv v1) (g : SS S1 S2) : RW K fk N S S2 s pp mo n cp q0 bb b1 vv v1 := by
  obtain ⟨f, g0, L, ca, ba, h1, h2, ⟨t1, t2, t0, t3, t4⟩, h4, h5, h11, h12, h13, h14, h15, h16, h17⟩ := h
  have hok : ∀ {u ci : Nat}, okO S1 ci (some u) = true → okO S2 ci (some u) = true := fun {u ci} h => by
    obtain ⟨u1, vs, u2⟩ := okO_of h
    exact okO_mk (by rw [g.2.2.1]; exact u1) (by rw [g.2.1]; exact u2)
  exact ⟨f, g0, L, ca, ba, by rw [g.2.2.1]; exact h1, by rw [g.2.1]; exact h2, ⟨by rw [g.2.2.1]; exact t1, by rw [g.2.2.1]; exact t2, t0, by rw [g.2.1]; exact t3, by rw [g.2.1]; exact t4⟩, h4, h5, by rw [g.2.2.2.1]; exact h11, fun i hi => by obtain ⟨y, y1, y2⟩ := h12 i hi; exact ⟨y, y1, hok y2⟩, h13, fun i x hx => hok (h14 i x hx), h15, h16, fun q => by rw [g.2.1]; exact h17 (g.1.2.2.2.2.2 q)⟩
section BRA
variable {K : Ky} {T : Nat} {V : Sg → Option (Sg × Option Nat)} {d pp ns bb vv s : Nat} {S : Sg}
/-- if -/
theorem br23 (hV : HVb K T V d) (hs : Zz S = s + 1) (hn16 : ns ≤ 16) (hd : 18 ≤ ns + d) (r1 : Zz S + 8 * (T - pp) + 14 ≤ K.2.1) (r2 : Zn S + 120 * (T - pp) + 480 ≤ K.2.2) : ∀ (m : Nat) {S1 : Sg} {p1 b1 v1 n cp q0 cm : Nat} {mo : Int32}, 1 ≤ m → (Zi S1 3 = 0 → T + 1 ≤ p1 + m) → (pp ≤ p1 ∧ bb ≤ b1 ∧ b1 ≤ bb + (p1 - pp)) → RW K (Zr S 5) (2 * (16 - ns) + 1) S S1 s pp mo n cp q0 bb b1 vv v1 → GR (fun c => c = s) S S1 → RZ S1 T p1 ns v1 b1 → Zz S1 ≤ Zz S + 8 * (p1 - pp) + 6 → Zn S1 ≤ Zn S + 120 * (p1 - pp) + 96 → (Zi S1 3 = 0 → pp + n + cm ≤ p1 ∧ b1 ≤ 54 ∧ v1 ≤ 40 ∧ Zz S1 + 6 * n + 8 * cm ≤ Zz S + 2 + 8 * (p1 - pp) ∧ Zn S1 + 100 * n + 120 * cm + 8 ≤ Zn S + 120 * (p1 - pp) + 4 * cp ∧ ((mo = 0 ∧ q0 = p1 ∧ 1 ≤ n) ∨ (mo ≠ 0 ∧ q0 ≤ p1 ∧ (n = 0 ∨ cm = 1)))) → Rt (f_branch_23 K V m S1 (some s) mo) (fun S2 _ => SP K T S pp ns vv bb s S2)
  | 0, _, _, _, _, _, _, _, _, _, h, _, _, _, _, _, _, _, _ => absurd h (by omega)
  | m + 1, S1, p1, b1, v1, n, cp, q0, cm, mo, _, hm, hp, hB, hg, z1, k1, k2, k3 => by
    have hT1 := z1.1.2.1; have hT := z1.1.2.2.1
    obtain ⟨f, g, L, ca, ba, h1, h2, h3, ⟨h4, h5, h6, h7⟩, ⟨h8, h9, h10⟩, h11, h12, h13, h14, h15, h16, h17⟩ := hB
    have h01 := hg.2.2.2.2.1.1
    have hsz := z1.2.2.2.2 _ h1
    have s1 : St (fun c => c = s) S S1 s (.inr (19, sxV 3 pp 0 0 0 .null .null .null .null (.ref ca) (.ref ba) .null n)) (8 * (p1 - pp) + 6) (120 * (p1 - pp) + 96) := ⟨hg, fun _ => rfl, h1, h2, k1, k2⟩
    have hend : (Zi S1 3 = 0 → mo = 0) → Rt (f_branch_119 K V S1) (fun S2 _ => SP K T S pp ns vv bb s S2) := fun hmo => by
      unfold f_branch_119
      refine Rt.rt ⟨p1, v1, b1, _, z1, s1, hp, fun q => ?_⟩
      obtain ⟨c1, c2, c3, c4, c5, c6⟩ := k3 q
      obtain ⟨c7, c8, c9⟩ := c6.resolve_right (fun w => w.1 (hmo q))
      subst c8
      obtain ⟨t1, t2, t0, t3, t4⟩ := h3
      have hx : exS L (ZF S1) (iv s (Zz S1)) (ZF S1) := fun a ha => ⟨iv_m.mpr ⟨by have := (h11 a ha).1; omega, (h11 a ha).2⟩, rfl⟩
      exact ⟨by omega, by omega, c2, c3, by omega, isN_R (n := 2 * (16 - ns) + 1) (iv_m.mpr ⟨Nat.le_refl _, hsz⟩) (by omega) h2 c9 h8 (iv_m.mpr ⟨by omega, z1.2.2.2.2 _ t1⟩) (iv_m.mpr ⟨by omega, z1.2.2.2.2 _ t2⟩) t3 t4 h16 (chJ_im (fun i y p1 q1 b1 c1 v1 w1 _ z => brP_im hx (Nat.le_refl _) rfl z) (h17 q))⟩
    unfold f_branch_23
    refine Rt.ok (fun q1 => Rt.it (fun e => hend (fun _ => e)) (fun hmo => ?_)) (fun q1 => hend (fun q => absurd q q1))
    obtain ⟨c1, c2, c3, c4, c5, c6⟩ := k3 q1
    obtain ⟨_, c7, c8⟩ := c6.resolve_left (fun w => hmo w.1)
    have hm1 := hm q1
    have hch := h17 q1
    -- with room in the rows
    have hgo : ∀ (S5 : Sg) (cc bc cq : Nat) (f5 g5 : Nat → Option Nat), s ∈ ZL S5 → ZF S5 s = .inr (19, sxV 3 pp 0 0 0 .null .null .null .null (.ref cc) (.ref bc) .null n) → rwB K S5 cc bc cq f5 g5 → (Zz S ≤ cc ∧ Zz S ≤ bc ∧ cc ∉ L ∧ bc ∉ L) → n < cq → 4 ≤ cq → cq ≤ 4 + 2 * n → cp ≤ cq → (∀ i : Nat, i < n → f5 i = f i ∧ g5 i = g i) → (∀ i : Nat, n ≤ i → f5 i = none) → GR (fun c => c = s) S1 S5 → Zi S5 = Zi S1 → Zz S5 ≤ Zz S1 + 2 → (n = 0 → Zz S5 = Zz S1) → Zn S5 + 4 * cp ≤ Zn S1 + 4 * cq → (∀ a : Nat, a ≠ s → a ≠ cc → a ≠ bc → a < Zz S1 → ZF S5 a = ZF S1 a) → Rt (f_branch_50 K V (f_branch_23 K V m) S5 (some s)) (fun S2 _ => SP K T S pp ns vv bb s S2) := fun S5 cc bc cq f5 g5 w1 w2 w3 w4 w5 w6 w7 w8 w9 w10 w11 w12 w13 w13' w14 w15 => by
      have z5 : RZ S5 T p1 ns v1 b1 := ⟨⟨by rw [w12]; exact z1.1.1, z1.1.2.1, z1.1.2.2.1, by rw [w11.2.1.1]; exact z1.1.2.2.2⟩, by rw [w12]; exact z1.2.1, by rw [w12]; exact z1.2.2.1, by rw [w12]; exact z1.2.2.2.1, w11.lt z1.2.2.2.2⟩
      have hg5 : GR (fun c => c = s) S S5 := hg.tr w11 (fun _ _ q => q)
      have h15' := w11.2.2.2.2.1.1
      have hLc : ∀ a ∈ L, a ≠ s ∧ a ≠ cc ∧ a ≠ bc ∧ a < Zz S1 := fun a ha => ⟨by have := (h11 a ha).1; omega, fun w => w4.2.2.1 (w ▸ ha), fun w => w4.2.2.2 (w ▸ ha), (h11 a ha).2⟩
      have hL5 : exS L (ZF S1) L (ZF S5) := fun a ha => ⟨ha, w15 a (hLc a ha).1 (hLc a ha).2.1 (hLc a ha).2.2.1 (hLc a ha).2.2.2⟩
      -- objects of the store stay
      have hok5 : ∀ {u ci : Nat}, okO S1 ci (some u) = true → ci ≠ 19 → okO S5 ci (some u) = true := fun {u ci} h hci => by
        obtain ⟨u1, vs, u2⟩ := okO_of h
        have hus : u ≠ s := fun w => by rw [w, h2] at u2; cases u2; exact hci rfl
        exact okO_mk (w11.in u1) ((w11.2.2.1 u (z1.2.2.2.2 u u1) hus).trans u2)
      -- the block of the branch
      have h74 : ∀ (S8 : Sg) (p8 b8 : Nat) (f8 : Nat → Option Nat) (L8 : List Nat) (x3 : Int32), s ∈ ZL S8 → ZF S8 s = .inr (19, sxV 3 pp 0 0 0 .null .null .null .null (.ref cc) (.ref bc) .null n) → rwB K S8 cc bc cq f8 g5 → (cc ∉ L8 ∧ bc ∉ L8) → (∀ a ∈ L8, Zz S ≤ a ∧ a < Zz S8) → (∀ i : Nat, i < n → f8 i = f i) → (∀ i : Nat, n < i → f8 i = none) → (∀ i x : Nat, f8 i = some x → okO S8 15 (some x) = true) → (∀ i : Nat, i < n → ∃ y : Nat, g5 i = some y ∧ okO S8 14 (some y) = true) → GR (fun c => c = s) S S8 → RZ S8 T p8 ns v1 b8 → (p1 ≤ p8 ∧ b1 ≤ b8 ∧ b8 ≤ bb + (p8 - pp)) → ((x3 = 0 ∧ Zi S8 3 = Zi S1 3) ∨ (x3 ≠ 0 ∧ f8 n ≠ none)) → Zz S8 ≤ Zz S5 + 8 * (p8 - p1) → Zn S8 ≤ Zn S5 + 120 * (p8 - p1) → (Zi S8 3 = 0 → b8 ≤ 54 ∧ chJ (brP L8 (ZF S8) (Zr S 5) (K.1 9) (K.1 0) (K.1 11) (K.1 10) (K.1 7) (K.1 5) (2 * (16 - ns) + 1) f8) g5 n pp q0 bb b1 vv v1 ∧ ((f8 n = none ∧ b8 = b1) ∨ ∃ x p' q' : Nat, f8 n = some x ∧ q0 < p' ∧ q' ≤ p8 ∧ isE L8 (ZF S8) (K.1 9) (K.1 0) 408 16 x p' q' b1 b8)) → Rt (f_branch_74 K V (f_branch_23 K V m) S8 (some s) x3) (fun S2 _ => SP K T S pp ns vv bb s S2) := fun S8 p8 b8 f8 L8 x3 y1 y2 y3 y4 y5 y6 y7 y8 y9 y10 z8 y11 y12 y13 y14 y15 => by
        have hT8 := z8.1.2.1
        obtain ⟨t1, t2, t0, t3, t4⟩ := y3
        unfold f_branch_74
        refine Rt.bd (oR_mk (v := some bc) y1 y2 rfl) (Rt.bd (oI_mk (v := nI n) y1 y2 rfl) ?_)
        refine Rt.bn (hV S8 p8 ns v1 b8 z8 (fun q => ⟨(y15 q).1, c3⟩) (by omega) (fun _ => ⟨hn16, hd⟩) (by omega) (by omega)) (fun S9 r9 q9 => ?_)
        obtain ⟨p9, v9, b9, y, e9, z9, g9, a1, a2, a3, a4, a5⟩ := q9
        subst e9
        have hT9 := z9.1.2.1
        have hs8 := z8.2.2.2.2 _ y1; have hc8 := z8.2.2.2.2 _ t1; have hb8 := z8.2.2.2.2 _ t2
        have h89 := g9.2.2.2.2.1.1; have h08 := y10.2.2.2.2.1.1
        have hs9 : ZF S9 s = .inr (19, sxV 3 pp 0 0 0 .null .null .null .null (.ref cc) (.ref bc) .null n) := (g9.2.2.1 s hs8 (fun q => q)).trans y2
        have hc9 : ZF S9 cc = .inl (K.1 9, cq, .inr (.inr (.inr (.inr f8)))) := (g9.2.2.1 cc hc8 (fun q => q)).trans t3
        have hb9 : ZF S9 bc = .inl (K.1 10, cq, .inr (.inr (.inr (.inr g5)))) := (g9.2.2.1 bc hb8 (fun q => q)).trans t4
        have e1 : s ≠ bc := ne_or y2 t4
        have e2 : s ≠ cc := ne_or y2 t3
        have hyo : okO S9 14 (some y) = true := by
          obtain ⟨vs, hv⟩ := a4.2.2
          exact okO_mk ((g9.2.2.2.1 y).mpr (Or.inr ⟨a4.1, a4.2.1⟩)) hv
        refine Rt.bd (bQ_n (g9.in t2) hb9 w5 (by omega) hyo) ?_
        refine Rt.bd (oI_mk (S := UF S9 bc _) (v := nI n) (g9.in y1) ((ZF_n e1).trans hs9) rfl) ?_
        rw [nI_1]
        refine Rt.bd (pV_mk (S := UF S9 bc _) (v := .int (nI (n + 1))) (g9.in y1) ((ZF_n e1).trans hs9) (Nat.le_of_ble_eq_true rfl)) ?_
        have hg11 : GR (fun c => c = s) S (UF (UF S9 bc (.inl (K.1 10, cq, .inr (.inr (.inr (.inr (va_up g5 n (some y)))))))) s (.inr (19, sxV 3 pp 0 0 0 .null .null .null .null (.ref cc) (.ref bc) .null (n + 1)))) := ((y10.n g9).tr GR.uf (fun c hc q => absurd q (by have := w4.2.1; omega))).tr GR.uf (fun c _ q => q)
        have hcl : ∀ a : Nat, a ≠ s → a ≠ bc → ZF (UF (UF S9 bc (.inl (K.1 10, cq, .inr (.inr (.inr (.inr (va_up g5 n (some y)))))))) s (.inr (19, sxV 3 pp 0 0 0 .null .null .null .null (.ref cc) (.ref bc) .null (n + 1)))) a = ZF S9 a := fun a h1 h2 => by rw [ZF_n h1, ZF_n h2]
        have hx1 : exS L8 (ZF S8) (L8 ++ iv (Zz S8) (Zz S9)) (ZF (UF (UF S9 bc (.inl (K.1 10, cq, .inr (.inr (.inr (.inr (va_up g5 n (some y)))))))) s (.inr (19, sxV 3 pp 0 0 0 .null .null .null .null (.ref cc) (.ref bc) .null (n + 1))))) := fun a ha => ⟨List.mem_append_left _ ha, by rw [hcl a (by have := (y5 a ha).1; omega) (fun w => y4.2 (w ▸ ha)), g9.2.2.1 a (y5 a ha).2 (fun q => q)]⟩
        have hx2 : exS (iv (Zz S8) (Zz S9)) (ZF S9) (L8 ++ iv (Zz S8) (Zz S9)) (ZF (UF (UF S9 bc (.inl (K.1 10, cq, .inr (.inr (.inr (.inr (va_up g5 n (some y)))))))) s (.inr (19, sxV 3 pp 0 0 0 .null .null .null .null (.ref cc) (.ref bc) .null (n + 1))))) := fun a ha => ⟨List.mem_append_right _ ha, hcl a (by have := (iv_m.mp ha).1; omega) (by have := (iv_m.mp ha).1; omega)⟩
        have key : ∀ {u ci : Nat}, okO S9 ci (some u) = true → ci ≠ 19 → okO (UF (UF S9 bc (.inl (K.1 10, cq, .inr (.inr (.inr (.inr (va_up g5 n (some y)))))))) s (.inr (19, sxV 3 pp 0 0 0 .null .null .null .null (.ref cc) (.ref bc) .null (n + 1)))) ci (some u) = true := fun {u ci} h hci => by
          obtain ⟨u1, vs, u2⟩ := okO_of h
          exact okO_mk u1 ((hcl u (fun w => by rw [w, hs9] at u2; cases u2; exact hci rfl) (ne_or u2 hb9)).trans u2)
        have key8 : ∀ {u ci : Nat}, okO S8 ci (some u) = true → okO S9 ci (some u) = true := fun {u ci} h => by
          obtain ⟨u1, vs, u2⟩ := okO_of h
          exact okO_mk (g9.in u1) ((g9.2.2.1 u (z8.2.2.2.2 u u1) (fun q => q)).trans u2)
        -- the new state, for any way on
        have hRW : ∀ mo2 : Int32, (mo2 ≠ 0 → f8 n ≠ none) → RW K (Zr S 5) (2 * (16 - ns) + 1) S (UF (UF S9 bc (.inl (K.1 10, cq, .inr (.inr (.inr (.inr (va_up g5 n (some y)))))))) s (.inr (19, sxV 3 pp 0 0 0 .null .null .null .null (.ref cc) (.ref bc) .null (n + 1)))) s pp mo2 (n + 1) cq p9 bb b9 vv v9 := fun mo2 hmo2 => by
          refine ⟨f8, va_up g5 n (some y), L8 ++ iv (Zz S8) (Zz S9), cc, bc, g9.in y1, ZF_s, ⟨g9.in t1, g9.in t2, t0, (hcl cc (fun q => e2 q.symm) t0).trans hc9, (ZF_n (fun q => e1 q.symm)).trans ZF_s⟩, ⟨w4.1, w4.2.1, fun q => ?_, fun q => ?_⟩, ⟨by omega, w6, by omega⟩, fun a ha => ?_, fun i hi => ?_, fun i hi => y7 i (by omega), fun i u hu => key (key8 (y8 i u hu)) (by decide), fun hne i hi => ?_, fun i hi hnone => ?_, fun q => ?_⟩
          · rcases List.mem_append.mp q with w | w
            · exact y4.1 w
            · have := (iv_m.mp w).1; omega
          · rcases List.mem_append.mp q with w | w
            · exact y4.2 w
            · have := (iv_m.mp w).1; omega
          · rcases List.mem_append.mp ha with w | w
            · exact ⟨(y5 a w).1, show a < Zz S9 by have := (y5 a w).2; omega⟩
            · have := iv_m.mp w; exact ⟨by omega, this.2⟩
          · by_cases ei : i = n
            · subst ei; exact ⟨y, va_up_self _ _ _, key hyo (by decide)⟩
            · obtain ⟨u, u1, u2⟩ := y9 i (by omega)
              exact ⟨u, (va_up_ne _ _ ei).trans u1, key (key8 u2) (by decide)⟩
          · by_cases ei : i = n
            · subst ei; exact hmo2 hne
            · rw [y6 i (by omega)]; exact h15 hmo i (by omega)
          · by_cases ei : i = n
            · omega
            · rw [y6 i (by omega)] at hnone; exact absurd hnone (h15 hmo i (by omega))
          · have q8 : Zi S8 3 = 0 := g9.2.2.2.2.2 q
            obtain ⟨d1, d2, d3⟩ := y15 q8
            obtain ⟨d4, d5, d6, d7, d8⟩ := a5 q
            rw [show Zr S8 5 = Zr S 5 by rw [y10.2.1.1]] at d8
            refine chJ_add (chJ_im (fun i y p1 q1 b1 c1 v1 w1 _ z => brP_im hx1 (Nat.le_refl _) rfl z) d2) (fun i hi => va_up_ne _ _ (by omega)) (va_up_self _ _ _) ⟨p8, b8, ?_, by omega, isS_im hx2 _ (Nat.le_refl _) d8⟩
            rcases d3 with d3 | ⟨x, p', q', d9, d10, d11, d12⟩
            · exact Or.inl d3
            · exact Or.inr ⟨x, p', q', d9, d10, d11, isE_im hx1 _ (Nat.le_refl _) d12⟩
        have hgood : Zi S9 3 = 0 → p8 < p9 ∧ b9 ≤ 54 ∧ v9 ≤ 40 ∧ Zz S9 + 8 ≤ Zz S8 + 8 * (p9 - p8) ∧ Zn S9 + 100 ≤ Zn S8 + 120 * (p9 - p8) := fun q => by
          obtain ⟨d4, d5, d6, d7, d8⟩ := a5 q
          exact ⟨(isN_lt d8).2, d6, d7, d4, d5⟩
        unfold f_branch_115 f_branch_114 f_branch_115
        have hz11 : Zz (UF (UF S9 bc (.inl (K.1 10, cq, .inr (.inr (.inr (.inr (va_up g5 n (some y)))))))) s (.inr (19, sxV 3 pp 0 0 0 .null .null .null .null (.ref cc) (.ref bc) .null (n + 1)))) = Zz S9 := rfl
        have hn11 : Zn (UF (UF S9 bc (.inl (K.1 10, cq, .inr (.inr (.inr (.inr (va_up g5 n (some y)))))))) s (.inr (19, sxV 3 pp 0 0 0 .null .null .null .null (.ref cc) (.ref bc) .null (n + 1)))) = Zn S9 := rfl
        have hbad1 : Zz S9 ≤ Zz S + 8 * (p9 - pp) + 6 := by rcases Nat.eq_zero_or_pos n with w | w; have := w13' w; omega; omega
        have hbad2 : Zn S9 ≤ Zn S + 120 * (p9 - pp) + 96 := by omega
        have hgo2 : ∀ (S12 : Sg) (p12 cm2 : Nat) (mo2 : Int32), SS (UF (UF S9 bc (.inl (K.1 10, cq, .inr (.inr (.inr (.inr (va_up g5 n (some y)))))))) s (.inr (19, sxV 3 pp 0 0 0 .null .null .null .null (.ref cc) (.ref bc) .null (n + 1)))) S12 → RZ S12 T p12 ns v9 b9 → p12 = p9 + cm2 → (Zi S12 3 = 0 → Zi S9 3 = 0) → ((mo2 = 0 ∧ cm2 = 0) ∨ (mo2 ≠ 0 ∧ cm2 = 1 ∧ f8 n ≠ none)) → Rt (f_branch_23 K V m S12 (some s) mo2) (fun S2 _ => SP K T S pp ns vv bb s S2) := fun S12 p12 cm2 mo2 g12 z12 hp12 hi12 hmo2 => by
          have x1 : Zz S12 = Zz S9 := g12.2.2.2.1
          have x2 : Zn S12 = Zn S9 := g12.2.2.2.2
          refine br23 hV hs hn16 hd r1 r2 m (cm := cm2) (by omega) (fun q => ?_) (by omega) ((hRW mo2 (fun w => (hmo2.resolve_left (fun u => w u.1)).2.2)).ss g12) (hg11.n g12.1) z12 (by omega) (by omega) (fun q => ?_)
          · have := hgood (hi12 q); omega
          · obtain ⟨d1, d2, d3, d4, d5⟩ := hgood (hi12 q)
            refine ⟨by omega, d2, d3, by omega, by omega, ?_⟩
            rcases hmo2 with ⟨u1, u2⟩ | ⟨u1, u2, _⟩
            · exact Or.inl ⟨u1, by omega, by omega⟩
            · exact Or.inr ⟨u1, by omega, Or.inr u2⟩
        have z11 : RZ (UF (UF S9 bc (.inl (K.1 10, cq, .inr (.inr (.inr (.inr (va_up g5 n (some y)))))))) s (.inr (19, sxV 3 pp 0 0 0 .null .null .null .null (.ref cc) (.ref bc) .null (n + 1)))) T p9 ns v9 b9 := z9
        refine Rt.it (fun _ => hgo2 _ p9 0 0 SS.rf z11 (by omega) id (Or.inl ⟨rfl, rfl⟩)) (fun hx3 => ?_)
        have hfn : f8 n ≠ none := (y12.resolve_left (fun u => hx3 u.1)).2
        refine Rt.bn (takes_ z11 (by decide)) (fun S12 r12 q12 => ?_)
        obtain ⟨p12, z12, g12, i12, q12⟩ := q12
        rcases q12 with ⟨u1, u2, _⟩ | ⟨u1, u2, _⟩
        · subst u1 u2
          exact Rt.ip rfl (hgo2 S12 _ 0 0 g12 z12 (by omega) (fun q => by rw [i12] at q; exact q) (Or.inl ⟨rfl, rfl⟩))
        · subst u1 u2
          exact Rt.iq (by decide) (hgo2 S12 _ 1 1 g12 z12 rfl (fun q => by rw [i12] at q; exact q) (Or.inr ⟨by decide, rfl, hfn⟩))
      -- its condition
      unfold f_branch_50
      refine Rt.bn (takes_ z5 (by decide)) (fun S6 r6 q6 => ?_)
      obtain ⟨p6, z6, g6, i6, q6⟩ := q6
      have hok6 : ∀ {u ci : Nat}, okO S5 ci (some u) = true → okO S6 ci (some u) = true := fun {u ci} h => by
        obtain ⟨u1, vs, u2⟩ := okO_of h
        exact okO_mk (by rw [g6.2.2.1]; exact u1) (by rw [g6.2.1]; exact u2)
      obtain ⟨t1, t2, t0, t3, t4⟩ := w3
      have hs6 : s ∈ ZL S6 := by rw [g6.2.2.1]; exact w1
      have hF6 : ZF S6 s = .inr (19, sxV 3 pp 0 0 0 .null .null .null .null (.ref cc) (.ref bc) .null n) := by rw [g6.2.1]; exact w2
      have hc6 : cc ∈ ZL S6 := by rw [g6.2.2.1]; exact t1
      have hb6 : bc ∈ ZL S6 := by rw [g6.2.2.1]; exact t2
      have hC6 : ZF S6 cc = .inl (K.1 9, cq, .inr (.inr (.inr (.inr f5)))) := by rw [g6.2.1]; exact t3
      have hB6 : ZF S6 bc = .inl (K.1 10, cq, .inr (.inr (.inr (.inr g5)))) := by rw [g6.2.1]; exact t4
      have x1 := g6.2.2.2.1; have x2 := g6.2.2.2.2
      have hg6 := hg5.n g6.1
      have hf5 : ∀ i x : Nat, f5 i = some x → okO S5 15 (some x) = true := fun i x hx => by
        rcases Nat.lt_or_ge i n with w | w
        · rw [(w9 i w).1] at hx; exact hok5 (h14 i x hx) (by decide)
        · rw [w10 i w] at hx; cases hx
      have hg5y : ∀ i : Nat, i < n → ∃ y : Nat, g5 i = some y ∧ okO S6 14 (some y) = true := fun i hi => by
        obtain ⟨y, y1, y2⟩ := h12 i hi
        exact ⟨y, (w9 i hi).2.trans y1, hok6 (hok5 y2 (by decide))⟩
      have hL6 : exS L (ZF S1) L (ZF S6) := fun a ha => ⟨ha, by rw [g6.2.1]; exact (hL5 a ha).2⟩
      rcases q6 with ⟨u1, u2, _⟩ | ⟨u1, u2, u3, _⟩
      · subst u1 u2
        refine Rt.ip rfl (h74 S6 _ b1 f5 L 0 hs6 hF6 ⟨hc6, hb6, t0, hC6, hB6⟩ ⟨w4.2.2.1, w4.2.2.2⟩ (fun a ha => ⟨(h11 a ha).1, by have := (h11 a ha).2; omega⟩) (fun i hi => (w9 i hi).1) (fun i hi => w10 i (by omega)) (fun i x hx => hok6 (hf5 i x hx)) hg5y hg6 z6 (by omega) (Or.inl ⟨rfl, by rw [i6, w12]⟩) (by omega) (by omega) (fun q => ⟨c2, ?_, Or.inl ⟨w10 n (Nat.le_refl _), rfl⟩⟩))
        exact chJ_im (fun i y p1 q1 b1 c1 v1 w1 hi z => brP_im hL6 (Nat.le_refl _) (w9 i hi).1 z) (chJ_r (fun i hi => (w9 i hi).2) hch)
      · subst u1 u2
        have hT6 := z6.1.2.1
        refine Rt.iq (by decide) (Rt.bd (oR_mk (v := some cc) hs6 hF6 rfl) (Rt.bd (oI_mk (v := nI n) hs6 hF6 rfl) (Rt.bn (ex140 z6 (fun _ => c2) (fun _ => hn16) (by omega) (by omega)) (fun S7 r7 q7 => ?_))))
        obtain ⟨p7, b7, x, e7, z7, g7, a1, a2, a3, a4, a5⟩ := q7
        subst e7
        have hsz6 := z6.2.2.2.2 _ hs6; have hcz6 := z6.2.2.2.2 _ hc6; have hbz6 := z6.2.2.2.2 _ hb6
        have h67 := g7.2.2.2.2.1.1; have h06 := hg6.2.2.2.2.1.1
        have hC7 : ZF S7 cc = .inl (K.1 9, cq, .inr (.inr (.inr (.inr f5)))) := (g7.2.2.1 cc hcz6 (fun q => q)).trans hC6
        have hB7 : ZF S7 bc = .inl (K.1 10, cq, .inr (.inr (.inr (.inr g5)))) := (g7.2.2.1 bc hbz6 (fun q => q)).trans hB6
        have hF7 : ZF S7 s = .inr (19, sxV 3 pp 0 0 0 .null .null .null .null (.ref cc) (.ref bc) .null n) := (g7.2.2.1 s hsz6 (fun q => q)).trans hF6
        have e2 : s ≠ cc := ne_or hF7 hC7
        have hxo : okO S7 15 (some x) = true := by
          obtain ⟨vs, hv⟩ := a4.2.2
          exact okO_mk ((g7.2.2.2.1 x).mpr (Or.inr ⟨a4.1, a4.2.1⟩)) hv
        have hok7 : ∀ {u ci : Nat}, okO S6 ci (some u) = true → okO S7 ci (some u) = true := fun {u ci} h => by
          obtain ⟨u1, vs, u2⟩ := okO_of h
          exact okO_mk (g7.in u1) ((g7.2.2.1 u (z6.2.2.2.2 u u1) (fun q => q)).trans u2)
        have hok8 : ∀ {u ci : Nat} {c : vp_A}, okO S7 ci (some u) = true → okO (UF S7 cc (.inl (K.1 9, c))) ci (some u) = true := fun {u ci c} h => by
          obtain ⟨u1, vs, u2⟩ := okO_of h
          exact okO_mk u1 ((ZF_n (ne_or u2 hC7)).trans u2)
        refine Rt.bd (bQ_n (g7.in hc6) hC7 w5 (by omega) hxo) ?_
        have hcl : ∀ a : Nat, a ≠ cc → ZF (UF S7 cc (.inl (K.1 9, cq, .inr (.inr (.inr (.inr (va_up f5 n (some x)))))))) a = ZF S7 a := fun a h => ZF_n h
        have hx1 : exS L (ZF S1) (L ++ iv (Zz S6) (Zz S7)) (ZF (UF S7 cc (.inl (K.1 9, cq, .inr (.inr (.inr (.inr (va_up f5 n (some x))))))))) := fun a ha => ⟨List.mem_append_left _ ha, by rw [hcl a (hLc a ha).2.1, g7.2.2.1 a (by have := (hLc a ha).2.2.2; omega) (fun q => q)]; exact (hL6 a ha).2⟩
        have hx2 : exS (iv (Zz S6) (Zz S7)) (ZF S7) (L ++ iv (Zz S6) (Zz S7)) (ZF (UF S7 cc (.inl (K.1 9, cq, .inr (.inr (.inr (.inr (va_up f5 n (some x))))))))) := fun a ha => ⟨List.mem_append_right _ ha, hcl a (by have := (iv_m.mp ha).1; omega)⟩
        refine h74 _ p7 b7 (va_up f5 n (some x)) (L ++ iv (Zz S6) (Zz S7)) 1 (g7.in hs6) ((ZF_n e2).trans hF7) ⟨g7.in hc6, g7.in hb6, t0, ZF_s, (ZF_n (fun q => t0 q.symm)).trans hB7⟩ ⟨fun q => ?_, fun q => ?_⟩ (fun a ha => ?_) (fun i hi => (va_up_ne _ _ (by omega)).trans (w9 i hi).1) (fun i hi => (va_up_ne _ _ (by omega)).trans (w10 i (by omega))) (fun i u hu => ?_) (fun i hi => by obtain ⟨y, y1, y2⟩ := hg5y i hi; exact ⟨y, y1, hok8 (hok7 y2)⟩) ((hg6.n g7).tr GR.uf (fun c hc q => absurd q (by have := w4.1; omega))) z7.uf (by omega) (Or.inr ⟨by decide, by rw [va_up_self]; exact fun q => nomatch q⟩) (show Zz S7 ≤ _ by omega) (show Zn S7 ≤ _ by omega) (fun q => ?_)
        · rcases List.mem_append.mp q with w | w
          · exact w4.2.2.1 w
          · have := (iv_m.mp w).1; omega
        · rcases List.mem_append.mp q with w | w
          · exact w4.2.2.2 w
          · have := (iv_m.mp w).1; omega
        · rcases List.mem_append.mp ha with w | w
          · exact ⟨(h11 a w).1, show a < Zz S7 by have := (h11 a w).2; omega⟩
          · have := iv_m.mp w; exact ⟨by omega, this.2⟩
        · by_cases ei : i = n
          · subst ei; rw [va_up_self] at hu; cases hu; exact hok8 hxo
          · rw [va_up_ne _ _ ei] at hu; exact hok8 (hok7 (hok6 (hf5 i u hu)))
        · obtain ⟨d1, d2⟩ := a5 q
          exact ⟨d1, chJ_im (fun i y p1 q1 b1 c1 v1 w1 hi z => brP_im hx1 (Nat.le_refl _) ((va_up_ne _ _ (by omega)).trans (w9 i hi).1) z) (chJ_r (fun i hi => (w9 i hi).2) hch), Or.inr ⟨x, p1 + 1, p7, va_up_self _ _ _, by omega, Nat.le_refl _, isE_im hx2 _ (Nat.le_refl _) d2⟩⟩
    obtain ⟨t1, t2, t0, t3, t4⟩ := h3
    refine Rt.bd (oI_mk (v := nI n) h1 h2 rfl) (Rt.bd (oR_mk (v := some ba) h1 h2 rfl) (Rt.bd (v := nI cp) ?_ ?_))
    · unfold aLn
      rw [aC_mk t2 t4]; exact if_pos rfl
    refine Rt.it (fun q => ?_) (fun q => ?_)
    · have hcn : n = cp := (nI_eq (by omega) (by omega)).mp q
      refine Rt.bn (gb_ (f := f) (g := g) z1.2.2.2.2 (by omega) hcn h1 h2 ⟨t1, t2, t0, t3, t4⟩ (fun i hi => ?_) (by omega) (by omega)) (fun S5 _ q5 => ?_)
      · obtain ⟨y, y1, y2⟩ := h12 i hi
        cases ef : f i with
        | none => exact absurd ef (h15 hmo i hi)
        | some x => exact ⟨x, y, rfl, h14 i x ef, y1, y2⟩
      · obtain ⟨f3, g3, x1, x2, x3, x4, x5, x6, x7, x8, x9, x10⟩ := q5
        exact hgo S5 (Zz S1) (Zz S1 + 1) (2 * n) f3 g3 x1 x2 x3 ⟨h01, by omega, fun w => by have := (h11 _ w).2; omega, fun w => by have := (h11 _ w).2; omega⟩ (by omega) (by omega) (by omega) (by omega) x4 x5 x6 x7 (by omega) (fun w => by omega) (by omega) (fun a e1 _ _ e4 => x10 a e1 e4)
    · have hlt : n < cp := by
        rcases Nat.lt_or_ge n cp with w | w
        · exact w
        · exact absurd (by rw [show n = cp by omega]) q
      exact hgo S1 ca ba cp f g h1 h2 ⟨t1, t2, t0, t3, t4⟩ ⟨h4, h5, h6, h7⟩ hlt h9 h10 (Nat.le_refl _) (fun _ _ => ⟨rfl, rfl⟩) h13 GR.rf rfl (by omega) (fun _ => rfl) (Nat.le_refl _) (fun _ _ _ _ _ => rfl)
theorem bra_ (hV : HVb K T V d) (h : RZ S T pp ns vv bb) (hs : Zz S = s + 1) (he : s ∈ ZL S) (hF : ZF S s = .inr (19, sxV 0 pp 0 0 0 .null .null .null .null .null .null .null 0)) (q0 : Zi S 3 = 0) (hb : bb ≤ 54) (hv : vv ≤ 40) (hn : ns ≤ 16) (hd : 18 ≤ ns + d) (r1 : Zz S + 8 * (T - pp) + 14 ≤ K.2.1) (r2 : Zn S + 120 * (T - pp) + 480 ≤ K.2.2) : Rt (f_branch K V S (some s)) (fun S2 _ => SP K T S pp ns vv bb s S2) := by
  have hp := h.1.2.1; have hT := h.1.2.2.1
  have s0 : St (fun b => b = s) S S s (.inr (19, sxV 0 pp 0 0 0 .null .null .null .null .null .null .null 0)) 0 0 := ⟨GR.rf, fun _ => rfl, he, hF, Nat.le_refl _, Nat.le_refl _⟩
  unfold f_branch
  refine Rt.pv s0 h (Nat.le_of_ble_eq_true rfl) rfl (fun S1 s1 z1 u1 => ?_)
  have y1 : Zz S1 = Zz S := u1.2.2.1
  have y2 : Zn S1 = Zn S := u1.2.2.2.1
  refine Rt.be (nQ_ok (n := 4) (by decide) ⟨by omega, by omega⟩) ?_
  have s2 := s1.cl (GR.un (X := nX) (S := S1) (c := .inl (K.1 9, 4, .inr (.inr (.inr (.inr (fun _ => none)))))) (n := 4)) (by omega) (z1 := 1) (n1 := 4) (Nat.le_refl _) (Nat.le_refl _)
  refine Rt.pv s2 z1.un (Nat.le_of_ble_eq_true rfl) (show va_rf (some (Zz S1)) = .ref (Zz S) by rw [y1]; rfl) (fun S4 s4 z4 u4 => ?_)
  have y4 : Zz S4 = Zz S + 1 := u4.2.2.1.trans (by show Zz S1 + 1 = _; omega)
  have y5 := s4.2.2.2.2.2
  have f4 : ZF S4 (Zz S) = .inl (K.1 9, 4, .inr (.inr (.inr (.inr (fun _ => none))))) := by rw [u4.1 _ (by omega), ← y1]; exact updE_s
  have m4 : Zz S ∈ ZL S4 := by rw [u4.2.1, ← y1]; exact List.mem_cons_self
  refine Rt.be (nQ_ok (n := 4) (by decide) ⟨by omega, by omega⟩) ?_
  have s5 := s4.cl (GR.un (X := nX) (S := S4) (c := .inl (K.1 10, 4, .inr (.inr (.inr (.inr (fun _ => none)))))) (n := 4)) (by omega) (z1 := 1) (n1 := 4) (Nat.le_refl _) (Nat.le_refl _)
  refine Rt.pv s5 z4.un (Nat.le_of_ble_eq_true rfl) (show va_rf (some (Zz S4)) = .ref (Zz S + 1) by rw [y4]; rfl) (fun S6 s6 z6 u6 => ?_)
  have y6 : Zz S6 = Zz S + 2 := u6.2.2.1.trans (by show Zz S4 + 1 = _; omega)
  have y7 := s6.2.2.2.2.2
  refine br23 (mo := 1) hV hs hn hd r1 r2 bigN (n := 0) (cp := 4) (q0 := pp) (cm := 0) (by decide) (fun _ => by show T + 1 ≤ pp + 1000000000000; omega) (by omega) ⟨fun _ => none, fun _ => none, [], Zz S, Zz S + 1, s6.2.2.1, s6.2.2.2.1, ⟨by rw [u6.2.1]; exact List.mem_cons_of_mem _ m4, by rw [u6.2.1, ← y4]; exact List.mem_cons_self, by omega, ?_, by rw [u6.1 _ (by omega), ← y4]; exact updE_s⟩, ⟨Nat.le_refl _, by omega, List.not_mem_nil, List.not_mem_nil⟩, ⟨by omega, by omega, by omega⟩, fun a ha => absurd ha List.not_mem_nil, fun i hi => absurd hi (by omega), fun _ _ => rfl, fun i x hx => (by cases hx), fun _ i hi => absurd hi (by omega), fun i hi => absurd hi (by omega), fun _ => chJ_0⟩ s6.1 z6 (by omega) (by omega) (fun _ => ⟨by omega, hb, hv, by omega, by omega, Or.inr ⟨by decide, by omega, Or.inl rfl⟩⟩)
  rw [u6.1 _ (by omega)]
  exact (updE_n (by omega)).trans f4
end BRA
