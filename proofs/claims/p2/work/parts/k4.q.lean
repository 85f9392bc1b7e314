/-- the arms of the match s that were read since S -/
def MW (K : Ky) (fk : Nat → Int32) (N : Nat) (S S1 : Sg) (s x : Nat) (mu rf : Int32) (pp p0 q0 b0 b9 n cp p1 b1 vv v1 : Nat) : Prop := ∃ (f : Nat → Option Nat) (L : List Nat) (la : Nat), s ∈ ZL S1 ∧ ZF S1 s = .inr (19, sxV 5 pp 0 mu rf .null (.ref x) .null .null .null .null (.ref la) n) ∧ la ∈ ZL S1 ∧ ZF S1 la = .inl (K.1 7, cp, .inr (.inr (.inr (.inr f)))) ∧ Zz S ≤ la ∧ la ∉ L ∧ n ≤ cp ∧ 4 ≤ cp ∧ cp ≤ 4 + 2 * n ∧ (∀ a ∈ L, Zz S ≤ a ∧ a < Zz S1) ∧ (∀ i : Nat, i < n → ∃ y : Nat, f i = some y ∧ okO S1 13 (some y) = true) ∧ (Zi S1 3 = 0 → isE L (ZF S1) (K.1 9) (K.1 0) 408 16 x p0 q0 b0 b9 ∧ (rf = 1 → plE (ZF S1) 408 x) ∧ chN (isS K L (ZF S1) fk N 2) f n (q0 + 1) p1 b9 b1 vv v1)
section MAT
variable {K : Ky} {T : Nat} {V : Sg → Option (Sg × Option Nat)} {fk : Nat → Int32} {N d pp ns bb vv s x p0 q0 b0 b9 : Nat} {S : Sg} {mu rf : Int32} {P : Sg → Unit → Prop}
theorem MW.cp {n cp p1 b1 v1 : Nat} {S1 : Sg} (h : MW K fk N S S1 s x mu rf pp p0 q0 b0 b9 n cp p1 b1 vv v1) : 4 ≤ cp ∧ cp ≤ 4 + 2 * n ∧ n ≤ cp := by
  obtain ⟨f, L, la, h1, h2, h3, h4, h5, h6, h7, h8, h9, _⟩ := h
  exact ⟨h8, h9, h7⟩
/-- the row is made longer -/
theorem mt186 {k146 : Sg → Option Nat → Option (Sg × Unit)} {S0 : Sg} {la l2 cp n : Nat} {f : Nat → Option Nat} (hn : n ≤ 3001) (hcp : n = cp) (hl2 : Zz S0 ≤ l2) (he0 : s < Zz S0) (kk : ∀ (S : Sg) (f2 : Nat → Option Nat), s ∈ ZL S → ZF S s = .inr (19, sxV 5 pp 0 mu rf .null (.ref x) .null .null .null .null (.ref l2) n) → l2 ∈ ZL S → ZF S l2 = .inl (K.1 7, 2 * n, .inr (.inr (.inr (.inr f2)))) → (∀ i : Nat, i < n → f2 i = f i) → GR (fun c => c = s) S0 S → Zi S = Zi S0 → Zz S = l2 + 1 → Zn S = Zn S0 + 2 * n → (∀ y : Nat, okO S0 13 (some y) = true → okO S 13 (some y) = true) → Rt (f_match_214 K V k146 S (some s)) P) : ∀ (m j : Nat), n < j + m → j ≤ n → ∀ {S : Sg} {f2 : Nat → Option Nat}, s ∈ ZL S → ZF S s = .inr (19, sxV 5 pp 0 mu rf .null (.ref x) .null .null .null .null (.ref la) n) → la ∈ ZL S → ZF S la = .inl (K.1 7, cp, .inr (.inr (.inr (.inr f)))) → l2 ∈ ZL S → ZF S l2 = .inl (K.1 7, 2 * n, .inr (.inr (.inr (.inr f2)))) → la ≠ l2 → (∀ i : Nat, i < n → ∃ y : Nat, f i = some y ∧ okO S 13 (some y) = true) → (∀ i : Nat, i < j → f2 i = f i) → GR (fun c => c = s) S0 S → Zi S = Zi S0 → Zz S = l2 + 1 → Zn S = Zn S0 + 2 * n → (∀ y : Nat, okO S0 13 (some y) = true → okO S 13 (some y) = true) → Rt (f_match_186 K V k146 m S (some s) (some l2) (nI j)) P
  | 0, j, w1, w2, _, _, _, _, _, _, _, _, _, _, _, _, _, _, _, _ => absurd w1 (by omega)
  | m + 1, j, w1, w2, S, f2, he, hF, hl, hR, h2, hR2, hne, hy, hfg, hg, hi, hz, hnn, hok => by
    have e1 : s ≠ l2 := ne_or hF hR2
    unfold f_match_186
    refine Rt.bd (oI_mk (v := nI n) he hF rfl) (Rt.it (fun q => ?_) (fun q => ?_))
    · have hj : j = n := by
        rcases Nat.lt_or_ge j n with w | w
        · exact absurd q (fun q => by have := (nI_leI (by omega) (by omega)).mp q; omega)
        · omega
      subst hj
      refine Rt.bd (pV_mk (v := va_rf (some l2)) he hF (Nat.le_of_ble_eq_true rfl)) ?_
      refine kk _ f2 he ZF_s h2 ((ZF_n (fun q => e1 q.symm)).trans hR2) hfg (hg.tr GR.uf (fun c _ q => q)) hi hz hnn (fun y hy1 => ?_)
      have hy2 := hok y hy1
      obtain ⟨y1, vs, y2⟩ := okO_of hy2
      exact okO_mk y1 ((ZF_n (fun q => by rw [q, hF] at y2; cases y2)).trans y2)
    · have hj : j < n := by
        rcases Nat.lt_or_ge j n with w | w
        · exact w
        · exact absurd (nI_le w (by omega)) q
      obtain ⟨y, hfy, hoy⟩ := hy j hj
      refine Rt.bd (oR_mk (v := some la) he hF rfl) (Rt.bd (aQ_n hl hR (show j < cp by omega) (by omega)) ?_)
      rw [hfy]
      refine Rt.bd (bQ_n h2 hR2 (show j < 2 * n by omega) (by omega) hoy) ?_
      rw [nI_1]
      have hok2 : ∀ {u : Nat} {c : vp_A}, okO S 13 (some u) = true → okO (UF S l2 (.inl (K.1 7, c))) 13 (some u) = true := fun {u c} h => by
        obtain ⟨y1, vs, y2⟩ := okO_of h
        exact okO_mk y1 ((ZF_n (ne_or y2 hR2)).trans y2)
      refine mt186 hn hcp hl2 he0 kk m (j + 1) (by omega) (by omega) he ((ZF_n e1).trans hF) hl ((ZF_n hne).trans hR) h2 ZF_s hne (fun i hi => by obtain ⟨u, h1, h3⟩ := hy i hi; exact ⟨u, h1, hok2 h3⟩) (fun i hi => ?_) (hg.tr GR.uf (fun c hc q => absurd q (by omega))) hi hz hnn (fun u hu => hok2 (hok u hu))
      by_cases ei : i = j
      · subst ei; exact (va_up_self _ _ _).trans hfy.symm
      · exact (va_up_ne _ _ ei).trans (hfg i (by omega))
/-- the end -/
theorem mt240 (hs : Zz S = s + 1) {S1 : Sg} {p1 b1 v1 n cp : Nat} (hp : pp ≤ p1 ∧ bb ≤ b1 ∧ b1 ≤ bb + (p1 - pp)) (hB : MW K (Zr S 5) (2 * (16 - ns) + 1) S S1 s x mu rf pp p0 q0 b0 b9 n cp p1 b1 vv v1) (hg : GR (fun c => c = s) S S1) (z1 : RZ S1 T p1 (ns + 1) v1 b1) (k1 : Zz S1 ≤ Zz S + 8 * (p1 - pp) + 6) (k2 : Zn S1 ≤ Zn S + 120 * (p1 - pp) + 96) (k3 : Zi S1 3 = 0 → pp < p0 ∧ b1 ≤ 54 ∧ v1 ≤ 40 ∧ Zz S1 + 4 * n + 12 ≤ Zz S + 8 * (p1 - pp) ∧ Zn S1 + 50 * n + 180 ≤ Zn S + 120 * (p1 - pp) + 2 * cp ∧ ((rf = 0 ∧ mu = 0 ∧ b0 = bb) ∨ (rf = 1 ∧ (mu = 0 ∨ mu = 1) ∧ b0 = bb + 1))) : Rt (f_match_240 K V S1) (fun S2 _ => SP K T S pp ns vv bb s S2) := by
  have hcp := hB.cp
  obtain ⟨f, L, la, h1, h2, h3, h4, h5, h6, h7, h8, h9, h10, h11, h12⟩ := hB
  unfold f_match_240
  refine Rt.nd z1 (fun S5 g5 z5 i5 => Rt.bn (take_ z5 (by decide)) (fun S6 _ q6 => Rt.rt ?_))
  obtain ⟨p6, z6, g6, w1, w2, w3⟩ := q6
  have g16 := g5.tr g6
  have s1 : St (fun c => c = s) S S1 s (.inr (19, sxV 5 pp 0 mu rf .null (.ref x) .null .null .null .null (.ref la) n)) (8 * (p1 - pp) + 6) (120 * (p1 - pp) + 96) := ⟨hg, fun _ => rfl, h1, h2, k1, k2⟩
  have s6 := s1.ss g16
  have y1 := g16.2.2.2.1; have y2 := g16.2.2.2.2
  refine ⟨p6, v1, b1, _, z6, s6.le (by omega) (by omega), by omega, fun q => ?_⟩
  have q1 : Zi S1 3 = 0 := by rw [← i5]; exact g6.1.2.2.2.2.2 q
  have w4 := (w3 q).2
  subst w4
  obtain ⟨c1, c2, c3, c4, c5, c6⟩ := k3 q1
  obtain ⟨d1, d2, d3⟩ := h12 q1
  have hss := z6.2.2.2.2 _ s6.2.2.1
  have hlz := z1.2.2.2.2 _ h3
  have hx : exS L (ZF S1) (iv s (Zz S6)) (ZF S6) := fun a ha => ⟨iv_m.mpr ⟨by have := (h10 a ha).1; omega, by have := (h10 a ha).2; omega⟩, by rw [g16.2.1]⟩
  refine ⟨by omega, by omega, c2, c3, by omega, isN_M (n := 2 * (16 - ns) + 1) (iv_m.mpr ⟨Nat.le_refl _, hss⟩) (by omega) s6.2.2.2.1 ?_ c1 (isE_im hx _ (Nat.le_refl _) d1) (iv_m.mpr ⟨by omega, by omega⟩) (by rw [g16.2.1]; exact h4) h7 (chN_im (fun y p q b c v w z => isS_im hx _ (Nat.le_refl _) z) d3)⟩
  rcases c6 with c6 | ⟨c6, c7, c8⟩
  · exact Or.inl c6
  · exact Or.inr ⟨c6, c7, c8, plE_ex hx (isE_pw d1) (d2 c6)⟩
/-- one arm more, with room in the row -/
theorem mt214 {k146 : Sg → Option Nat → Option (Sg × Unit)} (hV : HVb K T V d) (hs : Zz S = s + 1) {S1 S5 : Sg} {p1 b1 v1 n cp cq lb : Nat} {f f5 : Nat → Option Nat} {L : List Nat} (hb : b1 ≤ 54) (hv : v1 ≤ 40) (hn16 : ns + 1 ≤ 16) (hd : 18 ≤ ns + 1 + d) (q1 : Zi S1 3 = 0) (hg : GR (fun c => c = s) S S1) (z1 : RZ S1 T p1 (ns + 1) v1 b1) (hL : ∀ a ∈ L, Zz S ≤ a ∧ a < Zz S1) (hy : ∀ i : Nat, i < n → ∃ y : Nat, f i = some y ∧ okO S1 13 (some y) = true) (hgd : isE L (ZF S1) (K.1 9) (K.1 0) 408 16 x p0 q0 b0 b9 ∧ (rf = 1 → plE (ZF S1) 408 x) ∧ chN (isS K L (ZF S1) (Zr S 5) (2 * (16 - ns) + 1) 2) f n (q0 + 1) p1 b9 b1 vv v1)
    (w1 : s ∈ ZL S5) (w2 : ZF S5 s = .inr (19, sxV 5 pp 0 mu rf .null (.ref x) .null .null .null .null (.ref lb) n)) (w3 : lb ∈ ZL S5) (w4 : ZF S5 lb = .inl (K.1 7, cq, .inr (.inr (.inr (.inr f5))))) (w5 : n < cq) (w6 : cq ≤ 4 + 2 * n) (w7 : 4 ≤ cq) (w9 : lb ∉ L ∧ Zz S ≤ lb) (w10 : ∀ i : Nat, i < n → f5 i = f i) (w11 : GR (fun c => c = s) S1 S5) (w12 : Zi S5 = Zi S1) (w15 : ∀ y : Nat, okO S1 13 (some y) = true → okO S5 13 (some y) = true) (r1 : Zz S5 + 8 * (T - p1) + 16 ≤ K.2.1) (r2 : Zn S5 + 120 * (T - p1) + 520 ≤ K.2.2) (hn : n ≤ 3000)
    (kk : ∀ (S3 : Sg) (p2 b2 v2 : Nat), MW K (Zr S 5) (2 * (16 - ns) + 1) S S3 s x mu rf pp p0 q0 b0 b9 (n + 1) cq p2 b2 vv v2 → GR (fun c => c = s) S S3 → RZ S3 T p2 (ns + 1) v2 b2 → (p1 ≤ p2 ∧ b1 ≤ b2 ∧ b2 ≤ b1 + (p2 - p1)) → Zz S3 ≤ Zz S5 + 8 * (p2 - p1) + 5 → Zn S3 ≤ Zn S5 + 120 * (p2 - p1) + 50 → (Zi S3 3 = 0 → p1 < p2 ∧ b2 ≤ 54 ∧ v2 ≤ 40 ∧ Zz S3 + 8 ≤ Zz S5 + 8 * (p2 - p1) ∧ Zn S3 + 100 ≤ Zn S5 + 120 * (p2 - p1)) → Rt (k146 S3 (some s)) P) : Rt (f_match_214 K V k146 S5 (some s)) P := by
  have z5 : RZ S5 T p1 (ns + 1) v1 b1 := ⟨⟨by rw [w12]; exact z1.1.1, z1.1.2.1, z1.1.2.2.1, by rw [w11.2.1.1]; exact z1.1.2.2.2⟩, by rw [w12]; exact z1.2.1, by rw [w12]; exact z1.2.2.1, by rw [w12]; exact z1.2.2.2.1, w11.lt z1.2.2.2.2⟩
  have q5 : Zi S5 3 = 0 := by rw [w12]; exact q1
  unfold f_match_214
  refine Rt.bd (oR_mk (v := some lb) w1 w2 rfl) (Rt.bd (oI_mk (v := nI n) w1 w2 rfl) ?_)
  refine Rt.bn (arm_ hV z5 q5 hb hv hn16 hd (by omega) (by omega)) (fun S6 r6 q6 => ?_)
  obtain ⟨p6, v6, b6, y, e6, z6, g6, k1, k2, k3, k4, k5⟩ := q6
  subst e6
  have hsz := z5.2.2.2.2 _ w1; have hlz := z5.2.2.2.2 _ w3
  have h15 := w11.2.2.2.2.1.1; have h56 := g6.2.2.2.2.1.1; have h01 := hg.2.2.2.2.1.1
  have hs6 : ZF S6 s = .inr (19, sxV 5 pp 0 mu rf .null (.ref x) .null .null .null .null (.ref lb) n) := (g6.2.2.1 s hsz (fun q => q)).trans w2
  have hl6 : ZF S6 lb = .inl (K.1 7, cq, .inr (.inr (.inr (.inr f5)))) := (g6.2.2.1 lb hlz (fun q => q)).trans w4
  have e1 : s ≠ lb := ne_or w2 w4
  have hyo : okO S6 13 (some y) = true := by
    obtain ⟨vs, hv⟩ := k4.2.2
    exact okO_mk ((g6.2.2.2.1 y).mpr (Or.inr ⟨k4.1, k4.2.1⟩)) hv
  refine Rt.bd (bQ_n (g6.in w3) hl6 w5 (by omega) hyo) ?_
  refine Rt.bd (oI_mk (S := UF S6 lb _) (v := nI n) (g6.in w1) ((ZF_n e1).trans hs6) rfl) ?_
  rw [nI_1]
  refine Rt.bd (pV_mk (S := UF S6 lb _) (v := .int (nI (n + 1))) (g6.in w1) ((ZF_n e1).trans hs6) (Nat.le_of_ble_eq_true rfl)) ?_
  have hg6 : GR (fun c => c = s) S S6 := (hg.tr w11 (fun _ _ q => q)).n g6
  have hg3 : GR (fun c => c = s) S (UF (UF S6 lb (.inl (K.1 7, cq, .inr (.inr (.inr (.inr (va_up f5 n (some y)))))))) s (.inr (19, sxV 5 pp 0 mu rf .null (.ref x) .null .null .null .null (.ref lb) (n + 1)))) := (hg6.tr GR.uf (fun c hc q => absurd q (by omega))).tr GR.uf (fun c _ q => q)
  have hcl : ∀ a : Nat, a ≠ s → a ≠ lb → ZF (UF (UF S6 lb (.inl (K.1 7, cq, .inr (.inr (.inr (.inr (va_up f5 n (some y)))))))) s (.inr (19, sxV 5 pp 0 mu rf .null (.ref x) .null .null .null .null (.ref lb) (n + 1)))) a = ZF S6 a := fun a h1 h2 => by rw [ZF_n h1, ZF_n h2]
  have hLs : ∀ a ∈ L, a ≠ s ∧ a ≠ lb := fun a ha => ⟨by have := (hL a ha).1; omega, fun w => w9.1 (w ▸ ha)⟩
  have hx1 : exS L (ZF S1) (L ++ iv (Zz S5) (Zz S6)) (ZF (UF (UF S6 lb (.inl (K.1 7, cq, .inr (.inr (.inr (.inr (va_up f5 n (some y)))))))) s (.inr (19, sxV 5 pp 0 mu rf .null (.ref x) .null .null .null .null (.ref lb) (n + 1))))) := fun a ha => ⟨List.mem_append_left _ ha, by
    rw [hcl a (hLs a ha).1 (hLs a ha).2, g6.2.2.1 a (by have := (hL a ha).2; omega) (fun q => q), w11.2.2.1 a (hL a ha).2 (hLs a ha).1]⟩
  have hx2 : exS (iv (Zz S5) (Zz S6)) (ZF S6) (L ++ iv (Zz S5) (Zz S6)) (ZF (UF (UF S6 lb (.inl (K.1 7, cq, .inr (.inr (.inr (.inr (va_up f5 n (some y)))))))) s (.inr (19, sxV 5 pp 0 mu rf .null (.ref x) .null .null .null .null (.ref lb) (n + 1))))) := fun a ha => ⟨List.mem_append_right _ ha, hcl a (by have := (iv_m.mp ha).1; omega) (by have := (iv_m.mp ha).1; omega)⟩
  refine kk _ p6 b6 v6 ⟨va_up f5 n (some y), L ++ iv (Zz S5) (Zz S6), lb, g6.in w1, ZF_s, g6.in w3, (ZF_n (fun q => e1 q.symm)).trans ZF_s, w9.2, fun q => ?_, by omega, w7, by omega, fun a ha => ?_, fun i hi => ?_, fun q => ?_⟩ hg3 z6.uf.uf k1 k2 k3 (fun q => ?_)
  · rcases List.mem_append.mp q with w | w
    · exact w9.1 w
    · have := (iv_m.mp w).1; omega
  · rcases List.mem_append.mp ha with w | w
    · exact ⟨(hL a w).1, show a < Zz S6 by have := (hL a w).2; omega⟩
    · have := iv_m.mp w; exact ⟨by omega, this.2⟩
  · have key : ∀ {u : Nat}, okO S6 13 (some u) = true → okO (UF (UF S6 lb (.inl (K.1 7, cq, .inr (.inr (.inr (.inr (va_up f5 n (some y)))))))) s (.inr (19, sxV 5 pp 0 mu rf .null (.ref x) .null .null .null .null (.ref lb) (n + 1)))) 13 (some u) = true := fun {u} h => by
      obtain ⟨u1, vs, u2⟩ := okO_of h
      exact okO_mk u1 ((hcl u (fun q => by rw [q, hs6] at u2; cases u2) (ne_or u2 hl6)).trans u2)
    by_cases ei : i = n
    · subst ei; exact ⟨y, va_up_self _ _ _, key hyo⟩
    · obtain ⟨u, u1, u2⟩ := hy i (by omega)
      obtain ⟨u3, vs, u4⟩ := okO_of (w15 u u2)
      exact ⟨u, (va_up_ne _ _ ei).trans ((w10 i (by omega)).trans u1), key (okO_mk (g6.in u3) ((g6.2.2.1 u (z5.2.2.2.2 u u3) (fun q => q)).trans u4))⟩
  · obtain ⟨d1, d2, d3, d4, d5⟩ := k5 q
    rw [show Zr S5 5 = Zr S 5 by rw [w11.2.1.1, hg.2.1.1]] at d5
    exact ⟨isE_im hx1 _ (Nat.le_refl _) hgd.1, fun w => plE_ex hx1 (isE_pw hgd.1) (hgd.2.1 w), chN_add (chN_im (fun y p q b c v w z => isS_im hx1 _ (Nat.le_refl _) z) hgd.2.2) (fun i hi => (va_up_ne _ _ (by omega)).trans (w10 i hi)) (va_up_self _ _ _) (isS_im hx2 _ (by omega) d5)⟩
  · obtain ⟨d1, d2, d3, d4, d5⟩ := k5 q
    exact ⟨(isN_lt d5).2, d3, d4, d1, d2⟩
end MAT
