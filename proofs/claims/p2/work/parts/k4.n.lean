section BST
variable {K : Ky} {T : Nat} {V : Sg → Option (Sg × Option Nat)} {fk : Nat → Int32} {N N1 pp ns bb vv n cp p1 b1 v1 p2 b2 v2 e x : Nat} {S S1 S2 : Sg} {P : Sg → Option Nat → Prop}
/-- one statement more -/
theorem bstep {k61 : Sg → Option Nat → Option (Sg × Option Nat)} (hB : BW K fk N S S1 e pp n cp p1 bb b1 vv v1) (hg : GR nX S S1) (hz1 : ∀ a ∈ ZL S1, a < Zz S1) (z2 : RZ S2 T p2 ns v2 b2) (g2 : GR nX S1 S2) (hx : Zz S1 ≤ x ∧ x < Zz S2 ∧ ∃ vs : List Value, ZF S2 x = .inr (19, vs)) (hxN : Zi S2 3 = 0 → isS K (iv (Zz S1) (Zz S2)) (ZF S2) fk N1 0 x p1 p2 b1 b2 v1 v2) (hN : N1 ≤ N) (hn : n ≤ 3000) (r1 : Zz S2 + 1 ≤ K.2.1) (r2 : Zn S2 + 2 * n ≤ K.2.2) (kk : ∀ (S3 : Sg) (cp3 : Nat), BW K fk N S S3 e pp (n + 1) cp3 p2 bb b2 vv v2 → GR nX S S3 → RZ S3 T p2 ns v2 b2 → Zi S3 = Zi S2 → Zz S3 ≤ Zz S2 + 1 → Zn S3 + 2 * cp ≤ Zn S2 + 2 * cp3 → cp ≤ cp3 → Rt (k61 S3 (some e)) P) : Rt ((oI S2 14 (some e) 3).bind fun v21 => (oR S2 14 (some e) 2).bind fun v22 => (aLn K 11 S2 v22).bind fun v23 => if v21 = v23 then ((oI S2 14 (some e) 3).bind fun v24 => bnd (nQ K 11 S2 (2 * v24)) fun S25 a26 => f_block_107 K V k61 bigN S25 (some e) (some x) (some a26) 0) else (f_block_138 K V k61 S2 (some e) (some x))) P := by
  obtain ⟨f, L, la, h1, h2, h3, h4, h5, h6, h7, h8, h9, h10, h11, h12, h13, h14⟩ := hB
  have hez := hz1 e h1; have hlz := hz1 la h3
  have h12' := g2.2.2.2.2.1.1
  have he2 := g2.in h1; have hl2 := g2.in h3
  have hF2 : ZF S2 e = .inr (14, [.int (nI pp), .int 0, .ref la, .int (nI n)]) := (g2.2.2.1 e hez (fun q => q)).trans h2
  have hR2 : ZF S2 la = .inl (K.1 11, cp, .inr (.inr (.inr (.inr f)))) := (g2.2.2.1 la hlz (fun q => q)).trans h4
  have hxo : okO S2 19 (some x) = true := by
    obtain ⟨vs, hv⟩ := hx.2.2
    exact okO_mk ((g2.2.2.2.1 x).mpr (Or.inr ⟨hx.1, hx.2.1⟩)) hv
  have hy2 : ∀ i : Nat, i < n → ∃ y : Nat, f i = some y ∧ okO S2 19 (some y) = true := fun i hi => by
    obtain ⟨y, y1, y2⟩ := h13 i hi
    obtain ⟨y3, vs, y4⟩ := okO_of y2
    exact ⟨y, y1, okO_mk (g2.in y3) ((g2.2.2.1 y (hz1 y y3) (fun q => q)).trans y4)⟩
  have hg02 := hg.n g2
  have hML : ∀ a ∈ L ++ iv (Zz S1) (Zz S2), Zz S ≤ a ∧ a < Zz S2 ∧ a ≠ e ∧ a ≠ la := fun a ha => by
    have h01 := hg.2.2.2.2.1.1
    rcases List.mem_append.mp ha with q | q
    · have := h12 a q; exact ⟨this.1, by omega, fun w => h7 (w ▸ q), fun w => h8 (w ▸ q)⟩
    · have := iv_m.mp q; exact ⟨by omega, by omega, by omega, by omega⟩
  -- the row has room
  have hfin : ∀ (S5 : Sg) (lb cq : Nat) (f5 : Nat → Option Nat), e ∈ ZL S5 → ZF S5 e = .inr (14, [.int (nI pp), .int 0, .ref lb, .int (nI n)]) → lb ∈ ZL S5 → ZF S5 lb = .inl (K.1 11, cq, .inr (.inr (.inr (.inr f5)))) → n < cq → cq ≤ 4 + 2 * n → 4 ≤ cq → cp ≤ cq → (lb = la ∨ lb = Zz S2) → (∀ i : Nat, i < n → f5 i = f i) → GR (fun c => c = e) S2 S5 → Zi S5 = Zi S2 → Zz S5 ≤ Zz S2 + 1 → Zn S5 + 2 * cp ≤ Zn S2 + 2 * cq → (∀ y : Nat, okO S2 19 (some y) = true → okO S5 19 (some y) = true) → Rt (f_block_138 K V k61 S5 (some e) (some x)) P := fun S5 lb cq f5 w1 w2 w3 w4 w5 w6 w7 w8 w9 w10 w11 w12 w13 w14 w15 => by
    rw [bl138 w1 w2 w3 w4 w5 (by omega) (w15 x hxo)]
    have e1 : e ≠ lb := ne_or w2 w4
    have hlb : Zz S ≤ lb := by rcases w9 with q | q; rw [q]; exact h6; have := hg02.2.2.2.2.1.1; omega
    have hg5 : GR nX S S5 := hg02.tr w11 (fun c hc q => absurd q (by omega))
    have hg3 : GR nX S (UF (UF S5 lb (.inl (K.1 11, cq, .inr (.inr (.inr (.inr (va_up f5 n (some x)))))))) e (.inr (14, [.int (nI pp), .int 0, .ref lb, .int (nI (n + 1))]))) := (hg5.tr GR.uf (fun c hc q => absurd q (by omega))).tr GR.uf (fun c hc q => absurd q (by omega))
    have hcl : ∀ a ∈ L ++ iv (Zz S1) (Zz S2), ZF (UF (UF S5 lb (.inl (K.1 11, cq, .inr (.inr (.inr (.inr (va_up f5 n (some x)))))))) e (.inr (14, [.int (nI pp), .int 0, .ref lb, .int (nI (n + 1))]))) a = ZF S2 a := fun a ha => by
      obtain ⟨q1, q2, q3, q4⟩ := hML a ha
      rw [ZF_n q3, ZF_n (by rcases w9 with q | q; rw [q]; exact q4; omega), w11.2.2.1 a q2 q3]
    have h25 := w11.2.2.2.2.1.1
    refine kk _ cq ⟨va_up f5 n (some x), L ++ iv (Zz S1) (Zz S2), lb, w1, ZF_s, w3, (ZF_n (fun q => e1 q.symm)).trans ZF_s, h5, hlb, fun q => (hML e q).2.2.1 rfl, fun q => ?_, by omega, w7, by omega, fun a ha => ⟨(hML a ha).1, show a < Zz S5 by have := (hML a ha).2.1; omega⟩, fun i hi => ?_, fun q3 => ?_⟩ hg3 ⟨⟨by show Zi S5 10 = _; rw [w12]; exact z2.1.1, z2.1.2.1, z2.1.2.2.1, by show Zr S5 5 _ = _; rw [w11.2.1.1]; exact z2.1.2.2.2⟩, by show Zi S5 15 = _; rw [w12]; exact z2.2.1, by show Zi S5 16 = _; rw [w12]; exact z2.2.2.1, by show Zi S5 17 = _; rw [w12]; exact z2.2.2.2.1, w11.lt z2.2.2.2.2⟩ w12 w13 w14 w8
    · rcases w9 with w | w
      · exact (hML lb q).2.2.2 w
      · have := (hML lb q).2.1; omega
    · have key : ∀ {y : Nat}, okO S2 19 (some y) = true → okO (UF (UF S5 lb (.inl (K.1 11, cq, .inr (.inr (.inr (.inr (va_up f5 n (some x)))))))) e (.inr (14, [.int (nI pp), .int 0, .ref lb, .int (nI (n + 1))]))) 19 (some y) = true := fun {y} h => by
        obtain ⟨y1, vs, y2⟩ := okO_of (w15 y h)
        refine okO_mk y1 ((ZF_n (fun q => ?_)).trans ((ZF_n (ne_or y2 w4)).trans y2))
        rw [q, w2] at y2; cases y2
      by_cases ei : i = n
      · subst ei; exact ⟨x, va_up_self _ _ _, key hxo⟩
      · obtain ⟨y, y1, y2⟩ := hy2 i (by omega)
        exact ⟨y, (va_up_ne _ _ ei).trans ((w10 i (by omega)).trans y1), key y2⟩
    · have q2 : Zi S2 3 = 0 := by rw [← w12]; exact q3
      have q1 : Zi S1 3 = 0 := g2.2.2.2.2.2 q2
      have hx1 : exS L (ZF S1) (L ++ iv (Zz S1) (Zz S2)) (ZF (UF (UF S5 lb (.inl (K.1 11, cq, .inr (.inr (.inr (.inr (va_up f5 n (some x)))))))) e (.inr (14, [.int (nI pp), .int 0, .ref lb, .int (nI (n + 1))])))) := fun b hb => ⟨List.mem_append_left _ hb, (hcl b (List.mem_append_left _ hb)).trans (g2.2.2.1 b (h12 b hb).2 (fun q => q))⟩
      have hx2 : exS (iv (Zz S1) (Zz S2)) (ZF S2) (L ++ iv (Zz S1) (Zz S2)) (ZF (UF (UF S5 lb (.inl (K.1 11, cq, .inr (.inr (.inr (.inr (va_up f5 n (some x)))))))) e (.inr (14, [.int (nI pp), .int 0, .ref lb, .int (nI (n + 1))])))) := fun b hb => ⟨List.mem_append_right _ hb, hcl b (List.mem_append_right _ hb)⟩
      exact chN_add (chN_im (fun y p q b c v w z => isS_im hx1 _ (Nat.le_refl _) z) (h14 q1)) (fun i hi => (va_up_ne _ _ (by omega)).trans (w10 i hi)) (va_up_self _ _ _) (isS_im hx2 _ hN (hxN q2))
  refine Rt.bd (oI_mk he2 hF2 rfl) (Rt.bd (oR_mk (v := some la) he2 hF2 rfl) (Rt.bd (v := nI cp) ?_ ?_))
  · unfold aLn
    rw [aC_mk hl2 hR2]; exact if_pos rfl
  refine Rt.it (fun q => ?_) (fun q => ?_)
  · have hcn : n = cp := (nI_eq (by omega) (by omega)).mp q
    refine Rt.bd (oI_mk he2 hF2 rfl) ?_
    rw [nI_2]
    refine Rt.be (nQ_ok (n := 2 * n) (by omega) ⟨r1, r2⟩) ?_
    have hup : ∀ {a : Nat} {c : va_E}, a ∈ ZL S2 → ZF S2 a = c → ZF (Un S2 (.inl (K.1 11, 2 * n, .inr (.inr (.inr (.inr (fun _ => none)))))) (2 * n)) a = c := fun {a c} h1 h2 => (updE_n (by have := z2.2.2.2.2 a h1; omega)).trans h2
    have hoku : ∀ {y : Nat}, okO S2 19 (some y) = true → okO (Un S2 (.inl (K.1 11, 2 * n, .inr (.inr (.inr (.inr (fun _ => none)))))) (2 * n)) 19 (some y) = true := fun {y} h => by
      obtain ⟨y1, vs, y2⟩ := okO_of h
      exact okO_mk (List.mem_cons_of_mem _ y1) (hup y1 y2)
    refine bl107 (S0 := S2) (la := la) (l2 := Zz S2) (cp := cp) (f := f) (by omega) hcn (Nat.le_refl _) (by omega) (fun S5 f5 w1 w2 w3 w4 w5 w6 w7 w8 w9 w10 => hfin S5 (Zz S2) (2 * n) f5 w1 w2 w3 w4 (by omega) (by omega) (by omega) (by omega) (Or.inr rfl) w5 w6 w7 (by omega) (by omega) w10) bigN 0 (by show n < 0 + 1000000000000; omega) (by omega) (List.mem_cons_of_mem _ he2) (hup he2 hF2) (List.mem_cons_of_mem _ hl2) (hup hl2 hR2) List.mem_cons_self updE_s (by omega) (fun i hi => by obtain ⟨y, y1, y2⟩ := hy2 i hi; exact ⟨y, y1, hoku y2⟩) (fun i hi => absurd hi (by omega)) GR.un rfl rfl rfl (fun y hy => hoku hy)
  · have hlt : n < cp := by
      rcases Nat.lt_or_ge n cp with w | w
      · exact w
      · exact absurd (by rw [show n = cp by omega]) q
    exact hfin S2 la cp f he2 hF2 hl2 hR2 hlt h11 h10 (Nat.le_refl _) (Or.inl rfl) (fun _ _ => rfl) GR.rf rfl (by omega) (Nat.le_refl _) (fun _ h => h)
end BST
