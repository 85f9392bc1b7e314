-- k6.g.lean.txt
section
theorem yOK_3 {im : Nat} {ik : Nat → Int32} {ix : Int32} {o : Option Nat} (h : yOK im ik (3, ix, o)) : (∃ i : Nat, i < im ∧ ix = nI i ∧ ik i = 10) ∧ o = none := by
  rcases h with ⟨w, _⟩ | ⟨_, w1, w2⟩ | ⟨w, _⟩ | ⟨w, _⟩
  · exact absurd (show (3 : Int32) = 0 ∨ (3 : Int32) = 1 ∨ (3 : Int32) = 2 ∨ (3 : Int32) = 8 from w) (by decide)
  · exact ⟨w1, w2⟩
  · exact absurd (show (3 : Int32) = 4 from w) (by decide)
  · exact absurd (show (3 : Int32) = 5 ∨ (3 : Int32) = 6 ∨ (3 : Int32) = 7 from w) (by decide)
theorem yOK_4 {im : Nat} {ik : Nat → Int32} {ix : Int32} {o : Option Nat} (h : yOK im ik (4, ix, o)) : (∃ i : Nat, i < im ∧ ix = nI i ∧ ik i = 11) ∧ o = none := by
  rcases h with ⟨w, _⟩ | ⟨w, _⟩ | ⟨_, w1, w2⟩ | ⟨w, _⟩
  · exact absurd (show (4 : Int32) = 0 ∨ (4 : Int32) = 1 ∨ (4 : Int32) = 2 ∨ (4 : Int32) = 8 from w) (by decide)
  · exact absurd (show (4 : Int32) = 3 from w) (by decide)
  · exact ⟨w1, w2⟩
  · exact absurd (show (4 : Int32) = 5 ∨ (4 : Int32) = 6 ∨ (4 : Int32) = 7 from w) (by decide)
theorem yOK_5 {im : Nat} {ik : Nat → Int32} {kd ix : Int32} {o : Option Nat} (h : yOK im ik (kd, ix, o)) (hk : kd = 5 ∨ kd = 6 ∨ kd = 7) : ix = 0 ∧ ∃ u : Nat, o = some u := by
  rcases h with ⟨w, _⟩ | ⟨w, _⟩ | ⟨w, _⟩ | ⟨_, w1, w2⟩
  · have w : kd = 0 ∨ kd = 1 ∨ kd = 2 ∨ kd = 8 := w
    rcases hk with e | e | e <;> subst e <;> exact absurd w (by decide)
  · have w : kd = 3 := w
    rcases hk with e | e | e <;> subst e <;> exact absurd w (by decide)
  · have w : kd = 4 := w
    rcases hk with e | e | e <;> subst e <;> exact absurd w (by decide)
  · exact ⟨w1, w2⟩
section PLD
variable {R : yR} {Γ : List Nat} {c nv : Nat}
/-- member -/
theorem mem_32 (hK : yRm R) (hv : nv ≤ 10000) (hc : c ≤ 1990) {S : Sg} {n e p q q' nm o v y i : Nat} {π : List (Nat × Nat)} {mu w2 : Nat} (h : TS R c nv S) (hI : ItY R S i) (hi : i < R.im) (hik : R.ik i = 10) (he : e ∈ ZL R.S) (hG : ZF R.S e = xpC 14 p 0 (nI nm) 0 0 (.ref o) .null .null 0) (hF : ZF S e = ZF R.S e) (hq1 : q' < nm) (hq2 : nm < q) (hq : q ≤ R.T) (hp : p < q') (ho : xPl R S Γ n o p q' v π y mu w2) (hy : isTy S y 3 (nI i) none) : ∀ (m k : Nat), 13 < k + m → k ≤ 12 → Rt (f_member_32 R.K m S (some e) (some (R.ws i)) (nI k)) (fun S2 r => ∃ x : Nat, r = some x ∧ yXP R c nv S p q S2 x ∧ (Zi S2 3 = 0 → ∃ k2 : Nat, xPl R S2 Γ (n + 1) e p q v (π ++ [(0, k2)]) x mu (if w2 = 1 then 1 else 0)))
  | 0, k, a, b => absurd a (by omega)
  | m + 1, k, a, b => by
    have hT := h.tb
    have hw : ownT (ZF R.S) e = some nm := own_m hG (by omega)
    have hI0 := hI
    obtain ⟨h1, h2, fs, mn, na, g, h3, h4, h5, h6, h7, h8, h9, h10, h11⟩ := hI
    have hs : TS R c nv S := h
    have hw1 := h.L h1.1
    have he1 := h.L he
    have c1 : ZF S e = xpC 14 p 0 (nI nm) 0 0 (.ref o) .null .null 0 := hF.trans hG
    unfold f_member_32
    refine Rt.bd (oI_mk hw1 h3 h5) (Rt.it (fun hk => ?_) (fun hk => ?_))
    · refine Rt.bd (oI_mk he1 c1 rfl) (Rt.bn (wrg_ hK hv hc h he hG rfl hw (show p ≤ nm by omega) hq2 (by omega) (by decide)) (fun S3 r3 q3 => ?_))
      obtain ⟨x3, rfl, k1, k2⟩ := q3
      exact Rt.rt ⟨x3, rfl, k1, fun z => absurd z k2⟩
    · have hlt : k < mn := by
        rcases Nat.lt_or_ge k mn with z | z
        · exact z
        · exact absurd (nI_le z (by omega)) hk
      obtain ⟨s, s1, s2⟩ := h10 k hlt
      refine Rt.bd (oR_mk (v := some na) hw1 h3 h7) (Rt.bd (aI_n (h.L h8.1) h9 (show k < 13 by omega) (by decide)) (Rt.bd (oI_mk he1 c1 rfl) ?_))
      rw [s1]
      refine Rt.bn (snm_ h s2 (by omega)) (fun S3 r3 q3 => ?_)
      obtain ⟨rfl, _⟩ := q3
      refine Rt.it (fun _ => ?_) (fun _ => ?_)
      · rw [nI_1]
        exact mem_32 hK hv hc h hI0 hi hik he hG hF hq1 hq2 hq hp ho hy m (k + 1) (by omega) (by omega)
      · rcases h11 with ⟨_, ta, f, k2, k3⟩ | ⟨w, _⟩ | ⟨w, _⟩
        · obtain ⟨x, x1, x2⟩ := k3.2.2 k hlt
          refine Rt.bd (pV_mk (v := .int (nI k)) he1 c1 (Nat.le_of_ble_eq_true rfl)) ?_
          have hcs : cs (ZF R.S e) (.inr (15, [.int 14, .int (nI p), .int 0, .int (nI nm), .int (nI k), .int 0, .long 0, .int 0, .ref o, .null, .null, .int (nI 0), .null, .null])) := by
            rw [hG]
            exact cs_put (k := 4) (c := 15) (gs := [.int 14, .int (nI p), .int 0, .int (nI nm), .int 0, .int 0, .long 0, .int 0, .ref o, .null, .null, .int (nI 0), .null, .null]) (cs_rf _) rfl
          have hne : ∀ (k : Nat) (vs : List Value), k ≠ 15 → ¬ ZF S3 e = .inr (k, vs) := fun k vs hk w => by rw [c1] at w; cases w; exact hk rfl
          have t4 := h.uf he hcs
          have v4 : VX R (Xo R p q) S3 (UF S3 e (.inr (15, [.int 14, .int (nI p), .int 0, .int (nI nm), .int (nI k), .int 0, .long 0, .int 0, .ref o, .null, .null, .int (nI 0), .null, .null]))) := VX.uf (Or.inl ⟨nm, hw, by omega, hq2⟩) (fun vs => hne _ _ (by decide)) (fun vs => hne _ _ (by decide))
          have s4 : VS S3 (UF S3 e (.inr (15, [.int 14, .int (nI p), .int 0, .int (nI nm), .int (nI k), .int 0, .long 0, .int 0, .ref o, .null, .null, .int (nI 0), .null, .null]))) := VS.uf hne
          obtain ⟨gs, g1, g2, g3⟩ := tol_ (K := R.K) (x := x) t4 he hG rfl hw (show p ≤ nm by omega) hq2 (xTy.ty (Or.inl (Or.inl (x2.im v4.2.2.2.1))))
          have g1' : gs = [.int 14, .int (nI p), .int 0, .int (nI nm), .int (nI k), .int 0, .long 0, .int 0, .ref o, .null, .null, .int (nI 0), .null, .null] := by
            have e9 : ZF (UF S3 e (.inr (15, [.int 14, .int (nI p), .int 0, .int (nI nm), .int (nI k), .int 0, .long 0, .int 0, .ref o, .null, .null, .int (nI 0), .null, .null]))) e = .inr (15, [.int 14, .int (nI p), .int 0, .int (nI nm), .int (nI k), .int 0, .long 0, .int 0, .ref o, .null, .null, .int (nI 0), .null, .null]) := ZF_s
            rw [e9] at g1; cases g1; rfl
          subst g1'
          refine Rt.bd (oR_mk (v := some ta) (t4.L h1.1) ((v4.nx h1).trans h3) k2) (Rt.bd (aQ_n (t4.L k3.1.1) ((v4.nx k3.1).trans k3.2.1) (show k < 13 by omega) (by decide)) ?_)
          rw [x1]
          have v5 := v4.tr g3.2.1 (fun _ w => w)
          refine Rt.be g2 (Rt.rt ⟨x, rfl, ⟨g3.1, v5, s4.tr g3.2.2.1, g3.2.2.2⟩, fun _ => ⟨k, ⟨he, ⟨nm, hw, by omega, hq2⟩, by omega⟩, Or.inl (x2.im v5.2.2.2.1), ?_⟩⟩)
          refine Or.inr (Or.inr (Or.inr ⟨o, nm, q', y, i, k, w2, π, ZF_s, hq1, hq2, xPl_vx v5 ho (fun a a1 ⟨t, a2, a3, a4⟩ a5 => ?_), v5.2.2.2.1 _ _ _ _ hy, ⟨fs, mn, ta, f, hi, hik, h1, (v5.nx h1).trans h3, h5, hlt, h6, k2, k3.1, (v5.nx k3.1).trans k3.2.1, x1, x2.im v5.2.2.2.1⟩, rfl, rfl⟩))
          rw [UF_UF]
          exact ZF_n (fun w => by rw [w, hw] at a2; cases a2; omega)
        · rw [hik] at w; exact absurd w (by decide)
        · rw [hik] at w; exact absurd w (by decide)
theorem mem_ (hK : yRm R) (hv : nv ≤ 10000) (hc : c ≤ 1990) {S : Sg} {n e p q q' nm o v y : Nat} {π : List (Nat × Nat)} {mu w2 : Nat} (h : TS R c nv S) (hI : ITA R S) (he : e ∈ ZL R.S) (hG : ZF R.S e = xpC 14 p 0 (nI nm) 0 0 (.ref o) .null .null 0) (hF : ZF S e = ZF R.S e) (hq1 : q' < nm) (hq2 : nm < q) (hq : q ≤ R.T) (ho : xPl R S Γ n o p q' v π y mu w2) : Rt (f_member R.K S (some e) (some y)) (fun S2 r => ∃ x : Nat, r = some x ∧ yXP R c nv S p q S2 x ∧ (Zi S2 3 = 0 → ∃ k2 : Nat, xPl R S2 Γ (n + 1) e p q v (π ++ [(0, k2)]) x mu (if w2 = 1 then 1 else 0))) := by
  have hT := h.tb
  have hw : ownT (ZF R.S) e = some nm := own_m hG (by omega)
  obtain ⟨d1, d2, d3, _⟩ := xPl_c ho
  obtain ⟨kd, ix, oo, y1, y2⟩ := d3.ty
  have y1' := y1
  obtain ⟨ty, e1, e2, e3, e4⟩ := y1
  have c1 : ZF S e = xpC 14 p 0 (nI nm) 0 0 (.ref o) .null .null 0 := hF.trans hG
  unfold f_member
  refine Rt.bd (oI_mk e3 e4 (v := kd) rfl) (Rt.it (fun hk => ?_) (fun hk => ?_))
  · subst hk
    obtain ⟨⟨i, w1, w2', w3⟩, w4⟩ := yOK_3 (h.at hc y1').1
    subst w2' w4
    obtain ⟨q1, q2, _⟩ := hI i w1
    have him : i < 70 := by
      obtain ⟨G, tm, Y, ad, h1, h2, h3, h4⟩ := h
      have := h1.1.2.2.1.1; omega
    have hz : Zq S 11 = Zq R.S 11 := by
      obtain ⟨G, tm, Y, ad, h1, h2, h3, h4⟩ := h
      exact h4.2.2.2 11 (by decide) (by decide)
    refine Rt.bd (oI_mk e3 e4 (v := nI i) rfl) (Rt.bd (v := some (R.ws i)) (by rw [rQ_n (show i < rlen 11 from him) (by decide), hz, q2]) ?_)
    exact mem_32 hK hv hc h (hI i w1) w1 w3 he hG hF hq1 hq2 hq d2 ho y1' bigN 0 (by decide) (by decide)
  · refine Rt.bd (oI_mk (h.L he) c1 rfl) (Rt.bn (wrg_ hK hv hc h he hG rfl hw (show p ≤ nm by omega) hq2 (by omega) (by decide)) (fun S3 r3 q3 => ?_))
    obtain ⟨x3, rfl, k1, k2⟩ := q3
    exact Rt.rt ⟨x3, rfl, k1, fun z => absurd z k2⟩
end PLD
end
-- k6.h.lean.txt
section
theorem xpl_pl {L : List Nat} {F : Nat → va_E} {kE kI : ClassId} {n k e p q b c : Nat} (h : isE L F kE kI (n + 1) k e p q b c) (hp : plE F (n + 1) e) : e ∈ L ∧ p < q ∧ b = b ∧
    ((F e = xpC 2 p 0 (nI p) 0 0 .null .null .null 0 ∧ b = c) ∨
     (∃ (kd : Int32) (o p' q' : Nat), (kd = 7 ∨ kd = 11) ∧ F e = xpC kd p 0 0 0 0 (.ref o) .null .null 0 ∧ p < p' ∧ q' ≤ q ∧ isE L F kE kI n k o p' q' b c ∧ plE F n o) ∨
     (∃ o nm q' : Nat, F e = xpC 14 p 0 (nI nm) 0 0 (.ref o) .null .null 0 ∧ q' < nm ∧ nm < q ∧ isE L F kE kI n k o p q' b c ∧ plE F n o)) := by
  have hno : ∀ {kd : Int32} {fs : List Value}, F e = .inr (15, fs) → fs[0]? = some (.int kd) → (kd = 2 ∨ kd = 7 ∨ kd = 14 ∨ kd = 11) := fun {kd fs} h1 h2 => by
    obtain ⟨kd2, vo, fs2, g1, g2, g3, g4⟩ := hp
    rw [h1] at g1; cases g1
    rw [h2] at g2; cases g2
    rcases g4 with g4 | ⟨g4, _⟩
    · exact Or.inl g4
    · exact Or.inr g4
  refine ⟨h.1, h.2.1, rfl, ?_⟩
  rcases h.2.2 with ⟨kd, num, k1, k2, k3⟩ | ⟨k2, k3⟩ | ⟨kd, o, p', q', k1, k2, k3, k4, k5⟩ | ⟨mu, o, p', k1, k2, k3, k5⟩ | ⟨o, nm, q', k2, k3, k4, k5⟩ | ⟨o, q1, b1, mn, li, si, k2, k3, k5, k6⟩ | ⟨kd, sg, nm, mn, p', z9, li, si, k2, k3, k4, k5⟩
  · have := hno k2 rfl
    rcases k1 with w | w | w <;> subst w <;> exact absurd this (by decide)
  · exact Or.inl ⟨k2, k3⟩
  · have := hno k2 rfl
    have hk : kd = 7 ∨ kd = 11 := by rcases k1 with w | w | w | w | w | w <;> subst w <;> first | exact absurd this (by decide) | exact Or.inl rfl | exact Or.inr rfl
    exact Or.inr (Or.inl ⟨kd, o, p', q', hk, k2, k3, k4, k5, (plE_dn k2 rfl rfl (hk.elim Or.inl (fun w => Or.inr (Or.inr w)))).mp hp⟩)
  · exact absurd (hno k2 rfl) (by decide)
  · exact Or.inr (Or.inr ⟨o, nm, q', k2, k3, k4, k5, (plE_dn k2 rfl rfl (Or.inr (Or.inl rfl))).mp hp⟩)
  · exact absurd (hno k2 rfl) (by decide)
  · have := hno k2 rfl
    rcases k3 with ⟨w, _⟩ | ⟨w, _⟩ | ⟨w, _⟩ <;> subst w <;> exact absurd this (by decide)
section PLE
variable {R : yR} {Γ : List Nat} {c nv : Nat}
/-- place -/
theorem plc_ (hK : yRm R) (hv : nv ≤ 10000) (hc : c ≤ 1990) : ∀ (n d : Nat) {S : Sg} {kk e p q b b2 : Nat}, n ≤ d → n ≤ 1000 → TS R c nv S → SCO R S Γ → ITA R S → isE (ZL R.S) (ZF R.S) (R.K.1 9) (R.K.1 0) n kk e p q b b2 → plE (ZF R.S) n e → Unt R S p q → q ≤ R.T → Rt (f_place R.K d S (some e)) (PlP R Γ c nv S n e p q)
  | 0, _, S, kk, e, p, q, b, b2, _, _, _, _, _, h, _, _, _ => h.elim
  | n + 1, 0, S, kk, e, p, q, b, b2, hd, _, _, _, _, _, _, _, _ => absurd hd (by omega)
  | n + 1, d + 1, S, kk, e, p, q, b, b2, hd, hn, hS, hG, hI, h, hp, hU, hq => by
    have hT := hS.tb
    obtain ⟨t, ho, ho1, ho2⟩ := isE_own h (by omega)
    obtain ⟨h1, h2, _, h3⟩ := xpl_pl h hp
    have hX : Xo R p q e := Or.inl ⟨t, ho, ho1, ho2⟩
    have hF := hU e h1 hX
    have he1 := hS.L h1
    have hobj : ∃ fs : List Value, ZF R.S e = .inr (15, fs) ∧ fs.length = 14 := by
      rcases h3 with ⟨k, _⟩ | ⟨kd, o, p', q', _, k, _⟩ | ⟨o, nm, q', k, _⟩ <;> exact ⟨_, k, rfl⟩
    obtain ⟨fs0, hF0, hl0⟩ := hobj
    unfold f_place
    refine Rt.ok (fun z => ?_) (fun z => ?_)
    · rcases h3 with ⟨k1, _⟩ | ⟨kd, o, p', q', k1, k2, k3, k4, k5, k6⟩ | ⟨o, nm, q', k2, k3, k4, k5, k6⟩
      · -- a name
        have c1 : ZF S e = xpC 2 p 0 (nI p) 0 0 .null .null .null 0 := hF.trans k1
        refine Rt.bd (oI_mk he1 c1 (v := 2) rfl) (Rt.iq (by decide) (Rt.bd (oI_mk he1 c1 (v := 2) rfl) (Rt.ip rfl (Rt.bd (pV_mk he1 c1 (Nat.le_of_ble_eq_true rfl)) ?_))))
        exact pl56 hK hv hc hS hG h1 k1 hF h2 hq bigN 0 none (by have := hG.2.1; show _ < 0 + 1000000000000; omega) (by omega) (Or.inl rfl)
      · have c1 : ZF S e = xpC kd p 0 0 0 0 (.ref o) .null .null 0 := hF.trans k2
        have hop : t = p := by
          have := own_a k2 (by rcases k1 with w | w <;> subst w <;> decide) (by rcases k1 with w | w <;> subst w <;> decide) (by omega)
          rw [ho] at this; exact Option.some.inj this
        subst hop
        have hsub : ∀ a : Nat, Xo R p' q' a → Xo R t q a := fun a w => Xo_mo w (by omega) k4
        have hne : ¬ Xo R p' q' e := own_n ho ⟨_, k2⟩ (Nat.le_refl t) (Nat.lt_succ_self t) (Or.inl (by omega))
        have hrec := plc_ hK hv hc n d (S := S) (e := o) (by omega) (by omega) hS hG hI k5 k6 (hU.su (by omega) k4) (by omega)
        have hend : ∀ (S2 : Sg) (x : Nat), yXP R c nv S p' q' S2 x → ZF S2 e = xpC kd t 0 0 0 0 (.ref o) .null .null 0 := fun S2 x w => (w.2.1.2.1 e h1 hne).trans c1
        rcases k1 with k1 | k1
        · subst k1
          refine Rt.bd (oI_mk he1 c1 (v := 7) rfl) (Rt.ip rfl (Rt.bd (oR_mk he1 c1 (v := some o) rfl) (Rt.bn hrec (fun S2 r2 q2 => ?_))))
          obtain ⟨x, rfl, y1, y2⟩ := q2
          have c2 := hend S2 x y1
          obtain ⟨gs, g1, g2, g3⟩ := tol_ (K := R.K) (x := x) y1.1 h1 hF0 hl0 ho ho1 ho2 y1.2.2.2
          rw [c2] at g1; cases g1
          have v2 : VX R (Xo R t q) S S2 := y1.2.1.mo hsub
          refine Rt.be g2 (Rt.rt ⟨x, rfl, ⟨g3.1, v2.tr g3.2.1 (fun _ w => w), y1.2.2.1.tr g3.2.2.1, g3.2.2.2⟩, fun z3 => ?_⟩)
          obtain ⟨v, π, mu, mv, w1, w2⟩ := y2 z3
          refine ⟨v, π, mu, mv, ⟨⟨h1, ⟨t, ho, ho1, ho2⟩, h2⟩, (xPl_c w1).2.2.1.im g3.2.1.2.2.2.1, Or.inr (Or.inl ⟨o, p', q', ZF_s, k3, k4, xPl_vx g3.2.1 w1 (fun a a1 ⟨t2, a2, a3, a4⟩ _ => ZF_n (fun w => ?_))⟩)⟩, w2⟩
          rw [w, ho] at a2; cases a2; omega
        · subst k1
          refine Rt.bd (oI_mk he1 c1 (v := 11) rfl) (Rt.iq (by decide) (Rt.bd (oI_mk he1 c1 (v := 11) rfl) (Rt.iq (by decide) (Rt.bd (oR_mk he1 c1 (v := some o) rfl) (Rt.bn hrec (fun S2 r2 q2 => ?_))))))
          obtain ⟨y, rfl, y1, y2⟩ := q2
          have c2 := hend S2 y y1
          have he2 := y1.1.L h1
          have v2 : VX R (Xo R t q) S S2 := y1.2.1.mo hsub
          refine Rt.ok (fun z2 => ?_) (fun z2 => ?_)
          · refine Rt.bd (oI_mk he2 c2 (v := 11) rfl) (Rt.ip rfl (Rt.bd (oI_mk he2 c2 (v := nI t) rfl) ?_))
            obtain ⟨v, π, mu, mv, w1, w2⟩ := y2 z2
            obtain ⟨kd, ix, oo, u1⟩ := y1.2.2.2
            have u1' := u1
            obtain ⟨ty, e1, e2, e3, e4⟩ := u1
            unfold f_place_197
            refine Rt.bd (oI_mk he2 c2 (v := 11) rfl) (Rt.ip rfl (Rt.bd (oI_mk e3 e4 (v := kd) rfl) ?_))
            -- the star of a box or a reference
            have h231 : (kd = 5 ∨ kd = 6 ∨ kd = 7) → Rt (f_place_231 R.K (f_place R.K d) S2 (some e) (some y) (nI t)) (PlP R Γ c nv S (n + 1) e t q) := fun hkd => by
              obtain ⟨a1, x, a2⟩ := yOK_5 (y1.1.at hc u1').1 hkd
              subst a1 a2
              obtain ⟨kx, ixx, ox, b1⟩ := (y1.1.at hc u1').2 x rfl
              obtain ⟨gs, g1, g2, g3⟩ := tol_ (K := R.K) (x := x) y1.1 h1 hF0 hl0 ho ho1 ho2 ⟨_, _, _, b1⟩
              rw [c2] at g1; cases g1
              unfold f_place_231
              refine Rt.bd (oR_mk e3 e4 (v := some x) rfl) (Rt.be g2 ?_)
              have hvx := (xPl_c w1).2.2.1.of u1' hkd
              refine pl250 hK hv hc (n := n + 1) h1 hF0 hl0 ho ho1 ho2 (by omega) hn ⟨g3.1, v2.tr g3.2.1 (fun _ w => w), y1.2.2.1.tr g3.2.2.1, g3.2.2.2⟩ (fun _ => ?_)
              have hch := xPl_vx g3.2.1 w1 (fun a a1 ⟨t2, a2, a3, a4⟩ _ => ZF_n (fun w => by rw [w, ho] at a2; cases a2; omega))
              have hlen : (π ++ [((1 : Nat), (0 : Nat))]).length ≤ 100 := by rw [List.length_append]; show π.length + 1 ≤ 100; omega
              rcases hkd with w | w | w
              · exact ⟨v, π ++ [(1, 0)], mu, if mv = 1 then 2 else 0, ⟨⟨h1, ⟨t, ho, ho1, ho2⟩, h2⟩, Or.inl (hvx.im g3.2.1.2.2.2.1), Or.inr (Or.inr (Or.inl ⟨o, p', q', y, mu, mv, kd, π, ZF_s, k3, k4, hch, g3.2.1.2.2.2.1 _ _ _ _ u1', rfl, Or.inl ⟨w, rfl, rfl⟩⟩))⟩, hlen⟩
              · exact ⟨v, π ++ [(1, 0)], 0, 0, ⟨⟨h1, ⟨t, ho, ho1, ho2⟩, h2⟩, Or.inl (hvx.im g3.2.1.2.2.2.1), Or.inr (Or.inr (Or.inl ⟨o, p', q', y, mu, mv, kd, π, ZF_s, k3, k4, hch, g3.2.1.2.2.2.1 _ _ _ _ u1', rfl, Or.inr (Or.inl ⟨w, rfl, rfl⟩)⟩))⟩, hlen⟩
              · exact ⟨v, π ++ [(1, 0)], 1, 0, ⟨⟨h1, ⟨t, ho, ho1, ho2⟩, h2⟩, Or.inl (hvx.im g3.2.1.2.2.2.1), Or.inr (Or.inr (Or.inl ⟨o, p', q', y, mu, mv, kd, π, ZF_s, k3, k4, hch, g3.2.1.2.2.2.1 _ _ _ _ u1', rfl, Or.inr (Or.inr ⟨w, rfl, rfl⟩)⟩))⟩, hlen⟩
            refine Rt.it (fun w => h231 (Or.inl w)) (fun _ => Rt.be (ref_ u1') (Rt.it (fun w => ?_) (fun w => h231 ?_)))
            · refine Rt.bn (wrg_ hK hv hc y1.1 h1 hF0 hl0 ho ho1 ho2 (by omega) (by decide)) (fun S3 r3 q3 => ?_)
              obtain ⟨x3, rfl, b1, b2⟩ := q3
              exact pl250 hK hv hc (n := n + 1) h1 hF0 hl0 ho ho1 ho2 (by omega) hn ⟨b1.1, v2.tr b1.2.1 (fun _ w => w), y1.2.2.1.tr b1.2.2.1, b1.2.2.2⟩ (fun z => absurd z b2)
            · by_cases e : kd = 6 ∨ kd = 7
              · exact Or.inr e
              · rw [if_neg e] at w; exact absurd rfl w
          · obtain ⟨gs, g1, g2, g3⟩ := tol_ (K := R.K) (x := y) y1.1 h1 hF0 hl0 ho ho1 ho2 y1.2.2.2
            exact Rt.be g2 (Rt.rt (PlP.bad ⟨g3.1, v2.tr g3.2.1 (fun _ w => w), y1.2.2.1.tr g3.2.2.1, g3.2.2.2⟩ z2))
      · have c1 : ZF S e = xpC 14 p 0 (nI nm) 0 0 (.ref o) .null .null 0 := hF.trans k2
        have hop : t = nm := by
          have := own_m k2 (by omega)
          rw [ho] at this; exact Option.some.inj this
        subst hop
        have hsub : ∀ a : Nat, Xo R p q' a → Xo R p q a := fun a w => Xo_mo w (Nat.le_refl _) (by omega)
        have hne : ¬ Xo R p q' e := own_n ho ⟨_, k2⟩ (Nat.le_refl t) (Nat.lt_succ_self t) (Or.inr (by omega))
        have hrec := plc_ hK hv hc n d (S := S) (e := o) (by omega) (by omega) hS hG hI k5 k6 (hU.su (Nat.le_refl _) (by omega)) (by omega)
        refine Rt.bd (oI_mk he1 c1 (v := 14) rfl) (Rt.iq (by decide) (Rt.bd (oI_mk he1 c1 (v := 14) rfl) (Rt.iq (by decide) (Rt.bd (oR_mk he1 c1 (v := some o) rfl) (Rt.bn hrec (fun S2 r2 q2 => ?_))))))
        obtain ⟨y, rfl, y1, y2⟩ := q2
        have f2 : ZF S2 e = ZF R.S e := (y1.2.1.2.1 e h1 hne).trans hF
        have c2 := f2.trans k2
        have he2 := y1.1.L h1
        have v2 : VX R (Xo R p q) S S2 := y1.2.1.mo hsub
        refine Rt.ok (fun z2 => ?_) (fun z2 => ?_)
        · refine Rt.bd (oI_mk he2 c2 (v := 14) rfl) (Rt.iq (by decide) (Rt.bd (oI_mk he2 c2 (v := nI t) rfl) ?_))
          obtain ⟨v, π, mu, mv, w1, w2⟩ := y2 z2
          unfold f_place_197
          refine Rt.bd (oI_mk he2 c2 (v := 14) rfl) (Rt.iq (by decide) (Rt.bn (mem_ hK hv hc y1.1 (hI.vx y1.2.1) h1 k2 f2 k3 k4 hq w1) (fun S3 r3 q3 => ?_)))
          obtain ⟨x, rfl, b1, b2⟩ := q3
          refine pl250 hK hv hc (n := n + 1) h1 hF0 hl0 ho ho1 ho2 (by omega) hn ⟨b1.1, v2.tr b1.2.1 (fun _ w => w), y1.2.2.1.tr b1.2.2.1, b1.2.2.2⟩ (fun z => ?_)
          obtain ⟨k, b3⟩ := b2 z
          exact ⟨v, _, mu, _, b3, by rw [List.length_append]; show π.length + 1 ≤ 100; omega⟩
        · obtain ⟨gs, g1, g2, g3⟩ := tol_ (K := R.K) (x := y) y1.1 h1 hF0 hl0 ho ho1 ho2 y1.2.2.2
          exact Rt.be g2 (Rt.rt (PlP.bad ⟨g3.1, v2.tr g3.2.1 (fun _ w => w), y1.2.2.1.tr g3.2.2.1, g3.2.2.2⟩ z2))
    · refine Rt.bn (plt_ hK hv hS (Or.inl rfl) hc) (fun S2 r2 q2 => ?_)
      obtain ⟨x, rfl, t2, y2, v2, s2, z2⟩ := q2
      obtain ⟨gs, g1, g2, g3⟩ := tol_ (K := R.K) (x := x) t2 h1 hF0 hl0 ho ho1 ho2 ⟨_, _, _, y2⟩
      exact Rt.be g2 (Rt.rt (PlP.bad ⟨g3.1, v2.b g3.2.1, s2.tr g3.2.2.1, g3.2.2.2⟩ (by show ¬ Zi S2 3 = 0; rw [z2]; exact z)))
end PLE
end
-- k6.i.lean.txt
section
/-- exps in a row, typed: tx their types -/
def chX (z : Nat) (P : Nat → Nat → Nat → Nat → Nat → Nat → Prop) (f : Nat → Option Nat) (g : Nat → Int32) (n p q b c : Nat) (tx : Nat → Nat) : Prop :=
  ∃ ps bs : Nat → Nat, p ≤ ps 0 ∧ ps n = q ∧ bs 0 = b ∧ bs n = c ∧ ∀ i : Nat, i < n → ∃ x p' s : Nat, f i = some x ∧ ps i < p' ∧ P x p' (ps (i + 1)) (bs i) (bs (i + 1)) (tx i) ∧ g i = nI s ∧ ((s = 0 ∧ z = 0) ∨ (ps i ≤ s ∧ s < p'))
theorem chX_im {z : Nat} {P P2 : Nat → Nat → Nat → Nat → Nat → Nat → Prop} {f : Nat → Option Nat} {g : Nat → Int32} {n p q b c : Nat} {tx : Nat → Nat} (h : chX z P f g n p q b c tx) (hP : ∀ x p1 q1 b1 c1 t : Nat, p ≤ p1 → q1 ≤ q → P x p1 q1 b1 c1 t → P2 x p1 q1 b1 c1 t) (hlt : ∀ x p1 q1 b1 c1 t : Nat, P x p1 q1 b1 c1 t → p1 < q1) : chX z P2 f g n p q b c tx := by
  obtain ⟨ps, bs, h1, h2, h3, h4, h5⟩ := h
  have hm : ∀ (d i : Nat), i + d ≤ n → ps i ≤ ps (i + d) := by
    intro d
    induction d with
    | zero => exact fun i _ => Nat.le_refl _
    | succ d ih =>
      intro i hi
      obtain ⟨x, p', s, _, g2, g3, _⟩ := h5 (i + d) (by omega)
      have := hlt _ _ _ _ _ _ g3
      have := ih i (by omega)
      show ps i ≤ ps (i + d + 1)
      omega
  refine ⟨ps, bs, h1, h2, h3, h4, fun i hi => ?_⟩
  obtain ⟨x, p', s, g1, g2, g3, g4⟩ := h5 i hi
  have a1 := hm i 0 (by omega)
  have a2 := hm (n - (i + 1)) (i + 1) (by omega)
  rw [Nat.zero_add] at a1
  rw [show i + 1 + (n - (i + 1)) = n by omega] at a2
  exact ⟨x, p', s, g1, g2, hP _ _ _ _ _ _ (by omega) (by omega) g3, g4⟩
/-- a list of exps of an exp, typed -/
def lsX (R : yR) (S : Sg) (P : Nat → Nat → Nat → Nat → Nat → Nat → Prop) (z : Nat) (li si : Value) (mn p q b c : Nat) (tx : Nat → Nat) (f : Nat → Option Nat) (g : Nat → Int32) : Prop :=
  (mn = 0 ∧ b = c ∧ p ≤ q) ∨ ∃ la sa cap q0 : Nat, li = .ref la ∧ si = .ref sa ∧ nXo R la ∧ nXo R sa ∧ ZF S la = .inl (R.K.1 9, cap, .inr (.inr (.inr (.inr f)))) ∧ (z = 1 → ZF S sa = .inl (R.K.1 0, cap, .inl g)) ∧ 1 ≤ mn ∧ mn ≤ cap ∧ q0 ≤ q ∧ chX z P f g mn p q0 b c tx
/-- a function's head: how many parameters, their types, what it gives -/
def fnY (R : yR) (S : Sg) (i mn : Nat) (tx : Nat → Nat) (gv : Nat) : Prop := ∃ (fs : List Value) (ta : Nat) (f : Nat → Option Nat), i < R.im ∧ R.ik i = 12 ∧ nXo R (R.ws i) ∧ ZF S (R.ws i) = .inr (16, fs) ∧ fs[3]? = some (.int (nI mn)) ∧ mn ≤ 12 ∧ fs[10]? = some (.ref ta) ∧ rTs R S ta 13 mn f (rTy S) ∧ (∀ k : Nat, k < mn → f k = some (tx k)) ∧ fs[15]? = some (.ref gv)
/-- a struct: how many fields -/
def stY (R : yR) (S : Sg) (i mn : Nat) : Prop := ∃ fs : List Value, i < R.im ∧ R.ik i = 10 ∧ nXo R (R.ws i) ∧ ZF S (R.ws i) = .inr (16, fs) ∧ fs[3]? = some (.int (nI mn)) ∧ mn ≤ 12
/-- a variant of an enum: how many parts, their types -/
def enY (R : yR) (S : Sg) (i v mk : Nat) (tx : Nat → Nat) : Prop := ∃ (fs : List Value) (mn vr pa : Nat) (fv f : Nat → Option Nat), i < R.im ∧ R.ik i = 11 ∧ nXo R (R.ws i) ∧ ZF S (R.ws i) = .inr (16, fs) ∧ fs[3]? = some (.int (nI mn)) ∧ mn ≤ 12 ∧ v < mn ∧ fs[11]? = some (.ref vr) ∧ nXo R vr ∧ ZF S vr = .inl (R.K.1 13, 13, .inr (.inr (.inr (.inr fv)))) ∧ fv v = some pa ∧ paY R S pa mk f ∧ ∀ k : Nat, k < mk → f k = some (tx k)
/-- .. one level of brackets deeper -/
def lsK (R : yR) (S : Sg) (k : Nat) (P : Nat → Nat → Nat → Nat → Nat → Nat → Nat → Prop) (z : Nat) (li si : Value) (mn p q b c : Nat) (tx : Nat → Nat) (f : Nat → Option Nat) (g : Nat → Int32) : Prop := ∃ k2 : Nat, (k = k2 + 1 ∨ mn = 0) ∧ lsX R S (P k2) z li si mn p q b c tx f g
/-- two tokens with the same text -/
def nmE (R : yR) (a b : Nat) : Prop := (Zr R.S 7 a).toNatClampNeg - (Zr R.S 6 a).toNatClampNeg = (Zr R.S 7 b).toNatClampNeg - (Zr R.S 6 b).toNatClampNeg ∧ ∀ j : Nat, j < (Zr R.S 7 a).toNatClampNeg - (Zr R.S 6 a).toNatClampNeg → Zr R.S 0 ((Zr R.S 6 a).toNatClampNeg + j) = Zr R.S 0 ((Zr R.S 6 b).toNatClampNeg + j)
/-- the name v is that of field k of item i, the first one that bears it -/
def fnm (R : yR) (S : Sg) (i k : Nat) (v : Int32) : Prop := ∃ (fs : List Value) (na mn tj : Nat) (g : Nat → Int32), nXo R (R.ws i) ∧ ZF S (R.ws i) = .inr (16, fs) ∧ fs[3]? = some (.int (nI mn)) ∧ mn ≤ 12 ∧ fs[8]? = some (.ref na) ∧ nXo R na ∧ ZF S na = .inl (R.K.1 0, 13, .inl g) ∧ v = nI tj ∧ tj < R.T ∧ k < mn ∧ (∃ s : Nat, g k = nI s ∧ s < R.T ∧ nmE R s tj) ∧ ∀ j : Nat, j < k → ∃ s : Nat, g j = nI s ∧ s < R.T ∧ ¬ nmE R s tj
/-- an exp, typed: kk levels of brackets, tokens p to q, borrows b to c, its type x -/
def xE (R : yR) (S : Sg) (Γ : List Nat) : Nat → Nat → Nat → Nat → Nat → Nat → Nat → Nat → Prop
  | 0, _, _, _, _, _, _, _ => False
  | n + 1, kk, e, p, q, b, c, x => (e ∈ ZL R.S ∧ (∃ t : Nat, ownT (ZF R.S) e = some t ∧ p ≤ t ∧ t < q) ∧ p < q) ∧ xTy S x ∧
    ((∃ (v : Nat) (π : List (Nat × Nat)) (mu mv : Nat) (kd ix : Int32) (o : Option Nat), xPl R S Γ (n + 1) e p q v π x mu mv ∧ π.length ≤ 4 ∧ b = c ∧ isTy S x kd ix o ∧ (kd = 0 ∨ kd = 1 ∨ kd = 6 ∨ mv ≠ 0)) ∨
     (∃ (kd : Int32) (num : Int64), (kd = 0 ∨ kd = 1 ∨ kd = 15) ∧ ZF S e = xtC kd p 0 0 0 0 num 0 .null .null .null 0 (.ref x) .null ∧ b = c ∧ (isTy S x 0 0 none ∨ isTy S x 1 0 none)) ∨
     (∃ (kd : Int32) (o p' q' y : Nat), ZF S e = xtC kd p 0 0 0 0 0 0 (.ref o) .null .null 0 (.ref x) .null ∧ p < p' ∧ q' ≤ q ∧ xE R S Γ n kk o p' q' b c y ∧ ((kd = 4 ∧ isTy S y 0 0 none ∧ isTy S x 2 0 none) ∨ (kd = 7 ∧ y = x ∧ ¬ plE (ZF R.S) n o) ∨ (kd = 9 ∧ isTy S y 1 0 none ∧ isTy S x 1 0 none) ∨ (kd = 10 ∧ isTy S y 0 0 none ∧ isTy S x 0 0 none) ∨ (kd = 13 ∧ vTy S y ∧ isTy S x 5 0 (some y)))) ∨
     (∃ (mu : Int32) (o p' v y m2 w2 : Nat) (π : List (Nat × Nat)), ZF S e = xtC 12 p 0 0 0 0 0 mu (.ref o) .null .null 0 (.ref x) .null ∧ p < p' ∧ xPl R S Γ n o p' q v π y m2 w2 ∧ π.length ≤ 4 ∧ vTy S y ∧ c = b + 1 ∧ ((mu = 0 ∧ isTy S x 6 0 (some y)) ∨ (mu = 1 ∧ isTy S x 7 0 (some y) ∧ m2 = 1))) ∨
     (∃ (o q1 b1 mn : Nat) (li si : Value) (f : Nat → Option Nat) (g : Nat → Int32) (tx tt : Nat → Nat), ZF S e = xtC 8 p 0 0 0 0 0 0 (.ref o) li si mn (.ref x) .null ∧ 1 ≤ mn ∧ xE R S Γ n kk o p q1 b b1 (tt 0) ∧ lsK R S kk (xE R S Γ n) 1 li si mn q1 q b1 c tx f g ∧ tt mn = x ∧ ∀ i : Nat, i < mn → (isTy S (tt i) 0 0 none ∨ isTy S (tt i) 1 0 none) ∧ (isTy S (tx i) 0 0 none ∨ isTy S (tx i) 1 0 none) ∧ (isTy S (tt (i + 1)) 0 0 none ∨ isTy S (tt (i + 1)) 1 0 none)) ∨
     (∃ (i mn p' z : Nat) (li si : Value) (f : Nat → Option Nat) (g : Nat → Int32) (tx : Nat → Nat), ZF S e = xtC 3 p 0 (nI p) (nI i) 0 0 0 .null li si mn (.ref x) .null ∧ p < p' ∧ fnY R S i mn tx x ∧ lsK R S kk (xE R S Γ n) z li si mn p' q b c tx f g) ∨
     (∃ (i mn p' : Nat) (li si : Value) (f : Nat → Option Nat) (g : Nat → Int32) (tx fo : Nat → Nat), ZF S e = xtC 5 p 0 (nI (p + 1)) (nI i) 0 0 0 .null li si mn (.ref x) .null ∧ p < p' ∧ stY R S i mn ∧ isTy S x 3 (nI i) none ∧ lsK R S kk (xE R S Γ n) 1 li si mn p' q b c tx f g ∧ (∀ k : Nat, k < mn → fo k < mn ∧ fld R S i (fo k) (tx k) ∧ fnm R S i (fo k) (g k)) ∧ ∀ k j : Nat, k < mn → j < mn → fo k = fo j → k = j) ∨
     (∃ (i v mn p' z : Nat) (li si : Value) (f : Nat → Option Nat) (g : Nat → Int32) (tx : Nat → Nat), ZF S e = xtC 6 p (nI (p + 2)) (nI p) (nI i) (nI v) 0 0 .null li si mn (.ref x) .null ∧ p < p' ∧ enY R S i v mn tx ∧ isTy S x 4 (nI i) none ∧ lsK R S kk (xE R S Γ n) z li si mn p' q b c tx f g))
section XEL
variable {R : yR} {S S2 : Sg} {Γ : List Nat} {p2 q2 : Nat}
theorem fnm.vz (hV : VZ R (Xo R p2 q2) S S2) {i k : Nat} {v : Int32} (h : fnm R S i k v) : fnm R S2 i k v := by
  obtain ⟨fs, na, mn, tj, g, h1, h2, h3, h4, h5, h6, h7, h8⟩ := h
  exact ⟨fs, na, mn, tj, g, h1, (hV.nx h1).trans h2, h3, h4, h5, h6, (hV.nx h6).trans h7, h8⟩
theorem fnY.vz (hV : VZ R (Xo R p2 q2) S S2) {i mn gv : Nat} {tx : Nat → Nat} (h : fnY R S i mn tx gv) : fnY R S2 i mn tx gv := by
  obtain ⟨fs, ta, f, h1, h2, h3, h4, h5, h6, h7, h8, h9, h10⟩ := h
  exact ⟨fs, ta, f, h1, h2, h3, (hV.nx h3).trans h4, h5, h6, h7, h8.vz hV (fun x q => q.im hV.2.2.1), h9, h10⟩
theorem fnY.vx (hV : VX R (Xo R p2 q2) S S2) {i mn gv : Nat} {tx : Nat → Nat} (h : fnY R S i mn tx gv) : fnY R S2 i mn tx gv := fnY.vz hV.2 h
theorem stY.vz (hV : VZ R (Xo R p2 q2) S S2) {i mn : Nat} (h : stY R S i mn) : stY R S2 i mn := by
  obtain ⟨fs, h1, h2, h3, h4, h5, h6⟩ := h
  exact ⟨fs, h1, h2, h3, (hV.nx h3).trans h4, h5, h6⟩
theorem stY.vx (hV : VX R (Xo R p2 q2) S S2) {i mn : Nat} (h : stY R S i mn) : stY R S2 i mn := stY.vz hV.2 h
theorem enY.vz (hV : VZ R (Xo R p2 q2) S S2) {i v mk : Nat} {tx : Nat → Nat} (h : enY R S i v mk tx) : enY R S2 i v mk tx := by
  obtain ⟨fs, mn, vr, pa, fv, f, h1, h2, h3, h4, h5, h6, h7, h8, h9, h10, h11, h12, h13⟩ := h
  exact ⟨fs, mn, vr, pa, fv, f, h1, h2, h3, (hV.nx h3).trans h4, h5, h6, h7, h8, h9, (hV.nx h9).trans h10, h11, h12.vz hV, h13⟩
theorem enY.vx (hV : VX R (Xo R p2 q2) S S2) {i v mk : Nat} {tx : Nat → Nat} (h : enY R S i v mk tx) : enY R S2 i v mk tx := enY.vz hV.2 h
theorem xE_lt {n kk e p q b c x : Nat} (h : xE R S Γ n kk e p q b c x) : p < q := by
  cases n with
  | zero => exact h.elim
  | succ n => exact h.1.2.2
theorem lsX_vz (hV : VZ R (Xo R p2 q2) S S2) {P P2 : Nat → Nat → Nat → Nat → Nat → Nat → Prop} {z mn p q b c : Nat} {li si : Value} {tx : Nat → Nat} {f : Nat → Option Nat} {g : Nat → Int32} (h : lsX R S P z li si mn p q b c tx f g) (hP : ∀ x p1 q1 b1 c1 t : Nat, p ≤ p1 → q1 ≤ q → P x p1 q1 b1 c1 t → P2 x p1 q1 b1 c1 t) (hlt : ∀ x p1 q1 b1 c1 t : Nat, P x p1 q1 b1 c1 t → p1 < q1) : lsX R S2 P2 z li si mn p q b c tx f g := by
  rcases h with h | ⟨la, sa, cap, q0, h1, h2, h3, h4, h5, h6, h7, h8, h9, h10⟩
  · exact Or.inl h
  · exact Or.inr ⟨la, sa, cap, q0, h1, h2, h3, h4, (hV.nx h3).trans h5, fun w => (hV.nx h4).trans (h6 w), h7, h8, h9, chX_im h10 (fun x p1 q1 b1 c1 t a1 a2 => hP x p1 q1 b1 c1 t a1 (by omega)) hlt⟩
theorem lsK_vz (hV : VZ R (Xo R p2 q2) S S2) {P P2 : Nat → Nat → Nat → Nat → Nat → Nat → Nat → Prop} {k z mn p q b c : Nat} {li si : Value} {tx : Nat → Nat} {f : Nat → Option Nat} {g : Nat → Int32} (h : lsK R S k P z li si mn p q b c tx f g) (hP : ∀ k2 x p1 q1 b1 c1 t : Nat, p ≤ p1 → q1 ≤ q → P k2 x p1 q1 b1 c1 t → P2 k2 x p1 q1 b1 c1 t) (hlt : ∀ k2 x p1 q1 b1 c1 t : Nat, P k2 x p1 q1 b1 c1 t → p1 < q1) : lsK R S2 k P2 z li si mn p q b c tx f g := by
  obtain ⟨k2, e, h⟩ := h
  exact ⟨k2, e, lsX_vz hV h (hP k2) (hlt k2)⟩
/-- a typed exp stays, whatever else is typed -/
theorem xE_vz (hV : VZ R (Xo R p2 q2) S S2) : ∀ {n kk e p q b c x : Nat}, xE R S Γ n kk e p q b c x → (∀ a : Nat, a ∈ ZL R.S → (∃ t : Nat, ownT (ZF R.S) a = some t ∧ p ≤ t ∧ t < q) → (∃ vs : List Value, ZF S a = .inr (15, vs)) → ZF S2 a = ZF S a) → xE R S2 Γ n kk e p q b c x
  | 0, _, _, _, _, _, _, _, h, _ => h.elim
  | n + 1, kk, e, p, q, b, c, x, h, hd => by
    obtain ⟨⟨h1, h2, h3⟩, h4, h5⟩ := h
    have hT := hV.2.2.1
    refine ⟨⟨h1, h2, h3⟩, h4.im hT, ?_⟩
    have he : ∀ {vs : List Value}, ZF S e = .inr (15, vs) → ZF S2 e = .inr (15, vs) := fun {vs} w => (hd e h1 h2 ⟨vs, w⟩).trans w
    have hs : ∀ {p1 q1 : Nat}, p ≤ p1 → q1 ≤ q → ∀ a : Nat, a ∈ ZL R.S → (∃ t : Nat, ownT (ZF R.S) a = some t ∧ p1 ≤ t ∧ t < q1) → (∃ vs : List Value, ZF S a = .inr (15, vs)) → ZF S2 a = ZF S a := fun a1 a2 a a3 ⟨t, a4, a5, a6⟩ a7 => hd a a3 ⟨t, a4, by omega, by omega⟩ a7
    have ho : ∀ y : Nat, (isTy S y 0 0 none ∨ isTy S y 1 0 none) → (isTy S2 y 0 0 none ∨ isTy S2 y 1 0 none) := fun y w => w.imp (hT _ _ _ _) (hT _ _ _ _)
    rcases h5 with ⟨v, π, mu, mv, kd, ix, o, k1, k2, k3, k4, k5⟩ | ⟨kd, num, k1, k2, k3, k4⟩ | ⟨kd, o, p', q', y, k1, k2, k3, k4, k5⟩ | ⟨mu, o, p', v, y, m2, w2, π, k1, k2, k3, k4, k5, k6, k7⟩ | ⟨o, q1, b1, mn, li, si, f, g, tx, tt, k1, k2, k3, k4, k5, k6⟩ | ⟨i, mn, p', z, li, si, f, g, tx, k1, k2, k3, k4⟩ | ⟨i, mn, p', li, si, f, g, tx, fo, k1, k2, k3, k4, k5, k6, k7⟩ | ⟨i, v, mn, p', z, li, si, f, g, tx, k1, k2, k3, k4, k5⟩
    · exact Or.inl ⟨v, π, mu, mv, kd, ix, o, xPl_vz hV k1 hd, k2, k3, hT _ _ _ _ k4, k5⟩
    · exact Or.inr (Or.inl ⟨kd, num, k1, he k2, k3, ho _ k4⟩)
    · refine Or.inr (Or.inr (Or.inl ⟨kd, o, p', q', y, he k1, k2, k3, xE_vz hV k4 (hs (by omega) k3), ?_⟩))
      rcases k5 with ⟨e1, e2, e3⟩ | ⟨e1, e2⟩ | ⟨e1, e2, e3⟩ | ⟨e1, e2, e3⟩ | ⟨e1, e2, e3⟩
      · exact Or.inl ⟨e1, hT _ _ _ _ e2, hT _ _ _ _ e3⟩
      · exact Or.inr (Or.inl ⟨e1, e2⟩)
      · exact Or.inr (Or.inr (Or.inl ⟨e1, hT _ _ _ _ e2, hT _ _ _ _ e3⟩))
      · exact Or.inr (Or.inr (Or.inr (Or.inl ⟨e1, hT _ _ _ _ e2, hT _ _ _ _ e3⟩)))
      · exact Or.inr (Or.inr (Or.inr (Or.inr ⟨e1, e2.im hT, hT _ _ _ _ e3⟩)))
    · exact Or.inr (Or.inr (Or.inr (Or.inl ⟨mu, o, p', v, y, m2, w2, π, he k1, k2, xPl_vz hV k3 (hs (by omega) (Nat.le_refl _)), k4, k5.im hT, k6, k7.imp (fun w => ⟨w.1, hT _ _ _ _ w.2⟩) (fun w => ⟨w.1, hT _ _ _ _ w.2.1, w.2.2⟩)⟩)))
    · have hq1 : q1 ≤ q := by
        obtain ⟨kz, _, k4⟩ := k4
        rcases k4 with ⟨w, _⟩ | ⟨la, sa, cap, q0, h1, h2, h3, h4, h5, h6, h7, h8, h9, ps, bs, w1, w2, w3, w4, w5⟩
        · omega
        · have hm : ∀ d : Nat, d ≤ mn → ps 0 ≤ ps d := by
            intro d
            induction d with
            | zero => exact fun _ => Nat.le_refl _
            | succ d ih =>
              intro hd2
              obtain ⟨x, p', s, _, g2, g3, _⟩ := w5 d (by omega)
              have := xE_lt g3
              have := ih (by omega)
              omega
          have := hm mn (Nat.le_refl _)
          omega
      have hlt := xE_lt k3
      exact Or.inr (Or.inr (Or.inr (Or.inr (Or.inl ⟨o, q1, b1, mn, li, si, f, g, tx, tt, he k1, k2, xE_vz hV k3 (hs (Nat.le_refl _) hq1), lsK_vz hV k4 (fun _ x p1 q1 b1 c1 t a1 a2 a3 => xE_vz hV a3 (hs (by omega) a2)) (fun _ _ _ _ _ _ _ w => xE_lt w), k5, fun i hi => ⟨ho _ (k6 i hi).1, ho _ (k6 i hi).2.1, ho _ (k6 i hi).2.2⟩⟩))))
    · exact Or.inr (Or.inr (Or.inr (Or.inr (Or.inr (Or.inl ⟨i, mn, p', z, li, si, f, g, tx, he k1, k2, k3.vz hV, lsK_vz hV k4 (fun _ x p1 q1 b1 c1 t a1 a2 a3 => xE_vz hV a3 (hs (by omega) a2)) (fun _ _ _ _ _ _ _ w => xE_lt w)⟩)))))
    · exact Or.inr (Or.inr (Or.inr (Or.inr (Or.inr (Or.inr (Or.inl ⟨i, mn, p', li, si, f, g, tx, fo, he k1, k2, k3.vz hV, hT _ _ _ _ k4, lsK_vz hV k5 (fun _ x p1 q1 b1 c1 t a1 a2 a3 => xE_vz hV a3 (hs (by omega) a2)) (fun _ _ _ _ _ _ _ w => xE_lt w), fun k hk => ⟨(k6 k hk).1, (k6 k hk).2.1.vz hV, (k6 k hk).2.2.vz hV⟩, k7⟩))))))
    · exact Or.inr (Or.inr (Or.inr (Or.inr (Or.inr (Or.inr (Or.inr ⟨i, v, mn, p', z, li, si, f, g, tx, he k1, k2, k3.vz hV, hT _ _ _ _ k4, lsK_vz hV k5 (fun _ x p1 q1 b1 c1 t a1 a2 a3 => xE_vz hV a3 (hs (by omega) a2)) (fun _ _ _ _ _ _ _ w => xE_lt w)⟩))))))
theorem xE_vx (hV : VX R (Xo R p2 q2) S S2) : ∀ {n kk e p q b c x : Nat}, xE R S Γ n kk e p q b c x → (∀ a : Nat, a ∈ ZL R.S → (∃ t : Nat, ownT (ZF R.S) a = some t ∧ p ≤ t ∧ t < q) → (∃ vs : List Value, ZF S a = .inr (15, vs)) → ZF S2 a = ZF S a) → xE R S2 Γ n kk e p q b c x := xE_vz hV.2
end XEL
end
-- k6.j.lean.txt
section
theorem yOK_0 {im : Nat} {ik : Nat → Int32} {kd ix : Int32} {o : Option Nat} (h : yOK im ik (kd, ix, o)) (hk : kd = 0 ∨ kd = 1 ∨ kd = 2 ∨ kd = 8) : ix = 0 ∧ o = none := by
  rcases h with ⟨_, w1, w2⟩ | ⟨w, _⟩ | ⟨w, _⟩ | ⟨w, _⟩
  · exact ⟨w1, w2⟩
  · have w : kd = 3 := w
    rcases hk with e | e | e | e <;> subst e <;> exact absurd w (by decide)
  · have w : kd = 4 := w
    rcases hk with e | e | e | e <;> subst e <;> exact absurd w (by decide)
  · have w : kd = 5 ∨ kd = 6 ∨ kd = 7 := w
    rcases hk with e | e | e | e <;> subst e <;> exact absurd w (by decide)
/-- what value gives -/
def VaP (R : yR) (Γ : List Nat) (c nv : Nat) (S : Sg) (n kk e p q b b2 : Nat) (S2 : Sg) (r : Option Nat) : Prop := ∃ x : Nat, r = some x ∧ yXP R (c + (q - p)) nv S p q S2 x ∧ (Zi S2 3 = 0 → xE R S2 Γ n kk e p q b b2 x)
/-- value, for exps of the depth n -/
def VH (R : yR) (Γ : List Nat) (nv n : Nat) (V : Sg → Option Nat → Option (Sg × Option Nat)) : Prop := ∀ {c : Nat} {S : Sg} {kk e p q b b2 : Nat}, c + (q - p) ≤ 1990 → TS R c nv S → SCO R S Γ → ITA R S → isE (ZL R.S) (ZF R.S) (R.K.1 9) (R.K.1 0) n kk e p q b b2 → Unt R S p q → q ≤ R.T → Rt (V S (some e)) (VaP R Γ c nv S n kk e p q b b2)
section VAL
variable {R : yR} {Γ : List Nat} {c nv : Nat}
theorem yXP.up {S S2 : Sg} {p q x c2 : Nat} (h : yXP R c nv S p q S2 x) (hc : c ≤ c2) : yXP R c2 nv S p q S2 x := ⟨h.1.up hc, h.2⟩
theorem VaP.bad {S S2 : Sg} {n kk e p q b b2 x c1 : Nat} (h : yXP R c1 nv S p q S2 x) (hc : c1 ≤ c + (q - p)) (hz : ¬ Zi S2 3 = 0) : VaP R Γ c nv S n kk e p q b b2 S2 (some x) := ⟨x, rfl, h.up hc, fun w => absurd w hz⟩
/-- its type is told -/
theorem ftl_ {S S1 : Sg} {n kk e p q b b2 t x c1 : Nat} {fs gs : List Value} (h : TS R c1 nv S1) (hc : c1 ≤ c + (q - p)) (hv : VX R (Xo R p q) S S1) (hs : VS S S1) (hx : ∃ (kd ix : Int32) (o : Option Nat), isTy S1 x kd ix o) (he : e ∈ ZL R.S) (hG : ZF R.S e = .inr (15, fs)) (hl : fs.length = 14) (ho : ownT (ZF R.S) e = some t) (h1 : p ≤ t) (h2 : t < q) (hF : ZF S1 e = .inr (15, gs)) (k : ∀ S2 : Sg, VX R (Xo R p q) S1 S2 → (∀ a : Nat, a ≠ e → ZF S2 a = ZF S1 a) → ZF S2 e = .inr (15, gs.set 12 (.ref x)) → Zi S1 3 = 0 → xE R S2 Γ n kk e p q b b2 x) : Rt (bnd (f_told R.K S1 (some e) (some x)) fun S3 v => some (S3, v)) (VaP R Γ c nv S n kk e p q b b2) := by
  obtain ⟨gs2, g1, g2, g3⟩ := tol_ (K := R.K) h he hG hl ho h1 h2 hx
  rw [hF] at g1; cases g1
  exact Rt.be g2 (Rt.rt ⟨x, rfl, yXP.up ⟨g3.1, hv.tr g3.2.1 (fun _ w => w), hs.tr g3.2.2.1, g3.2.2.2⟩ hc, fun z => k _ g3.2.1 (fun a ha => ZF_n ha) ZF_s z⟩)
/-- not, minus, token -/
theorem opd_ (hK : yRm R) (hv : nv ≤ 10000) {V : Sg → Option Nat → Option (Sg × Option Nat)} {n : Nat} (hV : VH R Γ nv n V) {S : Sg} {kk e p q b b2 o p' q' : Nat} {kd ask giv : Int32} (hk : (kd = 4 ∧ ask = 0 ∧ giv = 2) ∨ (kd = 9 ∧ ask = 1 ∧ giv = 1) ∨ (kd = 10 ∧ ask = 0 ∧ giv = 0)) (hc : c + (q - p) ≤ 1990) (h : TS R c nv S) (hS : SCO R S Γ) (hI : ITA R S) (he : e ∈ ZL R.S) (hG : ZF R.S e = xpC kd p 0 0 0 0 (.ref o) .null .null 0) (hF : ZF S e = ZF R.S e) (hp : p < p') (hq' : q' ≤ q) (hpq : p < q) (hE : isE (ZL R.S) (ZF R.S) (R.K.1 9) (R.K.1 0) n kk o p' q' b b2) (hU : Unt R S p q) (hq : q ≤ R.T) : Rt (f_operand R.K V S (some e) ask giv) (VaP R Γ c nv S (n + 1) kk e p q b b2) := by
  have hT := h.tb
  have ho : ownT (ZF R.S) e = some p := own_a hG (by rcases hk with ⟨w, _⟩ | ⟨w, _⟩ | ⟨w, _⟩ <;> subst w <;> decide) (by rcases hk with ⟨w, _⟩ | ⟨w, _⟩ | ⟨w, _⟩ <;> subst w <;> decide) (by omega)
  have c1 : ZF S e = xpC kd p 0 0 0 0 (.ref o) .null .null 0 := hF.trans hG
  have hne : ¬ Xo R p' q' e := own_n ho ⟨_, hG⟩ (Nat.le_refl p) (Nat.lt_succ_self p) (Or.inl (by omega))
  have hgv : giv = 0 ∨ giv = 1 ∨ giv = 2 ∨ giv = 8 := by rcases hk with ⟨_, _, w⟩ | ⟨_, _, w⟩ | ⟨_, _, w⟩ <;> subst w <;> decide
  have hpl := (isE_mem hE).2
  unfold f_operand
  refine Rt.bd (oR_mk (h.L he) c1 (v := some o) rfl) (Rt.bn (hV (show c + (q' - p') ≤ 1990 by omega) h hS hI hE (hU.su (by omega) hq') (by omega)) (fun S2 r2 q2 => ?_))
  obtain ⟨y, rfl, y1, y2⟩ := q2
  have c2 : ZF S2 e = xpC kd p 0 0 0 0 (.ref o) .null .null 0 := (y1.2.1.2.1 e he hne).trans c1
  have v2 : VX R (Xo R p q) S S2 := y1.2.1.mo (fun a w => Xo_mo w (by omega) hq')
  -- the end
  have h35 : ∀ S4 : Sg, TS R (c + (q' - p')) nv S4 → VX R nX S2 S4 → VS S2 S4 → (Zi S4 3 = 0 → S4 = S2 ∧ isTy S2 y ask 0 none) → Rt (f_operand_35 R.K V S4 (some e) giv) (VaP R Γ c nv S (n + 1) kk e p q b b2) := fun S4 t4 v4 s4 g4 => by
    unfold f_operand_35
    refine Rt.bn (plt_ hK hv t4 hgv (by omega)) (fun S5 r5 q5 => ?_)
    obtain ⟨x, rfl, t5, x5, v5, s5, z5⟩ := q5
    have v25 := v4.n v5
    have c5 : ZF S5 e = xpC kd p 0 0 0 0 (.ref o) .null .null 0 := (v25.2.1 e he (fun w => w)).trans c2
    refine ftl_ t5 (by omega) (v2.n v25) (y1.2.2.1.tr (s4.tr s5)) ⟨_, _, _, x5⟩ he hG rfl ho (Nat.le_refl p) hpq c5 (fun S6 v6 f6 e6 z6 => ?_)
    obtain ⟨g1, g2⟩ := g4 (by rw [← z5]; exact z6)
    have hz2 : Zi S2 3 = 0 := v25.2.2.2.2.2 z6
    have x6 := v6.2.2.2.1 _ _ _ _ x5
    have v26 := v25.b v6
    have hch := xE_vx v26 (y2 hz2) (fun a a1 ⟨t, a2, a3, a4⟩ a5 => by
      have hae : a ≠ e := fun w => by rw [w, ho] at a2; cases a2; omega
      exact (f6 a hae).trans (v25.2.1 a a1 (fun w => w)))
    refine ⟨⟨he, ⟨p, ho, Nat.le_refl _, hpq⟩, hpq⟩, Or.inl (Or.inl (vTy.pl x6 (by rcases hk with ⟨_, _, w⟩ | ⟨_, _, w⟩ | ⟨_, _, w⟩ <;> subst w <;> decide))), Or.inr (Or.inr (Or.inl ⟨kd, o, p', q', y, e6, hp, hq', hch, ?_⟩))⟩
    have hy := v26.2.2.2.1 _ _ _ _ g2
    rcases hk with ⟨w1, w2, w3⟩ | ⟨w1, w2, w3⟩ | ⟨w1, w2, w3⟩ <;> subst w1 w2 w3
    · exact Or.inl ⟨rfl, hy, x6⟩
    · exact Or.inr (Or.inr (Or.inl ⟨rfl, hy, x6⟩))
    · exact Or.inr (Or.inr (Or.inr (Or.inl ⟨rfl, hy, x6⟩)))
  refine Rt.ok (fun z => ?_) (fun z => h35 S2 y1.1 VX.rf VS.rf (fun w => absurd w z))
  obtain ⟨ky, iy, oy, u1⟩ := y1.2.2.2
  have u1' := u1
  obtain ⟨ty, e1, e2, e3, e4⟩ := u1
  refine Rt.bd (oI_mk e3 e4 (v := ky) rfl) (Rt.it (fun w => h35 S2 y1.1 VX.rf VS.rf (fun _ => ⟨rfl, ?_⟩)) (fun w => ?_))
  · subst w
    obtain ⟨a1, a2⟩ := yOK_0 (y1.1.at (by omega) u1').1 (by rcases hk with ⟨_, w, _⟩ | ⟨_, w, _⟩ | ⟨_, w, _⟩ <;> subst w <;> decide)
    rw [a1, a2] at u1'
    exact u1'
  · refine Rt.bd (oI_mk (y1.1.L he) c2 rfl) (Rt.be (fai_ y1.1 (by omega)) (h35 _ y1.1.fl VX.fl VS.fl (fun w => absurd w (flS_n0 (by decide)))))
/-- box -/
theorem box_ (hK : yRm R) (hv : nv ≤ 10000) {V : Sg → Option Nat → Option (Sg × Option Nat)} {n : Nat} (hV : VH R Γ nv n V) {S : Sg} {kk e p q b b2 o p' q' : Nat} (hc : c + (q - p) ≤ 1990) (h : TS R c nv S) (hS : SCO R S Γ) (hI : ITA R S) (he : e ∈ ZL R.S) (hG : ZF R.S e = xpC 13 p 0 0 0 0 (.ref o) .null .null 0) (hF : ZF S e = ZF R.S e) (hp : p < p') (hq' : q' ≤ q) (hpq : p < q) (hE : isE (ZL R.S) (ZF R.S) (R.K.1 9) (R.K.1 0) n kk o p' q' b b2) (hU : Unt R S p q) (hq : q ≤ R.T) : Rt (f_box R.K V S (some e)) (VaP R Γ c nv S (n + 1) kk e p q b b2) := by
  have hT := h.tb
  have ho : ownT (ZF R.S) e = some p := own_a hG (by decide) (by decide) (by omega)
  have c1 : ZF S e = xpC 13 p 0 0 0 0 (.ref o) .null .null 0 := hF.trans hG
  have hne : ¬ Xo R p' q' e := own_n ho ⟨_, hG⟩ (Nat.le_refl p) (Nat.lt_succ_self p) (Or.inl (by omega))
  have hpl := (isE_mem hE).2
  unfold f_box
  refine Rt.bd (oR_mk (h.L he) c1 (v := some o) rfl) (Rt.bn (hV (show c + (q' - p') ≤ 1990 by omega) h hS hI hE (hU.su (by omega) hq') (by omega)) (fun S2 r2 q2 => ?_))
  obtain ⟨y, rfl, y1, y2⟩ := q2
  have c2 : ZF S2 e = xpC 13 p 0 0 0 0 (.ref o) .null .null 0 := (y1.2.1.2.1 e he hne).trans c1
  have v2 : VX R (Xo R p q) S S2 := y1.2.1.mo (fun a w => Xo_mo w (by omega) hq')
  have h41 : ∀ S4 : Sg, TS R (c + (q' - p')) nv S4 → VX R nX S2 S4 → VS S2 S4 → (Zi S4 3 = 0 → S4 = S2 ∧ vTy S2 y) → Rt (f_box_41 R.K V S4 (some e) (some y)) (VaP R Γ c nv S (n + 1) kk e p q b b2) := fun S4 t4 v4 s4 g4 => by
    obtain ⟨ky, iy, oy, u1⟩ := y1.2.2.2
    unfold f_box_41
    refine Rt.bn (typ_ hK hv t4 (Or.inr (Or.inr (Or.inr ⟨Or.inl rfl, rfl, y, rfl⟩))) (Or.inr ⟨y, ky, iy, oy, rfl, v4.2.2.2.1 _ _ _ _ u1⟩) (by omega)) (fun S5 r5 q5 => ?_)
    obtain ⟨x, rfl, t5, x5, v5, s5, z5⟩ := q5
    have v25 := v4.n v5
    have c5 : ZF S5 e = xpC 13 p 0 0 0 0 (.ref o) .null .null 0 := (v25.2.1 e he (fun w => w)).trans c2
    refine ftl_ t5 (by omega) (v2.n v25) (y1.2.2.1.tr (s4.tr s5)) ⟨_, _, _, x5⟩ he hG rfl ho (Nat.le_refl p) hpq c5 (fun S6 v6 f6 e6 z6 => ?_)
    obtain ⟨g1, g2⟩ := g4 (by rw [← z5]; exact z6)
    have hz2 : Zi S2 3 = 0 := v25.2.2.2.2.2 z6
    have x6 := v6.2.2.2.1 _ _ _ _ x5
    have v26 := v25.b v6
    have hch := xE_vx v26 (y2 hz2) (fun a a1 ⟨t, a2, a3, a4⟩ a5 => by
      have hae : a ≠ e := fun w => by rw [w, ho] at a2; cases a2; omega
      exact (f6 a hae).trans (v25.2.1 a a1 (fun w => w)))
    have hvy := g2.im v26.2.2.2.1
    exact ⟨⟨he, ⟨p, ho, Nat.le_refl _, hpq⟩, hpq⟩, Or.inl (Or.inl (vTy.bx x6 hvy)), Or.inr (Or.inr (Or.inl ⟨13, o, p', q', y, e6, hp, hq', hch, Or.inr (Or.inr (Or.inr (Or.inr ⟨rfl, hvy, x6⟩)))⟩))⟩
  have h32 : Rt (f_box_32 R.K V S2 (some e) (some y)) (VaP R Γ c nv S (n + 1) kk e p q b b2) := by
    unfold f_box_32
    exact Rt.bd (oI_mk (y1.1.L he) c2 rfl) (Rt.be (fai_ y1.1 (by omega)) (h41 _ y1.1.fl VX.fl VS.fl (fun w => absurd w (flS_n0 (by decide)))))
  refine Rt.ok (fun z => ?_) (fun z => h41 S2 y1.1 VX.rf VS.rf (fun w => absurd w z))
  obtain ⟨ky, iy, oy, u1⟩ := y1.2.2.2
  have u1' := u1
  obtain ⟨ty, e1, e2, e3, e4⟩ := u1
  refine Rt.bd (oI_mk e3 e4 (v := ky) rfl) (Rt.it (fun _ => h32) (fun w8 => Rt.be (ref_ u1') (Rt.it (fun w => h41 S2 y1.1 VX.rf VS.rf (fun z2 => ⟨rfl, ?_⟩)) (fun _ => h32))))
  have hx : xTy S2 y := by
    have := y2 z2
    cases n with
    | zero => exact this.elim
    | succ n => exact this.2.1
  exact hx.v u1' (fun e => by rw [if_pos (Or.inl e)] at w; cases w) (fun e => by rw [if_pos (Or.inr e)] at w; cases w) w8
end VAL
end
-- k6.k.lean.txt
section
theorem isE_plb {L : List Nat} {F : Nat → va_E} {kE kI : ClassId} : ∀ {n kk e p q b c : Nat}, isE L F kE kI n kk e p q b c → plE F n e → b = c
  | 0, _, _, _, _, _, _, h, _ => h.elim
  | n + 1, kk, e, p, q, b, c, h, hp => by
    obtain ⟨_, _, _, h3⟩ := xpl_pl h hp
    rcases h3 with ⟨_, k⟩ | ⟨kd, o, p', q', _, _, _, _, k5, k6⟩ | ⟨o, nm, q', _, _, _, k5, k6⟩
    · exact k
    · exact isE_plb k5 k6
    · exact isE_plb k5 k6
section REF
variable {R : yR} {Γ : List Nat} {c nv : Nat}
theorem un_pw {S : Sg} {kE kI : ClassId} : ∀ {n kk e p q b c : Nat}, isE (ZL R.S) (ZF R.S) kE kI n kk e p q b c → q ≤ 100000 → Unt R S p q → pwE (ZL R.S) (ZF S) n e ∧ (plE (ZF S) n e ↔ plE (ZF R.S) n e)
  | 0, _, _, _, _, _, _, h, _, _ => h.elim
  | n + 1, kk, e, p, q, b, c, h, hq, hU => by
    obtain ⟨t, ho, ho1, ho2⟩ := isE_own h hq
    have hF := hU e h.1 (Or.inl ⟨t, ho, ho1, ho2⟩)
    have hgo : ∀ {kd : Int32} {o p' q' : Nat} {fs : List Value}, ZF R.S e = .inr (15, fs) → fs[0]? = some (.int kd) → fs[8]? = some (.ref o) → p ≤ p' → q' ≤ q → isE (ZL R.S) (ZF R.S) kE kI n kk o p' q' b c → pwE (ZL R.S) (ZF S) (n + 1) e ∧ (plE (ZF S) (n + 1) e ↔ plE (ZF R.S) (n + 1) e) := fun {kd o p' q' fs} g1 g2 g3 g4 g5 g6 => by
      obtain ⟨r1, r2⟩ := un_pw g6 (by omega) (hU.su g4 g5)
      refine ⟨⟨h.1, kd, .ref o, fs, hF.trans g1, g2, g3, fun _ => ⟨o, rfl, r1⟩⟩, ?_⟩
      by_cases hk : kd = 7 ∨ kd = 14 ∨ kd = 11
      · rw [plE_dn (hF.trans g1) g2 g3 hk, plE_dn g1 g2 g3 hk]; exact r2
      · rw [plE_end (hF.trans g1) g2 g3 hk, plE_end g1 g2 g3 hk]
    have hno : ∀ {kd : Int32} {vo : Value} {fs : List Value}, ZF R.S e = .inr (15, fs) → fs[0]? = some (.int kd) → fs[8]? = some vo → ¬ (kd = 7 ∨ kd = 14 ∨ kd = 11) → pwE (ZL R.S) (ZF S) (n + 1) e ∧ (plE (ZF S) (n + 1) e ↔ plE (ZF R.S) (n + 1) e) := fun {kd vo fs} g1 g2 g3 hk => by
      refine ⟨⟨h.1, kd, vo, fs, hF.trans g1, g2, g3, fun w => absurd w hk⟩, ?_⟩
      rw [plE_end (hF.trans g1) g2 g3 hk, plE_end g1 g2 g3 hk]
    rcases h.2.2 with ⟨kd, num, k1, k2, k3⟩ | ⟨k2, k3⟩ | ⟨kd, o, p', q', k1, k2, k3, k4, k5⟩ | ⟨mu, o, p', k1, k2, k3, k5⟩ | ⟨o, nm, q', k2, k3, k4, k5⟩ | ⟨o, q1, b1, mn, li, si, k2, k3, k5, k6⟩ | ⟨kd, sg, nm, mn, p', z9, li, si, k2, k3, k4, k5⟩
    · exact hno k2 rfl rfl (by rcases k1 with w | w | w <;> subst w <;> decide)
    · exact hno k2 rfl rfl (by decide)
    · exact hgo k2 rfl rfl (by omega) k4 k5
    · exact hno k2 rfl rfl (by decide)
    · exact hgo k2 rfl rfl (Nat.le_refl _) (by omega) k5
    · exact hno k2 rfl rfl (by decide)
    · exact hno k2 rfl rfl (by rcases k3 with ⟨w, _⟩ | ⟨w, _⟩ | ⟨w, _⟩ <;> subst w <;> decide)
/-- refer -/
theorem rfr_ (hK : yRm R) (hv : nv ≤ 10000) {V : Sg → Option Nat → Option (Sg × Option Nat)} {n : Nat} (hn : n ≤ 409) (hV : VH R Γ nv n V) {S : Sg} {kk e p q b b2 o p' : Nat} {mu : Int32} (hmu : mu = 0 ∨ mu = 1) (hc : c + (q - p) ≤ 1990) (h : TS R c nv S) (hS : SCO R S Γ) (hI : ITA R S) (he : e ∈ ZL R.S) (hG : ZF R.S e = xpC 12 p 0 0 0 mu (.ref o) .null .null 0) (hF : ZF S e = ZF R.S e) (hp : p < p') (hpq : p < q) (hE : isE (ZL R.S) (ZF R.S) (R.K.1 9) (R.K.1 0) n kk o p' q (b + 1) b2) (hU : Unt R S p q) (hq : q ≤ R.T) : Rt (f_refer R.K V S (some e)) (VaP R Γ c nv S (n + 1) kk e p q b b2) := by
  have hT := h.tb
  have ho : ownT (ZF R.S) e = some p := own_a hG (by decide) (by decide) (by omega)
  have c1 : ZF S e = xpC 12 p 0 0 0 mu (.ref o) .null .null 0 := hF.trans hG
  have hne : ¬ Xo R p' q e := own_n ho ⟨_, hG⟩ (Nat.le_refl p) (Nat.lt_succ_self p) (Or.inl (by omega))
  have hpl := (isE_mem hE).2
  have hom := (isE_mem hE).1
  have hU' := hU.su (p2 := p') (by omega) (Nat.le_refl q)
  obtain ⟨hw1, hw2⟩ := un_pw hE (by omega) hU'
  unfold f_refer
  refine Rt.bd (oR_mk (h.L he) c1 (v := some o) rfl) (Rt.bn (isp_ (K := R.K) (fun a ha => h.L ha) hw1 (by omega)) (fun S1 r1 q1 => ?_))
  obtain ⟨rfl, q1⟩ := q1
  rcases q1 with ⟨e1, q1⟩ | ⟨e1, q1⟩
  · subst e1
    have hpe := hw2.mp q1
    have hbb := isE_plb hE hpe
    refine Rt.iq (by decide) (Rt.bd (oR_mk (h.L he) c1 (v := some o) rfl) (Rt.bn (plc_ hK hv (show c ≤ 1990 by omega) n 410 (by omega) (by omega) h hS hI hE hpe hU' hq) (fun S2 r2 q2 => ?_)))
    obtain ⟨y, rfl, y1, y2⟩ := q2
    have c2 : ZF S2 e = xpC 12 p 0 0 0 mu (.ref o) .null .null 0 := (y1.2.1.2.1 e he hne).trans c1
    have v2 : VX R (Xo R p q) S1 S2 := y1.2.1.mo (fun a w => Xo_mo w (by omega) (Nat.le_refl _))
    obtain ⟨ky, iy, oy, u1⟩ := y1.2.2.2
    have he2 := y1.1.L he
    have h99 : ∀ S4 : Sg, TS R c nv S4 → VX R nX S2 S4 → VS S2 S4 → (Zi S4 3 = 0 → S4 = S2 ∧ vTy S2 y ∧ ∃ (v : Nat) (π : List (Nat × Nat)) (m2 w2 : Nat), xPl R S2 Γ n o p' q v π y m2 w2 ∧ π.length ≤ 4 ∧ (mu = 1 → m2 = 1)) → Rt (f_refer_99 R.K V S4 (some e) (some y)) (VaP R Γ c nv S1 (n + 1) kk e p q b b2) := fun S4 t4 v4 s4 g4 => by
      have c4 : ZF S4 e = xpC 12 p 0 0 0 mu (.ref o) .null .null 0 := (v4.2.1 e he (fun w => w)).trans c2
      have h116 : ∀ kt : Int32, (mu = 0 ∧ kt = 6) ∨ (mu = 1 ∧ kt = 7) → Rt (f_refer_116 R.K V S4 (some y) kt (some e)) (VaP R Γ c nv S1 (n + 1) kk e p q b b2) := fun kt hkt => by
        unfold f_refer_116
        refine Rt.bn (typ_ hK hv t4 (Or.inr (Or.inr (Or.inr ⟨show kt = 5 ∨ kt = 6 ∨ kt = 7 from hkt.elim (fun w => Or.inr (Or.inl w.2)) (fun w => Or.inr (Or.inr w.2)), rfl, y, rfl⟩))) (Or.inr ⟨y, ky, iy, oy, rfl, v4.2.2.2.1 _ _ _ _ u1⟩) (by omega)) (fun S5 r5 q5 => ?_)
        obtain ⟨x, rfl, t5, x5, v5, s5, z5⟩ := q5
        have v25 := v4.n v5
        have c5 : ZF S5 e = xpC 12 p 0 0 0 mu (.ref o) .null .null 0 := (v25.2.1 e he (fun w => w)).trans c2
        refine ftl_ t5 (by omega) (v2.n v25) (y1.2.2.1.tr (s4.tr s5)) ⟨_, _, _, x5⟩ he hG rfl ho (Nat.le_refl p) hpq c5 (fun S6 v6 f6 e6 z6 => ?_)
        obtain ⟨g1, g2, v, π, m2, w2, g3, g5, g6⟩ := g4 (by rw [← z5]; exact z6)
        have x6 := v6.2.2.2.1 _ _ _ _ x5
        have v26 := v25.b v6
        have hch := xPl_vx v26 g3 (fun a a1 ⟨t, a2, a3, a4⟩ a5 => by
          have hae : a ≠ e := fun w => by rw [w, ho] at a2; cases a2; omega
          exact (f6 a hae).trans (v25.2.1 a a1 (fun w => w)))
        have hvy := g2.im v26.2.2.2.1
        refine ⟨⟨he, ⟨p, ho, Nat.le_refl _, hpq⟩, hpq⟩, Or.inl (Or.inr ⟨kt, y, x6, by rcases hkt with ⟨_, w⟩ | ⟨_, w⟩ <;> subst w <;> decide, hvy⟩), Or.inr (Or.inr (Or.inr (Or.inl ⟨mu, o, p', v, y, m2, w2, π, e6, hp, hch, g5, hvy, by omega, ?_⟩)))⟩
        rcases hkt with ⟨w1, w2⟩ | ⟨w1, w2⟩
        · subst w2; exact Or.inl ⟨w1, x6⟩
        · subst w2; exact Or.inr ⟨w1, x6, g6 w1⟩
      unfold f_refer_99
      refine Rt.bd (oI_mk (t4.L he) c4 (v := mu) rfl) (Rt.it (fun w => h116 6 (Or.inl ⟨w, rfl⟩)) (fun w => h116 7 (Or.inr ⟨hmu.elim (fun e => absurd e w) id, rfl⟩)))
    have h62 : ∀ S4 : Sg, TS R c nv S4 → VX R nX S2 S4 → VS S2 S4 → (Zi S4 3 = 0 → S4 = S2 ∧ vTy S2 y) → Rt (f_refer_62 R.K V S4 (some e) (some y)) (VaP R Γ c nv S1 (n + 1) kk e p q b b2) := fun S4 t4 v4 s4 g4 => by
      unfold f_refer_62
      refine Rt.ok (fun z4 => ?_) (fun z4 => h99 S4 t4 v4 s4 (fun w => absurd w z4))
      obtain ⟨rfl, g5⟩ := g4 z4
      obtain ⟨v, π, m2, w2, g3, g6⟩ := y2 z4
      refine Rt.bd (oI_mk he2 c2 (v := mu) rfl) (Rt.it (fun w => h99 S4 t4 v4 s4 (fun _ => ⟨rfl, g5, v, π, m2, w2, g3, g6, fun e => by rw [w] at e; exact absurd e (by decide)⟩)) (fun w => ?_))
      refine Rt.bd (oR_mk he2 c2 (v := some o) rfl) (Rt.bn (mut_ (K := R.K) (fun a ha => y1.1.L ha) g3 (d := 410) (by omega) (by omega)) (fun S5 r5 q5 => ?_))
      obtain ⟨rfl, e5⟩ := q5
      refine Rt.it (fun w5 => ?_) (fun w5 => h99 S5 t4 v4 s4 (fun _ => ⟨rfl, g5, v, π, m2, w2, g3, g6, fun _ => ?_⟩))
      · obtain ⟨_, _, _, _, ck, cf, d5, d6, d7, _⟩ := xPl_c g3
        refine Rt.bd (oR_mk he2 c2 (v := some o) rfl) (Rt.bd (oI_mk (y1.1.L hom) d5 d7) (Rt.be (fai_ t4 (by omega)) (h99 _ t4.fl (v4.n VX.fl) (s4.tr VS.fl) (fun w => absurd w (flS_n0 (by decide))))))
      · have := (xPl_c g3).2.2.2.1.1
        rcases Nat.lt_or_ge m2 1 with w6 | w6
        · rw [show m2 = 0 by omega] at e5; exact absurd e5 w5
        · omega
    refine Rt.ok (fun z => ?_) (fun z => h62 S2 y1.1 VX.rf VS.rf (fun w => absurd w z))
    obtain ⟨v, π, m2, w2, g3, g6⟩ := y2 z
    refine Rt.be (ref_ u1) (Rt.it (fun w => h62 S2 y1.1 VX.rf VS.rf (fun _ => ⟨rfl, ?_⟩)) (fun w => ?_))
    · exact (xPl_c g3).2.2.1.v u1 (fun e => by rw [if_pos (Or.inl e)] at w; cases w) (fun e => by rw [if_pos (Or.inr e)] at w; cases w)
    · exact Rt.bd (oI_mk he2 c2 rfl) (Rt.be (fai_ y1.1 (by omega)) (h62 _ y1.1.fl VX.fl VS.fl (fun w => absurd w (flS_n0 (by decide)))))
  · subst e1
    refine Rt.ip rfl (Rt.bd (oR_mk (h.L he) c1 (v := some o) rfl) (Rt.bn (hV (show c + (q - p') ≤ 1990 by omega) h hS hI hE hU' hq) (fun S2 r2 q2 => ?_)))
    obtain ⟨y, rfl, y1, y2⟩ := q2
    have c2 : ZF S2 e = xpC 12 p 0 0 0 mu (.ref o) .null .null 0 := (y1.2.1.2.1 e he hne).trans c1
    have v2 : VX R (Xo R p q) S1 S2 := y1.2.1.mo (fun a w => Xo_mo w (by omega) (Nat.le_refl _))
    refine Rt.bd (oI_mk (y1.1.L he) c2 rfl) (Rt.bn (wrg_ hK hv (show c + (q - p') ≤ 1990 by omega) y1.1 he hG rfl ho (Nat.le_refl p) hpq (by omega) (by decide)) (fun S3 r3 q3 => ?_))
    obtain ⟨x3, rfl, k1, k2⟩ := q3
    exact Rt.rt (VaP.bad ⟨k1.1, v2.tr k1.2.1 (fun _ w => w), y1.2.2.1.tr k1.2.2.1, k1.2.2.2⟩ (by omega) k2)
/-- fits -/
theorem fts_ {V : Sg → Option Nat → Option (Sg × Option Nat)} {n : Nat} (hV : VH R Γ nv n V) {S : Sg} {kk x p q b b2 : Nat} {y : Option Nat} (hc : c + (q - p) ≤ 1990) (h : TS R c nv S) (hS : SCO R S Γ) (hI : ITA R S) (hE : isE (ZL R.S) (ZF R.S) (R.K.1 9) (R.K.1 0) n kk x p q b b2) (hU : Unt R S p q) (hq : q ≤ R.T) : Rt (f_fits R.K V S (some x) y) (fun S2 _ => TS R (c + (q - p)) nv S2 ∧ VX R (Xo R p q) S S2 ∧ VS S S2 ∧ (Zi S2 3 = 0 → ∃ t : Nat, y = some t ∧ xE R S2 Γ n kk x p q b b2 t)) := by
  have hT := h.tb
  have hpq := (isE_mem hE).2
  unfold f_fits f_fits_27
  refine Rt.bn (hV hc h hS hI hE hU hq) (fun S2 r2 q2 => ?_)
  obtain ⟨t, rfl, y1, y2⟩ := q2
  refine Rt.ok (fun z => Rt.it (fun w => ?_) (fun w => ?_)) (fun z => Rt.rt ⟨y1.1, y1.2.1, y1.2.2.1, fun w => absurd w z⟩)
  · exact Rt.rt ⟨y1.1, y1.2.1, y1.2.2.1, fun w2 => ⟨t, w.symm, y2 w2⟩⟩
  · obtain ⟨vs, g1, g2⟩ := isE_tok hE
    obtain ⟨k1, gs, k2, k3, k4, k5⟩ := y1.1.ob (isE_mem hE).1 g1
    refine Rt.bd (oI_mk k1 k2 ((k4 1 rfl).trans g2)) (Rt.be (fai_ y1.1 (by omega)) (Rt.rt ⟨y1.1.fl, y1.2.1.n VX.fl, y1.2.2.1.tr VS.fl, fun w => absurd w (flS_n0 (by decide))⟩))
end REF
end
-- k6.l.lean.txt
section
theorem in_j {j n : Nat} (h : j < n) (hj : j < 1000000) : ¬ (nI j < 0 ∨ n ≤ (nI j).toNatClampNeg) := by
  rw [nI_clamp (by omega)]
  rintro (w | w)
  · exact nI_pos (by omega) w
  · omega
theorem aQ_j {K : Ky} {t : Nat} {S : Sg} {a n j : Nat} {f : Nat → Option Nat} (ha : a ∈ ZL S) (hF : ZF S a = .inl (K.1 t, n, .inr (.inr (.inr (.inr f))))) (h : j < n) (hj : j < 1000000) : aQ K t S (some a) (nI j) = some (f j) := by
  rw [aQ_mk ha hF (in_j h hj), nI_clamp (by omega)]
theorem aI_j {K : Ky} {S : Sg} {a n j : Nat} {f : Nat → Int32} (ha : a ∈ ZL S) (hF : ZF S a = .inl (K.1 0, n, .inl f)) (h : j < n) (hj : j < 1000000) : aI K S (some a) (nI j) = some (f j) := by
  rw [aI_mk ha hF (in_j h hj), nI_clamp (by omega)]
/-- a row of exps, its parts told by functions -/
theorem chP_fn {z : Nat} {P : Nat → Nat → Nat → Nat → Nat → Prop} {f : Nat → Option Nat} {g : Nat → Int32} {n p q b c : Nat} (h : chP z P f g n p q b c) (hlt : ∀ x p q b c : Nat, P x p q b c → p < q) : ∃ ps bs xs pf sf : Nat → Nat, p ≤ ps 0 ∧ ps n = q ∧ bs 0 = b ∧ bs n = c ∧ (∀ i : Nat, i < n → f i = some (xs i) ∧ ps i < pf i ∧ pf i < ps (i + 1) ∧ P (xs i) (pf i) (ps (i + 1)) (bs i) (bs (i + 1)) ∧ g i = nI (sf i) ∧ ((sf i = 0 ∧ z = 0) ∨ (ps i ≤ sf i ∧ sf i < pf i))) ∧ ∀ i j : Nat, i ≤ j → j ≤ n → ps i ≤ ps j := by
  obtain ⟨ps, bs, h1, h2, h3, h4, h5⟩ := h
  have hk : ∀ i : Nat, ∃ y : Nat × Nat × Nat, i < n → f i = some y.1 ∧ ps i < y.2.1 ∧ y.2.1 < ps (i + 1) ∧ P y.1 y.2.1 (ps (i + 1)) (bs i) (bs (i + 1)) ∧ g i = nI y.2.2 ∧ ((y.2.2 = 0 ∧ z = 0) ∨ (ps i ≤ y.2.2 ∧ y.2.2 < y.2.1)) := fun i => by
    by_cases hi : i < n
    · obtain ⟨x, p', s, g1, g2, g3, g4, g5⟩ := h5 i hi
      exact ⟨(x, p', s), fun _ => ⟨g1, g2, hlt _ _ _ _ _ g3, g3, g4, g5⟩⟩
    · exact ⟨(0, 0, 0), fun w => absurd w hi⟩
  have hm : ∀ i j : Nat, i ≤ j → j ≤ n → ps i ≤ ps j := fun i j hij hj => by
    have := chP_ps (P := P) hlt h5 (j - i) (n := n) (i := i) (by omega)
    rw [show i + (j - i) = j by omega] at this
    exact this
  exact ⟨ps, bs, fun i => (Classical.choose (hk i)).1, fun i => (Classical.choose (hk i)).2.1, fun i => (Classical.choose (hk i)).2.2, h1, h2, h3, h4, fun i hi => Classical.choose_spec (hk i) hi, hm⟩
/-- a row that was read and isn't blank is as it was -/
theorem TS.rq {R : yR} {c nv : Nat} {S : Sg} (h : TS R c nv S) {a n i x : Nat} {k : ClassId} {g : Nat → Option Nat} (ha : a ∈ ZL R.S) (hG : ZF R.S a = .inl (k, n, .inr (.inr (.inr (.inr g))))) (hi : g i = some x) : ZF S a = .inl (k, n, .inr (.inr (.inr (.inr g)))) := by
  obtain ⟨G, tm, Y, ad, h1, h2, h3, h4⟩ := h
  exact rl_rr h1.1.2.1 (h2 a ha).1 ((h2 a ha).2.trans hG) hi
theorem TS.ri {R : yR} {c nv : Nat} {S : Sg} (h : TS R c nv S) {a n i : Nat} {k : ClassId} {g : Nat → Int32} (ha : a ∈ ZL R.S) (hG : ZF R.S a = .inl (k, n, .inl g)) (hi : g i ≠ 0) : ZF S a = .inl (k, n, .inl g) := by
  obtain ⟨G, tm, Y, ad, h1, h2, h3, h4⟩ := h
  exact rl_ri h1.1.2.1 (h2 a ha).1 ((h2 a ha).2.trans hG) hi
section CHN
variable {R : yR} {Γ : List Nat} {c nv : Nat}
/-- a chain -/
theorem chd_ (hK : yRm R) (hv : nv ≤ 10000) {V : Sg → Option Nat → Option (Sg × Option Nat)} {n : Nat} (hV : VH R Γ nv n V) {S : Sg} {kk kq e p q b b2 o q1 b1 mn : Nat} {li si : Value} (hc : c + (q - p) ≤ 1990) (h : TS R c nv S) (hS : SCO R S Γ) (hI : ITA R S) (he : e ∈ ZL R.S) (hG : ZF R.S e = xpC 8 p 0 0 0 0 (.ref o) li si mn) (hF : ZF S e = ZF R.S e) (hmn : 1 ≤ mn) (hE : isE (ZL R.S) (ZF R.S) (R.K.1 9) (R.K.1 0) n kq o p q1 b b1) (hkq : kq = kk + 1 ∨ mn = 0) (hQ : isQl 1 (isE (ZL R.S) (ZF R.S) (R.K.1 9) (R.K.1 0) n kk) (ZL R.S) (ZF R.S) (R.K.1 9) (R.K.1 0) li si mn q1 q b1 b2) (hU : Unt R S p q) (hq : q ≤ R.T) : Rt (f_chained R.K V S (some e)) (VaP R Γ c nv S (n + 1) kq e p q b b2) := by
  have hT := h.tb
  have hpq1 := (isE_mem hE).2
  rcases hQ with ⟨w, _⟩ | ⟨la, sa, cap, q0, f, g, w1, w2, w3, w4, w5, w6, w7, w8, w9⟩
  · omega
  subst w1 w2
  obtain ⟨ps, bs, xs, pf, sf, h1, h2, h3, h4, h5, h6⟩ := chP_fn w9 (fun x p q b c z => (isE_mem z).2)
  have hs0 : ps 0 ≤ sf 0 ∧ sf 0 < pf 0 := (h5 0 (by omega)).2.2.2.2.2.elim (fun w => absurd w.2 (by decide)) id
  have hps1 : pf 0 < ps 1 := (h5 0 (by omega)).2.2.1
  have hp1q : ps 1 ≤ q0 := by have := h6 1 mn (by omega) (Nat.le_refl _); omega
  have hcap : mn ≤ 100000 := by
    have : ∀ d : Nat, d ≤ mn → d ≤ ps d := by
      intro d
      induction d with
      | zero => exact fun _ => Nat.zero_le _
      | succ d ih =>
        intro hd
        have := ih (by omega)
        have := (h5 d (by omega)).2.1; have := (h5 d (by omega)).2.2.1
        omega
    have := this mn (Nat.le_refl _)
    omega
  have hsf : ∀ i : Nat, i < mn → ps i ≤ sf i ∧ sf i < pf i := fun i hi => (h5 i hi).2.2.2.2.2.elim (fun w => absurd w.2 (by decide)) id
  have ho : ownT (ZF R.S) e = some (sf 0) := own_c hG w6 (h5 0 (by omega)).2.2.2.2.1 (by omega)
  have ho1 : p ≤ sf 0 := by omega
  have ho2 : sf 0 < q := by omega
  have hne0 : ¬ Xo R p q1 e := own_n ho ⟨_, hG⟩ (Nat.le_refl _) (Nat.lt_succ_self _) (Or.inr (by omega))
  have hnei : ∀ a z : Nat, sf 0 < a → ¬ Xo R a z e := fun a z ha => own_n ho ⟨_, hG⟩ (Nat.le_refl _) (Nat.lt_succ_self _) (Or.inl (by omega))
  have hnla : nXo R la := nXo.ro w3 w5 (Or.inr (fun w => by cases w; exact absurd (h5 0 (by omega)).1 (by simp)))
  have hnsa : nXo R sa := nXo.ro w4 w6 (Or.inr (fun w => by cases w))
  have hg0 : g 0 ≠ 0 := by rw [(h5 0 (by omega)).2.2.2.2.1]; exact nI_ne0 (by omega) (by omega)
  -- what was read by the place k
  have hloop : ∀ (m k : Nat) {S1 : Sg} {tk : Nat} {tx tt : Nat → Nat}, mn < k + m → k ≤ mn → TS R (c + (ps k - p)) nv S1 → VX R (fun a => Xo R p q1 a ∨ Xo R (sf 0 + 1) (ps k) a) S S1 → VS S S1 → (∃ (kd ix : Int32) (oo : Option Nat), isTy S1 tk kd ix oo) → (Zi S1 3 = 0 → tt k = tk ∧ xE R S1 Γ n kq o p q1 b b1 (tt 0) ∧ ∀ i : Nat, i < k → xE R S1 Γ n kk (xs i) (pf i) (ps (i + 1)) (bs i) (bs (i + 1)) (tx i) ∧ (isTy S1 (tt i) 0 0 none ∨ isTy S1 (tt i) 1 0 none) ∧ (isTy S1 (tx i) 0 0 none ∨ isTy S1 (tx i) 1 0 none) ∧ (isTy S1 (tt (i + 1)) 0 0 none ∨ isTy S1 (tt (i + 1)) 1 0 none)) → Rt (f_chained_11 R.K V m S1 (some e) (some tk) (nI k)) (VaP R Γ c nv S (n + 1) kq e p q b b2) := by
    intro m
    induction m with
    | zero => intro k S1 tk tx tt a b; omega
    | succ m ih =>
      intro k S1 tk tx tt a hkm t1 v1 s1 y1 g1
      have hpk : ps k ≤ q0 := by have := h6 k mn hkm (Nat.le_refl _); omega
      have hpk0 := h6 0 k (by omega) hkm
      have c1 : ZF S1 e = xpC 8 p 0 0 0 0 (.ref o) (.ref la) (.ref sa) mn := (v1.2.1 e he (fun w => w.elim hne0 (hnei _ _ (by omega)))).trans (hF.trans hG)
      have he1 := t1.L he
      have v1' : VX R (Xo R p q) S S1 := v1.mo (fun a w => w.elim (fun w => Xo_mo w (Nat.le_refl _) (by omega)) (fun w => Xo_mo w (by omega) (by omega)))
      -- the end
      have hend : (Zi S1 3 = 0 → k = mn) → Rt (f_chained_196 R.K V S1 (some e) (some tk)) (VaP R Γ c nv S (n + 1) kq e p q b b2) := fun hz => by
        unfold f_chained_196
        refine ftl_ t1 (by omega) v1' s1 y1 he hG rfl ho ho1 ho2 c1 (fun S6 v6 f6 e6 z6 => ?_)
        have hkk := hz z6
        subst hkk
        obtain ⟨a1, a2, a3⟩ := g1 z6
        have hT6 := v6.2.2.2.1
        have hor : ∀ y : Nat, (isTy S1 y 0 0 none ∨ isTy S1 y 1 0 none) → (isTy S6 y 0 0 none ∨ isTy S6 y 1 0 none) := fun y w => w.imp (hT6 _ _ _ _) (hT6 _ _ _ _)
        have hfr : ∀ (p1 q9 : Nat), (q9 ≤ sf 0 ∨ sf 0 < p1) → ∀ a : Nat, a ∈ ZL R.S → (∃ t : Nat, ownT (ZF R.S) a = some t ∧ p1 ≤ t ∧ t < q9) → (∃ vs : List Value, ZF S1 a = .inr (15, vs)) → ZF S6 a = ZF S1 a := fun p1 q9 hd a _ ⟨t, b2', b3, b4⟩ _ => f6 a (fun w => by rw [w, ho] at b2'; cases b2'; omega)
        have hx : xTy S6 tk := by
          rw [← a1]
          have := (a3 (k - 1) (by omega)).2.2.2
          rw [show k - 1 + 1 = k by omega] at this
          rcases hor _ this with w | w
          · exact Or.inl (Or.inl (vTy.pl w (by decide)))
          · exact Or.inl (Or.inl (vTy.pl w (by decide)))
        refine ⟨⟨he, ⟨sf 0, ho, ho1, ho2⟩, by omega⟩, hx, Or.inr (Or.inr (Or.inr (Or.inr (Or.inl ⟨o, q1, b1, k, .ref la, .ref sa, f, g, tx, tt, e6, hmn, xE_vx v6 a2 (hfr p q1 (by omega)), ⟨kk, hkq, Or.inr ⟨la, sa, cap, q0, rfl, rfl, hnla, hnsa, ?_, ?_, hmn, w7, w8, ps, bs, h1, h2, h3, h4, fun i hi => ?_⟩⟩, a1, fun i hi => ⟨hor _ (a3 i hi).2.1, hor _ (a3 i hi).2.2.1, hor _ (a3 i hi).2.2.2⟩⟩))))⟩
        · rw [v6.nx hnla]; exact t1.rq w3 w5 (h5 0 (by omega)).1
        · intro _; rw [v6.nx hnsa]; exact t1.ri w4 w6 hg0
        · have hi0 := hsf i hi
          have := h6 0 i (by omega) (by omega)
          refine ⟨xs i, pf i, sf i, (h5 i hi).1, (h5 i hi).2.1, xE_vx v6 (a3 i hi).1 (hfr _ _ (Or.inr ?_)), (h5 i hi).2.2.2.2.1, Or.inr hi0⟩
          rcases Nat.eq_zero_or_pos i with w | w
          · subst w; omega
          · have := h6 1 i w (by omega); omega
      unfold f_chained_11
      refine Rt.bd (oI_mk he1 c1 (v := nI mn) rfl) (Rt.it (fun w => hend (fun _ => ?_)) (fun w => ?_))
      · have := (nI_leI (a := mn) (b := k) (by omega) (by omega)).mp w; omega
      have hlt : k < mn := by
        rcases Nat.lt_or_ge k mn with z | z
        · exact z
        · exact absurd (nI_le z (by omega)) w
      refine Rt.ok (fun z1 => ?_) (fun z1 => hend (fun w => absurd w z1))
      obtain ⟨d1, d2, d3, d4, d5, d6⟩ := h5 k hlt
      have hpk1 : ps (k + 1) ≤ q0 := by have := h6 (k + 1) mn (by omega) (Nat.le_refl _); omega
      have hpf0 : sf 0 < pf k := by
        rcases Nat.eq_zero_or_pos k with w | w
        · subst w; omega
        · have := h6 1 k w hkm; omega
      have cla := t1.rq w3 w5 (h5 0 (by omega)).1
      refine Rt.bd (oR_mk he1 c1 (v := some la) rfl) (Rt.bd (aQ_j (t1.L w3) cla (show k < cap by omega) (by omega)) ?_)
      rw [d1]
      have hUk : Unt R S1 (pf k) (ps (k + 1)) := fun a ha w9' => (v1.2.1 a ha (fun w => by
        have hdj : ∀ p9 q9 p8 q8 : Nat, Xo R p9 q9 a → Xo R p8 q8 a → dj p9 q9 p8 q8 → False := fun p9 q9 p8 q8 x1 x2 x3 => by
          exact Xo_dj x1 x2 x3
        rcases w with w | w
        · exact hdj _ _ _ _ w w9' (Or.inl (by omega))
        · exact hdj _ _ _ _ w w9' (Or.inl (by omega)))).trans (hU a ha (Xo_mo w9' (by omega) (by omega)))
      have vsc := SCO.vx v1 s1 hS
      refine Rt.bn (hV (c := c + (ps k - p)) (show c + (ps k - p) + (ps (k + 1) - pf k) ≤ 1990 by omega) t1 vsc (hI.vx v1') d4 hUk (by omega)) (fun S2 r2 q2 => ?_)
      obtain ⟨u, rfl, u1, u2⟩ := q2
      have c2 : ZF S2 e = xpC 8 p 0 0 0 0 (.ref o) (.ref la) (.ref sa) mn := (u1.2.1.2.1 e he (hnei _ _ hpf0)).trans c1
      have he2 := u1.1.L he
      have csa := u1.1.ri w4 w6 hg0
      refine Rt.bd (oR_mk he2 c2 (v := some sa) rfl) (Rt.bd (aI_j (u1.1.L w4) csa (show k < cap by omega) (by omega)) ?_)
      rw [d5]
      have hsk := hsf k hlt
      refine Rt.bd (rI_n (show sf k < rlen 5 by show sf k < 3002; omega) (by decide)) (Rt.bn lev_ (fun S3 lv q3 => ?_))
      obtain ⟨rfl, _⟩ := q3
      obtain ⟨kt, it, ot, yt⟩ := y1
      have yt2 := u1.2.1.2.2.2.1 _ _ _ _ yt
      obtain ⟨ku, iu, ou, yu⟩ := u1.2.2.2
      have yt' := yt2
      have yu' := yu
      obtain ⟨ti, a1, a2, a3, a4⟩ := yt2
      obtain ⟨ui, b1', b2', b3, b4⟩ := yu
      have v2 : VX R (fun a => Xo R p q1 a ∨ Xo R (sf 0 + 1) (ps (k + 1)) a) S S3 := (v1.mo (fun a w => w.imp id (fun w => Xo_mo w (Nat.le_refl _) (by omega)))).tr u1.2.1 (fun a w => Or.inr (Xo_mo w (by omega) (Nat.le_refl _)))
      -- behind the look at both kinds
      have h186 : ∀ (S4 : Sg) (kg : Int32), (kg = 0 ∨ kg = 1) → TS R (c + (ps k - p) + (ps (k + 1) - pf k)) nv S4 → VX R nX S3 S4 → VS S3 S4 → (Zi S4 3 = 0 → S4 = S3 ∧ ((kt = 0 ∧ ku = 0) ∨ (kt = 1 ∧ ku = 1))) → Rt (f_chained_186 R.K V (f_chained_11 R.K V m) S4 (some e) (nI k) kg) (VaP R Γ c nv S (n + 1) kq e p q b b2) := fun S4 kg hkg t4 v4 s4 g4 => by
        unfold f_chained_186
        refine Rt.bn (plt_ hK hv t4 (by rcases hkg with w | w <;> subst w <;> decide) (by omega)) (fun S5 r5 q5 => ?_)
        obtain ⟨x, rfl, t5, x5, v5, s5, z5⟩ := q5
        have v35 := v4.n v5
        rw [nI_1]
        refine ih (k + 1) (tx := fun i => if i = k then u else tx i) (tt := fun i => if i = k + 1 then x else tt i) (by omega) (by omega) (t5.up (by omega)) (v2.n v35) (s1.tr (u1.2.2.1.tr (s4.tr s5))) ⟨_, _, _, x5⟩ (fun z => ?_)
        obtain ⟨e9, hkk⟩ := g4 (by rw [← z5]; exact z)
        have hz3 : Zi S3 3 = 0 := v35.2.2.2.2.2 z
        obtain ⟨f1, f2, f3⟩ := g1 z1
        have v15 : VX R (Xo R (pf k) (ps (k + 1))) S1 S5 := u1.2.1.n v35
        have hT5 := v15.2.2.2.1
        have hor : ∀ y : Nat, (isTy S1 y 0 0 none ∨ isTy S1 y 1 0 none) → (isTy S5 y 0 0 none ∨ isTy S5 y 1 0 none) := fun y w => w.imp (hT5 _ _ _ _) (hT5 _ _ _ _)
        have hfr : ∀ (p1 q9 : Nat), (q9 ≤ pf k ∨ ps (k + 1) ≤ p1) → ∀ a : Nat, a ∈ ZL R.S → (∃ t : Nat, ownT (ZF R.S) a = some t ∧ p1 ≤ t ∧ t < q9) → (∃ vs : List Value, ZF S1 a = .inr (15, vs)) → ZF S5 a = ZF S1 a := fun p1 q9 hd a ha ⟨t, x1, x2, x3⟩ x4 => v15.2.1 a ha (fun w => by
          rcases w with ⟨t2, y1, y2, y3⟩ | ⟨b9, t2, _, _, _, _, y6⟩ | ⟨t2, _, _, _, y6⟩
          · rw [x1] at y1; cases y1; omega
          · unfold ownT at x1; rw [y6] at x1; cases x1
          · unfold ownT at x1; rw [y6] at x1; cases x1)
        have hku : isTy S5 tk 0 0 none ∧ isTy S5 u 0 0 none ∨ isTy S5 tk 1 0 none ∧ isTy S5 u 1 0 none := by
          have q1' := (u1.1.at (by omega) yt').1
          have q2' := (u1.1.at (by omega) yu').1
          rcases hkk with ⟨k1, k2⟩ | ⟨k1, k2⟩
          · subst k1 k2
            obtain ⟨m1, m2⟩ := yOK_0 q1' (by decide)
            obtain ⟨m3, m4⟩ := yOK_0 q2' (by decide)
            subst m1 m2 m3 m4
            exact Or.inl ⟨v35.2.2.2.1 _ _ _ _ yt', v35.2.2.2.1 _ _ _ _ yu'⟩
          · subst k1 k2
            obtain ⟨m1, m2⟩ := yOK_0 q1' (by decide)
            obtain ⟨m3, m4⟩ := yOK_0 q2' (by decide)
            subst m1 m2 m3 m4
            exact Or.inr ⟨v35.2.2.2.1 _ _ _ _ yt', v35.2.2.2.1 _ _ _ _ yu'⟩
        refine ⟨if_pos rfl, ?_, fun i hi => ?_⟩
        · rw [if_neg (by omega)]
          exact xE_vx v15 f2 (hfr p q1 (Or.inl (by omega)))
        · by_cases e0 : i = k
          · subst e0
            rw [if_pos rfl, if_pos rfl, if_neg (by omega), f1]
            refine ⟨xE_vx (v35.mo (Y := Xo R 0 0) (fun _ w => w.elim)) (u2 hz3) (fun a ha _ _ => v35.2.1 a ha (fun w => w)), ?_, ?_, ?_⟩
            · exact hku.imp (fun w => w.1) (fun w => w.1)
            · exact hku.imp (fun w => w.2) (fun w => w.2)
            · rcases hkg with w | w <;> subst w
              · exact Or.inl x5
              · exact Or.inr x5
          · rw [if_neg e0, if_neg (by omega), if_neg (by omega)]
            obtain ⟨m1, m2, m3, m4⟩ := f3 i (by omega)
            exact ⟨xE_vx v15 m1 (hfr _ _ (Or.inl (by have := h6 (i + 1) k (by omega) hkm; omega))), hor _ m2, hor _ m3, hor _ m4⟩
      have h174 : ∀ S4 : Sg, TS R (c + (ps k - p) + (ps (k + 1) - pf k)) nv S4 → VX R nX S3 S4 → VS S3 S4 → (Zi S4 3 = 0 → S4 = S3 ∧ ((kt = 0 ∧ ku = 0) ∨ (kt = 1 ∧ ku = 1))) → Rt (f_chained_174 R.K V (f_chained_11 R.K V m) S4 (some e) (nI k) lv) (VaP R Γ c nv S (n + 1) kq e p q b b2) := fun S4 t4 v4 s4 g4 => by
        unfold f_chained_174
        exact Rt.it (fun _ => h186 S4 1 (Or.inr rfl) t4 v4 s4 g4) (fun _ => h186 S4 0 (Or.inl rfl) t4 v4 s4 g4)
      have h149 : ∀ g9 : Int32, (g9 ≠ 0 → (kt = 0 ∧ ku = 0) ∨ (kt = 1 ∧ ku = 1)) → Rt (f_chained_149 R.K V (f_chained_11 R.K V m) S3 (some e) (nI k) lv g9) (VaP R Γ c nv S (n + 1) kq e p q b b2) := fun g9 hg9 => by
        unfold f_chained_149
        refine Rt.ok (fun z3 => Rt.it (fun w => ?_) (fun w => h174 S3 u1.1 VX.rf VS.rf (fun _ => ⟨rfl, hg9 w⟩))) (fun z3 => h174 S3 u1.1 VX.rf VS.rf (fun w => absurd w z3))
        refine Rt.bd (oR_mk he2 c2 (v := some sa) rfl) (Rt.bd (aI_j (u1.1.L w4) csa (show k < cap by omega) (by omega)) ?_)
        rw [d5]
        exact Rt.be (fai_ u1.1 (by omega)) (h174 _ u1.1.fl VX.fl VS.fl (fun w => absurd w (flS_n0 (by decide))))
      have h102 : ∀ (sg i9 b9 : Int32), (i9 ≠ 0 → kt = 0 ∧ ku = 0) → (b9 ≠ 0 → kt = 1 ∧ ku = 1) → Rt (f_chained_102 R.K V (f_chained_11 R.K V m) S3 (some e) (nI k) sg lv i9 b9) (VaP R Γ c nv S (n + 1) kq e p q b b2) := fun sg i9 b9 hi9 hb9 => by
        have h129 : Rt (f_chained_129 R.K V (f_chained_11 R.K V m) S3 (some e) (nI k) lv i9 b9) (VaP R Γ c nv S (n + 1) kq e p q b b2) := by
          unfold f_chained_129 f_chained_139
          exact Rt.it (fun _ => Rt.it (fun _ => h149 0 (fun w => absurd rfl w)) (fun w => h149 1 (fun _ => Or.inr (hb9 w)))) (fun w => h149 1 (fun _ => Or.inl (hi9 w)))
        unfold f_chained_102
        exact Rt.it (fun _ => Rt.it (fun _ => h129) (fun _ => Rt.it (fun _ => h129) (fun _ => h149 i9 (fun w => Or.inl (hi9 w))))) (fun _ => h149 b9 (fun w => Or.inr (hb9 w)))
      have h78 : ∀ (sg i9 : Int32), (i9 ≠ 0 → kt = 0 ∧ ku = 0) → Rt (f_chained_78 R.K V (f_chained_11 R.K V m) S3 (some e) (some tk) (nI k) (some u) sg lv i9) (VaP R Γ c nv S (n + 1) kq e p q b b2) := fun sg i9 hi9 => by
        unfold f_chained_78 f_chained_101
        exact Rt.bd (oI_mk a3 a4 (v := kt) rfl) (Rt.it (fun e1 => Rt.bd (oI_mk b3 b4 (v := ku) rfl) (Rt.it (fun e2 => h102 sg i9 1 hi9 (fun _ => ⟨e1, e2⟩)) (fun _ => h102 sg i9 0 hi9 (fun w => absurd rfl w)))) (fun _ => h102 sg i9 0 hi9 (fun w => absurd rfl w)))
      unfold f_chained_77
      exact Rt.bd (oI_mk a3 a4 (v := kt) rfl) (Rt.it (fun e1 => Rt.bd (oI_mk b3 b4 (v := ku) rfl) (Rt.it (fun e2 => h78 _ 1 (fun _ => ⟨e1, e2⟩)) (fun _ => h78 _ 0 (fun w => absurd rfl w)))) (fun _ => h78 _ 0 (fun w => absurd rfl w)))
  have c1 : ZF S e = xpC 8 p 0 0 0 0 (.ref o) (.ref la) (.ref sa) mn := hF.trans hG
  unfold f_chained
  refine Rt.bd (oR_mk (h.L he) c1 (v := some o) rfl) (Rt.bn (hV (show c + (q1 - p) ≤ 1990 by omega) h hS hI hE (hU.su (Nat.le_refl _) (by omega)) (by omega)) (fun S2 r2 q2 => ?_))
  obtain ⟨y, rfl, y1, y2⟩ := q2
  exact hloop bigN 0 (tx := fun _ => 0) (tt := fun _ => y) (by show mn < 0 + 1000000000000; omega) (Nat.zero_le _) (y1.1.up (by omega)) (y1.2.1.mo (fun a w => Or.inl w)) y1.2.2.1 y1.2.2.2 (fun z => ⟨rfl, y2 z, fun i hi => absurd hi (by omega)⟩)
end CHN
end
-- k6.m.lean.txt
section
theorem nmE.sm {R : yR} {a b : Nat} (h : nmE R a b) : nmE R b a := ⟨h.1.symm, fun j hj => (h.2 j (by rw [h.1]; exact hj)).symm⟩
theorem nmE.tr {R : yR} {a b c : Nat} (h : nmE R a b) (g : nmE R b c) : nmE R a c := ⟨h.1.trans g.1, fun j hj => (h.2 j hj).trans (g.2 j (by rw [← h.1]; exact hj))⟩
section SNE
variable {R : yR} {Γ : List Nat} {c nv : Nat} {S : Sg}
theorem sne_36 (h : TS R c nv S) {ta tb a1 a2 ln : Nat} (hta : ta < R.T) (htb : tb < R.T) (e1 : Zr S 6 ta = nI a1) (e2 : Zr S 6 tb = nI a2) (h1 : a1 + ln ≤ 3000) (h2 : a2 + ln ≤ 3000) : ∀ (n j : Nat), ln < j + n → j ≤ ln → (∀ i : Nat, i < j → Zr S 0 (a1 + i) = Zr S 0 (a2 + i)) → Rt (f_sameName_36 R.K n S (nI ta) (nI tb) (nI ln) (nI j)) (fun S2 r => S2 = S ∧ ((r = 1 ∧ ∀ i : Nat, i < ln → Zr S 0 (a1 + i) = Zr S 0 (a2 + i)) ∨ (r = 0 ∧ ∃ i : Nat, i < ln ∧ ¬ Zr S 0 (a1 + i) = Zr S 0 (a2 + i))))
  | 0, j, a, b, _ => absurd a (by omega)
  | n + 1, j, a, b, hj0 => by
    have hT := h.tb
    unfold f_sameName_36
    refine Rt.it (fun hc => Rt.zr (Or.inr rfl) ⟨rfl, Or.inl ⟨rfl, fun i hi => hj0 i ?_⟩⟩) (fun hc => ?_)
    · have := (nI_leI (a := ln) (b := j) (by omega) (by omega)).mp hc; omega
    have hj : j < ln := by
      rcases Nat.lt_or_ge j ln with z | z
      · exact z
      · exact absurd (nI_le z (by omega)) hc
    refine Rt.bd (rI_n (show ta < rlen 6 by show ta < 3002; omega) (by decide)) ?_
    rw [e1, nI_add]
    refine Rt.bd (rI_n (show a1 + j < rlen 0 by show a1 + j < 3000; omega) (by decide)) ?_
    refine Rt.bd (rI_n (show tb < rlen 6 by show tb < 3002; omega) (by decide)) ?_
    rw [e2, nI_add]
    refine Rt.bd (rI_n (show a2 + j < rlen 0 by show a2 + j < 3000; omega) (by decide)) ?_
    refine Rt.it (fun w => ?_) (fun w => Rt.zr (Or.inl rfl) ⟨rfl, Or.inr ⟨rfl, j, hj, w⟩⟩)
    rw [nI_1]
    exact sne_36 h hta htb e1 e2 h1 h2 n (j + 1) (by omega) (by omega) (fun i hi => by
      by_cases e : i = j
      · subst e; exact w
      · exact hj0 i (by omega))
/-- sameName: whether two tokens have the same text -/
theorem sne_ (h : TS R c nv S) {ta tb : Nat} (hta : ta < R.T) (htb : tb < R.T) : Rt (f_sameName R.K S (nI ta) (nI tb)) (fun S2 r => S2 = S ∧ ((r = 1 ∧ nmE R ta tb) ∨ (r = 0 ∧ ¬ nmE R ta tb))) := by
  have hT := h.tb
  have z0 := h.fk (r := 0) (by decide)
  have z6 := h.fk (r := 6) (by decide)
  have z7 := h.fk (r := 7) (by decide)
  have h' := h
  obtain ⟨G, tm, Y, ad, g1, g2, g3, g4⟩ := h
  obtain ⟨a1, b1, ea1, eb1, hab1, hbz1⟩ := tk_pl g1.1.1.1 hta
  obtain ⟨a2, b2, ea2, eb2, hab2, hbz2⟩ := tk_pl g1.1.1.1 htb
  have hz := g1.1.1.2.1
  have ha1 : (Zr R.S 6 ta).toNatClampNeg = a1 := by rw [← z6, ea1, nI_clamp (by omega)]
  have ha2 : (Zr R.S 6 tb).toNatClampNeg = a2 := by rw [← z6, ea2, nI_clamp (by omega)]
  have hb1 : (Zr R.S 7 ta).toNatClampNeg = b1 := by rw [← z7, eb1, nI_clamp (by omega)]
  have hb2 : (Zr R.S 7 tb).toNatClampNeg = b2 := by rw [← z7, eb2, nI_clamp (by omega)]
  unfold nmE
  rw [ha1, ha2, hb1, hb2, ← z0]
  unfold f_sameName
  refine Rt.bd (rI_n (show ta < rlen 7 by show ta < 3002; omega) (by decide)) ?_
  refine Rt.bd (rI_n (show ta < rlen 6 by show ta < 3002; omega) (by decide)) ?_
  refine Rt.bd (rI_n (show tb < rlen 7 by show tb < 3002; omega) (by decide)) ?_
  refine Rt.bd (rI_n (show tb < rlen 6 by show tb < 3002; omega) (by decide)) ?_
  rw [ea1, eb1, ea2, eb2, nI_sb hab1, nI_sb hab2]
  refine Rt.it (fun hc => ?_) (fun hc => Rt.zr (Or.inl rfl) ⟨rfl, Or.inr ⟨rfl, fun w => hc (by rw [w.1])⟩⟩)
  have hln : b2 - a2 = b1 - a1 := (nI_eq (by omega) (by omega)).mp hc
  refine (sne_36 h' hta htb ea1 ea2 (by omega) (by omega) bigN 0 (by show _ < 0 + 1000000000000; omega) (by omega) (fun i hi => absurd hi (by omega))).mo (fun S2 r q => ⟨q.1, ?_⟩)
  rcases q.2 with ⟨w1, w2⟩ | ⟨w1, i, w2, w3⟩
  · exact Or.inl ⟨w1, hln.symm, w2⟩
  · exact Or.inr ⟨w1, fun w => w3 (w.2 i w2)⟩
/-- fieldOf: the first field with this name -/
theorem fof_2 (h : TS R c nv S) {a na mn tj : Nat} {fs : List Value} {g : Nat → Int32} (ha : a ∈ ZL R.S) (hF : ZF S a = .inr (16, fs)) (h3 : fs[3]? = some (.int (nI mn))) (hmn : mn ≤ 12) (h8 : fs[8]? = some (.ref na)) (hna : na ∈ ZL R.S) (hN : ZF S na = .inl (R.K.1 0, 13, .inl g)) (hg : ∀ j : Nat, j < mn → ∃ s : Nat, g j = nI s ∧ s < R.T) (htj : tj < R.T) : ∀ (m k : Nat), mn < k + m → k ≤ mn → (∀ j : Nat, j < k → ∃ s : Nat, g j = nI s ∧ s < R.T ∧ ¬ nmE R s tj) → Rt (f_fieldOf_2 R.K m S (some a) (nI tj) (nI k)) (fun S2 r => S2 = S ∧ (r = -1 ∨ ∃ k2 s : Nat, k2 < mn ∧ r = nI k2 ∧ g k2 = nI s ∧ s < R.T ∧ nmE R s tj ∧ ∀ j : Nat, j < k2 → ∃ s : Nat, g j = nI s ∧ s < R.T ∧ ¬ nmE R s tj))
  | 0, k, a9, b9, _ => absurd a9 (by omega)
  | m + 1, k, a9, b9, hfi => by
    unfold f_fieldOf_2
    refine Rt.bd (oI_mk (h.L ha) hF h3) (Rt.it (fun _ => Rt.rt ⟨rfl, Or.inl rfl⟩) (fun hc => ?_))
    have hlt : k < mn := by
      rcases Nat.lt_or_ge k mn with z | z
      · exact z
      · exact absurd (nI_le z (by omega)) hc
    obtain ⟨s, s1, s2⟩ := hg k hlt
    refine Rt.bd (oR_mk (v := some na) (h.L ha) hF h8) (Rt.bd (aI_n (h.L hna) hN (show k < 13 by omega) (by decide)) ?_)
    rw [s1]
    refine Rt.bn (sne_ h s2 htj) (fun S3 r3 q3 => ?_)
    obtain ⟨e3, q3⟩ := q3
    rw [e3]
    rcases q3 with ⟨w1, w2⟩ | ⟨w1, w2⟩
    · rw [w1]
      exact Rt.iq (by decide) (Rt.rt ⟨rfl, Or.inr ⟨k, s, hlt, rfl, s1, s2, w2, hfi⟩⟩)
    · rw [w1, nI_1]
      exact Rt.ip rfl (fof_2 h ha hF h3 hmn h8 hna hN hg htj m (k + 1) (by omega) (by omega) (fun j hj => by
        by_cases e0 : j = k
        · subst e0; exact ⟨s, s1, s2, w2⟩
        · exact hfi j (by omega)))
theorem fof_ (h : TS R c nv S) {a na mn tj : Nat} {fs : List Value} {g : Nat → Int32} (ha : a ∈ ZL R.S) (hF : ZF S a = .inr (16, fs)) (h3 : fs[3]? = some (.int (nI mn))) (hmn : mn ≤ 12) (h8 : fs[8]? = some (.ref na)) (hna : na ∈ ZL R.S) (hN : ZF S na = .inl (R.K.1 0, 13, .inl g)) (hg : ∀ j : Nat, j < mn → ∃ s : Nat, g j = nI s ∧ s < R.T) (htj : tj < R.T) : Rt (f_fieldOf R.K S (some a) (nI tj)) (fun S2 r => S2 = S ∧ (r = -1 ∨ ∃ k2 s : Nat, k2 < mn ∧ r = nI k2 ∧ g k2 = nI s ∧ s < R.T ∧ nmE R s tj ∧ ∀ j : Nat, j < k2 → ∃ s : Nat, g j = nI s ∧ s < R.T ∧ ¬ nmE R s tj)) :=
  fof_2 h ha hF h3 hmn h8 hna hN hg htj bigN 0 (by show mn < 0 + 1000000000000; omega) (Nat.zero_le _) (fun j hj => absurd hj (by omega))
end SNE
/-- a list of exps as it was read, its parts told by functions -/
def LQ (R : yR) (n kk mn p q b b2 z la sa cap q0 : Nat) (f : Nat → Option Nat) (g : Nat → Int32) (ps bs xs pf sf : Nat → Nat) : Prop := (la ∈ ZL R.S ∧ sa ∈ ZL R.S ∧ ZF R.S la = .inl (R.K.1 9, cap, .inr (.inr (.inr (.inr f)))) ∧ ZF R.S sa = .inl (R.K.1 0, cap, .inl g) ∧ 1 ≤ mn ∧ mn ≤ cap ∧ q0 ≤ q ∧ mn ≤ q0) ∧ (p ≤ ps 0 ∧ ps mn = q0 ∧ bs 0 = b ∧ bs mn = b2) ∧ (∀ i : Nat, i < mn → f i = some (xs i) ∧ ps i < pf i ∧ pf i < ps (i + 1) ∧ isE (ZL R.S) (ZF R.S) (R.K.1 9) (R.K.1 0) n kk (xs i) (pf i) (ps (i + 1)) (bs i) (bs (i + 1)) ∧ g i = nI (sf i) ∧ ((sf i = 0 ∧ z = 0) ∨ (ps i ≤ sf i ∧ sf i < pf i))) ∧ ∀ i j : Nat, i ≤ j → j ≤ mn → ps i ≤ ps j
theorem LQ_of {R : yR} {n kk mn p q b b2 z : Nat} {li si : Value} (h : isQl z (isE (ZL R.S) (ZF R.S) (R.K.1 9) (R.K.1 0) n kk) (ZL R.S) (ZF R.S) (R.K.1 9) (R.K.1 0) li si mn p q b b2) : (mn = 0 ∧ b = b2 ∧ p ≤ q) ∨ ∃ (la sa cap q0 : Nat) (f : Nat → Option Nat) (g : Nat → Int32) (ps bs xs pf sf : Nat → Nat), li = .ref la ∧ si = .ref sa ∧ LQ R n kk mn p q b b2 z la sa cap q0 f g ps bs xs pf sf := by
  rcases h with ⟨w1, _, w3, w4⟩ | ⟨la, sa, cap, q0, f, g, w1, w2, w3, w4, w5, w6, w7, w8, w9⟩
  · exact Or.inl ⟨w1, w3, w4⟩
  · by_cases hm : mn = 0
    · subst hm
      obtain ⟨ps, bs, g1, g2, g3, g4, _⟩ := w9
      exact Or.inl ⟨rfl, by rw [← g3, ← g4], by omega⟩
    · obtain ⟨ps, bs, xs, pf, sf, h1, h2, h3, h4, h5, h6⟩ := chP_fn w9 (fun x p q b c z => (isE_mem z).2)
      have hge : ∀ d : Nat, d ≤ mn → d ≤ ps d := by
        intro d
        induction d with
        | zero => exact fun _ => Nat.zero_le _
        | succ d ih =>
          intro hd
          have := ih (by omega)
          have := (h5 d (by omega)).2.1; have := (h5 d (by omega)).2.2.1
          omega
      exact Or.inr ⟨la, sa, cap, q0, f, g, ps, bs, xs, pf, sf, w1, w2, ⟨w3, w4, w5, w6, by omega, w7, w8, by have := hge mn (Nat.le_refl _); omega⟩, ⟨h1, h2, h3, h4⟩, h5, h6⟩
/-- cells of an exp outside of the tokens that were typed are as they were -/
theorem VZ.fr {R : yR} {S S2 : Sg} {p1 q1 p2 q2 : Nat} (h : VZ R (Xo R p2 q2) S S2) (hd : dj p1 q1 p2 q2) : ∀ a : Nat, a ∈ ZL R.S → (∃ t : Nat, ownT (ZF R.S) a = some t ∧ p1 ≤ t ∧ t < q1) → (∃ vs : List Value, ZF S a = .inr (15, vs)) → ZF S2 a = ZF S a := fun a ha w _ => h.1 a ha (fun x => Xo_dj (Or.inl w) x hd)
theorem VX.fr {R : yR} {S S2 : Sg} {p1 q1 p2 q2 : Nat} (h : VX R (Xo R p2 q2) S S2) (hd : dj p1 q1 p2 q2) : ∀ a : Nat, a ∈ ZL R.S → (∃ t : Nat, ownT (ZF R.S) a = some t ∧ p1 ≤ t ∧ t < q1) → (∃ vs : List Value, ZF S a = .inr (15, vs)) → ZF S2 a = ZF S a := fun a ha w _ => h.2.1 a ha (fun x => Xo_dj (Or.inl w) x hd)
section LST
variable {R : yR} {Γ : List Nat} {c nv : Nat}
theorem LQ.nla {n kk mn p q b b2 z la sa cap q0 : Nat} {f : Nat → Option Nat} {g : Nat → Int32} {ps bs xs pf sf : Nat → Nat} (h : LQ R n kk mn p q b b2 z la sa cap q0 f g ps bs xs pf sf) : nXo R la ∧ nXo R sa := ⟨nXo.ro h.1.1 h.1.2.2.1 (Or.inr (fun w => by cases w; exact absurd (h.2.2.1 0 (by have := h.1.2.2.2.2.1; omega)).1 (by simp))), nXo.ro h.1.2.1 h.1.2.2.2.1 (Or.inr (fun w => by cases w))⟩
/-- one exp of the list is typed -/
theorem LQ.st {n kk mn p q b b2 z la sa cap q0 : Nat} {f : Nat → Option Nat} {g : Nat → Int32} {ps bs xs pf sf : Nat → Nat} (h : LQ R n kk mn p q b b2 z la sa cap q0 f g ps bs xs pf sf) {V : Sg → Option Nat → Option (Sg × Option Nat)} (hV : VH R Γ nv n V) {S S1 : Sg} {k : Nat} (hk : k < mn) (hc : c + (q - p) ≤ 1990) (hq : q ≤ R.T) (hS : SCO R S1 Γ) (hI : ITA R S1) (hU : Unt R S p q) (t1 : TS R (c + (ps k - p)) nv S1) (v1 : VX R (Xo R p (ps k)) S S1) (s1 : VS S S1) {tx : Nat → Nat} (g1 : ∀ i : Nat, i < k → xE R S1 Γ n kk (xs i) (pf i) (ps (i + 1)) (bs i) (bs (i + 1)) (tx i)) {y : Option Nat} : Rt (f_fits R.K V S1 (some (xs k)) y) (fun S2 _ => TS R (c + (ps (k + 1) - p)) nv S2 ∧ VX R (Xo R p (ps (k + 1))) S S2 ∧ VS S S2 ∧ VX R (Xo R (pf k) (ps (k + 1))) S1 S2 ∧ VS S1 S2 ∧ (Zi S2 3 = 0 → ∃ t : Nat, y = some t ∧ ∀ i : Nat, i < k + 1 → xE R S2 Γ n kk (xs i) (pf i) (ps (i + 1)) (bs i) (bs (i + 1)) ((fun j => if j = k then t else tx j) i))) := by
  obtain ⟨⟨w3, w4, w5, w6, w7, w8, w9, w10⟩, ⟨h1, h2, h3, h4⟩, h5, h6⟩ := h
  obtain ⟨d1, d2, d3, d4, d5, d6⟩ := h5 k hk
  have e1 := h6 0 k (Nat.zero_le _) (by omega)
  have e2 := h6 (k + 1) mn (by omega) (Nat.le_refl _)
  have hUk : Unt R S1 (pf k) (ps (k + 1)) := fun a ha w => (v1.2.1 a ha (fun x => Xo_dj x w (Or.inl (by omega)))).trans (hU a ha (Xo_mo w (by omega) (by omega)))
  refine (fts_ hV (c := c + (ps k - p)) (y := y) (by omega) t1 hS hI d4 hUk (by omega)).mo (fun S2 _ q2 => ?_)
  obtain ⟨t2, v2, s2, g2⟩ := q2
  refine ⟨t2.up (by omega), (v1.mo (fun a w => Xo_mo w (Nat.le_refl _) (by omega))).tr v2 (fun a w => Xo_mo w (by omega) (Nat.le_refl _)), s1.tr s2, v2, s2, fun z => ?_⟩
  obtain ⟨t, x1, x2⟩ := g2 z
  refine ⟨t, x1, fun i hi => ?_⟩
  dsimp only
  by_cases e0 : i = k
  · subst e0; rw [if_pos rfl]; exact x2
  · rw [if_neg e0]
    have := h6 (i + 1) k (by omega) (by omega)
    exact xE_vx v2 (g1 i (by omega)) (v2.fr (Or.inl (by omega)))
/-- all are typed -/
theorem LQ.en {n kk mn p q b b2 z la sa cap q0 : Nat} {f : Nat → Option Nat} {g : Nat → Int32} {ps bs xs pf sf : Nat → Nat} (h : LQ R n kk mn p q b b2 z la sa cap q0 f g ps bs xs pf sf) {S1 S2 : Sg} {c1 : Nat} (t1 : TS R c1 nv S1) {p0 q9 : Nat} (v2 : VX R (Xo R p0 q9) S1 S2) {tx : Nat → Nat} (hp : 0 < p) (hq : q ≤ R.T) (g1 : ∀ i : Nat, i < mn → xE R S2 Γ n kk (xs i) (pf i) (ps (i + 1)) (bs i) (bs (i + 1)) (tx i)) : lsX R S2 (xE R S2 Γ n kk) z (.ref la) (.ref sa) mn p q b b2 tx f g := by
  have hT := t1.tb
  obtain ⟨n1, n2⟩ := h.nla
  obtain ⟨⟨w3, w4, w5, w6, w7, w8, w9, w10⟩, ⟨h1, h2, h3, h4⟩, h5, h6⟩ := h
  refine Or.inr ⟨la, sa, cap, q0, rfl, rfl, n1, n2, (v2.nx n1).trans (t1.rq w3 w5 (h5 0 (by omega)).1), fun hz => ?_, w7, w8, w9, ps, bs, h1, h2, h3, h4, fun i hi => ⟨xs i, pf i, sf i, (h5 i hi).1, (h5 i hi).2.1, g1 i hi, (h5 i hi).2.2.2.2.1, (h5 i hi).2.2.2.2.2⟩⟩
  have e0 := (h5 0 (by omega)).2.2.2.2
  have e1 : ps 0 ≤ sf 0 ∧ sf 0 < pf 0 := e0.2.elim (fun w => by omega) id
  have e2 := (h5 0 (by omega)).2.2.1
  have e3 := h6 (0 + 1) mn (by omega) (Nat.le_refl _)
  refine (v2.nx n2).trans (t1.ri w4 w6 (i := 0) ?_)
  rw [e0.1]; exact nI_ne0 (by omega) (by omega)
end LST
end
