theorem yOK_3 {im : Nat} {ik : Nat → Int32} {ix : Int32} {o : Option Nat} (h : yOK im ik (3, ix, o)) : (∃ i : Nat, i < im ∧ ix = nI i ∧ ik i = 10) ∧ o = none := by
  rcases h with ⟨w, _⟩ | ⟨_, w1, w2⟩ | ⟨w, _⟩ | ⟨w, _⟩
  · exact absurd (show (3 : Int32) = 0 ∨ (3 : Int32) = 1 ∨ (3 : Int32) = 2 ∨ (3 : Int32) = 8 from w) (by decide)
  · exact ⟨w1, w2⟩
  · exact absurd (show (3 : Int32) = 4 from w) (by decide)
  · exact absurd (show (3 : Int32) = 5 ∨ (3 : Int32) = 6 ∨ (3 : Int32) = 7 from w) (by decide)
theorem yOK_4 {im : Nat} {ik : Nat → Int32} {ix : Int32} {o : Option Nat} (h : yOK im ik (4, ix, o)) : (∃ i : Nat, i < im ∧ ix = nI i ∧ ik i = 11) ∧ o = none := by
  rcases h with ⟨w, _⟩ | ⟨w, _⟩ | ⟨_, w1, w2⟩ | ⟨w, _⟩
  · exact absurd (show (4 : Int32) = 0 ∨ (4 : Int32) = 1 ∨ (4 : Int32) = 2 ∨ (4 : Int32) = 8 from w) (by decide)
  · exact absurd (show (4 : Int32) = 3 from w) (by decide)
  · exact ⟨w1, w2⟩
  · exact absurd (show (4 : Int32) = 5 ∨ (4 : Int32) = 6 ∨ (4 : Int32) = 7 from w) (by decide)
theorem yOK_5 {im : Nat} {ik : Nat → Int32} {kd ix : Int32} {o : Option Nat} (h : yOK im ik (kd, ix, o)) (hk : kd = 5 ∨ kd = 6 ∨ kd = 7) : ix = 0 ∧ ∃ u : Nat, o = some u := by
  rcases h with ⟨w, _⟩ | ⟨w, _⟩ | ⟨w, _⟩ | ⟨_, w1, w2⟩
  · have w : kd = 0 ∨ kd = 1 ∨ kd = 2 ∨ kd = 8 := w
    rcases hk with e | e | e <;> subst e <;> exact absurd w (by decide)
  · have w : kd = 3 := w
    rcases hk with e | e | e <;> subst e <;> exact absurd w (by decide)
  · have w : kd = 4 := w
    rcases hk with e | e | e <;> subst e <;> exact absurd w (by decide)
  · exact ⟨w1, w2⟩
section PLD
variable {R : yR} {Γ : List Nat} {c nv : Nat}
/-- member -/
theorem mem_32 (hK : yRm R) (hv : nv ≤ 10000) (hc : c ≤ 1990) {S : Sg} {n e p q q' nm o v y i : Nat} {π : List (Nat × Nat)} {mu w2 : Nat} (h : TS R c nv S) (hI : ItY R S i) (hi : i < R.im) (hik : R.ik i = 10) (he : e ∈ ZL R.S) (hG : ZF R.S e = xpC 14 p 0 (nI nm) 0 0 (.ref o) .null .null 0) (hF : ZF S e = ZF R.S e) (hq1 : q' < nm) (hq2 : nm < q) (hq : q ≤ R.T) (hp : p < q') (ho : xPl R S Γ n o p q' v π y mu w2) (hy : isTy S y 3 (nI i) none) : ∀ (m k : Nat), 13 < k + m → k ≤ 12 → Rt (f_member_32 R.K m S (some e) (some (R.ws i)) (nI k)) (fun S2 r => ∃ x : Nat, r = some x ∧ yXP R c nv S p q S2 x ∧ (Zi S2 3 = 0 → ∃ k2 : Nat, xPl R S2 Γ (n + 1) e p q v (π ++ [(0, k2)]) x mu (if w2 = 1 then 1 else 0)))
  | 0, k, a, b => absurd a (by omega)
  | m + 1, k, a, b => by
    have hT := h.tb
    have hw : ownT (ZF R.S) e = some nm := own_m hG (by omega)
    have hI0 := hI
    obtain ⟨h1, h2, fs, mn, na, g, h3, h4, h5, h6, h7, h8, h9, h10, h11⟩ := hI
    have hs : TS R c nv S := h
    have hw1 := h.L h1.1
    have he1 := h.L he
    have c1 : ZF S e = xpC 14 p 0 (nI nm) 0 0 (.ref o) .null .null 0 := hF.trans hG
    unfold f_member_32
    refine Rt.bd (oI_mk hw1 h3 h5) (Rt.it (fun hk => ?_) (fun hk => ?_))
    · refine Rt.bd (oI_mk he1 c1 rfl) (Rt.bn (wrg_ hK hv hc h he hG rfl hw (show p ≤ nm by omega) hq2 (by omega) (by decide)) (fun S3 r3 q3 => ?_))
      obtain ⟨x3, rfl, k1, k2⟩ := q3
      exact Rt.rt ⟨x3, rfl, k1, fun z => absurd z k2⟩
    · have hlt : k < mn := by
        rcases Nat.lt_or_ge k mn with z | z
        · exact z
        · exact absurd (nI_le z (by omega)) hk
      obtain ⟨s, s1, s2⟩ := h10 k hlt
      refine Rt.bd (oR_mk (v := some na) hw1 h3 h7) (Rt.bd (aI_n (h.L h8.1) h9 (show k < 13 by omega) (by decide)) (Rt.bd (oI_mk he1 c1 rfl) ?_))
      rw [s1]
      refine Rt.bn (snm_ h s2 (by omega)) (fun S3 r3 q3 => ?_)
      obtain ⟨rfl, _⟩ := q3
      refine Rt.it (fun _ => ?_) (fun _ => ?_)
      · rw [nI_1]
        exact mem_32 hK hv hc h hI0 hi hik he hG hF hq1 hq2 hq hp ho hy m (k + 1) (by omega) (by omega)
      · rcases h11 with ⟨_, ta, f, k2, k3⟩ | ⟨w, _⟩ | ⟨w, _⟩
        · obtain ⟨x, x1, x2⟩ := k3.2.2 k hlt
          refine Rt.bd (pV_mk (v := .int (nI k)) he1 c1 (Nat.le_of_ble_eq_true rfl)) ?_
          have hcs : cs (ZF R.S e) (.inr (15, [.int 14, .int (nI p), .int 0, .int (nI nm), .int (nI k), .int 0, .long 0, .int 0, .ref o, .null, .null, .int (nI 0), .null, .null])) := by
            rw [hG]
            exact cs_put (k := 4) (c := 15) (gs := [.int 14, .int (nI p), .int 0, .int (nI nm), .int 0, .int 0, .long 0, .int 0, .ref o, .null, .null, .int (nI 0), .null, .null]) (cs_rf _) rfl
          have hne : ∀ (k : Nat) (vs : List Value), k ≠ 15 → ¬ ZF S3 e = .inr (k, vs) := fun k vs hk w => by rw [c1] at w; cases w; exact hk rfl
          have t4 := h.uf he hcs
          have v4 : VX R (Xo R p q) S3 (UF S3 e (.inr (15, [.int 14, .int (nI p), .int 0, .int (nI nm), .int (nI k), .int 0, .long 0, .int 0, .ref o, .null, .null, .int (nI 0), .null, .null]))) := VX.uf (Or.inl ⟨nm, hw, by omega, hq2⟩) (fun vs => hne _ _ (by decide)) (fun vs => hne _ _ (by decide))
          have s4 : VS S3 (UF S3 e (.inr (15, [.int 14, .int (nI p), .int 0, .int (nI nm), .int (nI k), .int 0, .long 0, .int 0, .ref o, .null, .null, .int (nI 0), .null, .null]))) := VS.uf hne
          obtain ⟨gs, g1, g2, g3⟩ := tol_ (K := R.K) (x := x) t4 he hG rfl hw (show p ≤ nm by omega) hq2 (xTy.ty (Or.inl (Or.inl (x2.im v4.2.2.2.1))))
          have g1' : gs = [.int 14, .int (nI p), .int 0, .int (nI nm), .int (nI k), .int 0, .long 0, .int 0, .ref o, .null, .null, .int (nI 0), .null, .null] := by
            have e9 : ZF (UF S3 e (.inr (15, [.int 14, .int (nI p), .int 0, .int (nI nm), .int (nI k), .int 0, .long 0, .int 0, .ref o, .null, .null, .int (nI 0), .null, .null]))) e = .inr (15, [.int 14, .int (nI p), .int 0, .int (nI nm), .int (nI k), .int 0, .long 0, .int 0, .ref o, .null, .null, .int (nI 0), .null, .null]) := ZF_s
            rw [e9] at g1; cases g1; rfl
          subst g1'
          refine Rt.bd (oR_mk (v := some ta) (t4.L h1.1) ((v4.nx h1).trans h3) k2) (Rt.bd (aQ_n (t4.L k3.1.1) ((v4.nx k3.1).trans k3.2.1) (show k < 13 by omega) (by decide)) ?_)
          rw [x1]
          have v5 := v4.tr g3.2.1 (fun _ w => w)
          refine Rt.be g2 (Rt.rt ⟨x, rfl, ⟨g3.1, v5, s4.tr g3.2.2.1, g3.2.2.2⟩, fun _ => ⟨k, ⟨he, ⟨nm, hw, by omega, hq2⟩, by omega⟩, Or.inl (x2.im v5.2.2.2.1), ?_⟩⟩)
          refine Or.inr (Or.inr (Or.inr ⟨o, nm, q', y, i, k, w2, π, ZF_s, hq1, hq2, xPl_vx v5 ho (fun a a1 ⟨t, a2, a3, a4⟩ a5 => ?_), v5.2.2.2.1 _ _ _ _ hy, ⟨fs, mn, ta, f, hi, hik, h1, (v5.nx h1).trans h3, h5, hlt, h6, k2, k3.1, (v5.nx k3.1).trans k3.2.1, x1, x2.im v5.2.2.2.1⟩, rfl, rfl⟩))
          rw [UF_UF]
          exact ZF_n (fun w => by rw [w, hw] at a2; cases a2; omega)
        · rw [hik] at w; exact absurd w (by decide)
        · rw [hik] at w; exact absurd w (by decide)
theorem mem_ (hK : yRm R) (hv : nv ≤ 10000) (hc : c ≤ 1990) {S : Sg} {n e p q q' nm o v y : Nat} {π : List (Nat × Nat)} {mu w2 : Nat} (h : TS R c nv S) (hI : ITA R S) (he : e ∈ ZL R.S) (hG : ZF R.S e = xpC 14 p 0 (nI nm) 0 0 (.ref o) .null .null 0) (hF : ZF S e = ZF R.S e) (hq1 : q' < nm) (hq2 : nm < q) (hq : q ≤ R.T) (ho : xPl R S Γ n o p q' v π y mu w2) : Rt (f_member R.K S (some e) (some y)) (fun S2 r => ∃ x : Nat, r = some x ∧ yXP R c nv S p q S2 x ∧ (Zi S2 3 = 0 → ∃ k2 : Nat, xPl R S2 Γ (n + 1) e p q v (π ++ [(0, k2)]) x mu (if w2 = 1 then 1 else 0))) := by
  have hT := h.tb
  have hw : ownT (ZF R.S) e = some nm := own_m hG (by omega)
  obtain ⟨d1, d2, d3, _⟩ := xPl_c ho
  obtain ⟨kd, ix, oo, y1, y2⟩ := d3.ty
  have y1' := y1
  obtain ⟨ty, e1, e2, e3, e4⟩ := y1
  have c1 : ZF S e = xpC 14 p 0 (nI nm) 0 0 (.ref o) .null .null 0 := hF.trans hG
  unfold f_member
  refine Rt.bd (oI_mk e3 e4 (v := kd) rfl) (Rt.it (fun hk => ?_) (fun hk => ?_))
  · subst hk
    obtain ⟨⟨i, w1, w2', w3⟩, w4⟩ := yOK_3 (h.at hc y1').1
    subst w2' w4
    obtain ⟨q1, q2, _⟩ := hI i w1
    have him : i < 70 := by
      obtain ⟨G, tm, Y, ad, h1, h2, h3, h4⟩ := h
      have := h1.1.2.2.1.1; omega
    have hz : Zq S 11 = Zq R.S 11 := by
      obtain ⟨G, tm, Y, ad, h1, h2, h3, h4⟩ := h
      exact h4.2.2.2 11 (by decide) (by decide)
    refine Rt.bd (oI_mk e3 e4 (v := nI i) rfl) (Rt.bd (v := some (R.ws i)) (by rw [rQ_n (show i < rlen 11 from him) (by decide), hz, q2]) ?_)
    exact mem_32 hK hv hc h (hI i w1) w1 w3 he hG hF hq1 hq2 hq d2 ho y1' bigN 0 (by decide) (by decide)
  · refine Rt.bd (oI_mk (h.L he) c1 rfl) (Rt.bn (wrg_ hK hv hc h he hG rfl hw (show p ≤ nm by omega) hq2 (by omega) (by decide)) (fun S3 r3 q3 => ?_))
    obtain ⟨x3, rfl, k1, k2⟩ := q3
    exact Rt.rt ⟨x3, rfl, k1, fun z => absurd z k2⟩
end PLD
