section LY47
variable {R : yR} {S0 Sb Sx S S1 S2 S3 : Sg} {P P1 P2 P3 Pe h h0 h1 h2 hc L L1 L2 Le Lb z n z2 n2 : Nat} {Γ Γ0 Γ1 Γ2 Λ : List Nat} {E : eV} {s s1 s2 yD : List tE} {gv : Nat} {js ks us : List Nat} {bw : Nat → Nat} {cl cl2 : Prop} {i : Nat}
theorem isV_t {v k : Nat} {nm mu : Int32} {ty : Option Nat} (h : isV S v k nm ty mu) : rN (obF S v) 2 = ty := by
  have e : ZF S v = .inr (21, [.int (nI k), .int nm, va_rf ty, .int mu, .null]) := h.2
  rw [obF_o e]
  cases ty <;> rfl
theorem fen_ (hE : ENb R S0) (hg : xTy S0 gv) (hl : Λ.length ≤ 40) (hΛ : ∀ (k v : Nat), Λ[k]? = some v → v ∉ ZL R.S ∧ ∃ (nm mu : Nat) (ty : Option Nat), isV S0 v k (nI nm) ty (nI mu) ∧ nm < R.T ∧ mu ≤ 1 ∧ ∀ x : Nat, ty = some x → rTy S0 x) : FEn R S0 (eVf R S0 Λ gv) Λ gv := by
  obtain ⟨a1, a2, a3, a4, a5, a6, a7, a8⟩ := hE
  refine ⟨⟨a1, a2, a3, a4, rfl, rfl, rfl, rfl, a5, a6, a7, a8⟩, fun k v hk => ?_, rfl, hg⟩
  obtain ⟨_, nm, mu, ty, b1, _, _, b2⟩ := hΛ k v hk
  refine ⟨⟨by have := (List.getElem?_eq_some_iff.mp hk).1; omega, by show adS Λ k = v; unfold adS; rw [hk]⟩, nI nm, nI mu, ty, b1, ?_, b2⟩
  show vtS S0 Λ k = _
  unfold vtS; rw [hk]
  show abU S0 (rN (obF S0 v) 2) = _
  rw [isV_t b1]
theorem LC.a0 (c : LC R S0 S P h Γ L) : LC R S0 (Ui S 50 (nI 0)) P h [] L := ⟨c.1.tr (LZ.ui (P := 0) (L := 0) (Or.inr (Or.inr (Or.inr rfl)))).1, (Zi_n (by decide)).trans c.2.1, (Zi_n (by decide)).trans c.2.2.1, ⟨Zi_s, fun k v hk => by cases hk⟩, (Zi_n (by decide)).trans c.2.2.2.2.1, c.2.2.2.2.2.1.st (LZ.ui (P := 0) (L := 0) (Or.inr (Or.inr (Or.inr rfl)))).1 rfl (c.2.2.2.2.2.1.2.st (LZ.ui (P := 0) (L := 0) (Or.inr (Or.inr (Or.inr rfl)))).1 (fun _ _ _ => rfl) (fun _ _ _ => Or.inl rfl) (Zi_n (by decide))), c.2.2.2.2.2.2.1, c.2.2.2.2.2.2.2⟩
/-- nothing but loans and variables alive -/
theorem GV.ln {Γ3 : List Nat} {L3 : Nat} (g : GV R S0 S S1 E P P h h1 Γ Γ2 L L1 s s2 False z n) (c : LC R S0 S2 P h2 Γ3 L3) (hz : LZ P L1 S1 S2) (e : SEq S1 S2) (hl : L1 ≤ L3) (hs : wkS s s2) : GV R S0 S S2 E P P h h2 Γ Γ3 L L3 s s2 False z n := by
  obtain ⟨a1, a2, a3, a4, a5, a6, a7, a8⟩ := g
  refine ⟨c, a2.tr hz (Nat.le_refl _) a7, tsg.nil hs, by rw [e.2.2.2.1]; exact a4, by rw [e.2.2.2.2.1]; exact a5, Nat.le_refl _, by omega, fun a ha w => a8.1 a ha ?_, fun k h1 h2 => by omega⟩
  unfold Us at w ⊢; rw [e.2.2.2.2.2, e.2.2.1] at w; exact w
/-- comesAlive, rows of references told -/
theorem cmq_ {y : Nat} {g : Sg → Unit → Option (Sg × Unit)} {Q : Sg → Unit → Prop} (gg : GV R S0 S S2 E P P2 h h1 Γ Γ2 L L2 s s2 cl z n) (hy : okO S2 21 (some y) = true) (hl : Γ2.length < 40) (k : ∀ S3 : Sg, GV R S0 S S3 E P P2 h h1 Γ (Γ2 ++ [y]) L L2 s s2 cl z n → Zr S3 = Zr S2 → (∀ r : Nat, r ≠ 49 → Zq S3 r = Zq S2 r) → Rt (g S3 ()) Q) : Rt (bnd (f_comesAlive R.K S2 (some y)) g) Q := by
  have hh : Rt (bnd (f_comesAlive R.K S2 (some y)) (fun S3 _ => some (S3, ()))) (fun S3 _ => GV R S0 S S3 E P P2 h h1 Γ (Γ2 ++ [y]) L L2 s s2 cl z n ∧ Zr S3 = Zr S2) := cma_ gg hy hl (fun S3 g3 e3 => Rt.rt ⟨g3, e3⟩)
  have e : ∃ v : Int32, f_comesAlive R.K S2 (some y) = some (Ui (Uq S2 49 (va_up (Zq S2 49) Γ2.length (some y))) 50 v, ()) := by
    unfold f_comesAlive
    rw [gg.1.2.2.2.1.1, wQ_n (show Γ2.length < rlen 49 from hl) (by decide) hy]
    exact ⟨_, rfl⟩
  obtain ⟨v, e⟩ := e
  rw [e] at hh ⊢
  obtain ⟨S3, r3, h3, h4⟩ := hh
  obtain ⟨rfl, _⟩ := Prod.mk.inj (Option.some.inj h3)
  exact k _ h4.1 h4.2 (fun r hr => Zq_un hr)
/-- parameters come alive -/
theorem lfn32 {bl mn ta pa lo : Nat} {fs : List Value} {f fp : Nat → Option Nat} {go : Nat → Int32} {Q : Sg → Unit → Prop} (hF : FEn R S0 E Λ gv) (hi : i < R.im) (hfs : ZF S0 (R.ws i) = .inr (16, fs)) (hwm : R.ws i ∈ ZL R.S) (f3 : fs[3]? = some (.int (nI mn))) (hmn : mn ≤ 12) (f10 : fs[10]? = some (.ref ta)) (f13 : fs[13]? = some (.ref lo)) (f16 : fs[16]? = some (.ref bl)) (f17 : fs[17]? = some (.ref pa)) (hta : rTs R S0 ta 13 mn f (rTy S0)) (hlo : lo ∈ ZL R.S ∧ ZF S0 lo = .inl (R.K.1 0, 13, .inl go)) (hpa : pa ∈ ZL R.S ∧ ZF S0 pa = .inl (R.K.1 5, 13, .inr (.inr (.inr (.inr fp))))) (hpr : ∀ k : Nat, k < mn → ∃ (v x : Nat) (nm : Int32), Λ[k]? = some v ∧ fp k = some v ∧ f k = some x ∧ isV S0 v k nm (some x) 0) (hvl : mn ≤ Λ.length) (h40 : Λ.length ≤ 40)
  (kf : ∀ (S1 : Sg) (L1 : Nat), GV R S0 S S1 E P P 0 0 [] (Λ.take mn) 0 L1 [] [] False 0 0 → OUl R S0 S1 E i mn L1 → L1 ≤ mn → Zr S1 27 = Zr S 27 → Rt ((oR S1 16 (some (R.ws i)) 16).bind fun v7 =>
    bnd (f_layBlock R.K 45 S1 v7) fun S8 v9 =>
    (oR S8 16 (some (R.ws i)) 16).bind fun v10 =>
    (oI S8 14 v10 1).bind fun v11 =>
    bnd (f_goOut R.K S8 0 v11) fun S12 v13 =>
    (oR S12 16 (some (R.ws i)) 16).bind fun v14 =>
    (oI S12 14 v14 1).bind fun v15 =>
    bnd (f_point R.K S12 26 v15) fun S16 v17 =>
    (pV S16 16 (some (R.ws i)) 4 (.int (Zi S16 26))).bind fun S18 =>
    some (S18, ())) Q) : ∀ (d j : Nat) (S1 : Sg) (L1 : Nat), mn < j + d → j ≤ mn → GV R S0 S S1 E P P 0 0 [] (Λ.take j) 0 L1 [] [] False 0 0 → OUl R S0 S1 E i j L1 → L1 ≤ j → Zr S1 27 = Zr S 27 → Rt (f_layFunction_32 R.K d S1 (some (R.ws i)) (nI j)) Q
  | 0, j, S1, L1, h1, h2, _, _, _, _ => by omega
  | d + 1, j, S1, L1, h1, h2, g, hO, hL1, e27 => by
    have hL := hF.1.1
    have hY := hF.1.2.1
    have rd : ∀ {S' : Sg} {k : Nat} {v : Value}, LX S0 S' → fs[k]? = some v → k ≠ 4 → k ≠ 5 → R.ws i ∈ ZL S' ∧ ∃ f2 : List Value, ZF S' (R.ws i) = .inr (16, f2) ∧ f2[k]? = some v := fun {S' k v} hx hk h4 h5 => by
      obtain ⟨w1, f2, w2, w3, w4⟩ := hx.it (hL _ hwm) hfs
      exact ⟨w1, f2, w2, (w4 k h4 (Or.inl h5)).trans hk⟩
    have rI : ∀ {S' : Sg} {k : Nat} {v : Int32}, LX S0 S' → fs[k]? = some (.int v) → k ≠ 4 → k ≠ 5 → oI S' 16 (some (R.ws i)) k = some v := fun hx hk h4 h5 => by
      obtain ⟨w1, f2, w2, w3⟩ := rd hx hk h4 h5
      exact oI_mk w1 w2 w3
    have rR : ∀ {S' : Sg} {k a : Nat}, LX S0 S' → fs[k]? = some (.ref a) → k ≠ 4 → k ≠ 5 → oR S' 16 (some (R.ws i)) k = some (some a) := fun hx hk h4 h5 => by
      obtain ⟨w1, f2, w2, w3⟩ := rd hx hk h4 h5
      exact oR_mk w1 w2 w3
    unfold f_layFunction_32
    refine Rt.bd (rI g.1.1 f3 (by decide) (by decide)) (Rt.it (fun w => ?_) (fun w => ?_))
    · have : mn ≤ j := (nI_leI (by omega) (by omega)).mp w
      obtain rfl : j = mn := by omega
      exact kf S1 L1 g hO hL1 e27
    · have hlt : j < mn := by
        by_cases q : j < mn
        · exact q
        · exact absurd (nI_le (a := mn) (b := j) (by omega) (by omega)) w
      obtain ⟨v, x, nm, p1, p2, p3, p4⟩ := hpr j hlt
      obtain ⟨q1, q2⟩ := g.1.1.ro (hL _ hpa.1) hpa.2
      obtain ⟨wh, v1, v2, _⟩ := g.1.2.2.2.2.2.2.1 v j nm (some x) 0 p4
      have hlen : (Λ.take j).length = j := by rw [List.length_take]; omega
      refine Rt.bd (rR g.1.1 f17 (by decide) (by decide)) (Rt.bd (by rw [aQ_n q1 q2 (show j < 13 by omega) (by decide), p2]) ?_)
      refine cmq_ g (okO_mk v1 v2) (by omega) (fun S2 g2 e2 eq2 => ?_)
      rw [tk_s p1] at g2
      have hO2 : OUl R S0 S2 E i j L1 := hO.st (fun l hl => ⟨by rw [eq2 43 (by decide)], fun r h1 h2 => by rw [e2]⟩)
      · obtain ⟨q3, q4⟩ := g2.1.1.ro (hL _ hta.1.1) hta.2.1
        refine Rt.bd (rR g2.1.1 f10 (by decide) (by decide)) (Rt.bd (by rw [aQ_n q3 q4 (show j < 13 by omega) (by decide), p3]) ?_)
        obtain ⟨x', px1, px2⟩ := hta.2.2 j hlt
        rw [p3] at px1; cases px1
        obtain ⟨kd, ix, o, qt, _⟩ := px2.ty
        refine Rt.be (ref_ (g2.1.1.ty qt)) ?_
        have hrf := px2.rf hY qt
        have hvt : E.vt j = abT S0 x := by
          obtain ⟨_, nm2, mu2, ty2, hV2, hvt2, _⟩ := hF.2.1 j v p1
          have ety : ty2 = some x := by obtain ⟨_, _, w, _⟩ := isV_u hV2 p4 (by omega) (by omega); exact w
          rw [hvt2, ety]; rfl
        rw [← hvt] at hrf
        by_cases qk : kd = 6 ∨ kd = 7
        · rw [if_pos qk]
          refine Rt.iq (by decide) ?_
          refine nlo_ (by omega) g2.1 (fun S3 c3 z3 e3 a1 a2 a3 a4 => ?_)
          obtain ⟨q5, q6⟩ := c3.1.ro (hL _ hpa.1) hpa.2
          obtain ⟨wh3, v3, v4, _⟩ := c3.2.2.2.2.2.2.1 v j nm (some x) 0 p4
          refine Rt.bd (rR c3.1 f17 (by decide) (by decide)) (Rt.bd (by rw [aQ_n q5 q6 (show j < 13 by omega) (by decide), p2]) (Rt.bd (oI_mk v3 v4 (v := nI j) rfl) ?_))
          refine Rt.bd (wRI_n (show L1 < rlen 45 from by show L1 < 160; omega) (by decide)) ?_
          have c4 : LC R S0 (Ur S3 45 (upd (Zr S3 45) L1 (nI j))) P 0 (Λ.take (j + 1)) (L1 + 1) := c3.ur (Or.inr ⟨by decide, fun _ => Or.inr ⟨j, by omega, rfl⟩⟩)
          obtain ⟨l1, l2⟩ := c4.1.ro (hL _ hlo.1) hlo.2
          refine Rt.bd (rR c4.1 f13 (by decide) (by decide)) (Rt.bd (aI_n l1 l2 (show j < 13 by omega) (by decide)) ?_)
          refine Rt.bd (wRI_n (show L1 < rlen 46 from by show L1 < 160; omega) (by decide)) ?_
          have c5 : LC R S0 (Ur (Ur S3 45 (upd (Zr S3 45) L1 (nI j))) 46 (upd (Zr (Ur S3 45 (upd (Zr S3 45) L1 (nI j))) 46) L1 (go j))) P 0 (Λ.take (j + 1)) (L1 + 1) := c4.ur (Or.inr ⟨by decide, fun e => absurd e (by decide)⟩)
          have z5 : LZ P L1 S2 (Ur (Ur S3 45 (upd (Zr S3 45) L1 (nI j))) 46 (upd (Zr (Ur S3 45 (upd (Zr S3 45) L1 (nI j))) 46) L1 (go j))) := ((z3 P).tr (LZ.lr (by decide) (Nat.le_refl _)) (Nat.le_refl _) (Nat.le_refl _)).tr (LZ.lr (by decide) (Nat.le_refl _)) (Nat.le_refl _) (Nat.le_refl _)
          have e5 : SEq S2 (Ur (Ur S3 45 (upd (Zr S3 45) L1 (nI j))) 46 (upd (Zr (Ur S3 45 (upd (Zr S3 45) L1 (nI j))) 46) L1 (go j))) := (e3.tr ⟨(LZ.lr (P := 0) (L := 0) (by decide) (Nat.zero_le _)).1, rfl, rfl, rfl, rfl, rfl⟩).tr ⟨(LZ.lr (P := 0) (L := 0) (by decide) (Nat.zero_le _)).1, rfl, rfl, rfl, rfl, rfl⟩
          have b43 : Zq (Ur (Ur S3 45 (upd (Zr S3 45) L1 (nI j))) 46 (upd (Zr (Ur S3 45 (upd (Zr S3 45) L1 (nI j))) 46) L1 (go j))) 43 L1 = none := a1
          have b44 : Zr (Ur (Ur S3 45 (upd (Zr S3 45) L1 (nI j))) 46 (upd (Zr (Ur S3 45 (upd (Zr S3 45) L1 (nI j))) 46) L1 (go j))) 44 L1 = 1 := by rw [Zr_un (by decide), Zr_un (by decide)]; exact a2
          have b45 : Zr (Ur (Ur S3 45 (upd (Zr S3 45) L1 (nI j))) 46 (upd (Zr (Ur S3 45 (upd (Zr S3 45) L1 (nI j))) 46) L1 (go j))) 45 L1 = nI j := by rw [Zr_un (by decide), Zr_us, upd_s]
          have b46 : Zr (Ur (Ur S3 45 (upd (Zr S3 45) L1 (nI j))) 46 (upd (Zr (Ur S3 45 (upd (Zr S3 45) L1 (nI j))) 46) L1 (go j))) 46 L1 = go j := by rw [Zr_us, upd_s]
          have b27 : Zr (Ur (Ur S3 45 (upd (Zr S3 45) L1 (nI j))) 46 (upd (Zr (Ur S3 45 (upd (Zr S3 45) L1 (nI j))) 46) L1 (go j))) 27 = Zr S 27 := by rw [Zr_un (by decide), Zr_un (by decide), a3, e2]; exact e27
          generalize Ur (Ur S3 45 (upd (Zr S3 45) L1 (nI j))) 46 (upd (Zr (Ur S3 45 (upd (Zr S3 45) L1 (nI j))) 46) L1 (go j)) = S5 at c5 z5 e5 b43 b44 b45 b46 b27
          unfold f_layFunction_99
          rw [nI_1]
          have hO5 := hO2.st z5.2.2.1
          have hlf : lfS R S0 i j = go j := by
            show (match rN (obF S0 (R.ws i)) 13 with
              | some a => roI S0 a j
              | none => 0) = _
            rw [obF_o hfs, rN_r f13]
            exact roI_o hlo.2
          refine lfn32 hF hi hfs hwm f3 hmn f10 f13 f16 f17 hta hlo hpa hpr hvl h40 kf d (j + 1) S5 (L1 + 1) (by omega) (by omega) (g2.ln c5 z5 e5 (Nat.le_succ _) wkS.rf) ⟨fun l hl => ?_, fun q hq hr => ?_⟩ (by omega) b27
          · by_cases el : l < L1
            · obtain ⟨q, a1', a2'⟩ := hO5.1 l el
              exact ⟨q, by omega, a2'⟩
            · obtain rfl : l = L1 := by omega
              exact ⟨j, Nat.lt_succ_self _, b43, b44, b45, b46.trans hlf.symm, hrf.mpr qk⟩
          · by_cases eq : q = j
            · subst eq; exact ⟨L1, Nat.lt_succ_self _, b45⟩
            · obtain ⟨l, l1', l2'⟩ := hO5.2 q (by omega) hr
              exact ⟨l, by omega, l2'⟩
        · rw [if_neg qk]
          refine Rt.ip rfl ?_
          unfold f_layFunction_99
          rw [nI_1]
          refine lfn32 hF hi hfs hwm f3 hmn f10 f13 f16 f17 hta hlo hpa hpr hvl h40 kf d (j + 1) S2 L1 (by omega) (by omega) g2 ⟨fun l hl => ?_, fun q hq hr => ?_⟩ (by omega) (by rw [e2]; exact e27)
          · obtain ⟨q, a1', a2'⟩ := hO2.1 l hl
            exact ⟨q, by omega, a2'⟩
          · by_cases eq : q = j
            · subst eq; exact absurd (hrf.mp hr) qk
            · exact hO2.2 q (by omega) hr
end LY47
