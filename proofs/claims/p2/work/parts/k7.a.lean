theorem own_ar {F : Nat → va_E} {a tk : Nat} {rs : List Value} (hF : F a = .inr (13, .int (nI tk) :: rs)) (ht : tk ≤ 100000) : ownT F a = some tk := by
  unfold ownT
  rw [hF]
  show (if 13 = 15 then _ else if 13 = 19 then _ else if 13 = 13 then some (nI tk).toNatClampNeg else _) = _
  rw [if_neg (by decide), if_neg (by decide), if_pos rfl, nI_clamp (by omega)]
section ARN
variable {R : yR} {c nv : Nat} {S : Sg} {Γ Λ : List Nat} {fi gv : Nat}
/-- behind an arm -/
def ArP (R : yR) (c nv : Nat) (S : Sg) (Γ Λ : List Nat) (fi gv n y p p' q b b2 v w : Nat) (κ : Nat × Nat × Nat) (S2 : Sg) : Prop := ∃ c2 nv2 : Nat, c2 ≤ c + (q - p) ∧ nv2 ≤ nv + (w - v) ∧ TS R c2 nv2 S2 ∧ VX R (fun a => a = y + 2 ∨ Xo R (p' + 1) q a) S S2 ∧ (Zi S2 3 = 0 → ∃ Λ2 : List Nat, YS R (c + (q - p)) (nv + (w - v)) S2 Γ Λ2 fi gv ∧ pfx Λ Λ2 ∧ Λ2.length = w ∧ (∀ k : Nat, k < Γ.length → Zq S2 22 k = Zq S 22 k) ∧ sN R S2 Λ2 gv (n + 1) 2 y p q b b2 v w Γ Γ κ)
/-- an arm -/
theorem tam_ (hK : yRm R) {V : Sg → Option Nat → Option (Sg × Unit)} {n : Nat} (hV : BH R fi gv n V) (h : YS R c nv S Γ Λ fi gv) {s y p p' q b b2 v w na mk bk i vr bd pa : Nat} {mu rf : Int32} {ss : List Value} {g : Nat → Int32} {f : Nat → Option Nat} {tx : Nat → Nat} (hz : Zi S 3 = 0) (hΛ : Λ.length = v) (hw : w ≤ 40) (hnv : nv + (w - v) ≤ 10000) (hc : c + (q - p) ≤ 1990) (hs : s ∈ ZL R.S) (hsS : ZF S s = .inr (19, ss)) (hs3 : ss[3]? = some (.int mu)) (hs4 : ss[4]? = some (.int rf)) (hsR : ∃ zs : List Value, ZF R.S s = .inr (19, zs)) (hbd : (rf = 0 ∧ bd = 0) ∨ (rf = 1 ∧ mu = 0 ∧ bd = 1) ∨ (rf = 1 ∧ mu = 1 ∧ bd = 2)) (hy : y ∈ ZL R.S) (hyR : ZF R.S y = .inr (13, [.int (nI p), .int 0, .ref na, .int (nI mk), .ref (y + 2), .ref bk])) (hyS : ZF S y = .inr (13, [.int (nI p), .int (nI vr), .ref na, .int (nI mk), .ref (y + 2), .ref bk])) (hna : na ∈ ZL R.S) (hnR : ZF R.S na = .inl (R.K.1 0, 12, .inl g)) (hgn : ∀ j : Nat, j < mk → ∃ s : Nat, g j = nI s ∧ p < s ∧ s < q) (hva : y + 2 ∈ ZL R.S) (hvR : ZF R.S (y + 2) = .inl (R.K.1 5, 12, .inr (.inr (.inr (.inr (fun _ => none)))))) (hvS : ZF S (y + 2) = ZF R.S (y + 2)) (hmk : mk ≤ 12) (hen : enY R S i vr mk tx) (hpa : paY R S pa mk f) (hft : ∀ k : Nat, k < mk → f k = some (tx k)) (hpp : p + mk < p') (hB : isQ R n 1 bk p' q b b2 (v + mk) w) (hU : Unt R S (p' + 1) q) (hq : q ≤ R.T) : Rt (f_typeArm R.K V S (some s) (some y) (some pa)) (fun S2 _ => ArP R c nv S Γ Λ fi gv n y p p' q b b2 v w (i, vr, bd) S2) := by
  have hT := h.1.tb
  have hlb := (isN_lt hB).2
  have hvw := isN_vw hB
  have hoy : ownT (ZF R.S) y = some p := own_ar hyR (by omega)
  have hXv : Xo R p (p + 1) (y + 2) := Or.inr (Or.inl ⟨y, p, rfl, hoy, Nat.le_refl _, Nat.lt_succ_self _, hvR⟩)
  have hsy : s ≠ y + 2 := fun e => by obtain ⟨zs, e2⟩ := hsR; rw [e, hvR] at e2; cases e2
  have hyy : y ≠ y + 2 := by omega
  have hpy : pa ≠ y + 2 := fun e => hpa.1.2 p (p + 1) (e ▸ hXv)
  have hto : ∀ {S1 : Sg}, VX R (fun a => a = y + 2) S S1 → VX R (Xo R p (p + 1)) S S1 := fun v1 => v1.mo (fun a e => e ▸ hXv)
  have hcX : ∀ (S9 : Sg) (k9 : Nat) (vs : List Value) (fv : Nat → Option Nat), ZF S9 (y + 2) = .inl (R.K.1 5, 12, .inr (.inr (.inr (.inr fv)))) → ¬ ZF S9 (y + 2) = .inr (k9, vs) := fun S9 k9 vs fv e w => by rw [e] at w; cases w
  unfold f_typeArm
  rw [h.2.1.1]
  have hloop : ∀ (m j : Nat) {S1 : Sg} {us : List Nat} {fv : Nat → Option Nat}, mk < j + m → j ≤ mk → us.length = j → YS R (c + j) (nv + j) S1 (Γ ++ us) (Λ ++ us) fi gv → VX R (fun a => a = y + 2) S S1 → Zi S1 3 = 0 → (∀ k : Nat, k < Γ.length → Zq S1 22 k = Zq S 22 k) → ZF S1 (y + 2) = .inl (R.K.1 5, 12, .inr (.inr (.inr (.inr fv)))) → (∀ k : Nat, k < j → ∃ (u ty : Nat) (nm : Int32), us[k]? = some u ∧ fv k = some u ∧ isV S1 u (v + k) nm (some ty) 0 ∧ ((bd = 0 ∧ ty = tx k) ∨ (bd = 1 ∧ isTy S1 ty 6 0 (some (tx k))) ∨ (bd = 2 ∧ isTy S1 ty 7 0 (some (tx k))))) → Rt (f_typeArm_9 R.K V m S1 (some s) (some y) (some pa) (nI Γ.length) (nI j)) (fun S2 _ => ArP R c nv S Γ Λ fi gv n y p p' q b b2 v w (i, vr, bd) S2) := by
    intro m
    induction m with
    | zero => intro j S1 us fv a b; omega
    | succ m ih =>
      intro j S1 us fv hj1 hj2 hus y1 v1 z1 zq1 hrow htd
      have ce : ZF S1 y = .inr (13, [.int (nI p), .int (nI vr), .ref na, .int (nI mk), .ref (y + 2), .ref bk]) := (v1.2.1 y hy (fun e => hyy e)).trans hyS
      have hy1 := y1.1.L hy
      have hv1 := y1.1.L hva
      unfold f_typeArm_9
      refine Rt.bd (oI_mk hy1 ce (v := nI mk) rfl) (Rt.it (fun w9 => ?_) (fun w9 => ?_))
      · have hjm : j = mk := by have := (nI_leI (a := mk) (b := j) (by omega) (by omega)).mp w9; omega
        subst hjm
        have hU1 : Unt R S1 (p' + 1) q := fun a9 ha9 w => (v1.2.1 a9 ha9 (fun e => by rw [e] at w; exact Xo_dj hXv w (Or.inl (by omega)))).trans (hU a9 ha9 w)
        refine Rt.bd (oR_mk hy1 ce (v := some bk) rfl) (Rt.bn (hV (c + j) (nv + j) S1 (Γ ++ us) (Λ ++ us) bk p' q b b2 (v + j) w y1 z1 (by rw [List.length_append, hΛ, hus]) hw (by omega) (by omega) hB hU1 hq) (fun S3 _ q3 => ?_))
        obtain ⟨c3, nv3, e1, e2, e3, e4, e5⟩ := q3
        have v03 : VX R (fun a => a = y + 2 ∨ Xo R (p' + 1) q a) S S3 := (v1.mo (fun a w => Or.inl w)).tr e4 (fun a w => Or.inr w)
        refine Rt.bd (v := Ui S3 23 (nI Γ.length)) rfl (Rt.rt ⟨c3, nv3, by omega, by omega, e3.u23, v03.tr (VX.u23 (X := nX)) (fun _ w => w.elim), fun z => ?_⟩)
        have z3 : Zi S3 3 = 0 := by rwa [Zi_n (by decide)] at z
        obtain ⟨Λ2, l1, l2, l3, l4, l5⟩ := e5 z3
        have hpf : pfx Γ (Γ ++ us) := fun k u hk => by rw [List.getElem?_append_left (List.getElem?_eq_some_iff.mp hk).1]; exact hk
        have hpΛ : pfx Λ (Λ ++ us) := fun k u hk => by rw [List.getElem?_append_left (List.getElem?_eq_some_iff.mp hk).1]; exact hk
        have v34 : VX R (Xo R 0 0) S3 (Ui S3 23 (nI Γ.length)) := VX.u23
        have v14 : VX R (Xo R (p' + 1) q) S1 (Ui S3 23 (nI Γ.length)) := e4.tr (VX.u23 (X := nX)) (fun _ w => w.elim)
        have v04 : VX R (Xo R p q) S (Ui S3 23 (nI Γ.length)) := ((hto v1).mo (fun a w => Xo_mo w (Nat.le_refl _) (by omega))).tr v14 (fun a w => Xo_mo w (by omega) (Nat.le_refl _))
        refine ⟨Λ2, ?_, hpΛ.tr l2, l3, fun k hk => ?_, ⟨hy, hoy, by omega⟩, na, bk, j, p', fv, tx, us, ?_, hva, hvR, ?_, hmk, hen.vx v04, hus, fun k hk => ?_, hpp, sN_vx v34 pfx.rf l5 (Or.inr (Nat.zero_le _))⟩
        · have := (l1.rs hpf (pfx_len hpf)).up (c2 := c + (q - p)) (by omega)
          rw [show nv + j + (w - (v + j)) = nv + (w - v) by omega] at this
          exact this
        · show Zq S3 22 k = _
          rw [l4 k (by rw [List.length_append]; omega), zq1 k hk]
        · show ZF S3 y = _
          exact (e4.2.1 y hy (fun x => Xo_dj (Or.inl ⟨p, hoy, Nat.le_refl p, Nat.lt_succ_self p⟩) x (Or.inl (by omega)))).trans ce
        · show ZF S3 (y + 2) = _
          exact (e4.2.1 _ hva (fun x => Xo_dj hXv x (Or.inl (by omega)))).trans hrow
        · obtain ⟨u, ty, nm, a1, a2, a3, a4⟩ := htd k hk
          refine ⟨u, ty, nm, a1, a2, l2 _ _ ?_, a3.vx v14, a4.imp id (fun z => z.imp (fun z => ⟨z.1, v14.2.2.2.1 _ _ _ _ z.2⟩) (fun z => ⟨z.1, v14.2.2.2.1 _ _ _ _ z.2⟩))⟩
          rw [List.getElem?_append_right (by omega), hΛ, show v + k - v = k by omega]; exact a1
      · have hlt : j < mk := by
          rcases Nat.lt_or_ge j mk with z | z
          · exact z
          · exact absurd (nI_le z (by omega)) w9
        obtain ⟨sj, s1, s2, s3⟩ := hgn j hlt
        have hnr := y1.1.ri hna hnR (i := j) (by rw [s1]; exact nI_ne0 (by omega) (by omega))
        have cs1 : ZF S1 s = .inr (19, ss) := (v1.2.1 s hs (fun e => hsy e)).trans hsS
        have hs1 := y1.1.L hs
        have hpa2 : ∃ wa ta : Nat, ZF S1 pa = .inr (17, [.int (nI mk), .ref wa, .ref ta]) ∧ rTs R S1 ta 12 mk f (vTy S1) := by
          have := (hpa.vx (hto v1)).2
          rcases this with ⟨_, e⟩ | ⟨wa, ta, e1, _, e3⟩
          · omega
          · exact ⟨wa, ta, e1, e3⟩
        obtain ⟨wa, ta, p1, p2⟩ := hpa2
        have hvx : vTy S1 (tx j) := by
          obtain ⟨x, x1, x2⟩ := p2.2.2 j hlt
          rw [hft j hlt] at x1; cases x1; exact x2
        -- declare it
        have h75 : ∀ (S2 : Sg) (c2 ty : Nat), c2 ≤ c + j + 1 → YS R c2 (nv + j) S2 (Γ ++ us) (Λ ++ us) fi gv → VX R nX S1 S2 → VS S1 S2 → Zi S2 3 = Zi S1 3 → rTy S2 ty → ((bd = 0 ∧ ty = tx j) ∨ (bd = 1 ∧ isTy S2 ty 6 0 (some (tx j))) ∨ (bd = 2 ∧ isTy S2 ty 7 0 (some (tx j)))) → Rt (f_typeArm_75 R.K V (f_typeArm_9 R.K V m) S2 (some s) (some y) (some pa) (nI Γ.length) (nI j) (some ty) (nI sj) (nI j) (some (y + 2))) (fun S2 _ => ArP R c nv S Γ Λ fi gv n y p p' q b b2 v w (i, vr, bd) S2) := fun S2 c2 ty hc2 y2 v2 s2' z2 hrt hbt => by
          unfold f_typeArm_75
          refine Rt.bn (dcl_ hK (by omega) (by omega) y2 (show sj < R.T by omega) (show 0 ≤ 1 by omega) (fun x e => by cases e; exact hrt) (by rw [List.length_append]; omega)) (fun S4 r4 q4 => ?_)
          obtain ⟨u, rfl, y4, v4, z4, w4, i4⟩ := q4
          have hrow4 : ZF S4 (y + 2) = .inl (R.K.1 5, 12, .inr (.inr (.inr (.inr fv)))) := (v4.2.1 _ hva (fun w => w)).trans ((v2.2.1 _ hva (fun w => w)).trans hrow)
          refine Rt.bd (bQ_n (y4.1.L hva) hrow4 (show j < 12 by omega) (by decide) (okO_mk (vs := _) i4.1 i4.2)) ?_
          rw [nI_1]
          have t5 := y4.1.uf hva (cs_ro (f3 := va_up fv j (some u)) hvR (fun _ => rfl))
          have v5 : VX R (fun a => a = y + 2) S4 (UF S4 (y + 2) (.inl (R.K.1 5, 12, .inr (.inr (.inr (.inr (va_up fv j (some u)))))))) := VX.uf rfl (fun vs => hcX S4 _ _ fv hrow4) (fun vs => hcX S4 _ _ fv hrow4)
          have w5 : VW S4 (UF S4 (y + 2) (.inl (R.K.1 5, 12, .inr (.inr (.inr (.inr (va_up fv j (some u)))))))) := ⟨rfl, rfl, rfl, fun u9 ix nm ty mu q => ⟨q.1, (ZF_n (fun e => hcX S4 _ _ fv hrow4 (e ▸ q.2))).trans q.2⟩⟩
          have y5 := y4.vw (p := p) (q := p + 1) t5 (v5.mo (fun a e => e ▸ hXv)) w5
          have v14 : VX R nX S1 S4 := v2.n v4
          have v15 : VX R (fun a => a = y + 2) S1 (UF S4 (y + 2) (.inl (R.K.1 5, 12, .inr (.inr (.inr (.inr (va_up fv j (some u)))))))) := v14.b v5
          refine ih (j + 1) (us := us ++ [u]) (fv := va_up fv j (some u)) (by omega) (by omega) (by rw [List.length_append, hus]; rfl) ?_ (v1.tr v15 (fun _ w => w)) ?_ (fun k hk => ?_) ZF_s (fun k hk => ?_)
          · rw [← List.append_assoc, ← List.append_assoc]
            exact y5.up (by omega)
          · show Zi S4 3 = 0
            rw [z4, z2]; exact z1
          · show Zq S4 22 k = _
            rw [w4 k (by rw [List.length_append]; omega), s2'.2.2.1.1, zq1 k hk]
          · by_cases e0 : k = j
            · subst e0
              refine ⟨u, ty, nI sj, ?_, va_up_self _ _ _, ?_, ?_⟩
              · rw [List.getElem?_append_right (by omega), hus, Nat.sub_self]; rfl
              · rw [List.length_append, hΛ, hus] at i4
                exact w5.2.2.2 _ _ _ _ _ i4
              · have hT5 := (v4.x (X := fun a => a = y + 2)).tr v5 (fun _ w => w)
                exact hbt.imp id (fun z => z.imp (fun z => ⟨z.1, hT5.2.2.2.1 _ _ _ _ z.2⟩) (fun z => ⟨z.1, hT5.2.2.2.1 _ _ _ _ z.2⟩))
            · obtain ⟨u9, ty9, nm9, a1, a2, a3, a4⟩ := htd k (by omega)
              refine ⟨u9, ty9, nm9, ?_, (va_up_ne _ _ e0).trans a2, a3.vx v15, a4.imp id (fun z => z.imp (fun z => ⟨z.1, v15.2.2.2.1 _ _ _ _ z.2⟩) (fun z => ⟨z.1, v15.2.2.2.1 _ _ _ _ z.2⟩))⟩
              rw [List.getElem?_append_left (by omega)]; exact a1
        have h54 : ∀ kt : Int32, (kt = 6 ∧ bd = 1) ∨ (kt = 7 ∧ bd = 2) → Rt (f_typeArm_54 R.K V (f_typeArm_9 R.K V m) S1 (some s) (some y) (some pa) (nI Γ.length) (nI j) kt (nI sj) (nI j) (some (y + 2))) (fun S2 _ => ArP R c nv S Γ Λ fi gv n y p p' q b b2 v w (i, vr, bd) S2) := fun kt hkt => by
          unfold f_typeArm_54
          refine Rt.bd (oR_mk (v := some ta) (y1.1.L hpa.1.1) p1 rfl) (Rt.bd (aQ_n (y1.1.L p2.1.1) p2.2.1 (show j < 12 by omega) (by decide)) ?_)
          rw [hft j hlt]
          obtain ⟨k9, i9, o9, r9, _⟩ := hvx.ty
          refine Rt.bn (typ_ hK (by omega) y1.1 (Or.inr (Or.inr (Or.inr ⟨show kt = 5 ∨ kt = 6 ∨ kt = 7 from hkt.elim (fun z => Or.inr (Or.inl z.1)) (fun z => Or.inr (Or.inr z.1)), rfl, tx j, rfl⟩))) (Or.inr ⟨tx j, k9, i9, o9, rfl, r9⟩) (by omega)) (fun S2 r2 q2 => ?_)
          obtain ⟨x, rfl, t2, x2, v2, s2', z2⟩ := q2
          refine h75 S2 (c + j + 1) x (Nat.le_refl _) (y1.vx (p := 0) (q := 0) t2 v2.x s2') v2 s2' z2 (Or.inr ⟨kt, tx j, x2, hkt.elim (fun z => Or.inl z.1) (fun z => Or.inr z.1), hvx.im v2.2.2.2.1⟩) ?_
          rcases hkt with ⟨e1, e2⟩ | ⟨e1, e2⟩
          · subst e1; exact Or.inr (Or.inl ⟨e2, x2⟩)
          · subst e1; exact Or.inr (Or.inr ⟨e2, x2⟩)
        refine Rt.bd (oR_mk hy1 ce (v := some (y + 2)) rfl) (Rt.bd (oR_mk hy1 ce (v := some na) rfl) (Rt.bd (aI_n (y1.1.L hna) hnr (show j < 12 by omega) (by decide)) ?_))
        rw [s1]
        refine Rt.bd (oI_mk hs1 cs1 hs4) (Rt.it (fun w0 => ?_) (fun w0 => ?_))
        · have hb0 : bd = 0 := by
            rcases hbd with ⟨_, e⟩ | ⟨e, _⟩ | ⟨e, _⟩
            · exact e
            · rw [w0] at e; exact absurd e (by decide)
            · rw [w0] at e; exact absurd e (by decide)
          refine Rt.bd (oR_mk (v := some ta) (y1.1.L hpa.1.1) p1 rfl) (Rt.bd (aQ_n (y1.1.L p2.1.1) p2.2.1 (show j < 12 by omega) (by decide)) ?_)
          rw [hft j hlt]
          exact h75 S1 (c + j) (tx j) (by omega) y1 VX.rf VS.rf rfl (Or.inl hvx) (Or.inl ⟨hb0, rfl⟩)
        · refine Rt.bd (oI_mk hs1 cs1 hs3) (Rt.it (fun w1 => h54 6 (Or.inl ⟨rfl, ?_⟩)) (fun w1 => h54 7 (Or.inr ⟨rfl, ?_⟩)))
          · rcases hbd with ⟨e, _⟩ | ⟨_, _, e⟩ | ⟨_, e, _⟩
            · exact absurd e w0
            · exact e
            · rw [w1] at e; exact absurd e (by decide)
          · rcases hbd with ⟨e, _⟩ | ⟨_, e, _⟩ | ⟨_, _, e⟩
            · exact absurd e w0
            · exact absurd e w1
            · exact e
  exact hloop bigN 0 (us := []) (fv := fun _ => none) (by show mk < 0 + 1000000000000; omega) (Nat.zero_le _) rfl (by rw [List.append_nil, List.append_nil]; exact h) VX.rf hz (fun _ _ => rfl) (hvS.trans hvR) (fun k hk => absurd hk (by omega))
end ARN
