-- k7.a.lean.txt
section
theorem own_ar {F : Nat → va_E} {a tk : Nat} {rs : List Value} (hF : F a = .inr (13, .int (nI tk) :: rs)) (ht : tk ≤ 100000) : ownT F a = some tk := by
  unfold ownT
  rw [hF]
  show (if 13 = 15 then _ else if 13 = 19 then _ else if 13 = 13 then some (nI tk).toNatClampNeg else _) = _
  rw [if_neg (by decide), if_neg (by decide), if_pos rfl, nI_clamp (by omega)]
section ARN
variable {R : yR} {c nv : Nat} {S : Sg} {Γ Λ : List Nat} {fi gv : Nat}
/-- behind an arm -/
def ArP (R : yR) (c nv : Nat) (S : Sg) (Γ Λ : List Nat) (fi gv n y p p' q b b2 v w : Nat) (κ : Nat × Nat × Nat) (S2 : Sg) : Prop := ∃ c2 nv2 : Nat, c2 ≤ c + (q - p) ∧ nv2 ≤ nv + (w - v) ∧ TS R c2 nv2 S2 ∧ VX R (fun a => a = y + 2 ∨ Xo R (p' + 1) q a) S S2 ∧ (Zi S2 3 = 0 → ∃ Λ2 : List Nat, YS R (c + (q - p)) (nv + (w - v)) S2 Γ Λ2 fi gv ∧ pfx Λ Λ2 ∧ Λ2.length = w ∧ (∀ k : Nat, k < Γ.length → Zq S2 22 k = Zq S 22 k) ∧ sN R S2 Λ2 gv (n + 1) 2 y p q b b2 v w Γ Γ κ)
/-- an arm -/
theorem tam_ (hK : yRm R) {V : Sg → Option Nat → Option (Sg × Unit)} {n : Nat} (hV : BH R fi gv n V) (h : YS R c nv S Γ Λ fi gv) {s y p p' q b b2 v w na mk bk i vr bd pa : Nat} {mu rf : Int32} {ss : List Value} {g : Nat → Int32} {f : Nat → Option Nat} {tx : Nat → Nat} (hz : Zi S 3 = 0) (hΛ : Λ.length = v) (hw : w ≤ 40) (hnv : nv + (w - v) ≤ 10000) (hc : c + (q - p) ≤ 1990) (hs : s ∈ ZL R.S) (hsS : ZF S s = .inr (19, ss)) (hs3 : ss[3]? = some (.int mu)) (hs4 : ss[4]? = some (.int rf)) (hsR : ∃ zs : List Value, ZF R.S s = .inr (19, zs)) (hbd : (rf = 0 ∧ bd = 0) ∨ (rf = 1 ∧ mu = 0 ∧ bd = 1) ∨ (rf = 1 ∧ mu = 1 ∧ bd = 2)) (hy : y ∈ ZL R.S) (hyR : ZF R.S y = .inr (13, [.int (nI p), .int 0, .ref na, .int (nI mk), .ref (y + 2), .ref bk])) (hyS : ZF S y = .inr (13, [.int (nI p), .int (nI vr), .ref na, .int (nI mk), .ref (y + 2), .ref bk])) (hna : na ∈ ZL R.S) (hnR : ZF R.S na = .inl (R.K.1 0, 12, .inl g)) (hgn : ∀ j : Nat, j < mk → ∃ s : Nat, g j = nI s ∧ p < s ∧ s < q) (hva : y + 2 ∈ ZL R.S) (hvR : ZF R.S (y + 2) = .inl (R.K.1 5, 12, .inr (.inr (.inr (.inr (fun _ => none)))))) (hvS : ZF S (y + 2) = ZF R.S (y + 2)) (hmk : mk ≤ 12) (hen : enY R S i vr mk tx) (hpa : paY R S pa mk f) (hft : ∀ k : Nat, k < mk → f k = some (tx k)) (hpp : p + mk < p') (hB : isQ R n 1 bk p' q b b2 (v + mk) w) (hU : Unt R S (p' + 1) q) (hq : q ≤ R.T) : Rt (f_typeArm R.K V S (some s) (some y) (some pa)) (fun S2 _ => ArP R c nv S Γ Λ fi gv n y p p' q b b2 v w (i, vr, bd) S2) := by
  have hT := h.1.tb
  have hlb := (isN_lt hB).2
  have hvw := isN_vw hB
  have hoy : ownT (ZF R.S) y = some p := own_ar hyR (by omega)
  have hXv : Xo R p (p + 1) (y + 2) := Or.inr (Or.inl ⟨y, p, rfl, hoy, Nat.le_refl _, Nat.lt_succ_self _, hvR⟩)
  have hsy : s ≠ y + 2 := fun e => by obtain ⟨zs, e2⟩ := hsR; rw [e, hvR] at e2; cases e2
  have hyy : y ≠ y + 2 := by omega
  have hpy : pa ≠ y + 2 := fun e => hpa.1.2 p (p + 1) (e ▸ hXv)
  have hto : ∀ {S1 : Sg}, VX R (fun a => a = y + 2) S S1 → VX R (Xo R p (p + 1)) S S1 := fun v1 => v1.mo (fun a e => e ▸ hXv)
  have hcX : ∀ (S9 : Sg) (k9 : Nat) (vs : List Value) (fv : Nat → Option Nat), ZF S9 (y + 2) = .inl (R.K.1 5, 12, .inr (.inr (.inr (.inr fv)))) → ¬ ZF S9 (y + 2) = .inr (k9, vs) := fun S9 k9 vs fv e w => by rw [e] at w; cases w
  unfold f_typeArm
  rw [h.2.1.1]
  have hloop : ∀ (m j : Nat) {S1 : Sg} {us : List Nat} {fv : Nat → Option Nat}, mk < j + m → j ≤ mk → us.length = j → YS R (c + j) (nv + j) S1 (Γ ++ us) (Λ ++ us) fi gv → VX R (fun a => a = y + 2) S S1 → Zi S1 3 = 0 → (∀ k : Nat, k < Γ.length → Zq S1 22 k = Zq S 22 k) → ZF S1 (y + 2) = .inl (R.K.1 5, 12, .inr (.inr (.inr (.inr fv)))) → (∀ k : Nat, k < j → ∃ (u ty : Nat) (nm : Int32), us[k]? = some u ∧ fv k = some u ∧ isV S1 u (v + k) nm (some ty) 0 ∧ ((bd = 0 ∧ ty = tx k) ∨ (bd = 1 ∧ isTy S1 ty 6 0 (some (tx k))) ∨ (bd = 2 ∧ isTy S1 ty 7 0 (some (tx k))))) → Rt (f_typeArm_9 R.K V m S1 (some s) (some y) (some pa) (nI Γ.length) (nI j)) (fun S2 _ => ArP R c nv S Γ Λ fi gv n y p p' q b b2 v w (i, vr, bd) S2) := by
    intro m
    induction m with
    | zero => intro j S1 us fv a b; omega
    | succ m ih =>
      intro j S1 us fv hj1 hj2 hus y1 v1 z1 zq1 hrow htd
      have ce : ZF S1 y = .inr (13, [.int (nI p), .int (nI vr), .ref na, .int (nI mk), .ref (y + 2), .ref bk]) := (v1.2.1 y hy (fun e => hyy e)).trans hyS
      have hy1 := y1.1.L hy
      have hv1 := y1.1.L hva
      unfold f_typeArm_9
      refine Rt.bd (oI_mk hy1 ce (v := nI mk) rfl) (Rt.it (fun w9 => ?_) (fun w9 => ?_))
      · have hjm : j = mk := by have := (nI_leI (a := mk) (b := j) (by omega) (by omega)).mp w9; omega
        subst hjm
        have hU1 : Unt R S1 (p' + 1) q := fun a9 ha9 w => (v1.2.1 a9 ha9 (fun e => by rw [e] at w; exact Xo_dj hXv w (Or.inl (by omega)))).trans (hU a9 ha9 w)
        refine Rt.bd (oR_mk hy1 ce (v := some bk) rfl) (Rt.bn (hV (c + j) (nv + j) S1 (Γ ++ us) (Λ ++ us) bk p' q b b2 (v + j) w y1 z1 (by rw [List.length_append, hΛ, hus]) hw (by omega) (by omega) hB hU1 hq) (fun S3 _ q3 => ?_))
        obtain ⟨c3, nv3, e1, e2, e3, e4, e5⟩ := q3
        have v03 : VX R (fun a => a = y + 2 ∨ Xo R (p' + 1) q a) S S3 := (v1.mo (fun a w => Or.inl w)).tr e4 (fun a w => Or.inr w)
        refine Rt.bd (v := Ui S3 23 (nI Γ.length)) rfl (Rt.rt ⟨c3, nv3, by omega, by omega, e3.u23, v03.tr (VX.u23 (X := nX)) (fun _ w => w.elim), fun z => ?_⟩)
        have z3 : Zi S3 3 = 0 := by rwa [Zi_n (by decide)] at z
        obtain ⟨Λ2, l1, l2, l3, l4, l5⟩ := e5 z3
        have hpf : pfx Γ (Γ ++ us) := fun k u hk => by rw [List.getElem?_append_left (List.getElem?_eq_some_iff.mp hk).1]; exact hk
        have hpΛ : pfx Λ (Λ ++ us) := fun k u hk => by rw [List.getElem?_append_left (List.getElem?_eq_some_iff.mp hk).1]; exact hk
        have v34 : VX R (Xo R 0 0) S3 (Ui S3 23 (nI Γ.length)) := VX.u23
        have v14 : VX R (Xo R (p' + 1) q) S1 (Ui S3 23 (nI Γ.length)) := e4.tr (VX.u23 (X := nX)) (fun _ w => w.elim)
        have v04 : VX R (Xo R p q) S (Ui S3 23 (nI Γ.length)) := ((hto v1).mo (fun a w => Xo_mo w (Nat.le_refl _) (by omega))).tr v14 (fun a w => Xo_mo w (by omega) (Nat.le_refl _))
        refine ⟨Λ2, ?_, hpΛ.tr l2, l3, fun k hk => ?_, ⟨hy, hoy, by omega⟩, na, bk, j, p', fv, tx, us, ?_, hva, hvR, ?_, hmk, hen.vx v04, hus, fun k hk => ?_, hpp, sN_vx v34 pfx.rf l5 (Or.inr (Nat.zero_le _))⟩
        · have := (l1.rs hpf (pfx_len hpf)).up (c2 := c + (q - p)) (by omega)
          rw [show nv + j + (w - (v + j)) = nv + (w - v) by omega] at this
          exact this
        · show Zq S3 22 k = _
          rw [l4 k (by rw [List.length_append]; omega), zq1 k hk]
        · show ZF S3 y = _
          exact (e4.2.1 y hy (fun x => Xo_dj (Or.inl ⟨p, hoy, Nat.le_refl p, Nat.lt_succ_self p⟩) x (Or.inl (by omega)))).trans ce
        · show ZF S3 (y + 2) = _
          exact (e4.2.1 _ hva (fun x => Xo_dj hXv x (Or.inl (by omega)))).trans hrow
        · obtain ⟨u, ty, nm, a1, a2, a3, a4⟩ := htd k hk
          refine ⟨u, ty, nm, a1, a2, l2 _ _ ?_, a3.vx v14, a4.imp id (fun z => z.imp (fun z => ⟨z.1, v14.2.2.2.1 _ _ _ _ z.2⟩) (fun z => ⟨z.1, v14.2.2.2.1 _ _ _ _ z.2⟩))⟩
          rw [List.getElem?_append_right (by omega), hΛ, show v + k - v = k by omega]; exact a1
      · have hlt : j < mk := by
          rcases Nat.lt_or_ge j mk with z | z
          · exact z
          · exact absurd (nI_le z (by omega)) w9
        obtain ⟨sj, s1, s2, s3⟩ := hgn j hlt
        have hnr := y1.1.ri hna hnR (i := j) (by rw [s1]; exact nI_ne0 (by omega) (by omega))
        have cs1 : ZF S1 s = .inr (19, ss) := (v1.2.1 s hs (fun e => hsy e)).trans hsS
        have hs1 := y1.1.L hs
        have hpa2 : ∃ wa ta : Nat, ZF S1 pa = .inr (17, [.int (nI mk), .ref wa, .ref ta]) ∧ rTs R S1 ta 12 mk f (vTy S1) := by
          have := (hpa.vx (hto v1)).2
          rcases this with ⟨_, e⟩ | ⟨wa, ta, e1, _, e3⟩
          · omega
          · exact ⟨wa, ta, e1, e3⟩
        obtain ⟨wa, ta, p1, p2⟩ := hpa2
        have hvx : vTy S1 (tx j) := by
          obtain ⟨x, x1, x2⟩ := p2.2.2 j hlt
          rw [hft j hlt] at x1; cases x1; exact x2
        -- declare it
        have h75 : ∀ (S2 : Sg) (c2 ty : Nat), c2 ≤ c + j + 1 → YS R c2 (nv + j) S2 (Γ ++ us) (Λ ++ us) fi gv → VX R nX S1 S2 → VS S1 S2 → Zi S2 3 = Zi S1 3 → rTy S2 ty → ((bd = 0 ∧ ty = tx j) ∨ (bd = 1 ∧ isTy S2 ty 6 0 (some (tx j))) ∨ (bd = 2 ∧ isTy S2 ty 7 0 (some (tx j)))) → Rt (f_typeArm_75 R.K V (f_typeArm_9 R.K V m) S2 (some s) (some y) (some pa) (nI Γ.length) (nI j) (some ty) (nI sj) (nI j) (some (y + 2))) (fun S2 _ => ArP R c nv S Γ Λ fi gv n y p p' q b b2 v w (i, vr, bd) S2) := fun S2 c2 ty hc2 y2 v2 s2' z2 hrt hbt => by
          unfold f_typeArm_75
          refine Rt.bn (dcl_ hK (by omega) (by omega) y2 (show sj < R.T by omega) (show 0 ≤ 1 by omega) (fun x e => by cases e; exact hrt) (by rw [List.length_append]; omega)) (fun S4 r4 q4 => ?_)
          obtain ⟨u, rfl, y4, v4, z4, w4, i4⟩ := q4
          have hrow4 : ZF S4 (y + 2) = .inl (R.K.1 5, 12, .inr (.inr (.inr (.inr fv)))) := (v4.2.1 _ hva (fun w => w)).trans ((v2.2.1 _ hva (fun w => w)).trans hrow)
          refine Rt.bd (bQ_n (y4.1.L hva) hrow4 (show j < 12 by omega) (by decide) (okO_mk (vs := _) i4.1 i4.2)) ?_
          rw [nI_1]
          have t5 := y4.1.uf hva (cs_ro (f3 := va_up fv j (some u)) hvR (fun _ => rfl))
          have v5 : VX R (fun a => a = y + 2) S4 (UF S4 (y + 2) (.inl (R.K.1 5, 12, .inr (.inr (.inr (.inr (va_up fv j (some u)))))))) := VX.uf rfl (fun vs => hcX S4 _ _ fv hrow4) (fun vs => hcX S4 _ _ fv hrow4)
          have w5 : VW S4 (UF S4 (y + 2) (.inl (R.K.1 5, 12, .inr (.inr (.inr (.inr (va_up fv j (some u)))))))) := ⟨rfl, rfl, rfl, fun u9 ix nm ty mu q => ⟨q.1, (ZF_n (fun e => hcX S4 _ _ fv hrow4 (e ▸ q.2))).trans q.2⟩⟩
          have y5 := y4.vw (p := p) (q := p + 1) t5 (v5.mo (fun a e => e ▸ hXv)) w5
          have v14 : VX R nX S1 S4 := v2.n v4
          have v15 : VX R (fun a => a = y + 2) S1 (UF S4 (y + 2) (.inl (R.K.1 5, 12, .inr (.inr (.inr (.inr (va_up fv j (some u)))))))) := v14.b v5
          refine ih (j + 1) (us := us ++ [u]) (fv := va_up fv j (some u)) (by omega) (by omega) (by rw [List.length_append, hus]; rfl) ?_ (v1.tr v15 (fun _ w => w)) ?_ (fun k hk => ?_) ZF_s (fun k hk => ?_)
          · rw [← List.append_assoc, ← List.append_assoc]
            exact y5.up (by omega)
          · show Zi S4 3 = 0
            rw [z4, z2]; exact z1
          · show Zq S4 22 k = _
            rw [w4 k (by rw [List.length_append]; omega), s2'.2.2.1.1, zq1 k hk]
          · by_cases e0 : k = j
            · subst e0
              refine ⟨u, ty, nI sj, ?_, va_up_self _ _ _, ?_, ?_⟩
              · rw [List.getElem?_append_right (by omega), hus, Nat.sub_self]; rfl
              · rw [List.length_append, hΛ, hus] at i4
                exact w5.2.2.2 _ _ _ _ _ i4
              · have hT5 := (v4.x (X := fun a => a = y + 2)).tr v5 (fun _ w => w)
                exact hbt.imp id (fun z => z.imp (fun z => ⟨z.1, hT5.2.2.2.1 _ _ _ _ z.2⟩) (fun z => ⟨z.1, hT5.2.2.2.1 _ _ _ _ z.2⟩))
            · obtain ⟨u9, ty9, nm9, a1, a2, a3, a4⟩ := htd k (by omega)
              refine ⟨u9, ty9, nm9, ?_, (va_up_ne _ _ e0).trans a2, a3.vx v15, a4.imp id (fun z => z.imp (fun z => ⟨z.1, v15.2.2.2.1 _ _ _ _ z.2⟩) (fun z => ⟨z.1, v15.2.2.2.1 _ _ _ _ z.2⟩))⟩
              rw [List.getElem?_append_left (by omega)]; exact a1
        have h54 : ∀ kt : Int32, (kt = 6 ∧ bd = 1) ∨ (kt = 7 ∧ bd = 2) → Rt (f_typeArm_54 R.K V (f_typeArm_9 R.K V m) S1 (some s) (some y) (some pa) (nI Γ.length) (nI j) kt (nI sj) (nI j) (some (y + 2))) (fun S2 _ => ArP R c nv S Γ Λ fi gv n y p p' q b b2 v w (i, vr, bd) S2) := fun kt hkt => by
          unfold f_typeArm_54
          refine Rt.bd (oR_mk (v := some ta) (y1.1.L hpa.1.1) p1 rfl) (Rt.bd (aQ_n (y1.1.L p2.1.1) p2.2.1 (show j < 12 by omega) (by decide)) ?_)
          rw [hft j hlt]
          obtain ⟨k9, i9, o9, r9, _⟩ := hvx.ty
          refine Rt.bn (typ_ hK (by omega) y1.1 (Or.inr (Or.inr (Or.inr ⟨show kt = 5 ∨ kt = 6 ∨ kt = 7 from hkt.elim (fun z => Or.inr (Or.inl z.1)) (fun z => Or.inr (Or.inr z.1)), rfl, tx j, rfl⟩))) (Or.inr ⟨tx j, k9, i9, o9, rfl, r9⟩) (by omega)) (fun S2 r2 q2 => ?_)
          obtain ⟨x, rfl, t2, x2, v2, s2', z2⟩ := q2
          refine h75 S2 (c + j + 1) x (Nat.le_refl _) (y1.vx (p := 0) (q := 0) t2 v2.x s2') v2 s2' z2 (Or.inr ⟨kt, tx j, x2, hkt.elim (fun z => Or.inl z.1) (fun z => Or.inr z.1), hvx.im v2.2.2.2.1⟩) ?_
          rcases hkt with ⟨e1, e2⟩ | ⟨e1, e2⟩
          · subst e1; exact Or.inr (Or.inl ⟨e2, x2⟩)
          · subst e1; exact Or.inr (Or.inr ⟨e2, x2⟩)
        refine Rt.bd (oR_mk hy1 ce (v := some (y + 2)) rfl) (Rt.bd (oR_mk hy1 ce (v := some na) rfl) (Rt.bd (aI_n (y1.1.L hna) hnr (show j < 12 by omega) (by decide)) ?_))
        rw [s1]
        refine Rt.bd (oI_mk hs1 cs1 hs4) (Rt.it (fun w0 => ?_) (fun w0 => ?_))
        · have hb0 : bd = 0 := by
            rcases hbd with ⟨_, e⟩ | ⟨e, _⟩ | ⟨e, _⟩
            · exact e
            · rw [w0] at e; exact absurd e (by decide)
            · rw [w0] at e; exact absurd e (by decide)
          refine Rt.bd (oR_mk (v := some ta) (y1.1.L hpa.1.1) p1 rfl) (Rt.bd (aQ_n (y1.1.L p2.1.1) p2.2.1 (show j < 12 by omega) (by decide)) ?_)
          rw [hft j hlt]
          exact h75 S1 (c + j) (tx j) (by omega) y1 VX.rf VS.rf rfl (Or.inl hvx) (Or.inl ⟨hb0, rfl⟩)
        · refine Rt.bd (oI_mk hs1 cs1 hs3) (Rt.it (fun w1 => h54 6 (Or.inl ⟨rfl, ?_⟩)) (fun w1 => h54 7 (Or.inr ⟨rfl, ?_⟩)))
          · rcases hbd with ⟨e, _⟩ | ⟨_, _, e⟩ | ⟨_, e, _⟩
            · exact absurd e w0
            · exact e
            · rw [w1] at e; exact absurd e (by decide)
          · rcases hbd with ⟨e, _⟩ | ⟨_, e, _⟩ | ⟨_, _, e⟩
            · exact absurd e w0
            · exact absurd e w1
            · exact e
  exact hloop bigN 0 (us := []) (fv := fun _ => none) (by show mk < 0 + 1000000000000; omega) (Nat.zero_le _) rfl (by rw [List.append_nil, List.append_nil]; exact h) VX.rf hz (fun _ _ => rfl) (hvS.trans hvR) (fun k hk => absurd hk (by omega))
end ARN
end
-- k7.b.lean.txt
section
/-- what a match looks at, typed -/
def HD (R : yR) (S : Sg) (Γ : List Nat) (x p0 q0 b b1 t bd : Nat) (mu rf : Int32) : Prop := (rf = 0 ∧ mu = 0 ∧ bd = 0 ∧ xE R S Γ 408 16 x p0 q0 b b1 t) ∨ (rf = 1 ∧ b1 = b + 1 ∧ ∃ (vv m2 w2 : Nat) (π : List (Nat × Nat)), ((mu = 0 ∧ bd = 1) ∨ (mu = 1 ∧ bd = 2 ∧ m2 = 1)) ∧ xPl R S Γ 408 x p0 q0 vv π t m2 w2 ∧ π.length ≤ 4)
theorem HD.vx {R : yR} {S S2 : Sg} {Γ : List Nat} {x p0 q0 b b1 t bd p2 q2 : Nat} {mu rf : Int32} (hV : VX R (Xo R p2 q2) S S2) (h : HD R S Γ x p0 q0 b b1 t bd mu rf) (hd : dj p0 q0 p2 q2) : HD R S2 Γ x p0 q0 b b1 t bd mu rf := h.imp (fun ⟨e1, e2, e3, e4⟩ => ⟨e1, e2, e3, xE_vx hV e4 (hV.fr hd)⟩) (fun ⟨e1, e2, vv, m2, w2, π, e3, e4, e5⟩ => ⟨e1, e2, vv, m2, w2, π, e3, xPl_vx hV e4 (hV.fr hd), e5⟩)
section MAT
variable {R : yR} {c nv : Nat} {S : Sg} {Γ Λ : List Nat} {fi gv : Nat}
/-- the arms of a match -/
theorem mt119 (hK : yRm R) {V : Sg → Option Nat → Option (Sg × Unit)} {n : Nat} (hV : ∀ m : Nat, m < n → BH R fi gv m V) {S0 : Sg} {c0 : Nat} (h : YS R c nv S Γ Λ fi gv) {a p q b b1 b2 v w x ar cap mn p0 q0 t bd i : Nat} {mu rf : Int32} {f : Nat → Option Nat} (hz : Zi S 3 = 0) (hΛ : Λ.length = v) (hw : w ≤ 40) (hnv : nv + (w - v) ≤ 10000) (hc : c ≤ c0 + (q0 - p)) (hc0 : c0 + (q - p) ≤ 1990) (ha : a ∈ ZL R.S) (hG : ZF R.S a = sxC 5 p 0 mu rf .null (.ref x) .null .null .null .null (.ref ar) mn) (hF : ZF S a = ZF R.S a) (hpq : p < q) (hp0 : p < p0) (hpq0 : p0 < q0) (hq0 : q0 + 1 ≤ q) (hbd : (rf = 0 ∧ bd = 0) ∨ (rf = 1 ∧ mu = 0 ∧ bd = 1) ∨ (rf = 1 ∧ mu = 1 ∧ bd = 2)) (har : ar ∈ ZL R.S) (hfa : ZF R.S ar = .inl (R.K.1 7, cap, .inr (.inr (.inr (.inr f))))) (hcap : mn ≤ cap) (hJ : chN (isQ R n 2) f mn (q0 + 1) (q - 1) b1 b2 v w) (hi : i < R.im) (hik : R.ik i = 11) (hH : HD R S Γ x p0 q0 b b1 t bd mu rf) (hy : isTy S t 4 (nI i) none) (hv0 : VX R (Xo R (p + 1) q0) S0 S) (hq22 : ∀ k : Nat, k < Γ.length → Zq S 22 k = Zq S0 22 k) {Λ0 : List Nat} (hΛ0 : Λ0 = Λ) (hU : Unt R S (q0 + 1) (q - 1)) (hq : q ≤ R.T) : Rt (f_typeMatch_119 R.K V bigN S (some a) (some (R.ws i)) 0) (fun S2 _ => StP R c0 nv S0 Γ Λ0 fi gv (n + 1) 0 a p q b b2 v w (0, 0, 0) S2) := by
  subst hΛ0
  have hT := h.1.tb
  have ho : ownT (ZF R.S) a = some p := own_s hG (by omega)
  have c1 := hF.trans hG
  obtain ⟨nar, _⟩ := h.2.2.2.2.1.q hK har hfa (by decide) (by decide) (by decide) (by decide)
  obtain ⟨ps, bs, vs, xs, j1, j2, j3, j4, j5, j6, j7, j8⟩ := chJ_fn (chN_J hJ) (fun i x p q b c v w z => ⟨(isN_lt z).2, isN_vw z⟩)
  have hm0 := j8 0 mn (Nat.zero_le _) (Nat.le_refl _)
  rw [j1, j2, j5, j6] at hm0
  obtain ⟨n1, n2, fs, im2, na2, g2, n3, n4, n5, n6, n7, n8, n9, n10, n11⟩ := h.2.2.2.1 i hi
  have hEn : ∃ (vr : Nat) (fv : Nat → Option Nat), fs[11]? = some (.ref vr) ∧ nXo R vr ∧ ZF S vr = .inl (R.K.1 13, 13, .inr (.inr (.inr (.inr fv)))) ∧ ∀ k : Nat, k < im2 → ∃ (pa mk : Nat) (f : Nat → Option Nat), fv k = some pa ∧ paY R S pa mk f := by
    rcases n11 with ⟨w, _⟩ | ⟨_, w⟩ | ⟨w, _⟩
    · rw [hik] at w; exact absurd w (by decide)
    · exact w
    · rw [hik] at w; exact absurd w (by decide)
  obtain ⟨vr, fv, m1, m2, m3, m4⟩ := hEn
  have hmq : mn ≤ 100000 := by
    have : ∀ d : Nat, d ≤ mn → d ≤ ps d := by
      intro d
      induction d with
      | zero => exact fun _ => Nat.zero_le _
      | succ d ih =>
        intro hd
        have := ih (by omega)
        have := (isN_lt (j7 d (by omega)).2).2
        omega
    have := this mn (Nat.le_refl _)
    omega
  have hcell : ∀ {S1 : Sg}, VX R (Xo R (q0 + 1) (q - 1)) S S1 → ZF S1 a = sxC 5 p 0 mu rf .null (.ref x) .null .null .null .null (.ref ar) mn := fun {S1} v1 => (v1.2.1 a ha (fun x => Xo_dj (Or.inl ⟨p, ho, Nat.le_refl p, Nat.lt_succ_self p⟩) x (Or.inl (by omega)))).trans c1
  have hstp : ∀ {S1 : Sg}, VX R (Xo R (q0 + 1) (q - 1)) S S1 → VX R (Xo R p q) S0 S1 := fun {S1} v1 => (hv0.mo (fun a w => Xo_mo w (by omega) (by omega))).tr v1 (fun a w => Xo_mo w (by omega) (by omega))
  have hpar : ∀ {S1 : Sg} {k : Nat}, VX R (Xo R (q0 + 1) (q - 1)) S S1 → k < im2 → ∃ (pa mk : Nat) (f : Nat → Option Nat), fv k = some pa ∧ paY R S1 pa mk f ∧ ∃ tx : Nat → Nat, (∀ j : Nat, j < mk → f j = some (tx j)) ∧ enY R S1 i k mk tx := fun {S1 k} v1 hk => by
    obtain ⟨pa, mk, f9, e1, e2⟩ := m4 k hk
    have hf9 : ∀ j : Nat, j < mk → f9 j = some ((f9 j).getD 0) := fun j hj => by
      rcases e2.2 with ⟨_, e⟩ | ⟨wa, ta, _, _, e⟩
      · omega
      · obtain ⟨x9, x1, _⟩ := e.2.2 j hj; rw [x1]; rfl
    exact ⟨pa, mk, f9, e1, e2.vx v1, fun j => (f9 j).getD 0, hf9, enY.vx v1 ⟨fs, im2, vr, pa, fv, f9, hi, hik, n1, n3, n5, n6, hk, m1, m2, m3, e1, e2, hf9⟩⟩
  have hloop : ∀ (m k : Nat) {S1 : Sg} {c9 nv9 : Nat} {vf : Nat → Nat}, mn < k + m → k ≤ mn → TS R c9 nv9 S1 → c9 ≤ c0 + (q - p) → nv9 ≤ nv + (w - v) → VX R (Xo R (q0 + 1) (q - 1)) S S1 → (Zi S1 3 = 0 → VX R (Xo R (q0 + 1) (ps k)) S S1 ∧ ∃ Λ1 : List Nat, YS R (c + (ps k - (q0 + 1))) (nv + (vs k - v)) S1 Γ Λ1 fi gv ∧ pfx Λ0 Λ1 ∧ Λ1.length = vs k ∧ (∀ k9 : Nat, k9 < Γ.length → Zq S1 22 k9 = Zq S 22 k9) ∧ ∀ j : Nat, j < k → vf j < im2 ∧ sN R S1 Λ1 gv n 2 (xs j) (ps j) (ps (j + 1)) (bs j) (bs (j + 1)) (vs j) (vs (j + 1)) Γ Γ (i, vf j, bd) ∧ ∀ j2 : Nat, j2 < j → vf j2 ≠ vf j) → Rt (f_typeMatch_119 R.K V m S1 (some a) (some (R.ws i)) (nI k)) (fun S2 _ => StP R c0 nv S0 Γ Λ0 fi gv (n + 1) 0 a p q b b2 v w (0, 0, 0) S2) := by
    intro m
    induction m with
    | zero => intro k S1 c9 nv9 vf a b; omega
    | succ m ih =>
      intro k S1 c9 nv9 vf hk1 hk2 t1 hc9 hn9 v1 g1
      have ce := hcell v1
      have he1 := t1.L ha
      have hws : ZF S1 (R.ws i) = .inr (16, fs) := (v1.nx n1).trans n3
      have hend : (Zi S1 3 = 0 → k = mn) → Rt (f_typeMatch_286 R.K V S1 (some a) (some (R.ws i))) (fun S2 _ => StP R c0 nv S0 Γ Λ0 fi gv (n + 1) 0 a p q b b2 v w (0, 0, 0) S2) := fun hkk => by
        unfold f_typeMatch_286 f_typeMatch_313
        refine Rt.ok (fun z1 => ?_) (fun z1 => Rt.rt (StP.bad hc9 hn9 t1 (hstp v1) z1))
        refine Rt.bd (oI_mk he1 ce (v := nI mn) rfl) (Rt.bd (oI_mk (t1.L n1.1) hws n5) (Rt.it (fun w9 => Rt.rt ?_) (fun w9 => ?_)))
        · obtain ⟨v2, Λ1, d1, d2, d3, d4, d5⟩ := g1 z1
          have hk := hkk z1
          subst hk
          have hle := (nI_leI (a := im2) (b := k) (by omega) (by omega)).mp w9
          have hinj : ∀ a9 j9 : Nat, a9 < k → j9 < k → vf a9 = vf j9 → a9 = j9 := fun a9 j9 h1 h2 e => by
            rcases Nat.lt_trichotomy a9 j9 with z | z | z
            · exact absurd e ((d5 j9 h2).2.2 a9 z)
            · exact z
            · exact absurd e.symm ((d5 a9 h1).2.2 j9 z)
          have hpg := pig k im2 vf (fun j hj => (d5 j hj).1) hinj
          have hkim : k = im2 := by omega
          rw [j6] at d1 d3
          refine ⟨c9, nv9, hc9, hn9, t1, hstp v1, fun _ => ⟨Γ, Λ1, d1.up (by omega), d2, d3, fun k9 hk9 => by rw [d4 k9 hk9, hq22 k9 hk9], ⟨ha, ho, hpq⟩, Or.inr (Or.inr (Or.inr (Or.inr (Or.inr (Or.inl ⟨x, ar, cap, k, p0, q0, b1, i, t, bd, mu, rf, f, vf, ce, hp0, hH.vx v1 (Or.inl (by omega)), v1.2.2.2.1 _ _ _ _ hy, ⟨fs, hi, hik, n1, hws, by rw [hkim]; exact n5, by omega⟩, nar, (d1.2.2.2.2.1.q hK har hfa (by decide) (by decide) (by decide) (by decide)).2, hcap, rfl, ⟨ps, bs, vs, j1, j2, j3, j4, j5, j6, fun j hj => ⟨xs j, (j7 j hj).1, (d5 j hj).2.1⟩⟩, hinj, fun j hj => by have := (d5 j hj).1; omega⟩)))))⟩⟩
        · exact Rt.bd (oI_mk he1 ce (v := nI p) rfl) (Rt.be (fai_ t1 (by omega)) (Rt.rt (StP.bad hc9 hn9 t1.fl ((hstp v1).n VX.fl) (flS_n0 (by decide)))))
      unfold f_typeMatch_119
      refine Rt.bd (oI_mk he1 ce (v := nI mn) rfl) (Rt.it (fun w9 => hend (fun _ => ?_)) (fun w9 => ?_))
      · have := (nI_leI (a := mn) (b := k) (by omega) (by omega)).mp w9; omega
      have hlt : k < mn := by
        rcases Nat.lt_or_ge k mn with z | z
        · exact z
        · exact absurd (nI_le z (by omega)) w9
      refine Rt.ok (fun z1 => ?_) (fun z1 => hend (fun w => absurd w z1))
      obtain ⟨v2, Λ1, d1, d2, d3, d4, d5⟩ := g1 z1
      obtain ⟨k1, k4⟩ := j7 k hlt
      have hl4 := (isN_lt k4).2
      have hm1 := j8 0 k (Nat.zero_le _) hk2; have hm2 := j8 (k + 1) mn (by omega) (Nat.le_refl _); have hm3 := j8 k (k + 1) (by omega) (by omega)
      rw [j1, j5] at hm1
      rw [j2, j6] at hm2
      have harr := (d1.2.2.2.2.1.q hK har hfa (by decide) (by decide) (by decide) (by decide)).2
      -- the arm as it was read
      cases n with
      | zero => exact k4.elim
      | succ n =>
      obtain ⟨hyL, hyp, na, va, bk, mk, p', gn, a1, a2, a3, a4, a5, a6, a7, a8, a9, a10⟩ := k4
      subst a10
      have hlb := (isN_lt a9).2
      have hvb := isN_vw a9
      have hoy : ownT (ZF R.S) (xs k) = some (ps k) := own_ar a1 (by omega)
      have hXy : Xo R (ps k) (ps (k + 1)) (xs k) := Or.inl ⟨ps k, hoy, Nat.le_refl _, by omega⟩
      have hXv : Xo R (ps k) (ps (k + 1)) (xs k + 2) := Or.inr (Or.inl ⟨xs k, ps k, rfl, hoy, Nat.le_refl _, by omega, a5⟩)
      have hyS : ZF S1 (xs k) = ZF R.S (xs k) := (v2.2.1 _ hyL (fun x9 => Xo_dj hXy x9 (Or.inr (Nat.le_refl _)))).trans (hU _ hyL (Xo_mo hXy (by omega) (by omega)))
      have hy1 := t1.L hyL
      refine Rt.bd (oR_mk he1 ce (v := some ar) rfl) (Rt.bd (aQ_j (t1.L har) harr (show k < cap by omega) (by omega)) ?_)
      rw [k1]
      refine Rt.bd (oI_mk hy1 (hyS.trans a1) (v := nI (ps k)) rfl) (Rt.bn (fof_ t1 n1.1 hws n5 n6 n7 n8.1 ((v1.nx n8).trans n9) n10 (show ps k < R.T by omega)) (fun S2 r q2 => ?_))
      obtain ⟨e2, q2⟩ := q2
      rw [e2]
      refine Rt.bd (pV_mk (v := .int r) hy1 (hyS.trans a1) (Nat.le_of_ble_eq_true rfl)) ?_
      -- the arm's variant is told
      have hcs : cs (ZF R.S (xs k)) (.inr (13, [.int (nI (ps k)), .int r, .ref na, .int (nI mk), .ref (xs k + 2), .ref bk])) := by
        rw [a1]
        exact cs_put (k := 1) (c := 13) (gs := [.int (nI (ps k)), .int 0, .ref na, .int (nI mk), .ref (xs k + 2), .ref bk]) (cs_rf _) rfl
      have hne : ∀ (k9 : Nat) (vs : List Value), k9 ≠ 13 → ¬ ZF S1 (xs k) = .inr (k9, vs) := fun k9 vs hk w => by rw [hyS, a1] at w; cases w; exact hk rfl
      have v3 : VX R (fun a => a = xs k) S1 (UF S1 (xs k) (.inr (13, [.int (nI (ps k)), .int r, .ref na, .int (nI mk), .ref (xs k + 2), .ref bk]))) := VX.uf rfl (fun vs => hne _ _ (by decide)) (fun vs => hne _ _ (by decide))
      have w3 : VW S1 (UF S1 (xs k) (.inr (13, [.int (nI (ps k)), .int r, .ref na, .int (nI mk), .ref (xs k + 2), .ref bk]))) := ⟨rfl, rfl, rfl, fun u9 ix nm ty mu q => ⟨q.1, (ZF_n (fun e => hne 21 _ (by decide) (e ▸ q.2))).trans q.2⟩⟩
      have y3 := d1.vw (p := ps k) (q := ps (k + 1)) (d1.1.uf hyL hcs) (v3.mo (fun a e => e ▸ hXy)) w3
      have c3 : ZF (UF S1 (xs k) (.inr (13, [.int (nI (ps k)), .int r, .ref na, .int (nI mk), .ref (xs k + 2), .ref bk]))) (xs k) = .inr (13, [.int (nI (ps k)), .int r, .ref na, .int (nI mk), .ref (xs k + 2), .ref bk]) := ZF_s
      have f3 : ∀ b9 : Nat, b9 ≠ xs k → ZF (UF S1 (xs k) (.inr (13, [.int (nI (ps k)), .int r, .ref na, .int (nI mk), .ref (xs k + 2), .ref bk]))) b9 = ZF S1 b9 := fun _ hb => ZF_n hb
      have z3 : Zi (UF S1 (xs k) (.inr (13, [.int (nI (ps k)), .int r, .ref na, .int (nI mk), .ref (xs k + 2), .ref bk]))) 3 = 0 := z1
      have zq3 : Zq (UF S1 (xs k) (.inr (13, [.int (nI (ps k)), .int r, .ref na, .int (nI mk), .ref (xs k + 2), .ref bk]))) 22 = Zq S1 22 := rfl
      show Rt (f_typeMatch_165 R.K V (f_typeMatch_119 R.K V m) bigN (UF S1 (xs k) (.inr (13, [.int (nI (ps k)), .int r, .ref na, .int (nI mk), .ref (xs k + 2), .ref bk]))) (some a) (some (R.ws i)) (nI k) (some (xs k)) 0 (nI 0)) _
      suffices hmain : ∀ S3 : Sg, VX R (fun a => a = xs k) S1 S3 → YS R (c + (ps k - (q0 + 1))) (nv + (vs k - v)) S3 Γ Λ1 fi gv → ZF S3 (xs k) = .inr (13, [.int (nI (ps k)), .int r, .ref na, .int (nI mk), .ref (xs k + 2), .ref bk]) → (∀ b9 : Nat, b9 ≠ xs k → ZF S3 b9 = ZF S1 b9) → Zi S3 3 = 0 → Zq S3 22 = Zq S1 22 → Rt (f_typeMatch_165 R.K V (f_typeMatch_119 R.K V m) bigN S3 (some a) (some (R.ws i)) (nI k) (some (xs k)) 0 (nI 0)) (fun S2 _ => StP R c0 nv S0 Γ Λ0 fi gv (n + 1 + 1) 0 a p q b b2 v w (0, 0, 0) S2) by
        exact hmain _ v3 y3 c3 f3 z3 zq3
      clear v3 w3 y3 c3 f3 z3 zq3 hcs
      intro S3 v3 y3 c3 f3 z3 zq3
      have v3' : VX R (Xo R (q0 + 1) (q - 1)) S S3 := v1.tr v3 (fun a e => e ▸ Xo_mo hXy (by omega) (by omega))
      have v3k : VX R (Xo R (q0 + 1) (ps (k + 1))) S S3 := (v2.mo (fun a w => Xo_mo w (Nat.le_refl _) (by omega))).tr v3 (fun a e => e ▸ Xo_mo hXy (by omega) (Nat.le_refl _))
      have ce3 := hcell v3'
      have hws3 : ZF S3 (R.ws i) = .inr (16, fs) := (v3'.nx n1).trans n3
      have hvr3 : ZF S3 vr = .inl (R.K.1 13, 13, .inr (.inr (.inr (.inr fv)))) := (v3'.nx m2).trans m3
      have harr3 := (y3.2.2.2.2.1.q hK har hfa (by decide) (by decide) (by decide) (by decide)).2
      have hy3 := y3.1.L hyL
      -- a bad state goes on
      have hgo : ∀ S4 : Sg, ¬ Zi S4 3 = 0 → TS R (c + (ps k - (q0 + 1))) (nv + (vs k - v)) S4 → VX R (Xo R (q0 + 1) (q - 1)) S S4 → Rt (f_typeMatch_256 R.K V (f_typeMatch_119 R.K V m) S4 (some a) (some (R.ws i)) (nI k) (some (xs k))) (fun S2 _ => StP R c0 nv S0 Γ Λ0 fi gv (n + 1 + 1) 0 a p q b b2 v w (0, 0, 0) S2) := fun S4 z4 t4 v4 => by
        unfold f_typeMatch_256 f_typeMatch_280
        rw [nI_1]
        exact Rt.ok (fun z => absurd z z4) (fun _ => ih (k + 1) (vf := vf) (by omega) (by omega) t4 (by omega) (by omega) v4 (fun z => absurd z z4))
      have h212 : Rt (f_typeMatch_212 R.K V (f_typeMatch_119 R.K V m) S3 (some a) (some (R.ws i)) (nI k) (some (xs k))) (fun S2 _ => StP R c0 nv S0 Γ Λ0 fi gv (n + 1 + 1) 0 a p q b b2 v w (0, 0, 0) S2) := by
        unfold f_typeMatch_212
        exact Rt.bd (oI_mk hy3 c3 (v := nI (ps k)) rfl) (Rt.be (fai_ y3.1 (by omega)) (hgo _ (flS_n0 (by decide)) y3.1.fl (v3'.n VX.fl)))
      have h165 : ∀ (m2' j : Nat) (ag : Int32), k < j + m2' → j ≤ k → (ag = 0 → ∀ j2 : Nat, j2 < j → r ≠ nI (vf j2)) → Rt (f_typeMatch_165 R.K V (f_typeMatch_119 R.K V m) m2' S3 (some a) (some (R.ws i)) (nI k) (some (xs k)) ag (nI j)) (fun S2 _ => StP R c0 nv S0 Γ Λ0 fi gv (n + 1 + 1) 0 a p q b b2 v w (0, 0, 0) S2) := by
        intro m2'
        induction m2' with
        | zero => intro j ag a b; omega
        | succ m2' ih2 =>
          intro j ag h9 hjk hag
          unfold f_typeMatch_165 f_typeMatch_193
          refine Rt.it (fun w => ?_) (fun w => ?_)
          · have hjk2 : k ≤ j := (nI_leI (a := k) (b := j) (by omega) (by omega)).mp w
            refine Rt.bd (oI_mk hy3 c3 (v := r) rfl) ?_
            rcases q2 with q2 | ⟨kf, s9, x1, x5, x2, x3, x4⟩
            · rw [q2]; exact Rt.ip (by decide) h212
            rw [x5]
            refine Rt.iq (nI_pos (by omega)) (Rt.it (fun w0 => ?_) (fun _ => h212))
            obtain ⟨pa, mk2, f9, e1, e3, tx, e4, e5⟩ := hpar v3' x1
            have hpa0 : ∃ ws : List Value, ZF S3 pa = .inr (17, ws) ∧ ws[0]? = some (.int (nI mk2)) ∧ mk2 ≤ 12 := by
              rcases e3.2 with ⟨w1, w2⟩ | ⟨wa, ta, w1, w2, w3⟩
              · subst w2; exact ⟨_, w1, rfl, by omega⟩
              · exact ⟨_, w1, rfl, w2⟩
            obtain ⟨ws, p1, p2, p3⟩ := hpa0
            rw [x5] at c3
            refine Rt.bd (oR_mk (v := some vr) (y3.1.L n1.1) hws3 m1) (Rt.bd (oI_mk hy3 c3 (v := nI kf) rfl) (Rt.bd (aQ_n (y3.1.L m2.1) hvr3 (show kf < 13 by omega) (by decide)) ?_))
            rw [e1]
            refine Rt.bd (oI_mk (y3.1.L e3.1.1) p1 p2) (Rt.bd (oI_mk hy3 c3 (v := nI mk) rfl) (Rt.it (fun wm => ?_) (fun _ => ?_)))
            · have hmm : mk2 = mk := (nI_eq (a := mk2) (b := mk) (by omega) (by omega)).mp wm
              subst hmm
              -- the arm is typed
              unfold f_typeMatch_256 f_typeMatch_280
              refine Rt.ok (fun _ => ?_) (fun z => absurd z3 z)
              refine Rt.bd (oR_mk (v := some vr) (y3.1.L n1.1) hws3 m1) (Rt.bd (oI_mk hy3 c3 (v := nI kf) rfl) (Rt.bd (aQ_n (y3.1.L m2.1) hvr3 (show kf < 13 by omega) (by decide)) ?_))
              rw [e1, nI_1]
              have hvS : ZF S3 (xs k + 2) = ZF R.S (xs k + 2) := (f3 _ (by omega)).trans ((v2.2.1 _ a3 (fun x9 => Xo_dj hXv x9 (Or.inr (Nat.le_refl _)))).trans (hU _ a3 (Xo_mo hXv (by omega) (by omega))))
              have hU3 : Unt R S3 (p' + 1) (ps (k + 1)) := fun a9 ha9 w9 => (f3 a9 (fun e => by rw [e] at w9; exact Xo_dj (Or.inl ⟨ps k, hoy, Nat.le_refl _, Nat.lt_succ_self _⟩) w9 (Or.inl (by omega)))).trans ((v2.2.1 a9 ha9 (fun x9 => Xo_dj w9 x9 (Or.inr (by omega)))).trans (hU a9 ha9 (Xo_mo w9 (by omega) (by omega))))
              refine Rt.bn (tam_ hK (hV n (by omega)) y3 z3 d3 (show vs (k + 1) ≤ 40 by omega) (by omega) (by omega) ha ce3 rfl rfl ⟨_, hG⟩ hbd hyL a1 c3 a2 a4 a7 a3 a5 hvS a6 e5 e3 e4 a8 a9 hU3 (by omega)) (fun S4 _ q4 => ?_)
              obtain ⟨c4, nv4, l1, l2, l3, l4, l5⟩ := q4
              have v4 : VX R (Xo R (ps k) (ps (k + 1))) S3 S4 := l4.mo (fun a w => w.elim (fun e => e ▸ hXv) (fun w => Xo_mo w (by omega) (Nat.le_refl _)))
              have v4k : VX R (Xo R (q0 + 1) (ps (k + 1))) S S4 := v3k.tr v4 (fun a w => Xo_mo w (by omega) (Nat.le_refl _))
              refine ih (k + 1) (vf := fun j => if j = k then kf else vf j) (by omega) (by omega) l3 (by omega) (by omega) (v4k.mo (fun a w => Xo_mo w (Nat.le_refl _) (by omega))) (fun z4 => ⟨v4k, ?_⟩)
              obtain ⟨Λ2, o1, o2, o3, o4, o5⟩ := l5 z4
              refine ⟨Λ2, ?_, d2.tr o2, o3, fun k9 hk9 => by rw [o4 k9 hk9, zq3, d4 k9 hk9], fun j9 hj9 => ?_⟩
              · have := o1.up (c2 := c + (ps (k + 1) - (q0 + 1))) (by omega)
                rw [sub3 hm1.2 hm3.2] at this
                exact this
              · by_cases e0 : j9 = k
                · subst e0
                  rw [if_pos rfl]
                  refine ⟨x1, o5, fun j2 hj2 => ?_⟩
                  rw [if_neg (by omega)]
                  exact fun e => hag w0 j2 (by omega) (by rw [x5, e])
                · rw [if_neg e0]
                  obtain ⟨r1, r2, r3⟩ := d5 j9 (by omega)
                  have hmi := j8 (j9 + 1) k (by omega) hk2
                  refine ⟨r1, sN_vx ((v3.mo (fun a e => e ▸ hXy)).tr v4 (fun _ w => w)) o2 r2 (Or.inl (by omega)), fun j2 hj2 => ?_⟩
                  rw [if_neg (by omega)]; exact r3 j2 hj2
            · exact Rt.bd (oI_mk hy3 c3 (v := nI (ps k)) rfl) (Rt.be (fai_ y3.1 (by omega)) (hgo _ (flS_n0 (by decide)) y3.1.fl (v3'.n VX.fl)))
          · have hjlt : j < k := by
              rcases Nat.lt_or_ge j k with z | z
              · exact z
              · exact absurd (nI_le z (by omega)) w
            refine Rt.bd (oR_mk (y3.1.L ha) ce3 (v := some ar) rfl) (Rt.bd (aQ_j (y3.1.L har) harr3 (show j < cap by omega) (by omega)) ?_)
            rw [(j7 j (by omega)).1]
            obtain ⟨r1, r2, r3⟩ := d5 j hjlt
            have hmi := j8 (j + 1) k (by omega) hk2
            have r2' : sN R S3 Λ1 gv (n + 1) 2 (xs j) (ps j) (ps (j + 1)) (bs j) (bs (j + 1)) (vs j) (vs (j + 1)) Γ Γ (i, vf j, bd) := sN_vx (v3.mo (fun a e => e ▸ hXy)) pfx.rf r2 (Or.inl (by omega))
            obtain ⟨⟨b1', b2', b3'⟩, na9, bk9, mk9, p9, fv9, tx9, us9, b4', _⟩ := r2'
            refine Rt.bd (oI_mk (y3.1.L b1') b4' (v := nI (vf j)) rfl) (Rt.bd (oI_mk hy3 c3 (v := r) rfl) ?_)
            rw [nI_1]
            refine Rt.it (fun _ => ih2 (j + 1) 1 (by omega) (by omega) (fun w => absurd w (by decide))) (fun wv => ih2 (j + 1) ag (by omega) (by omega) (fun w j2 hj2 => ?_))
            by_cases e0 : j2 = j
            · subst e0; exact fun e => wv e.symm
            · exact hag w j2 (by omega)
      exact h165 bigN 0 0 (by show k < 0 + 1000000000000; omega) (Nat.zero_le _) (fun _ j2 hj2 => absurd hj2 (by omega))
  have hst := hloop bigN 0 (S1 := S) (vf := fun _ => 0) (by show mn < 0 + 1000000000000; omega) (Nat.zero_le _) h.1 (by omega) (by omega) VX.rf (fun _ => ⟨VX.rf, Λ0, by rw [j1, j5, Nat.sub_self, Nat.sub_self]; exact h, pfx.rf, hΛ.trans j5.symm, fun _ _ => rfl, fun j hj => absurd hj (by omega)⟩)
  exact hst
end MAT
end
-- k7.c.lean.txt
section
section MAU
variable {R : yR} {c nv : Nat} {S : Sg} {Γ Λ : List Nat} {fi gv : Nat}
/-- match -/
theorem tmt_ (hK : yRm R) {V : Sg → Option Nat → Option (Sg × Unit)} {n : Nat} (hV : ∀ m : Nat, m < n → BH R fi gv m V) (h : YS R c nv S Γ Λ fi gv) {a p q b b0 b1 b2 v w x ar cap mn p0 q0 : Nat} {mu rf : Int32} {f : Nat → Option Nat} (hz : Zi S 3 = 0) (hΛ : Λ.length = v) (hw : w ≤ 40) (hnv : nv + (w - v) ≤ 10000) (hc : c + (q - p) ≤ 1990) (ha : a ∈ ZL R.S) (hG : ZF R.S a = sxC 5 p 0 mu rf .null (.ref x) .null .null .null .null (.ref ar) mn) (hF : ZF S a = ZF R.S a) (hpq : p < q) (hrf : (rf = 0 ∧ mu = 0 ∧ b0 = b) ∨ (rf = 1 ∧ (mu = 0 ∨ mu = 1) ∧ b0 = b + 1 ∧ plE (ZF R.S) 408 x)) (hp0 : p < p0) (hE : isE (ZL R.S) (ZF R.S) (R.K.1 9) (R.K.1 0) 408 16 x p0 q0 b0 b1) (har : ar ∈ ZL R.S) (hfa : ZF R.S ar = .inl (R.K.1 7, cap, .inr (.inr (.inr (.inr f))))) (hcap : mn ≤ cap) (hJ : chN (isQ R n 2) f mn (q0 + 1) (q - 1) b1 b2 v w) (hU : Unt R S p q) (hq : q ≤ R.T) : Rt (f_typeMatch R.K V S (some a)) (fun S2 _ => StP R c nv S Γ Λ fi gv (n + 1) 0 a p q b b2 v w (0, 0, 0) S2) := by
  have hT := h.1.tb
  have ho : ownT (ZF R.S) a = some p := own_s hG (by omega)
  have c1 := hF.trans hG
  have he1 := h.1.L ha
  have hlx := (isE_mem hE).2
  have hq0 : q0 + 1 ≤ q - 1 := by
    obtain ⟨ps, bs, vs, z1, z2, _, _, _, _, z7⟩ := hJ
    have hps := chJ_ps (P := fun _ => isQ R n 2) (bs := bs) (vs := vs) (fun i x p q b c v w z => (isN_lt z).2) z7 mn 0 (by omega)
    rw [Nat.zero_add] at hps
    omega
  have hUx := hU.su (p2 := p0) (q2 := q0) (by omega) (by omega)
  obtain ⟨bd, hbd⟩ : ∃ bd : Nat, (rf = 0 ∧ bd = 0) ∨ (rf = 1 ∧ mu = 0 ∧ bd = 1) ∨ (rf = 1 ∧ mu = 1 ∧ bd = 2) := by
    rcases hrf with ⟨e, _⟩ | ⟨e, e2 | e2, _⟩
    · exact ⟨0, Or.inl ⟨e, rfl⟩⟩
    · exact ⟨1, Or.inr (Or.inl ⟨e, e2, rfl⟩)⟩
    · exact ⟨2, Or.inr (Or.inr ⟨e, e2, rfl⟩)⟩
  have h98 : ∀ (S3 : Sg) (c3 t : Nat), YS R c3 nv S3 Γ Λ fi gv → c3 ≤ c + (q0 - p0) → VX R (Xo R p0 q0) S S3 → VS S S3 → (∃ (kd ix : Int32) (o : Option Nat), isTy S3 t kd ix o) → (Zi S3 3 = 0 → HD R S3 Γ x p0 q0 b b1 t bd mu rf ∧ ∃ (ix : Int32) (o : Option Nat), isTy S3 t 4 ix o) → Rt (f_typeMatch_98 R.K V S3 (some a) (some t)) (fun S2 _ => StP R c nv S Γ Λ fi gv (n + 1) 0 a p q b b2 v w (0, 0, 0) S2) := fun S3 c3 t y3 hc3 v3 s3 _ g3 => by
    unfold f_typeMatch_98
    refine Rt.ok (fun z3 => ?_) (fun z3 => Rt.rt (StP.bad (c2 := c3) (nv2 := nv) (by omega) (by omega) y3.1 (v3.mo (fun a w => Xo_mo w (by omega) (by omega))) z3))
    obtain ⟨g4, ix, o, g5⟩ := g3 z3
    obtain ⟨⟨i, w1, w2, w3⟩, w4⟩ := yOK_4 (y3.1.at (by omega) g5).1
    subst w2 w4
    have g5' := g5
    obtain ⟨ti, e1, e2, e3, e4⟩ := g5
    obtain ⟨_, n2, _⟩ := y3.2.2.2.1 i w1
    have ca3 := (s3.2.2.1.2 a 19 _ (Or.inr rfl) he1 c1).2
    have hU3 : Unt R S3 (q0 + 1) (q - 1) := fun a9 ha9 w9 => (v3.2.1 a9 ha9 (fun x9 => Xo_dj w9 x9 (Or.inr (by omega)))).trans (hU a9 ha9 (Xo_mo w9 (by omega) (by omega)))
    refine Rt.bd (oI_mk e3 e4 (v := nI i) rfl) (Rt.bd (y3.1.it w1 n2) ?_)
    exact mt119 hK hV (S0 := S) (c0 := c) y3 z3 hΛ hw hnv (by omega) hc ha hG (ca3.trans hG.symm) hpq hp0 hlx (by omega) hbd har hfa hcap hJ w1 w3 g4 g5' (v3.mo (fun a w => Xo_mo w (by omega) (Nat.le_refl _))) (fun k _ => by rw [s3.2.2.1.1]) rfl hU3 hq
  have hxtok : ∀ {S5 : Sg} {c5 : Nat}, TS R c5 nv S5 → ∃ gs : List Value, x ∈ ZL S5 ∧ ZF S5 x = .inr (15, gs) ∧ gs[1]? = some (.int (nI p0)) := fun {S5 c5} t5 => by
    obtain ⟨vs, k1, k2⟩ := isE_tok hE
    obtain ⟨m1, gs, m2, m3, m4, m5⟩ := t5.ob (isE_mem hE).1 k1
    exact ⟨gs, m1, m2, (m4 1 rfl).trans k2⟩
  -- behind the look at the exp: it may have to be mutable
  have h26 : ∀ (S3 : Sg) (c3 t : Nat), YS R c3 nv S3 Γ Λ fi gv → c3 ≤ c + (q0 - p0) → VX R (Xo R p0 q0) S S3 → VS S S3 → (∃ (kd ix : Int32) (o : Option Nat), isTy S3 t kd ix o) → (Zi S3 3 = 0 → (rf = 0 ∧ xE R S3 Γ 408 16 x p0 q0 b b1 t) ∨ (rf = 1 ∧ b1 = b + 1 ∧ ∃ (vv m2 w2 : Nat) (π : List (Nat × Nat)), xPl R S3 Γ 408 x p0 q0 vv π t m2 w2 ∧ π.length ≤ 4)) → Rt (f_typeMatch_26 R.K V S3 (some a) (some t)) (fun S2 _ => StP R c nv S Γ Λ fi gv (n + 1) 0 a p q b b2 v w (0, 0, 0) S2) := fun S3 c3 t y3 hc3 v3 s3 u3 g3 => by
    have ca3 := s3.2.2.1.2 a 19 _ (Or.inr rfl) he1 c1
    have hfl : ∀ {Q : Sg → Unit → Prop} (k : Rt (f_typeMatch_98 R.K V (flS S3 4 (Zr S3 6 p0)) (some a) (some t)) Q), Rt ((oR S3 19 (some a) 6).bind fun v22 => (oI S3 15 v22 1).bind fun v23 => bnd (f_fail R.K S3 4 v23) fun S24 v25 => f_typeMatch_98 R.K V S24 (some a) (some t)) Q := fun {Q} k => by
      obtain ⟨gs, m1, m2, m3⟩ := hxtok y3.1
      exact Rt.bd (oR_mk ca3.1 ca3.2 (v := some x) rfl) (Rt.bd (oI_mk m1 m2 m3) (Rt.be (fai_ y3.1 (by omega)) k))
    have hbad98 : ∀ wh : Int32, wh ≠ 0 → Rt (f_typeMatch_98 R.K V (flS S3 wh (Zr S3 6 p0)) (some a) (some t)) (fun S2 _ => StP R c nv S Γ Λ fi gv (n + 1) 0 a p q b b2 v w (0, 0, 0) S2) := fun wh hwh => h98 _ c3 t y3.fl hc3 (v3.n VX.fl) (s3.tr VS.fl) (by obtain ⟨k, i, o, u⟩ := u3; exact ⟨k, i, o, (VX.fl (R := R) (X := nX)).2.2.2.1 _ _ _ _ u⟩) (fun z => absurd z (flS_n0 hwh))
    have h54 : (Zi S3 3 = 0 → ∃ (ix : Int32) (o : Option Nat), isTy S3 t 4 ix o) → Rt (f_typeMatch_54 R.K V S3 (some a) (some t)) (fun S2 _ => StP R c nv S Γ Λ fi gv (n + 1) 0 a p q b b2 v w (0, 0, 0) S2) := fun h4 => by
      unfold f_typeMatch_54
      refine Rt.ok (fun z3 => ?_) (fun z3 => h98 S3 c3 t y3 hc3 v3 s3 u3 (fun z => absurd z z3))
      refine Rt.bd (oI_mk ca3.1 ca3.2 (v := rf) rfl) (Rt.it (fun w0 => ?_) (fun w0 => ?_))
      · refine h98 S3 c3 t y3 hc3 v3 s3 u3 (fun z => ⟨Or.inl ?_, h4 z⟩)
        rcases hrf with ⟨_, e2, _⟩ | ⟨e, _⟩
        · rcases g3 z with ⟨_, g4⟩ | ⟨e, _⟩
          · rcases hbd with ⟨_, e5⟩ | ⟨e5, _⟩ | ⟨e5, _⟩
            · exact ⟨w0, e2, e5, g4⟩
            · rw [w0] at e5; exact absurd e5 (by decide)
            · rw [w0] at e5; exact absurd e5 (by decide)
          · rw [w0] at e; exact absurd e (by decide)
        · rw [w0] at e; exact absurd e (by decide)
      · rcases g3 z3 with ⟨e, _⟩ | ⟨e1, e2, vv, m2, w2, π, e3, e4⟩
        · exact absurd e w0
        refine Rt.bd (oI_mk ca3.1 ca3.2 (v := mu) rfl) (Rt.it (fun w1 => ?_) (fun w1 => ?_))
        · refine h98 S3 c3 t y3 hc3 v3 s3 u3 (fun z => ⟨Or.inr ⟨e1, e2, vv, m2, w2, π, Or.inl ⟨w1, ?_⟩, e3, e4⟩, h4 z⟩)
          rcases hbd with ⟨e, _⟩ | ⟨_, _, e⟩ | ⟨_, e, _⟩
          · exact absurd e w0
          · exact e
          · rw [w1] at e; exact absurd e (by decide)
        · refine Rt.bd (oR_mk ca3.1 ca3.2 (v := some x) rfl) (Rt.bn (mut_ (K := R.K) (fun a ha => y3.1.L ha) e3 (d := 410) (by decide) (by decide)) (fun S7 r7 q7 => ?_))
          obtain ⟨e7, q7⟩ := q7
          rw [e7]
          refine Rt.it (fun _ => hfl (hbad98 4 (by decide))) (fun w7 => h98 S3 c3 t y3 hc3 v3 s3 u3 (fun z => ⟨Or.inr ⟨e1, e2, vv, m2, w2, π, Or.inr ?_, e3, e4⟩, h4 z⟩))
          have hm2 : m2 = 1 := by
            have := (xPl_c e3).2.2.2.1.1
            rcases Nat.lt_or_ge m2 1 with w6 | w6
            · rw [show m2 = 0 by omega] at q7; exact absurd q7 w7
            · omega
          rcases hbd with ⟨e, _⟩ | ⟨_, e, _⟩ | ⟨_, e, e9⟩
          · exact absurd e w0
          · exact absurd e w1
          · exact ⟨e, e9, hm2⟩
    unfold f_typeMatch_26
    refine Rt.ok (fun z3 => ?_) (fun z3 => h54 (fun z => absurd z z3))
    obtain ⟨kd, ix, o, u⟩ := u3
    have u' := u
    obtain ⟨ti, e1, e2, e3, e4⟩ := u
    refine Rt.bd (oI_mk e3 e4 (v := kd) rfl) (Rt.it (fun w4 => h54 (fun _ => ⟨ix, o, by rw [w4] at u'; exact u'⟩)) (fun _ => ?_))
    obtain ⟨gs, m1, m2, m3⟩ := hxtok y3.1
    refine Rt.bd (oR_mk ca3.1 ca3.2 (v := some x) rfl) (Rt.bd (oI_mk m1 m2 m3) (Rt.be (fai_ y3.1 (by omega)) ?_))
    unfold f_typeMatch_54
    exact Rt.ok (fun z => absurd z (flS_n0 (by decide))) (fun _ => hbad98 4 (by decide))
  unfold f_typeMatch
  refine Rt.bd (oI_mk he1 c1 (v := rf) rfl) (Rt.it (fun w0 => ?_) (fun w0 => ?_))
  · refine Rt.bd (oR_mk he1 c1 (v := some x) rfl) (Rt.bn (vst_ hK (by omega) h (show c + (q0 - p0) ≤ 1990 by omega) hE hUx (by omega)) (fun S3 r q3 => ?_))
    obtain ⟨t, rfl, y1, y2, y3, y4, y5⟩ := q3
    refine h26 S3 _ t y1 (Nat.le_refl _) y2 y3 y4 (fun z => Or.inl ⟨w0, ?_⟩)
    rcases hrf with ⟨_, _, e⟩ | ⟨e, _⟩
    · rw [← e]; exact y5 z
    · rw [w0] at e; exact absurd e (by decide)
  · rcases hrf with ⟨e, _⟩ | ⟨e1, e2, e3, e4⟩
    · exact absurd e w0
    have hbb := isE_plb hE e4
    refine Rt.bd (oR_mk he1 c1 (v := some x) rfl) (Rt.bn (plc_ hK (by omega) (show c ≤ 1990 by omega) 408 410 (by decide) (by decide) h.1 h.2.1 h.2.2.2.1 hE e4 hUx (by omega)) (fun S3 r q3 => ?_))
    obtain ⟨t, rfl, y1, y2⟩ := q3
    refine h26 S3 c t (h.vx y1.1 y1.2.1 y1.2.2.1) (by omega) y1.2.1 y1.2.2.1 y1.2.2.2 (fun z => Or.inr ⟨e1, by omega, ?_⟩)
    obtain ⟨vv, π, m2, w2, g1, g2⟩ := y2 z
    exact ⟨vv, m2, w2, π, g1, g2⟩
/-- a statement -/
theorem tst_ (hK : yRm R) {V : Sg → Option Nat → Option (Sg × Unit)} {n : Nat} (hV : ∀ m : Nat, m < n → BH R fi gv m V) : SH R fi gv n V := fun c nv S Γ Λ a p q b b2 v w h hz hΛ hw hnv hc hN hU hq => by
  cases n with
  | zero => exact hN.elim
  | succ n =>
  have hT := h.1.tb
  have hvw := isN_vw hN
  obtain ⟨ha, hpq, hN⟩ := hN
  have hcell : ∀ {kd : Int32} {nm mu rf : Int32} {wr ex pl bl cs bs ar : Value} {mn : Nat}, ZF R.S a = sxC kd p nm mu rf wr ex pl bl cs bs ar mn → ZF S a = ZF R.S a := fun hG => hU a ha (Or.inl ⟨p, own_s hG (by omega), Nat.le_refl _, hpq⟩)
  have he1 := h.1.L ha
  unfold f_typeStatement
  rcases hN with ⟨nm, pm, mu, wr, ex, k1, k2, k3, k4, k5, k8, k6, k7⟩ | ⟨kd, x, p', q', k1, k2, k3, k4, k5, k6⟩ | ⟨x, y, q1, p2, q2, b1, k1, k2, k3, k4, k5, k6, k7⟩ | ⟨ca, ba, cap, mn, f, g, k1, k2, k3, k4, k5, k6, k7, k8, k9⟩ | ⟨x, y, q0, b1, k1, k2, k3⟩ | ⟨x, ar, cap, mn, p0, q0, b0, b1, mu, rf, f, k1, k2, k3, k4, k5, k6, k7, k8⟩ | ⟨ex, k1, k2, k3⟩ | ⟨y, k1, k2⟩
  · have hF := hcell k1
    subst k5
    refine Rt.bd (oI_mk he1 (hF.trans k1) (v := 0) rfl) (Rt.ip rfl (Rt.bn (tlt_ hK h hz hΛ (by omega) (by omega) hc ha k1 hF hpq k2 k3 k4 k8 k6 k7 hU hq) (fun S2 _ q2 => Rt.rt q2)))
  · have hF := hcell k2
    subst k6
    have hx := tex_ (n := n) hK (by omega) h hz hΛ hc ha k2 hF hpq k3 k4 k5 hU hq
    refine Rt.bd (oI_mk he1 (hF.trans k2) (v := kd) rfl) ?_
    unfold f_typeStatement_238
    rcases k1 with e | e
    · have hx1 := hx.1 e
      subst e
      exact Rt.iq (by decide) (Rt.ip rfl hx1)
    · have hx1 := hx.2 e
      subst e
      exact Rt.iq (by decide) (Rt.iq (by decide) (Rt.iq (by decide) (Rt.iq (by decide) (Rt.iq (by decide) (Rt.iq (by decide) (Rt.iq (by decide) (Rt.ip rfl hx1)))))))
  · have hF := hcell k1
    subst k7
    exact Rt.bd (oI_mk he1 (hF.trans k1) (v := 2) rfl) (Rt.iq (by decide) (Rt.iq (by decide) (Rt.ip rfl (Rt.bn (tas_ hK (by omega) h hz hΛ hc ha k1 hF hpq k2 k3 k4 k5 k6 hU hq) (fun S2 _ q2 => Rt.rt q2)))))
  · have hF := hcell k1
    exact Rt.bd (oI_mk he1 (hF.trans k1) (v := 3) rfl) (Rt.iq (by decide) (Rt.iq (by decide) (Rt.iq (by decide) (Rt.ip rfl (tif_ hK (hV n (by omega)) h hz hΛ hw hnv hc ha k1 hF hpq k2 k3 k4 k5 k6 k7 k8 k9 hU hq)))))
  · have hF := hcell k1
    unfold f_typeStatement_238
    exact Rt.bd (oI_mk he1 (hF.trans k1) (v := 4) rfl) (Rt.iq (by decide) (Rt.iq (by decide) (Rt.iq (by decide) (Rt.iq (by decide) (Rt.ip rfl (twh_ hK (hV n (by omega)) h hz hΛ hw hnv hc ha k1 hF hpq k2 k3 hU hq))))))
  · have hF := hcell k1
    exact Rt.bd (oI_mk he1 (hF.trans k1) (v := 5) rfl) (Rt.iq (by decide) (Rt.iq (by decide) (Rt.iq (by decide) (Rt.iq (by decide) (Rt.iq (by decide) (Rt.ip rfl (Rt.bn (tmt_ hK (fun m hm => hV m (by omega)) h hz hΛ hw hnv hc ha k1 hF hpq k2 k3 k4 k5 k6 k7 k8 hU hq) (fun S2 _ q2 => Rt.rt q2))))))))
  · have hF := hcell k1
    have k3e := k3.1
    subst k3e
    exact Rt.bd (oI_mk he1 (hF.trans k1) (v := 6) rfl) (Rt.iq (by decide) (Rt.iq (by decide) (Rt.iq (by decide) (Rt.iq (by decide) (Rt.iq (by decide) (Rt.iq (by decide) (Rt.ip rfl (Rt.bn (trt_ hK (by omega) h hz hΛ hc ha k1 hF hpq k2 k3.2 hU hq) (fun S2 _ q2 => Rt.rt q2)))))))))
  · have hF := hcell k1
    unfold f_typeStatement_238
    exact Rt.bd (oI_mk he1 (hF.trans k1) (v := 8) rfl) (Rt.iq (by decide) (Rt.iq (by decide) (Rt.iq (by decide) (Rt.iq (by decide) (Rt.iq (by decide) (Rt.iq (by decide) (Rt.iq (by decide) (Rt.iq (by decide) (tbl_ (hV n (by omega)) h hz hΛ hw hnv hc ha k1 hF hpq k2 hU hq)))))))))
/-- typeBlock -/
theorem blT (hK : yRm R) : ∀ (N n d : Nat), n ≤ N → n ≤ d → BH R fi gv n (f_typeBlock R.K d)
  | 0, n, d, hN, _ => fun c nv S Γ Λ a p q b b2 v w _ _ _ _ _ _ hB _ _ => by rw [show n = 0 by omega] at hB; exact hB.elim
  | N + 1, 0, d, _, _ => fun c nv S Γ Λ a p q b b2 v w _ _ _ _ _ _ hB _ _ => hB.elim
  | N + 1, n + 1, 0, _, hd => absurd hd (by omega)
  | N + 1, n + 1, d + 1, hN, hd => fun c nv S Γ Λ a p q b b2 v w h hz hΛ hw hnv hc hB hU hq => by
    unfold f_typeBlock
    exact blk7 hK (tst_ hK (fun m hm => blT hK N m d (by omega) (by omega))) h hz hΛ hw hnv hc hB hU hq
end MAU
end
-- k7.d.lean.txt
section
/-- a statement ends the way: it returns, or all of its blocks do -/
def eS (S : Sg) (P : Nat → Prop) (a : Nat) : Prop := ∃ fs : List Value, ZF S a = .inr (19, fs) ∧ (fs[0]? = some (.int 6) ∨ (fs[0]? = some (.int 8) ∧ ∃ y : Nat, fs[9]? = some (.ref y) ∧ P y) ∨
  (fs[0]? = some (.int 5) ∧ ∃ (ar mn cap : Nat) (k9 : ClassId) (f : Nat → Option Nat), fs[12]? = some (.ref ar) ∧ fs[13]? = some (.int (nI mn)) ∧ mn ≤ 100000 ∧ ZF S ar = .inl (k9, cap, .inr (.inr (.inr (.inr f)))) ∧ ∀ k : Nat, k < mn → ∃ (y bk : Nat) (ys : List Value), f k = some y ∧ ZF S y = .inr (13, ys) ∧ ys[5]? = some (.ref bk) ∧ P bk) ∨
  (fs[0]? = some (.int 3) ∧ ∃ (ca ba mn cap cap2 : Nat) (k8 k9 : ClassId) (f g : Nat → Option Nat), fs[10]? = some (.ref ca) ∧ fs[11]? = some (.ref ba) ∧ fs[13]? = some (.int (nI mn)) ∧ 1 ≤ mn ∧ mn ≤ 100000 ∧ ZF S ca = .inl (k8, cap, .inr (.inr (.inr (.inr f)))) ∧ f (mn - 1) = none ∧ ZF S ba = .inl (k9, cap2, .inr (.inr (.inr (.inr g)))) ∧ ∀ k : Nat, k < mn → ∃ y : Nat, g k = some y ∧ P y))
/-- a block ends the way -/
def eB (S : Sg) : Nat → Nat → Prop
  | 0, _ => False
  | d + 1, a => ∃ (fs : List Value) (la mn cap k y : Nat) (k9 : ClassId) (f : Nat → Option Nat), ZF S a = .inr (14, fs) ∧ fs[2]? = some (.ref la) ∧ fs[3]? = some (.int (nI mn)) ∧ mn ≤ 100000 ∧ ZF S la = .inl (k9, cap, .inr (.inr (.inr (.inr f)))) ∧ k < mn ∧ f k = some y ∧ eS S (eB S d) y
section END
variable {R : yR} {c nv : Nat} {S : Sg} {Λ : List Nat} {gv : Nat}
/-- ends, of a block -/
theorem chJ_le {P : Nat → Nat → Nat → Nat → Nat → Nat → Nat → Nat → Prop} {f : Nat → Option Nat} {n p q b c v w : Nat} (h : chJ P f n p q b c v w) (hlt : ∀ i x p q b c v w : Nat, P i x p q b c v w → p < q) : n ≤ q - p ∧ p ≤ q := by
  obtain ⟨ps, bs, vs, h1, h2, h3, h4, h5, h6, h7⟩ := h
  have : ∀ d : Nat, d ≤ n → ps 0 + d ≤ ps d := by
    intro d
    induction d with
    | zero => exact fun _ => Nat.le_refl _
    | succ d ih =>
      intro hd
      obtain ⟨x, _, g⟩ := h7 d (by omega)
      have := hlt _ _ _ _ _ _ _ _ g
      have := ih (by omega)
      omega
  have := this n (Nat.le_refl _)
  omega
/-- each of a chain, its tokens inside -/
theorem chJ_el {P : Nat → Nat → Nat → Nat → Nat → Nat → Nat → Nat → Prop} {f : Nat → Option Nat} {n p q b c v w : Nat} (h : chJ P f n p q b c v w) (hlt : ∀ i x p q b c v w : Nat, P i x p q b c v w → p < q) (i : Nat) (hi : i < n) : ∃ x p1 q1 b1 c1 v1 w1 : Nat, f i = some x ∧ q1 ≤ q ∧ P i x p1 q1 b1 c1 v1 w1 ∧ p ≤ p1 := by
  obtain ⟨ps, bs, vs, h1, h2, h3, h4, h5, h6, h7⟩ := h
  obtain ⟨x, g1, g2⟩ := h7 i hi
  have := chJ_ps hlt h7 (n - (i + 1)) (i + 1) (by omega)
  rw [show i + 1 + (n - (i + 1)) = n by omega, h2] at this
  have h9 := chJ_ps hlt h7 i 0 (by omega)
  rw [Nat.zero_add, h1] at h9
  exact ⟨x, _, _, _, _, _, _, g1, this, g2, h9⟩
theorem e99_ {K : Ky} {V : Sg → Option Nat → Option (Sg × Int32)} {S : Sg} {a mn : Nat} {ba : Option Nat} {P : Nat → Prop} (hmn : mn ≤ 100000) (h13 : oI S 19 (some a) 13 = some (nI mn)) (h11 : oR S 19 (some a) 11 = some ba) (hg : ∀ k : Nat, k < mn → ∃ y : Nat, aQ K 10 S ba (nI k) = some (some y) ∧ Rt (V S (some y)) (fun S2 r => S2 = S ∧ (r = 0 ∨ (r = 1 ∧ P k)))) : ∀ (m k : Nat), mn < k + m → k ≤ mn → (∀ i : Nat, i < k → P i) → Rt (f_ends__99 K V m S (some a) (nI k)) (fun S2 r => S2 = S ∧ (r = 0 ∨ (r = 1 ∧ ∀ i : Nat, i < mn → P i)))
  | 0, k, h, h2, _ => by omega
  | m + 1, k, h, h2, hp => by
    unfold f_ends__99
    refine Rt.bd h13 (Rt.it (fun w9 => ?_) (fun w9 => ?_))
    · have := (nI_leI (a := mn) (b := k) (by omega) (by omega)).mp w9
      exact Rt.zr (Or.inr rfl) ⟨rfl, Or.inr ⟨rfl, fun i hi => hp i (by omega)⟩⟩
    have hlt : k < mn := by
      rcases Nat.lt_or_ge k mn with z | z
      · exact z
      · exact absurd (nI_le z (by omega)) w9
    obtain ⟨y, g1, g2⟩ := hg k hlt
    refine Rt.bd h11 (Rt.bd g1 (Rt.bn g2 (fun S2 r q2 => ?_)))
    obtain ⟨e2, q2⟩ := q2
    rw [e2]
    rcases q2 with q2 | ⟨q2, q3⟩
    · exact Rt.ip q2 (Rt.zr (Or.inl rfl) ⟨rfl, Or.inl rfl⟩)
    · refine Rt.iq (by rw [q2]; decide) ?_
      rw [nI_1]
      exact e99_ hmn h13 h11 hg m (k + 1) (by omega) (by omega) (fun i hi => by
        rcases Nat.lt_or_ge i k with z | z
        · exact hp i z
        · rw [show i = k by omega]; exact q3)
theorem e39_ {K : Ky} {V : Sg → Option Nat → Option (Sg × Int32)} {S : Sg} {a mn : Nat} {ba : Option Nat} {P : Nat → Prop} (hmn : mn ≤ 100000) (h13 : oI S 19 (some a) 13 = some (nI mn)) (h11 : oR S 19 (some a) 12 = some ba) (hg : ∀ k : Nat, k < mn → ∃ x y : Nat, aQ K 7 S ba (nI k) = some (some x) ∧ oR S 13 (some x) 5 = some (some y) ∧ Rt (V S (some y)) (fun S2 r => S2 = S ∧ (r = 0 ∨ (r = 1 ∧ P k)))) : ∀ (m k : Nat), mn < k + m → k ≤ mn → (∀ i : Nat, i < k → P i) → Rt (f_ends__39 K V m S (some a) (nI k)) (fun S2 r => S2 = S ∧ (r = 0 ∨ (r = 1 ∧ ∀ i : Nat, i < mn → P i)))
  | 0, k, h, h2, _ => by omega
  | m + 1, k, h, h2, hp => by
    unfold f_ends__39
    refine Rt.bd h13 (Rt.it (fun w9 => ?_) (fun w9 => ?_))
    · have := (nI_leI (a := mn) (b := k) (by omega) (by omega)).mp w9
      exact Rt.zr (Or.inr rfl) ⟨rfl, Or.inr ⟨rfl, fun i hi => hp i (by omega)⟩⟩
    have hlt : k < mn := by
      rcases Nat.lt_or_ge k mn with z | z
      · exact z
      · exact absurd (nI_le z (by omega)) w9
    obtain ⟨x, y, g0, g1, g2⟩ := hg k hlt
    refine Rt.bd h11 (Rt.bd g0 (Rt.bd g1 (Rt.bn g2 (fun S2 r q2 => ?_))))
    obtain ⟨e2, q2⟩ := q2
    rw [e2]
    rcases q2 with q2 | ⟨q2, q3⟩
    · exact Rt.ip q2 (Rt.zr (Or.inl rfl) ⟨rfl, Or.inl rfl⟩)
    · refine Rt.iq (by rw [q2]; decide) ?_
      rw [nI_1]
      exact e39_ hmn h13 h11 hg m (k + 1) (by omega) (by omega) (fun i hi => by
        rcases Nat.lt_or_ge i k with z | z
        · exact hp i z
        · rw [show i = k by omega]; exact q3)
theorem e2_ {K : Ky} {V : Sg → Option Nat → Option (Sg × Int32)} {S : Sg} {a mn : Nat} {ba : Option Nat} {P : Nat → Prop} (hmn : mn ≤ 100000) (h13 : oI S 14 (some a) 3 = some (nI mn)) (h11 : oR S 14 (some a) 2 = some ba) (hg : ∀ k : Nat, k < mn → ∃ y : Nat, aQ K 11 S ba (nI k) = some (some y) ∧ Rt (f_ends_ K V S (some y)) (fun S2 r => S2 = S ∧ (r = 0 ∨ (r = 1 ∧ P k)))) : ∀ (m k : Nat), mn < k + m → k ≤ mn → Rt (f_ends_2 K V m S (some a) (nI k)) (fun S2 r => S2 = S ∧ (r = 0 ∨ (r = 1 ∧ ∃ i : Nat, i < mn ∧ P i)))
  | 0, k, h, h2 => by omega
  | m + 1, k, h, h2 => by
    unfold f_ends_2
    refine Rt.bd h13 (Rt.it (fun w9 => ?_) (fun w9 => ?_))
    · exact Rt.zr (Or.inl rfl) ⟨rfl, Or.inl rfl⟩
    have hlt : k < mn := by
      rcases Nat.lt_or_ge k mn with z | z
      · exact z
      · exact absurd (nI_le z (by omega)) w9
    obtain ⟨y, g1, g2⟩ := hg k hlt
    refine Rt.bd h11 (Rt.bd g1 (Rt.bn g2 (fun S2 r q2 => ?_)))
    obtain ⟨e2, q2⟩ := q2
    rw [e2]
    rcases q2 with q2 | ⟨q2, q3⟩
    · refine Rt.ip q2 ?_
      rw [nI_1]
      exact e2_ hmn h13 h11 hg m (k + 1) (by omega) (by omega)
    · exact Rt.iq (by rw [q2]; decide) (Rt.zr (Or.inr rfl) ⟨rfl, Or.inr ⟨rfl, k, hlt, q3⟩⟩)
theorem end_ (hT : TS R c nv S) : ∀ (N n d : Nat), n ≤ N → n ≤ d → ∀ {a p q b b2 v w : Nat} {Γ Γ2 : List Nat} {κ : Nat × Nat × Nat}, sN R S Λ gv n 1 a p q b b2 v w Γ Γ2 κ → q ≤ 100000 → Rt (f_ends R.K d S (some a)) (fun S2 r => S2 = S ∧ ((r = 0) ∨ (r = 1 ∧ eB S d a)))
  | 0, n, d, hN, _, a, p, q, b, b2, v, w, Γ, Γ2, κ, h, _ => by rw [show n = 0 by omega] at h; exact h.elim
  | N + 1, 0, d, _, _, a, p, q, b, b2, v, w, Γ, Γ2, κ, h, _ => h.elim
  | N + 1, n + 1, 0, _, hd, a, p, q, b, b2, v, w, Γ, Γ2, κ, _, _ => absurd hd (by omega)
  | N + 1, n + 1, d + 1, hN, hd, a, p, q, b, b2, v, w, Γ, Γ2, κ, h, hq => by
    obtain ⟨nxa, hpq, _, la, cap, mn, f, gs, k1, k2, k3, k4, k5, k6⟩ := h
    have hml := chJ_le k6 (fun i x p q b c v w z => sN_lt z)
    have hV : ∀ {m : Nat}, m < n → ∀ {a p q b b2 v w : Nat} {Γ Γ2 : List Nat} {κ : Nat × Nat × Nat}, sN R S Λ gv m 1 a p q b b2 v w Γ Γ2 κ → q ≤ 100000 → Rt (f_ends R.K d S (some a)) (fun S2 r => S2 = S ∧ ((r = 0) ∨ (r = 1 ∧ eB S d a))) := fun {m} hm {a p q b b2 v w Γ Γ2 κ} h9 hq9 => end_ hT N m d (by omega) (by omega) h9 hq9
    have hL : ∀ {x : Nat}, x ∈ ZL R.S → x ∈ ZL S := fun h => hT.L h
    -- a statement
    have hS : ∀ {y p1 q1 b1 c1 v1 w1 : Nat} {Γ1 Γ3 : List Nat}, sN R S Λ gv n 0 y p1 q1 b1 c1 v1 w1 Γ1 Γ3 (0, 0, 0) → q1 ≤ 100000 → Rt (f_ends_ R.K (f_ends R.K d) S (some y)) (fun S2 r => S2 = S ∧ ((r = 0) ∨ (r = 1 ∧ eS S (eB S d) y))) := fun {y p1 q1 b1 c1 v1 w1 Γ1 Γ3} hs hq1 => by
      cases n with
      | zero => exact hs.elim
      | succ n =>
      obtain ⟨⟨h1, h2, h3⟩, h5⟩ := hs
      have hy := hL h1
      have hz0 : Rt ((zB 0).bind fun _ => some (S, (0 : Int32))) (fun S2 r => S2 = S ∧ ((r = 0) ∨ (r = 1 ∧ eS S (eB S d) y))) := Rt.zr (Or.inl rfl) ⟨rfl, Or.inl rfl⟩
      unfold f_ends_ f_ends__95
      rcases h5 with ⟨nm, y9, mu, wr, ex, k1, _⟩ | ⟨kd, x, p', q', t, e1, k1, _⟩ | ⟨x, y9, q9, p3, q3, vv, t, mu, mv, π, k1, _⟩ | ⟨ca, ba, cap, mn, f, g, k1, k2, k3, k4, k5, k6, k7, k8, k9, l1⟩ | ⟨x, y9, q0, b9, t, k1, _⟩ | ⟨x, ar, cap, mn, p0, q0, b9, i, t, bd, mu, rf, f, vf, k1, k2, k3, k4, k5, k6, k7, k8, k9, l1, l2, l3⟩ | ⟨ex, k1, _⟩ | ⟨y9, k1, k2, k3⟩
      · exact Rt.bd (oI_mk hy k1 (v := 0) rfl) (Rt.iq (by decide) (Rt.bd (oI_mk hy k1 (v := 0) rfl) (Rt.iq (by decide) (Rt.bd (oI_mk hy k1 (v := 0) rfl) (Rt.iq (by decide) (Rt.bd (oI_mk hy k1 (v := 0) rfl) (Rt.iq (by decide) hz0)))))))
      · have hk : kd ≠ 6 ∧ kd ≠ 8 ∧ kd ≠ 5 ∧ kd ≠ 3 := by rcases e1 with e | ⟨e, _⟩ <;> subst e <;> decide
        exact Rt.bd (oI_mk hy k1 (v := kd) rfl) (Rt.iq hk.1 (Rt.bd (oI_mk hy k1 (v := kd) rfl) (Rt.iq hk.2.1 (Rt.bd (oI_mk hy k1 (v := kd) rfl) (Rt.iq hk.2.2.1 (Rt.bd (oI_mk hy k1 (v := kd) rfl) (Rt.iq hk.2.2.2 hz0)))))))
      · exact Rt.bd (oI_mk hy k1 (v := 2) rfl) (Rt.iq (by decide) (Rt.bd (oI_mk hy k1 (v := 2) rfl) (Rt.iq (by decide) (Rt.bd (oI_mk hy k1 (v := 2) rfl) (Rt.iq (by decide) (Rt.bd (oI_mk hy k1 (v := 2) rfl) (Rt.iq (by decide) hz0)))))))
      · have hml2 := chJ_le l1 (fun i x p q b c v w ⟨p0, b0, _, z2, z3⟩ => by have := sN_lt z3; omega)
        refine Rt.bd (oI_mk hy k1 (v := 3) rfl) (Rt.iq (by decide) (Rt.bd (oI_mk hy k1 (v := 3) rfl) (Rt.iq (by decide) (Rt.bd (oI_mk hy k1 (v := 3) rfl) (Rt.iq (by decide) (Rt.bd (oI_mk hy k1 (v := 3) rfl) (Rt.ip rfl ?_)))))))
        refine Rt.bd (oR_mk hy k1 (v := some ca) rfl) (Rt.bd (oI_mk hy k1 (v := nI mn) rfl) ?_)
        rw [show nI mn - 1 = nI (mn - 1) from nI_sb (b := 1) k2]
        refine Rt.bd (aQ_j (hL k4.1) k6 (show mn - 1 < cap by omega) (by omega)) (Rt.it (fun w9 => ?_) (fun _ => hz0))
        refine (e99_ (by omega) (oI_mk hy k1 (v := nI mn) rfl) (oR_mk hy k1 (v := some ba) rfl) (P := fun k => ∃ y : Nat, g k = some y ∧ eB S d y) (fun k hk => ?_) bigN 0 (by unfold bigN; omega) (Nat.zero_le _) (fun i hi => absurd hi (by omega))).mo (fun S2 r q2 => ⟨q2.1, q2.2.imp id (fun q3 => ⟨q3.1, _, k1, Or.inr (Or.inr (Or.inr ⟨rfl, ca, ba, mn, cap, cap, _, _, f, g, rfl, rfl, rfl, k2, by omega, k6, w9, k7, q3.2⟩))⟩)⟩)
        obtain ⟨x, p1, q2, b1, c1, v1, w1, z1, z2, ⟨p0, b0, _, z4, z5⟩, _⟩ := chJ_el l1 (fun i x p q b c v w ⟨p0, b0, _, z2, z3⟩ => by have := sN_lt z3; omega) k hk
        exact ⟨x, (aQ_j (hL k5.1) k7 (by omega) (by omega)).trans (congrArg some z1), (hV (by omega) z5 (by omega)).mo (fun S2 r q2 => ⟨q2.1, q2.2.imp id (fun q3 => ⟨q3.1, x, z1, q3.2⟩)⟩)⟩
      · exact Rt.bd (oI_mk hy k1 (v := 4) rfl) (Rt.iq (by decide) (Rt.bd (oI_mk hy k1 (v := 4) rfl) (Rt.iq (by decide) (Rt.bd (oI_mk hy k1 (v := 4) rfl) (Rt.iq (by decide) (Rt.bd (oI_mk hy k1 (v := 4) rfl) (Rt.iq (by decide) hz0)))))))
      · have nxr := k6
        have hmn : mn ≤ 12 := by obtain ⟨_, _, _, _, _, _, z⟩ := k5; exact z
        refine Rt.bd (oI_mk hy k1 (v := 5) rfl) (Rt.iq (by decide) (Rt.bd (oI_mk hy k1 (v := 5) rfl) (Rt.iq (by decide) (Rt.bd (oI_mk hy k1 (v := 5) rfl) (Rt.ip rfl ?_)))))
        refine (e39_ (by omega) (oI_mk hy k1 (v := nI mn) rfl) (oR_mk hy k1 (v := some ar) rfl) (P := fun k => ∃ (y bk : Nat) (ys : List Value), f k = some y ∧ ZF S y = .inr (13, ys) ∧ ys[5]? = some (.ref bk) ∧ eB S d bk) (fun k hk => ?_) bigN 0 (by unfold bigN; omega) (Nat.zero_le _) (fun i hi => absurd hi (by omega))).mo (fun S2 r q2 => ⟨q2.1, q2.2.imp id (fun q3 => ⟨q3.1, _, k1, Or.inr (Or.inr (Or.inl ⟨rfl, ar, mn, cap, _, f, rfl, rfl, by omega, k7, q3.2⟩))⟩)⟩)
        obtain ⟨x, p1, q2, b1, c1, v1, w1, z1, z2, z5, _⟩ := chJ_el l1 (fun i x p q b c v w z => sN_lt z) k hk
        cases n with
        | zero => exact z5.elim
        | succ n =>
        obtain ⟨⟨y1, y2, y3⟩, na, bk, mk, p', fv, tx, us, y4, _, _, _, _, _, _, _, _, y5⟩ := z5
        exact ⟨x, bk, (aQ_j (hL nxr.1) k7 (by omega) (by omega)).trans (congrArg some z1), oR_mk (hL y1) y4 (v := some bk) rfl, (hV (by omega) y5 (by omega)).mo (fun S2 r q2 => ⟨q2.1, q2.2.imp id (fun q3 => ⟨q3.1, x, bk, _, z1, y4, rfl, q3.2⟩)⟩)⟩
      · exact Rt.bd (oI_mk hy k1 (v := 6) rfl) (Rt.ip rfl (Rt.zr (Or.inr rfl) ⟨rfl, Or.inr ⟨rfl, _, k1, Or.inl rfl⟩⟩))
      · refine Rt.bd (oI_mk hy k1 (v := 8) rfl) (Rt.iq (by decide) (Rt.bd (oI_mk hy k1 (v := 8) rfl) (Rt.ip rfl (Rt.bd (oR_mk hy k1 (v := some y9) rfl) (Rt.bn (hV (by omega) k2 hq1) (fun S2 r q2 => ?_))))))
        obtain ⟨e2, q2⟩ := q2
        rw [e2]
        rcases q2 with q2 | ⟨q2, q3⟩
        · rw [q2]; exact Rt.zr (Or.inl rfl) ⟨rfl, Or.inl rfl⟩
        · rw [q2]; exact Rt.zr (Or.inr rfl) ⟨rfl, Or.inr ⟨rfl, _, k1, Or.inr (Or.inl ⟨rfl, y9, rfl, q3⟩)⟩⟩
    unfold f_ends
    have hya := hL nxa.1
    refine (e2_ (by omega) (oI_mk hya k1 (v := nI mn) rfl) (oR_mk hya k1 (v := some la) rfl) (P := fun k => ∃ y : Nat, f k = some y ∧ eS S (eB S d) y) (fun k hk => ?_) bigN 0 (by unfold bigN; omega) (Nat.zero_le _)).mo (fun S2 r q2 => ⟨q2.1, q2.2.imp id (fun q3 => ?_)⟩)
    · obtain ⟨x, p1, q2, b1, c1, v1, w1, z1, z2, z5, _⟩ := chJ_el k6 (fun i x p q b c v w z => sN_lt z) k hk
      exact ⟨x, (aQ_j (hL k2.1) k3 (by omega) (by omega)).trans (congrArg some z1), (hS z5 (by omega)).mo (fun S2 r q2 => ⟨q2.1, q2.2.imp id (fun q3 => ⟨q3.1, x, z1, q3.2⟩)⟩)⟩
    · obtain ⟨e3, k, hk, y, z1, z2⟩ := q3
      exact ⟨e3, _, la, mn, cap, k, y, _, f, k1, rfl, rfl, by omega, k3, hk, z1, z2⟩
end END
end
-- k7.e.lean.txt
section
theorem nI_ij {a b : Nat} (h : nI a = nI b) (ha : a ≤ 100000) (hb : b ≤ 100000) : a = b := by
  have e := congrArg Int32.toNatClampNeg h
  rw [nI_clamp (by omega), nI_clamp (by omega)] at e
  exact e
section EBV
variable {R : yR} {S S2 : Sg} {Λ : List Nat} {gv p2 q2 : Nat}
theorem eS_vz (hV : VZ R (Xo R p2 q2) S S2) {P P2 : Nat → Prop} {n : Nat} (hP : ∀ {m : Nat}, m < n → ∀ {a p q b b2 v w : Nat} {Γ Γ2 : List Nat} {κ : Nat × Nat × Nat}, sN R S Λ gv m 1 a p q b b2 v w Γ Γ2 κ → dj p q p2 q2 → q ≤ 100000 → P a → P2 a) {y p q b b2 v w : Nat} {Γ Γ2 : List Nat} (h : sN R S Λ gv n 0 y p q b b2 v w Γ Γ2 (0, 0, 0)) (hd : dj p q p2 q2) (hq : q ≤ 100000) (he : eS S P y) : eS S2 P2 y := by
  cases n with
  | zero => exact h.elim
  | succ n =>
  obtain ⟨⟨h1, h2, h3⟩, h5⟩ := h
  obtain ⟨fs, g1, g2⟩ := he
  have hy : ZF S2 y = ZF S y := hV.1 y h1 (fun x => Xo_dj (Or.inl ⟨p, h2, Nat.le_refl _, h3⟩) x hd)
  refine ⟨fs, hy.trans g1, ?_⟩
  rcases h5 with ⟨nm, y9, mu, wr, ex, k1, _⟩ | ⟨kd, x, p', q', t, e1, k1, _⟩ | ⟨x, y9, q9, p3, q3, vv, t, mu, mv, π, k1, _⟩ | ⟨ca, ba, cap, mn, f, g, k1, k2, k3, k4, k5, k6, k7, k8, k9, l1⟩ | ⟨x, y9, q0, b9, t, k1, _⟩ | ⟨x, ar, cap, mn, p0, q0, b9, i, t, bd, mu, rf, f, vf, k1, k2, k3, k4, k5, k6, k7, k8, k9, l1, l2, l3⟩ | ⟨ex, k1, _⟩ | ⟨y9, k1, k2, k3⟩ <;> (have e := (Prod.mk.inj (Sum.inr.inj (g1.symm.trans k1))).2; subst e)
  · rcases g2 with g2 | ⟨g2, _⟩ | ⟨g2, _⟩ | ⟨g2, _⟩ <;> exact absurd (Value.int.inj (Option.some.inj g2)) (by decide)
  · have hk : kd ≠ 6 ∧ kd ≠ 8 ∧ kd ≠ 5 ∧ kd ≠ 3 := by rcases e1 with e | ⟨e, _⟩ <;> subst e <;> decide
    rcases g2 with g2 | ⟨g2, _⟩ | ⟨g2, _⟩ | ⟨g2, _⟩
    · exact absurd (Value.int.inj (Option.some.inj g2)) hk.1
    · exact absurd (Value.int.inj (Option.some.inj g2)) hk.2.1
    · exact absurd (Value.int.inj (Option.some.inj g2)) hk.2.2.1
    · exact absurd (Value.int.inj (Option.some.inj g2)) hk.2.2.2
  · rcases g2 with g2 | ⟨g2, _⟩ | ⟨g2, _⟩ | ⟨g2, _⟩ <;> exact absurd (Value.int.inj (Option.some.inj g2)) (by decide)
  · rcases g2 with g2 | ⟨g2, _⟩ | ⟨g2, _⟩ | ⟨g2, ca2, ba2, mn2, cap2, cap3, k10, k11, f2, g3, j1, j2, j3, j4, j5, j6, j7, j8, j9⟩
    · exact absurd (Value.int.inj (Option.some.inj g2)) (by decide)
    · exact absurd (Value.int.inj (Option.some.inj g2)) (by decide)
    · exact absurd (Value.int.inj (Option.some.inj g2)) (by decide)
    · have ec : ca = ca2 := Value.ref.inj (Option.some.inj j1)
      have eb : ba = ba2 := Value.ref.inj (Option.some.inj j2)
      subst ec; subst eb
      have hlt : ∀ i x p q b c v w : Nat, (∃ p0 b0 : Nat, ((f i = none ∧ b0 = b) ∨ ∃ x p' q0 t : Nat, f i = some x ∧ p < p' ∧ q0 ≤ p0 ∧ xE R S Γ 408 16 x p' q0 b b0 t ∧ isTy S t 1 0 none) ∧ p ≤ p0 ∧ sN R S Λ gv n 1 x p0 q b0 c v w Γ Γ (0, 0, 0)) → p < q := fun i x p q b c v w ⟨p0, b0, _, z2, z3⟩ => by have := sN_lt z3; omega
      have hml := chJ_le l1 hlt
      have em : mn = mn2 := nI_ij (Value.int.inj (Option.some.inj j3)) (by omega) j5
      subst em
      have ef : g = g3 := by rw [k7] at j8; cases j8; rfl
      have ef2 : f = f2 := by rw [k6] at j6; cases j6; rfl
      subst ef; subst ef2
      refine Or.inr (Or.inr (Or.inr ⟨g2, ca, ba, mn, cap2, cap3, k10, k11, f, g, j1, j2, j3, j4, j5, (hV.nx k4).trans j6, j7, (hV.nx k5).trans j8, fun k hk => ?_⟩))
      obtain ⟨y2, z1, z2⟩ := j9 k hk
      obtain ⟨x, p1, q1, b1, c1, v1, w1, z3, z4, ⟨p0, b0, _, z5, z6⟩, z7⟩ := chJ_el l1 hlt k hk
      rw [z3] at z1; cases z1
      exact ⟨_, z3, hP (Nat.lt_succ_self n) z6 (by unfold dj at *; omega) (by omega) z2⟩
  · rcases g2 with g2 | ⟨g2, _⟩ | ⟨g2, _⟩ | ⟨g2, _⟩ <;> exact absurd (Value.int.inj (Option.some.inj g2)) (by decide)
  · rcases g2 with g2 | ⟨g2, _⟩ | ⟨g2, ar2, mn2, cap2, k10, f2, j1, j2, j3, j4, j5⟩ | ⟨g2, _⟩
    · exact absurd (Value.int.inj (Option.some.inj g2)) (by decide)
    · exact absurd (Value.int.inj (Option.some.inj g2)) (by decide)
    · have ea : ar = ar2 := Value.ref.inj (Option.some.inj j1)
      subst ea
      have hmn : mn ≤ 12 := by obtain ⟨_, _, _, _, _, _, z⟩ := k5; exact z
      have em : mn = mn2 := nI_ij (Value.int.inj (Option.some.inj j2)) (by omega) j3
      subst em
      have ef : f = f2 := by rw [k7] at j4; cases j4; rfl
      subst ef
      refine Or.inr (Or.inr (Or.inl ⟨g2, ar, mn, cap2, k10, f, j1, j2, j3, (hV.nx k6).trans j4, fun k hk => ?_⟩))
      obtain ⟨y2, bk, ys, z1, z2, z3, z4⟩ := j5 k hk
      obtain ⟨x, p1, q1, b1, c1, v1, w1, z5, z6, z7, z8⟩ := chJ_el l1 (fun i x p q b c v w z => sN_lt z) k hk
      rw [z5] at z1; cases z1
      have hq0 : p ≤ q0 := by
        rcases k3 with ⟨_, _, _, z⟩ | ⟨_, _, vv, m2, w2, π, _, z, _⟩
        · have := xE_lt z; omega
        · have : p0 < q0 := z.1.2.2; omega
      have hd1 : dj p1 q1 p2 q2 := by unfold dj at *; omega
      cases n with
      | zero => exact z7.elim
      | succ n =>
      obtain ⟨⟨y1, y2, y3⟩, na, bk2, mk, p', fv, tx, us, y4, _, _, _, _, _, _, _, y6, y5⟩ := z7
      have e9 := (Prod.mk.inj (Sum.inr.inj (z2.symm.trans y4))).2
      subst e9
      have eb : bk2 = bk := Value.ref.inj (Option.some.inj z3)
      subst eb
      exact ⟨_, bk2, _, z5, (hV.1 _ y1 (fun x => Xo_dj (Or.inl ⟨p1, y2, Nat.le_refl _, y3⟩) x hd1)).trans z2, z3, hP (by omega) y5 (by unfold dj at *; omega) (by omega) z4⟩
    · exact absurd (Value.int.inj (Option.some.inj g2)) (by decide)
  · rcases g2 with g2 | ⟨g2, _⟩ | ⟨g2, _⟩ | ⟨g2, _⟩
    · exact Or.inl g2
    · exact absurd (Value.int.inj (Option.some.inj g2)) (by decide)
    · exact absurd (Value.int.inj (Option.some.inj g2)) (by decide)
    · exact absurd (Value.int.inj (Option.some.inj g2)) (by decide)
  · rcases g2 with g2 | ⟨g2, y8, j1, j2⟩ | ⟨g2, _⟩ | ⟨g2, _⟩
    · exact absurd (Value.int.inj (Option.some.inj g2)) (by decide)
    · have ea : y9 = y8 := Value.ref.inj (Option.some.inj j1)
      subst ea
      exact Or.inr (Or.inl ⟨g2, y9, j1, hP (Nat.lt_succ_self n) k2 hd hq j2⟩)
    · exact absurd (Value.int.inj (Option.some.inj g2)) (by decide)
    · exact absurd (Value.int.inj (Option.some.inj g2)) (by decide)
theorem eB_vz (hV : VZ R (Xo R p2 q2) S S2) : ∀ (d : Nat) {n a p q b b2 v w : Nat} {Γ Γ2 : List Nat} {κ : Nat × Nat × Nat}, sN R S Λ gv n 1 a p q b b2 v w Γ Γ2 κ → dj p q p2 q2 → q ≤ 100000 → eB S d a → eB S2 d a
  | 0, _, _, _, _, _, _, _, _, _, _, _, _, _, _, h => h.elim
  | d + 1, 0, _, _, _, _, _, _, _, _, _, _, h, _, _, _ => h.elim
  | d + 1, n + 1, a, p, q, b, b2, v, w, Γ, Γ2, κ, h, hd, hq, he => by
    obtain ⟨nxa, hpq, _, la, cap, mn, f, gs, k1, k2, k3, k4, k5, k6⟩ := h
    obtain ⟨fs, la2, mn2, cap2, k, y, k9, f2, e1, e2, e3, e4, e5, e6, e7, e8⟩ := he
    have e9 := (Prod.mk.inj (Sum.inr.inj (e1.symm.trans k1))).2
    subst e9
    have ea : la = la2 := Value.ref.inj (Option.some.inj e2)
    subst ea
    have hml := chJ_le k6 (fun i x p q b c v w z => sN_lt z)
    have em : mn = mn2 := nI_ij (Value.int.inj (Option.some.inj e3)) (by omega) e4
    subst em
    have ef : f = f2 := by rw [k3] at e5; cases e5; rfl
    subst ef
    obtain ⟨x, p1, q1, b1, c1, v1, w1, z5, z6, z7, z8⟩ := chJ_el k6 (fun i x p q b c v w z => sN_lt z) k e6
    rw [z5] at e7; cases e7
    exact ⟨_, la, mn, cap2, k, _, k9, f, (hV.nx nxa).trans e1, e2, e3, e4, (hV.nx k2).trans e5, e6, z5, eS_vz hV (fun {m} _ {a p q b b2 v w Γ Γ2 κ} h9 hd9 hq9 he9 => eB_vz hV d h9 hd9 hq9 he9) z7 (by unfold dj at *; omega) (by omega) e8⟩
theorem eB_vx (hV : VX R (Xo R p2 q2) S S2) : ∀ (d : Nat) {n a p q b b2 v w : Nat} {Γ Γ2 : List Nat} {κ : Nat × Nat × Nat}, sN R S Λ gv n 1 a p q b b2 v w Γ Γ2 κ → dj p q p2 q2 → q ≤ 100000 → eB S d a → eB S2 d a := eB_vz hV.2
end EBV
end
-- k7.f.lean.txt
section
/-- a function, typed -/
def FnT (R : yR) (S : Sg) (i : Nat) : Prop := ∃ (fs : List Value) (mn ta pa bl va b gv : Nat) (f fp : Nat → Option Nat) (Λ : List Nat), (nXo R (R.ws i) ∧ ZF S (R.ws i) = .inr (16, fs) ∧ fs[3]? = some (.int (nI mn)) ∧ mn ≤ 12 ∧ fs[10]? = some (.ref ta) ∧ fs[15]? = some (.ref gv) ∧ fs[16]? = some (.ref bl) ∧ fs[17]? = some (.ref pa)) ∧ rTs R S ta 13 mn f (rTy S) ∧ xTy S gv ∧ (pa ∈ ZL R.S ∧ Xo R (R.ms i) (R.ms i + 1) pa ∧ ZF S pa = .inl (R.K.1 5, 13, .inr (.inr (.inr (.inr fp))))) ∧ (Λ.length = va ∧ va ≤ 40 ∧ b ≤ 54 ∧ mn ≤ va ∧ R.ms i < R.ps (i + 1) ∧ R.ps (i + 1) ≤ R.T ∧ R.T ≤ 3001) ∧ (∀ k : Nat, k < mn → ∃ (v x : Nat) (nm : Int32), Λ[k]? = some v ∧ fp k = some v ∧ f k = some x ∧ isV S v k nm (some x) 0) ∧ (∀ (k v : Nat), Λ[k]? = some v → v ∉ ZL R.S ∧ ∃ (nm mu : Nat) (ty : Option Nat), isV S v k (nI nm) ty (nI mu) ∧ nm < R.T ∧ mu ≤ 1 ∧ ∀ x : Nat, ty = some x → rTy S x) ∧ sN R S Λ gv 40 1 bl (R.ms i) (R.ps (i + 1)) 0 b mn va (Λ.take mn) (Λ.take mn) (0, 0, 0) ∧ (isTy S gv 8 0 none ∨ eB S 45 bl)
section FNT
variable {R : yR} {c nv : Nat} {S S2 : Sg}
theorem FnT.vz {p q i : Nat} (hV : VZ R (Xo R p q) S S2) (hd : dj (R.ms i) (R.ps (i + 1)) p q) (h : FnT R S i) : FnT R S2 i := by
  obtain ⟨fs, mn, ta, pa, bl, va, b, gv, f, fp, Λ, ⟨h1, h2, h3, h4, h5, h6, h7, h8⟩, h9, h10, ⟨h11, h12, h13⟩, h14, h15, h16, h17, h18⟩ := h
  have hlt := h14.2.2.2.2.1
  refine ⟨fs, mn, ta, pa, bl, va, b, gv, f, fp, Λ, ⟨h1, (hV.nx h1).trans h2, h3, h4, h5, h6, h7, h8⟩, h9.vz hV (fun x q => q.im hV.2.2.1), h10.im hV.2.2.1, ⟨h11, h12, (hV.1 pa h11 (fun x => Xo_dj h12 x (by unfold dj at *; omega))).trans h13⟩, h14, fun k hk => ?_, fun k v hk => ?_, sN_vz hV pfx.rf h17 hd, h18.imp (fun z => hV.2.2.1 _ _ _ _ z) (fun z => eB_vz hV 45 h17 hd (by omega) z)⟩
  · obtain ⟨v, x, nm, k1, k2, k3, k4⟩ := h15 k hk
    exact ⟨v, x, nm, k1, k2, k3, k4.vz hV⟩
  · obtain ⟨k1, nm, mu, ty, k2, k3, k4, k5⟩ := h16 k v hk
    obtain ⟨t2, j1, j2⟩ := hV.2.2.2.1 v k _ _ _ k2
    refine ⟨k1, nm, mu, t2, j1, k3, k4, fun x e => ?_⟩
    rcases j2 with ⟨_, j2⟩ | j2
    · exact j2 x e
    · exact (k5 x (j2.symm.trans e)).im hV.2.2.1
theorem FnT.vx {p q i : Nat} (hV : VX R (Xo R p q) S S2) (hd : dj (R.ms i) (R.ps (i + 1)) p q) (h : FnT R S i) : FnT R S2 i := FnT.vz hV.2 hd h
/-- the function is told, the scope and its variables begin anew -/
theorem VZ.fn {X : Nat → Prop} {o : Option Nat} {x y : Int32} : VZ R X S (Ui (Ui (Uf S o) 23 x) 24 y) := ⟨fun _ _ _ => rfl, fun _ q => q, fun _ _ _ _ q => q, fun v ix nm ty mu q => ⟨ty, q, Or.inr rfl⟩, fun q => by rw [Zi_n (by decide), Zi_n (by decide)] at q; exact q⟩
theorem VZ.tr {X : Nat → Prop} {S1 : Sg} (h : VZ R X S S1) (g : VZ R X S1 S2) : VZ R X S S2 := by
  obtain ⟨h6, h7, h8, h9, h10⟩ := h
  obtain ⟨g6, g7, g8, g9, g10⟩ := g
  refine ⟨fun a ha q => (g6 a ha q).trans (h6 a ha q), fun a ha => g7 a (h7 a ha), fun x kd ix o q => g8 x kd ix o (h8 x kd ix o q), fun v ix nm ty mu q => ?_, fun q => h10 (g10 q)⟩
  obtain ⟨t1, a1, a2⟩ := h9 v ix nm ty mu q
  obtain ⟨t2, b1, b2⟩ := g9 v ix nm t1 mu a1
  refine ⟨t2, b1, ?_⟩
  rcases a2 with ⟨a2, a3⟩ | a2
  · rcases b2 with ⟨b2, b3⟩ | b2
    · exact Or.inl ⟨a2, b3⟩
    · exact Or.inl ⟨a2, fun x e => (a3 x (b2.symm.trans e)).im g8⟩
  · rcases b2 with ⟨b2, b3⟩ | b2
    · exact Or.inl ⟨a2.symm.trans b2, b3⟩
    · exact Or.inr (b2.trans a2)
theorem TS.fn (h : TS R c nv S) {o : Option Nat} {x y : Int32} : TS R c nv (Ui (Ui (Uf S o) 23 x) 24 y) := by
  obtain ⟨G, tm, Y, ad, h1, h2, h3, h4⟩ := h
  exact ⟨G, tm, Y, ad, ⟨h1.1, ((Zi_n (by decide)).trans (Zi_n (by decide))).trans h1.2.1, ((Zi_n (by decide)).trans (Zi_n (by decide))).trans h1.2.2.1, ((Zi_n (by decide)).trans (Zi_n (by decide))).trans h1.2.2.2.1, h1.2.2.2.2.1, h1.2.2.2.2.2.1, h1.2.2.2.2.2.2⟩, h2, h3, fun j a b c d e f => ((Zi_n f).trans (Zi_n e)).trans (h4.1 j a b c d e f), h4.2⟩
/-- a function -/
theorem tfn_ (hK : yRm R) (hT : TS R c nv S) (hA : ITA R S) (hR : ROW R S) {fi : Nat} (hfi : fi < R.im) (hik : R.ik fi = 12) (hz : Zi S 3 = 0) (hI : isIt R.K (ZL R.S) (ZF R.S) (Zr R.S 5) (R.ws fi) (R.ps fi) (R.ms fi) (R.ps (fi + 1))) (hkd : ∃ fs : List Value, ZF R.S (R.ws fi) = .inr (16, fs) ∧ fs[2]? = some (.int 12)) (hpw : ∀ (fs : List Value) (pa : Nat), ZF R.S (R.ws fi) = .inr (16, fs) → fs[17]? = some (.ref pa) → R.pw pa = some (R.ms fi)) (hU : Unt R S (R.ms fi) (R.ps (fi + 1))) (hq : R.ps (fi + 1) ≤ R.T) (hnv : nv + 40 ≤ 10000) (hc : c + (R.ps (fi + 1) - R.ms fi) ≤ 1990) : Rt (f_typeFunction R.K S (nI fi)) (fun S2 _ => ∃ c2 nv2 : Nat, c2 ≤ c + (R.ps (fi + 1) - R.ms fi) ∧ nv2 ≤ nv + 40 ∧ TS R c2 nv2 S2 ∧ VZ R (Xo R (R.ms fi) (R.ps (fi + 1))) S S2 ∧ (Zf S2 = some (R.ws fi) ∧ Zi S2 21 = Zi S 21) ∧ (Zi S2 3 = 0 → FnT R S2 fi)) := by
  have hT9 := hT.tb
  obtain ⟨a1, a2, fs, mn, na, g, a3, a4, a5, a6, a7, a8, a9, a10, a11⟩ := hA fi hfi
  -- what was read
  have hrd : ∃ (mn9 na9 ta9 pa bl va b : Nat) (fs9 : List Value), ZF R.S (R.ws fi) = .inr (16, fs9) ∧ fs9[3]? = some (.int (nI mn9)) ∧ mn9 ≤ 12 ∧ fs9[16]? = some (.ref bl) ∧ fs9[17]? = some (.ref pa) ∧ pa ∈ ZL R.S ∧ ZF R.S pa = .inl (R.K.1 5, 13, .inr (.inr (.inr (.inr (fun _ => none))))) ∧ va ≤ 40 ∧ b ≤ 54 ∧ isQ R 40 1 bl (R.ms fi) (R.ps (fi + 1)) 0 b mn9 va := by
    obtain ⟨fs8, b1, b2⟩ := hkd
    obtain ⟨_, _, _, mn9, na9, g9, _, _, c1, _, c2⟩ := hI
    rcases c2 with ⟨wa, ta, q', f, c3, _⟩ | ⟨vr, q', f, c3, _⟩ | ⟨lv, wa, ta, pa, lf, lo, q', va, b, bl, rs, f, gl, c3, _, _, d1, _, _, _, _, d2, _, _, _, _, _, _, _, d3, d4, d5⟩
    · have e := (Prod.mk.inj (Sum.inr.inj (b1.symm.trans c3))).2
      subst e
      exact absurd (Value.int.inj (Option.some.inj b2)) (by decide)
    · have e := (Prod.mk.inj (Sum.inr.inj (b1.symm.trans c3))).2
      subst e
      exact absurd (Value.int.inj (Option.some.inj b2)) (by decide)
    · exact ⟨mn9, na9, ta, pa, bl, va, b, _, c3, rfl, c1, rfl, rfl, d1, d2, d3, d4, d5⟩
  obtain ⟨mn9, na9, ta9, pa, bl, va, b, fs9, b1, b2, b3, b4, b5, b6, b7, b8, b9, b10⟩ := hrd
  have hpwa := hpw fs9 pa b1 b5
  have hXp : Xo R (R.ms fi) (R.ms fi + 1) pa := Or.inr (Or.inr ⟨_, hpwa, Nat.le_refl _, Nat.lt_succ_self _, b7⟩)
  have hlm := (isN_lt b10).2
  have hvw := isN_vw b10
  obtain ⟨w1, gs, w2, w3, w4, w5⟩ := hT.ob a1.1 b1
  have egs : fs = gs := (Prod.mk.inj (Sum.inr.inj (a3.symm.trans w2))).2
  subst egs
  have emn : mn9 = mn := nI_ij (Value.int.inj (Option.some.inj (b2.symm.trans ((w4 3 rfl).symm.trans a5)))) (by omega) (by omega)
  subst emn
  have f16 : fs[16]? = some (.ref bl) := (w4 16 rfl).trans b4
  have f17 : fs[17]? = some (.ref pa) := (w4 17 rfl).trans b5
  rcases a11 with ⟨k1, _⟩ | ⟨k1, _⟩ | ⟨k1, ta, gv, lo, f, go, rl, k2, k3, k4, k5, _⟩
  · rw [hik] at k1; exact absurd k1 (by decide)
  · rw [hik] at k1; exact absurd k1 (by decide)
  unfold f_typeFunction
  refine Rt.bd (hT.it hfi a2) (Rt.bd (v := Uf S (some (R.ws fi))) rfl (Rt.bd (v := Ui (Uf S (some (R.ws fi))) 23 0) rfl (Rt.bd (v := Ui (Ui (Uf S (some (R.ws fi))) 23 0) 24 0) rfl ?_)))
  have hVZ : VZ R (Xo R 0 0) S (Ui (Ui (Uf S (some (R.ws fi))) 23 0) 24 0) := VZ.fn
  have y0 : YS R c nv (Ui (Ui (Uf S (some (R.ws fi))) 23 0) 24 0) [] [] fi gv := ⟨hT.fn, ⟨(Zi_n (by decide)).trans Zi_s, Nat.zero_le _, fun k v hk => by cases hk⟩, ⟨Zi_s, Nat.zero_le _, fun k v hk => by cases hk⟩, hA.vz hVZ, hR, ⟨fun v hv => (by cases hv), Nat.le_refl _⟩, ⟨rfl, hfi, hik, a1⟩, k5.im hVZ.2.2.1, fs, a3, k4⟩
  have hz0 : Zi (Ui (Ui (Uf S (some (R.ws fi))) 23 0) 24 0) 3 = 0 := by rw [Zi_n (by decide), Zi_n (by decide)]; exact hz
  have hU0 : Unt R (Ui (Ui (Uf S (some (R.ws fi))) 23 0) 24 0) (R.ms fi) (R.ps (fi + 1)) := hU
  have hrow0 : ZF (Ui (Ui (Uf S (some (R.ws fi))) 23 0) 24 0) pa = .inl (R.K.1 5, 13, .inr (.inr (.inr (.inr (fun _ => none))))) := (hU pa b6 (Xo_mo hXp (Nat.le_refl _) (by omega))).trans b7
  have a3' : ZF (Ui (Ui (Uf S (some (R.ws fi))) 23 0) 24 0) (R.ws fi) = .inr (16, fs) := a3
  have k3' : rTs R (Ui (Ui (Uf S (some (R.ws fi))) 23 0) 24 0) ta 13 mn9 f (rTy (Ui (Ui (Uf S (some (R.ws fi))) 23 0) 24 0)) := k3.vz hVZ (fun x q => q.im hVZ.2.2.1)
  have a9' : ZF (Ui (Ui (Uf S (some (R.ws fi))) 23 0) 24 0) na = .inl (R.K.1 0, 13, .inl g) := a9
  suffices hmain : ∀ S0 : Sg, YS R c nv S0 [] [] fi gv → Zi S0 3 = 0 → Unt R S0 (R.ms fi) (R.ps (fi + 1)) → ZF S0 pa = .inl (R.K.1 5, 13, .inr (.inr (.inr (.inr (fun _ => none))))) → ZF S0 (R.ws fi) = .inr (16, fs) → rTs R S0 ta 13 mn9 f (rTy S0) → ZF S0 na = .inl (R.K.1 0, 13, .inl g) → Rt (f_typeFunction_24 R.K bigN S0 (some (R.ws fi)) 0) (fun S2 _ => ∃ c2 nv2 : Nat, c2 ≤ c + (R.ps (fi + 1) - R.ms fi) ∧ nv2 ≤ nv + 40 ∧ TS R c2 nv2 S2 ∧ VX R (Xo R (R.ms fi) (R.ps (fi + 1))) S0 S2 ∧ (Zi S2 3 = 0 → FnT R S2 fi)) from (hmain _ y0 hz0 hU0 hrow0 a3' k3' a9').mo (fun S2 _ ⟨c2, nv2, q1, q2, q3, q4, q5⟩ => ⟨c2, nv2, q1, q2, q3, VZ.fn.tr q4.2, ⟨q4.1.2.2.2.2, (q4.1.1 21 (by decide) (by decide) (by decide) (by decide) (by decide)).trans ((Zi_n (by decide)).trans (Zi_n (by decide)))⟩, q5⟩)
  clear y0 hz0 hU0 hrow0 a3' k3' a9'
  intro S0 y0 hz0 hU0 hrow0 a30 k30 a90
  have hcX : ∀ (S9 : Sg) (k9 : Nat) (vs : List Value) (fv : Nat → Option Nat), ZF S9 pa = .inl (R.K.1 5, 13, .inr (.inr (.inr (.inr fv)))) → ¬ ZF S9 pa = .inr (k9, vs) := fun S9 k9 vs fv e w => by rw [e] at w; cases w
  have hwp : R.ws fi ≠ pa := fun e => a1.2 _ _ (e ▸ hXp)
  have htp : ta ≠ pa := fun e => k3.1.2 _ _ (e ▸ hXp)
  have hnp : na ≠ pa := fun e => a8.2 _ _ (e ▸ hXp)
  have hto : ∀ {S9 S1 : Sg}, VX R (fun a => a = pa) S9 S1 → VX R (Xo R (R.ms fi) (R.ms fi + 1)) S9 S1 := fun v1 => v1.mo (fun a e => e ▸ hXp)
  have hloop : ∀ (m j : Nat) {S1 : Sg} {us : List Nat} {fv : Nat → Option Nat}, mn9 < j + m → j ≤ mn9 → us.length = j → YS R c (nv + j) S1 us us fi gv → VX R (fun a => a = pa) S0 S1 → Zi S1 3 = 0 → ZF S1 pa = .inl (R.K.1 5, 13, .inr (.inr (.inr (.inr fv)))) → (∀ k : Nat, k < j → ∃ (u x : Nat) (nm : Int32), us[k]? = some u ∧ fv k = some u ∧ f k = some x ∧ isV S1 u k nm (some x) 0) → Rt (f_typeFunction_24 R.K m S1 (some (R.ws fi)) (nI j)) (fun S2 _ => ∃ c2 nv2 : Nat, c2 ≤ c + (R.ps (fi + 1) - R.ms fi) ∧ nv2 ≤ nv + 40 ∧ TS R c2 nv2 S2 ∧ VX R (Xo R (R.ms fi) (R.ps (fi + 1))) S0 S2 ∧ (Zi S2 3 = 0 → FnT R S2 fi)) := by
    intro m
    induction m with
    | zero => intro j S1 us fv a b; omega
    | succ m ih =>
      intro j S1 us fv hj1 hj2 hus y1 v1 z1 hrow htd
      have c1 : ZF S1 (R.ws fi) = .inr (16, fs) := (v1.2.1 _ a1.1 hwp).trans a30
      have e1 := y1.1.L a1.1
      unfold f_typeFunction_24
      refine Rt.bd (oI_mk e1 c1 a5) (Rt.it (fun w9 => ?_) (fun w9 => ?_))
      · have hjm : j = mn9 := by have := (nI_leI (a := mn9) (b := j) (by omega) (by omega)).mp w9; omega
        subst hjm
        have hU1 : Unt R S1 (R.ms fi + 1) (R.ps (fi + 1)) := fun a9 ha9 w => (v1.2.1 a9 ha9 (fun e => by rw [e] at w; exact Xo_dj hXp w (Or.inl (by omega)))).trans (hU0 a9 ha9 (Xo_mo w (by omega) (Nat.le_refl _)))
        refine Rt.bd (oR_mk (v := some bl) e1 c1 f16) (Rt.bn (blT hK 40 40 45 (by omega) (by omega) c (nv + j) S1 us us bl (R.ms fi) (R.ps (fi + 1)) 0 b j va y1 z1 hus b8 (by omega) hc b10 hU1 hq) (fun S3 _ q3 => ?_))
        obtain ⟨c3, nv3, e2, e3, e4, e5, e6⟩ := q3
        have v03 : VX R (Xo R (R.ms fi) (R.ps (fi + 1))) S0 S3 := ((hto v1).mo (fun a w => Xo_mo w (Nat.le_refl _) (by omega))).tr e5 (fun a w => Xo_mo w (by omega) (Nat.le_refl _))
        have hbad : ¬ Zi S3 3 = 0 → Rt (f_typeFunction_111 R.K S3) (fun S2 _ => ∃ c2 nv2 : Nat, c2 ≤ c + (R.ps (fi + 1) - R.ms fi) ∧ nv2 ≤ nv + 40 ∧ TS R c2 nv2 S2 ∧ VX R (Xo R (R.ms fi) (R.ps (fi + 1))) S0 S2 ∧ (Zi S2 3 = 0 → FnT R S2 fi)) := fun z => Rt.rt ⟨c3, nv3, e2, by omega, e4, v03, fun w => absurd w z⟩
        refine Rt.ok (fun z3 => ?_) hbad
        obtain ⟨Λ2, l1, l2, l3, _, l5⟩ := e6 z3
        have c3' : ZF S3 (R.ws fi) = .inr (16, fs) := (v03.nx a1).trans a30
        have e3' := e4.L a1.1
        have hgood : (isTy S3 gv 8 0 none ∨ eB S3 45 bl) → FnT R S3 fi := fun hend => by
          refine ⟨fs, j, ta, pa, bl, va, b, gv, f, fv, Λ2, ⟨a1, c3', a5, a6, k2, k4, f16, f17⟩, k30.vx v03 (fun x q => q.im v03.2.2.2.1), l1.2.2.2.2.2.2.2.1, ⟨b6, hXp, (e5.2.1 pa b6 (fun x => Xo_dj hXp x (Or.inl (Nat.le_refl _)))).trans hrow⟩, ⟨l3, b8, b9, hvw, by omega, hq, hT9⟩, fun k hk => ?_, l1.2.2.1.2.2, ?_, hend⟩
          · obtain ⟨u, x, nm, i1, i2, i3, i4⟩ := htd k hk
            exact ⟨u, x, nm, l2 k u i1, i2, i3, i4.vx e5⟩
          · have : Λ2.take j = us := by
              apply List.ext_getElem?
              intro k
              rw [List.getElem?_take]
              by_cases hk : k < j
              · rw [if_pos hk]
                obtain ⟨u, hu⟩ : ∃ u : Nat, us[k]? = some u := ⟨us[k], List.getElem?_eq_getElem (by omega)⟩
                rw [hu]; exact l2 k u hu
              · rw [if_neg hk, List.getElem?_eq_none (by omega)]
            rw [this]; exact l5
        obtain ⟨kd, ix, o, hty⟩ := l1.2.2.2.2.2.2.2.1.ty
        have hty2 := hty
        obtain ⟨tt, t1, t2, t3, t4⟩ := hty2
        refine Rt.bd (oR_mk (v := some gv) e3' c3' k4) (Rt.bd (oI_mk t3 t4 (v := kd) rfl) (Rt.it (fun w8 => ?_) (fun w8 => ?_)))
        · refine Rt.rt ⟨c3, nv3, e2, by omega, e4, v03, fun _ => hgood (Or.inl ?_)⟩
          have := (e4.at (by omega) hty).1
          rw [w8] at hty this
          rcases this with ⟨_, h1, h2⟩ | ⟨h, _⟩ | ⟨h, _⟩ | ⟨h, _⟩
          · have h1 : ix = 0 := h1
            have h2 : o = none := h2
            rw [h1, h2] at hty
            exact hty
          · exact absurd (show (8 : Int32) = 3 from h) (by decide)
          · exact absurd (show (8 : Int32) = 4 from h) (by decide)
          · exact absurd (show (8 : Int32) = 5 ∨ (8 : Int32) = 6 ∨ (8 : Int32) = 7 from h) (by decide)
        refine Rt.bd (oR_mk (v := some bl) e3' c3' f16) (Rt.bn (end_ (R := R) e4 40 40 45 (by omega) (by omega) l5 (by omega)) (fun S4 r4 q4 => ?_))
        obtain ⟨e8, q4⟩ := q4
        rw [e8]
        rcases q4 with q4 | ⟨q4, q5⟩
        · refine Rt.ip q4 ?_
          have l5' := l5
          obtain ⟨nxa, _, _, la, cap, mn2, f9, gs9, i1, _⟩ := l5'
          refine Rt.bd (oR_mk (v := some bl) e3' c3' f16) (Rt.bd (oI_mk (e4.L nxa.1) i1 (v := nI (R.ps (fi + 1) - 1)) rfl) (Rt.be (fai_ e4 (by omega)) (Rt.rt ⟨c3, nv3, e2, by omega, e4.fl, v03.n VX.fl, fun w => absurd w (flS_n0 (by decide))⟩)))
        · exact Rt.iq (by rw [q4]; decide) (Rt.rt ⟨c3, nv3, e2, by omega, e4, v03, fun _ => hgood (Or.inr q5)⟩)
      · have hlt : j < mn9 := by
          rcases Nat.lt_or_ge j mn9 with z | z
          · exact z
          · exact absurd (nI_le z (by omega)) w9
        obtain ⟨sj, s1, s2⟩ := a10 j hlt
        have n1 : ZF S1 na = .inl (R.K.1 0, 13, .inl g) := (v1.2.1 _ a8.1 hnp).trans a90
        have k31 : rTs R S1 ta 13 mn9 f (rTy S1) := k30.vx (hto v1) (fun x q => q.im v1.2.2.2.1)
        obtain ⟨x, x1, x2⟩ := k31.2.2 j hlt
        refine Rt.bd (oR_mk (v := some pa) e1 c1 f17) (Rt.bd (oR_mk (v := some na) e1 c1 a7) (Rt.bd (aI_n (y1.1.L a8.1) n1 (show j < 13 by omega) (by decide)) (Rt.bd (oR_mk (v := some ta) e1 c1 k2) (Rt.bd (aQ_n (y1.1.L k3.1.1) k31.2.1 (show j < 13 by omega) (by decide)) ?_))))
        rw [s1, x1]
        refine Rt.bn (dcl_ hK (by omega) (by omega) y1 s2 (show 0 ≤ 1 by omega) (fun z e => by cases e; exact x2) (by omega)) (fun S4 r4 q4 => ?_)
        obtain ⟨u, rfl, y4, v4, z4, w4, i4⟩ := q4
        have hrow4 : ZF S4 pa = .inl (R.K.1 5, 13, .inr (.inr (.inr (.inr fv)))) := (v4.2.1 _ b6 (fun w => w)).trans hrow
        refine Rt.bd (bQ_n (y4.1.L b6) hrow4 (show j < 13 by omega) (by decide) (okO_mk (vs := _) i4.1 i4.2)) ?_
        rw [nI_1]
        have t5 := y4.1.uf b6 (cs_ro (f3 := va_up fv j (some u)) b7 (fun _ => rfl))
        have v5 : VX R (fun a => a = pa) S4 (UF S4 pa (.inl (R.K.1 5, 13, .inr (.inr (.inr (.inr (va_up fv j (some u)))))))) := VX.uf rfl (fun vs => hcX S4 _ _ fv hrow4) (fun vs => hcX S4 _ _ fv hrow4)
        have w5 : VW S4 (UF S4 pa (.inl (R.K.1 5, 13, .inr (.inr (.inr (.inr (va_up fv j (some u)))))))) := ⟨rfl, rfl, rfl, fun u9 ix nm ty mu q => ⟨q.1, (ZF_n (fun e => hcX S4 _ _ fv hrow4 (e ▸ q.2))).trans q.2⟩⟩
        have y5 := y4.vw t5 (hto v5) w5
        have v15 : VX R (fun a => a = pa) S1 (UF S4 pa (.inl (R.K.1 5, 13, .inr (.inr (.inr (.inr (va_up fv j (some u)))))))) := v4.b v5
        refine ih (j + 1) (us := us ++ [u]) (fv := va_up fv j (some u)) (by omega) (by omega) (by rw [List.length_append, hus]; rfl) y5 (v1.tr v15 (fun _ w => w)) (show Zi S4 3 = 0 by rw [z4]; exact z1) ZF_s (fun k hk => ?_)
        by_cases e0 : k = j
        · subst e0
          refine ⟨u, x, nI sj, ?_, va_up_self _ _ _, x1, ?_⟩
          · rw [List.getElem?_append_right (by omega), hus, Nat.sub_self]; rfl
          · rw [hus] at i4
            exact w5.2.2.2 _ _ _ _ _ i4
        · obtain ⟨u9, x9, nm9, i1, i2, i3, i5⟩ := htd k (by omega)
          refine ⟨u9, x9, nm9, ?_, (va_up_ne _ _ e0).trans i2, i3, i5.vx v15⟩
          rw [List.getElem?_append_left (by omega)]; exact i1
  exact hloop bigN 0 (us := []) (by unfold bigN; omega) (Nat.zero_le _) rfl y0 VX.rf hz0 hrow0 (fun k hk => absurd hk (by omega))
end FNT
end
