/-- a function, typed -/
def FnT (R : yR) (S : Sg) (i : Nat) : Prop := ∃ (fs : List Value) (mn ta pa bl va b gv : Nat) (f fp : Nat → Option Nat) (Λ : List Nat), (nXo R (R.ws i) ∧ ZF S (R.ws i) = .inr (16, fs) ∧ fs[3]? = some (.int (nI mn)) ∧ mn ≤ 12 ∧ fs[10]? = some (.ref ta) ∧ fs[15]? = some (.ref gv) ∧ fs[16]? = some (.ref bl) ∧ fs[17]? = some (.ref pa)) ∧ rTs R S ta 13 mn f (rTy S) ∧ xTy S gv ∧ (pa ∈ ZL R.S ∧ Xo R (R.ms i) (R.ms i + 1) pa ∧ ZF S pa = .inl (R.K.1 5, 13, .inr (.inr (.inr (.inr fp))))) ∧ (Λ.length = va ∧ va ≤ 40 ∧ b ≤ 54 ∧ mn ≤ va ∧ R.ms i < R.ps (i + 1) ∧ R.ps (i + 1) ≤ R.T ∧ R.T ≤ 3001) ∧ (∀ k : Nat, k < mn → ∃ (v x : Nat) (nm : Int32), Λ[k]? = some v ∧ fp k = some v ∧ f k = some x ∧ isV S v k nm (some x) 0) ∧ (∀ (k v : Nat), Λ[k]? = some v → v ∉ ZL R.S ∧ ∃ (nm mu : Nat) (ty : Option Nat), isV S v k (nI nm) ty (nI mu) ∧ nm < R.T ∧ mu ≤ 1 ∧ ∀ x : Nat, ty = some x → rTy S x) ∧ sN R S Λ gv 40 1 bl (R.ms i) (R.ps (i + 1)) 0 b mn va (Λ.take mn) (Λ.take mn) (0, 0, 0) ∧ (isTy S gv 8 0 none ∨ eB S 45 bl)
section FNT
variable {R : yR} {c nv : Nat} {S S2 : Sg}
theorem FnT.vz {p q i : Nat} (hV : VZ R (Xo R p q) S S2) (hd : dj (R.ms i) (R.ps (i + 1)) p q) (h : FnT R S i) : FnT R S2 i := by
  obtain ⟨fs, mn, ta, pa, bl, va, b, gv, f, fp, Λ, ⟨h1, h2, h3, h4, h5, h6, h7, h8⟩, h9, h10, ⟨h11, h12, h13⟩, h14, h15, h16, h17, h18⟩ := h
  have hlt := h14.2.2.2.2.1
  refine ⟨fs, mn, ta, pa, bl, va, b, gv, f, fp, Λ, ⟨h1, (hV.nx h1).trans h2, h3, h4, h5, h6, h7, h8⟩, h9.vz hV (fun x q => q.im hV.2.2.1), h10.im hV.2.2.1, ⟨h11, h12, (hV.1 pa h11 (fun x => Xo_dj h12 x (by unfold dj at *; omega))).trans h13⟩, h14, fun k hk => ?_, fun k v hk => ?_, sN_vz hV pfx.rf h17 hd, h18.imp (fun z => hV.2.2.1 _ _ _ _ z) (fun z => eB_vz hV 45 h17 hd (by omega) z)⟩
  · obtain ⟨v, x, nm, k1, k2, k3, k4⟩ := h15 k hk
    exact ⟨v, x, nm, k1, k2, k3, k4.vz hV⟩
  · obtain ⟨k1, nm, mu, ty, k2, k3, k4, k5⟩ := h16 k v hk
    obtain ⟨t2, j1, j2⟩ := hV.2.2.2.1 v k _ _ _ k2
    refine ⟨k1, nm, mu, t2, j1, k3, k4, fun x e => ?_⟩
    rcases j2 with ⟨_, j2⟩ | j2
    · exact j2 x e
    · exact (k5 x (j2.symm.trans e)).im hV.2.2.1
theorem FnT.vx {p q i : Nat} (hV : VX R (Xo R p q) S S2) (hd : dj (R.ms i) (R.ps (i + 1)) p q) (h : FnT R S i) : FnT R S2 i := FnT.vz hV.2 hd h
/-- the function is told, the scope and its variables begin anew -/
theorem VZ.fn {X : Nat → Prop} {o : Option Nat} {x y : Int32} : VZ R X S (Ui (Ui (Uf S o) 23 x) 24 y) := ⟨fun _ _ _ => rfl, fun _ q => q, fun _ _ _ _ q => q, fun v ix nm ty mu q => ⟨ty, q, Or.inr rfl⟩, fun q => by rw [Zi_n (by decide), Zi_n (by decide)] at q; exact q⟩
theorem VZ.tr {X : Nat → Prop} {S1 : Sg} (h : VZ R X S S1) (g : VZ R X S1 S2) : VZ R X S S2 := by
  obtain ⟨h6, h7, h8, h9, h10⟩ := h
  obtain ⟨g6, g7, g8, g9, g10⟩ := g
  refine ⟨fun a ha q => (g6 a ha q).trans (h6 a ha q), fun a ha => g7 a (h7 a ha), fun x kd ix o q => g8 x kd ix o (h8 x kd ix o q), fun v ix nm ty mu q => ?_, fun q => h10 (g10 q)⟩
  obtain ⟨t1, a1, a2⟩ := h9 v ix nm ty mu q
  obtain ⟨t2, b1, b2⟩ := g9 v ix nm t1 mu a1
  refine ⟨t2, b1, ?_⟩
  rcases a2 with ⟨a2, a3⟩ | a2
  · rcases b2 with ⟨b2, b3⟩ | b2
    · exact Or.inl ⟨a2, b3⟩
    · exact Or.inl ⟨a2, fun x e => (a3 x (b2.symm.trans e)).im g8⟩
  · rcases b2 with ⟨b2, b3⟩ | b2
    · exact Or.inl ⟨a2.symm.trans b2, b3⟩
    · exact Or.inr (b2.trans a2)
theorem TS.fn (h : TS R c nv S) {o : Option Nat} {x y : Int32} : TS R c nv (Ui (Ui (Uf S o) 23 x) 24 y) := by
  obtain ⟨G, tm, Y, ad, h1, h2, h3, h4⟩ := h
  exact ⟨G, tm, Y, ad, ⟨h1.1, ((Zi_n (by decide)).trans (Zi_n (by decide))).trans h1.2.1, ((Zi_n (by decide)).trans (Zi_n (by decide))).trans h1.2.2.1, ((Zi_n (by decide)).trans (Zi_n (by decide))).trans h1.2.2.2.1, h1.2.2.2.2.1, h1.2.2.2.2.2.1, h1.2.2.2.2.2.2⟩, h2, h3, fun j a b c d e f => ((Zi_n f).trans (Zi_n e)).trans (h4.1 j a b c d e f), h4.2⟩
/-- a function -/
theorem tfn_ (hK : yRm R) (hT : TS R c nv S) (hA : ITA R S) (hR : ROW R S) {fi : Nat} (hfi : fi < R.im) (hik : R.ik fi = 12) (hz : Zi S 3 = 0) (hI : isIt R.K (ZL R.S) (ZF R.S) (Zr R.S 5) (R.ws fi) (R.ps fi) (R.ms fi) (R.ps (fi + 1))) (hkd : ∃ fs : List Value, ZF R.S (R.ws fi) = .inr (16, fs) ∧ fs[2]? = some (.int 12)) (hpw : ∀ (fs : List Value) (pa : Nat), ZF R.S (R.ws fi) = .inr (16, fs) → fs[17]? = some (.ref pa) → R.pw pa = some (R.ms fi)) (hU : Unt R S (R.ms fi) (R.ps (fi + 1))) (hq : R.ps (fi + 1) ≤ R.T) (hnv : nv + 40 ≤ 10000) (hc : c + (R.ps (fi + 1) - R.ms fi) ≤ 1990) : Rt (f_typeFunction R.K S (nI fi)) (fun S2 _ => ∃ c2 nv2 : Nat, c2 ≤ c + (R.ps (fi + 1) - R.ms fi) ∧ nv2 ≤ nv + 40 ∧ TS R c2 nv2 S2 ∧ VZ R (Xo R (R.ms fi) (R.ps (fi + 1))) S S2 ∧ (Zf S2 = some (R.ws fi) ∧ Zi S2 21 = Zi S 21) ∧ (Zi S2 3 = 0 → FnT R S2 fi)) := by
  have hT9 := hT.tb
  obtain ⟨a1, a2, fs, mn, na, g, a3, a4, a5, a6, a7, a8, a9, a10, a11⟩ := hA fi hfi
  -- what was read
  have hrd : ∃ (mn9 na9 ta9 pa bl va b : Nat) (fs9 : List Value), ZF R.S (R.ws fi) = .inr (16, fs9) ∧ fs9[3]? = some (.int (nI mn9)) ∧ mn9 ≤ 12 ∧ fs9[16]? = some (.ref bl) ∧ fs9[17]? = some (.ref pa) ∧ pa ∈ ZL R.S ∧ ZF R.S pa = .inl (R.K.1 5, 13, .inr (.inr (.inr (.inr (fun _ => none))))) ∧ va ≤ 40 ∧ b ≤ 54 ∧ isQ R 40 1 bl (R.ms fi) (R.ps (fi + 1)) 0 b mn9 va := by
    obtain ⟨fs8, b1, b2⟩ := hkd
    obtain ⟨_, _, _, mn9, na9, g9, _, _, c1, _, c2⟩ := hI
    rcases c2 with ⟨wa, ta, q', f, c3, _⟩ | ⟨vr, q', f, c3, _⟩ | ⟨lv, wa, ta, pa, lf, lo, q', va, b, bl, rs, f, gl, c3, _, _, d1, _, _, _, _, d2, _, _, _, _, _, _, _, d3, d4, d5⟩
    · have e := (Prod.mk.inj (Sum.inr.inj (b1.symm.trans c3))).2
      subst e
      exact absurd (Value.int.inj (Option.some.inj b2)) (by decide)
    · have e := (Prod.mk.inj (Sum.inr.inj (b1.symm.trans c3))).2
      subst e
      exact absurd (Value.int.inj (Option.some.inj b2)) (by decide)
    · exact ⟨mn9, na9, ta, pa, bl, va, b, _, c3, rfl, c1, rfl, rfl, d1, d2, d3, d4, d5⟩
  obtain ⟨mn9, na9, ta9, pa, bl, va, b, fs9, b1, b2, b3, b4, b5, b6, b7, b8, b9, b10⟩ := hrd
  have hpwa := hpw fs9 pa b1 b5
  have hXp : Xo R (R.ms fi) (R.ms fi + 1) pa := Or.inr (Or.inr ⟨_, hpwa, Nat.le_refl _, Nat.lt_succ_self _, b7⟩)
  have hlm := (isN_lt b10).2
  have hvw := isN_vw b10
  obtain ⟨w1, gs, w2, w3, w4, w5⟩ := hT.ob a1.1 b1
  have egs : fs = gs := (Prod.mk.inj (Sum.inr.inj (a3.symm.trans w2))).2
  subst egs
  have emn : mn9 = mn := nI_ij (Value.int.inj (Option.some.inj (b2.symm.trans ((w4 3 rfl).symm.trans a5)))) (by omega) (by omega)
  subst emn
  have f16 : fs[16]? = some (.ref bl) := (w4 16 rfl).trans b4
  have f17 : fs[17]? = some (.ref pa) := (w4 17 rfl).trans b5
  rcases a11 with ⟨k1, _⟩ | ⟨k1, _⟩ | ⟨k1, ta, gv, lo, f, go, rl, k2, k3, k4, k5, _⟩
  · rw [hik] at k1; exact absurd k1 (by decide)
  · rw [hik] at k1; exact absurd k1 (by decide)
  unfold f_typeFunction
  refine Rt.bd (hT.it hfi a2) (Rt.bd (v := Uf S (some (R.ws fi))) rfl (Rt.bd (v := Ui (Uf S (some (R.ws fi))) 23 0) rfl (Rt.bd (v := Ui (Ui (Uf S (some (R.ws fi))) 23 0) 24 0) rfl ?_)))
  have hVZ : VZ R (Xo R 0 0) S (Ui (Ui (Uf S (some (R.ws fi))) 23 0) 24 0) := VZ.fn
  have y0 : YS R c nv (Ui (Ui (Uf S (some (R.ws fi))) 23 0) 24 0) [] [] fi gv := ⟨hT.fn, ⟨(Zi_n (by decide)).trans Zi_s, Nat.zero_le _, fun k v hk => by cases hk⟩, ⟨Zi_s, Nat.zero_le _, fun k v hk => by cases hk⟩, hA.vz hVZ, hR, ⟨fun v hv => (by cases hv), Nat.le_refl _⟩, ⟨rfl, hfi, hik, a1⟩, k5.im hVZ.2.2.1, fs, a3, k4⟩
  have hz0 : Zi (Ui (Ui (Uf S (some (R.ws fi))) 23 0) 24 0) 3 = 0 := by rw [Zi_n (by decide), Zi_n (by decide)]; exact hz
  have hU0 : Unt R (Ui (Ui (Uf S (some (R.ws fi))) 23 0) 24 0) (R.ms fi) (R.ps (fi + 1)) := hU
  have hrow0 : ZF (Ui (Ui (Uf S (some (R.ws fi))) 23 0) 24 0) pa = .inl (R.K.1 5, 13, .inr (.inr (.inr (.inr (fun _ => none))))) := (hU pa b6 (Xo_mo hXp (Nat.le_refl _) (by omega))).trans b7
  have a3' : ZF (Ui (Ui (Uf S (some (R.ws fi))) 23 0) 24 0) (R.ws fi) = .inr (16, fs) := a3
  have k3' : rTs R (Ui (Ui (Uf S (some (R.ws fi))) 23 0) 24 0) ta 13 mn9 f (rTy (Ui (Ui (Uf S (some (R.ws fi))) 23 0) 24 0)) := k3.vz hVZ (fun x q => q.im hVZ.2.2.1)
  have a9' : ZF (Ui (Ui (Uf S (some (R.ws fi))) 23 0) 24 0) na = .inl (R.K.1 0, 13, .inl g) := a9
  suffices hmain : ∀ S0 : Sg, YS R c nv S0 [] [] fi gv → Zi S0 3 = 0 → Unt R S0 (R.ms fi) (R.ps (fi + 1)) → ZF S0 pa = .inl (R.K.1 5, 13, .inr (.inr (.inr (.inr (fun _ => none))))) → ZF S0 (R.ws fi) = .inr (16, fs) → rTs R S0 ta 13 mn9 f (rTy S0) → ZF S0 na = .inl (R.K.1 0, 13, .inl g) → Rt (f_typeFunction_24 R.K bigN S0 (some (R.ws fi)) 0) (fun S2 _ => ∃ c2 nv2 : Nat, c2 ≤ c + (R.ps (fi + 1) - R.ms fi) ∧ nv2 ≤ nv + 40 ∧ TS R c2 nv2 S2 ∧ VX R (Xo R (R.ms fi) (R.ps (fi + 1))) S0 S2 ∧ (Zi S2 3 = 0 → FnT R S2 fi)) from (hmain _ y0 hz0 hU0 hrow0 a3' k3' a9').mo (fun S2 _ ⟨c2, nv2, q1, q2, q3, q4, q5⟩ => ⟨c2, nv2, q1, q2, q3, VZ.fn.tr q4.2, ⟨q4.1.2.2.2.2, (q4.1.1 21 (by decide) (by decide) (by decide) (by decide) (by decide)).trans ((Zi_n (by decide)).trans (Zi_n (by decide)))⟩, q5⟩)
  clear y0 hz0 hU0 hrow0 a3' k3' a9'
  intro S0 y0 hz0 hU0 hrow0 a30 k30 a90
  have hcX : ∀ (S9 : Sg) (k9 : Nat) (vs : List Value) (fv : Nat → Option Nat), ZF S9 pa = .inl (R.K.1 5, 13, .inr (.inr (.inr (.inr fv)))) → ¬ ZF S9 pa = .inr (k9, vs) := fun S9 k9 vs fv e w => by rw [e] at w; cases w
  have hwp : R.ws fi ≠ pa := fun e => a1.2 _ _ (e ▸ hXp)
  have htp : ta ≠ pa := fun e => k3.1.2 _ _ (e ▸ hXp)
  have hnp : na ≠ pa := fun e => a8.2 _ _ (e ▸ hXp)
  have hto : ∀ {S9 S1 : Sg}, VX R (fun a => a = pa) S9 S1 → VX R (Xo R (R.ms fi) (R.ms fi + 1)) S9 S1 := fun v1 => v1.mo (fun a e => e ▸ hXp)
  have hloop : ∀ (m j : Nat) {S1 : Sg} {us : List Nat} {fv : Nat → Option Nat}, mn9 < j + m → j ≤ mn9 → us.length = j → YS R c (nv + j) S1 us us fi gv → VX R (fun a => a = pa) S0 S1 → Zi S1 3 = 0 → ZF S1 pa = .inl (R.K.1 5, 13, .inr (.inr (.inr (.inr fv)))) → (∀ k : Nat, k < j → ∃ (u x : Nat) (nm : Int32), us[k]? = some u ∧ fv k = some u ∧ f k = some x ∧ isV S1 u k nm (some x) 0) → Rt (f_typeFunction_24 R.K m S1 (some (R.ws fi)) (nI j)) (fun S2 _ => ∃ c2 nv2 : Nat, c2 ≤ c + (R.ps (fi + 1) - R.ms fi) ∧ nv2 ≤ nv + 40 ∧ TS R c2 nv2 S2 ∧ VX R (Xo R (R.ms fi) (R.ps (fi + 1))) S0 S2 ∧ (Zi S2 3 = 0 → FnT R S2 fi)) := by
    intro m
    induction m with
    | zero => intro j S1 us fv a b; omega
    | succ m ih =>
      intro j S1 us fv hj1 hj2 hus y1 v1 z1 hrow htd
      have c1 : ZF S1 (R.ws fi) = .inr (16, fs) := (v1.2.1 _ a1.1 hwp).trans a30
      have e1 := y1.1.L a1.1
      unfold f_typeFunction_24
      refine Rt.bd (oI_mk e1 c1 a5) (Rt.it (fun w9 => ?_) (fun w9 => ?_))
      · have hjm : j = mn9 := by have := (nI_leI (a := mn9) (b := j) (by omega) (by omega)).mp w9; omega
        subst hjm
        have hU1 : Unt R S1 (R.ms fi + 1) (R.ps (fi + 1)) := fun a9 ha9 w => (v1.2.1 a9 ha9 (fun e => by rw [e] at w; exact Xo_dj hXp w (Or.inl (by omega)))).trans (hU0 a9 ha9 (Xo_mo w (by omega) (Nat.le_refl _)))
        refine Rt.bd (oR_mk (v := some bl) e1 c1 f16) (Rt.bn (blT hK 40 40 45 (by omega) (by omega) c (nv + j) S1 us us bl (R.ms fi) (R.ps (fi + 1)) 0 b j va y1 z1 hus b8 (by omega) hc b10 hU1 hq) (fun S3 _ q3 => ?_))
        obtain ⟨c3, nv3, e2, e3, e4, e5, e6⟩ := q3
        have v03 : VX R (Xo R (R.ms fi) (R.ps (fi + 1))) S0 S3 := ((hto v1).mo (fun a w => Xo_mo w (Nat.le_refl _) (by omega))).tr e5 (fun a w => Xo_mo w (by omega) (Nat.le_refl _))
        have hbad : ¬ Zi S3 3 = 0 → Rt (f_typeFunction_111 R.K S3) (fun S2 _ => ∃ c2 nv2 : Nat, c2 ≤ c + (R.ps (fi + 1) - R.ms fi) ∧ nv2 ≤ nv + 40 ∧ TS R c2 nv2 S2 ∧ VX R (Xo R (R.ms fi) (R.ps (fi + 1))) S0 S2 ∧ (Zi S2 3 = 0 → FnT R S2 fi)) := fun z => Rt.rt ⟨c3, nv3, e2, by omega, e4, v03, fun w => absurd w z⟩
        refine Rt.ok (fun z3 => ?_) hbad
        obtain ⟨Λ2, l1, l2, l3, _, l5⟩ := e6 z3
        have c3' : ZF S3 (R.ws fi) = .inr (16, fs) := (v03.nx a1).trans a30
        have e3' := e4.L a1.1
        have hgood : (isTy S3 gv 8 0 none ∨ eB S3 45 bl) → FnT R S3 fi := fun hend => by
          refine ⟨fs, j, ta, pa, bl, va, b, gv, f, fv, Λ2, ⟨a1, c3', a5, a6, k2, k4, f16, f17⟩, k30.vx v03 (fun x q => q.im v03.2.2.2.1), l1.2.2.2.2.2.2.2.1, ⟨b6, hXp, (e5.2.1 pa b6 (fun x => Xo_dj hXp x (Or.inl (Nat.le_refl _)))).trans hrow⟩, ⟨l3, b8, b9, hvw, by omega, hq, hT9⟩, fun k hk => ?_, l1.2.2.1.2.2, ?_, hend⟩
          · obtain ⟨u, x, nm, i1, i2, i3, i4⟩ := htd k hk
            exact ⟨u, x, nm, l2 k u i1, i2, i3, i4.vx e5⟩
          · have : Λ2.take j = us := by
              apply List.ext_getElem?
              intro k
              rw [List.getElem?_take]
              by_cases hk : k < j
              · rw [if_pos hk]
                obtain ⟨u, hu⟩ : ∃ u : Nat, us[k]? = some u := ⟨us[k], List.getElem?_eq_getElem (by omega)⟩
                rw [hu]; exact l2 k u hu
              · rw [if_neg hk, List.getElem?_eq_none (by omega)]
            rw [this]; exact l5
        obtain ⟨kd, ix, o, hty⟩ := l1.2.2.2.2.2.2.2.1.ty
        have hty2 := hty
        obtain ⟨tt, t1, t2, t3, t4⟩ := hty2
        refine Rt.bd (oR_mk (v := some gv) e3' c3' k4) (Rt.bd (oI_mk t3 t4 (v := kd) rfl) (Rt.it (fun w8 => ?_) (fun w8 => ?_)))
        · refine Rt.rt ⟨c3, nv3, e2, by omega, e4, v03, fun _ => hgood (Or.inl ?_)⟩
          have := (e4.at (by omega) hty).1
          rw [w8] at hty this
          rcases this with ⟨_, h1, h2⟩ | ⟨h, _⟩ | ⟨h, _⟩ | ⟨h, _⟩
          · have h1 : ix = 0 := h1
            have h2 : o = none := h2
            rw [h1, h2] at hty
            exact hty
          · exact absurd (show (8 : Int32) = 3 from h) (by decide)
          · exact absurd (show (8 : Int32) = 4 from h) (by decide)
          · exact absurd (show (8 : Int32) = 5 ∨ (8 : Int32) = 6 ∨ (8 : Int32) = 7 from h) (by decide)
        refine Rt.bd (oR_mk (v := some bl) e3' c3' f16) (Rt.bn (end_ (R := R) e4 40 40 45 (by omega) (by omega) l5 (by omega)) (fun S4 r4 q4 => ?_))
        obtain ⟨e8, q4⟩ := q4
        rw [e8]
        rcases q4 with q4 | ⟨q4, q5⟩
        · refine Rt.ip q4 ?_
          have l5' := l5
          obtain ⟨nxa, _, _, la, cap, mn2, f9, gs9, i1, _⟩ := l5'
          refine Rt.bd (oR_mk (v := some bl) e3' c3' f16) (Rt.bd (oI_mk (e4.L nxa.1) i1 (v := nI (R.ps (fi + 1) - 1)) rfl) (Rt.be (fai_ e4 (by omega)) (Rt.rt ⟨c3, nv3, e2, by omega, e4.fl, v03.n VX.fl, fun w => absurd w (flS_n0 (by decide))⟩)))
        · exact Rt.iq (by rw [q4]; decide) (Rt.rt ⟨c3, nv3, e2, by omega, e4, v03, fun _ => hgood (Or.inr q5)⟩)
      · have hlt : j < mn9 := by
          rcases Nat.lt_or_ge j mn9 with z | z
          · exact z
          · exact absurd (nI_le z (by omega)) w9
        obtain ⟨sj, s1, s2⟩ := a10 j hlt
        have n1 : ZF S1 na = .inl (R.K.1 0, 13, .inl g) := (v1.2.1 _ a8.1 hnp).trans a90
        have k31 : rTs R S1 ta 13 mn9 f (rTy S1) := k30.vx (hto v1) (fun x q => q.im v1.2.2.2.1)
        obtain ⟨x, x1, x2⟩ := k31.2.2 j hlt
        refine Rt.bd (oR_mk (v := some pa) e1 c1 f17) (Rt.bd (oR_mk (v := some na) e1 c1 a7) (Rt.bd (aI_n (y1.1.L a8.1) n1 (show j < 13 by omega) (by decide)) (Rt.bd (oR_mk (v := some ta) e1 c1 k2) (Rt.bd (aQ_n (y1.1.L k3.1.1) k31.2.1 (show j < 13 by omega) (by decide)) ?_))))
        rw [s1, x1]
        refine Rt.bn (dcl_ hK (by omega) (by omega) y1 s2 (show 0 ≤ 1 by omega) (fun z e => by cases e; exact x2) (by omega)) (fun S4 r4 q4 => ?_)
        obtain ⟨u, rfl, y4, v4, z4, w4, i4⟩ := q4
        have hrow4 : ZF S4 pa = .inl (R.K.1 5, 13, .inr (.inr (.inr (.inr fv)))) := (v4.2.1 _ b6 (fun w => w)).trans hrow
        refine Rt.bd (bQ_n (y4.1.L b6) hrow4 (show j < 13 by omega) (by decide) (okO_mk (vs := _) i4.1 i4.2)) ?_
        rw [nI_1]
        have t5 := y4.1.uf b6 (cs_ro (f3 := va_up fv j (some u)) b7 (fun _ => rfl))
        have v5 : VX R (fun a => a = pa) S4 (UF S4 pa (.inl (R.K.1 5, 13, .inr (.inr (.inr (.inr (va_up fv j (some u)))))))) := VX.uf rfl (fun vs => hcX S4 _ _ fv hrow4) (fun vs => hcX S4 _ _ fv hrow4)
        have w5 : VW S4 (UF S4 pa (.inl (R.K.1 5, 13, .inr (.inr (.inr (.inr (va_up fv j (some u)))))))) := ⟨rfl, rfl, rfl, fun u9 ix nm ty mu q => ⟨q.1, (ZF_n (fun e => hcX S4 _ _ fv hrow4 (e ▸ q.2))).trans q.2⟩⟩
        have y5 := y4.vw t5 (hto v5) w5
        have v15 : VX R (fun a => a = pa) S1 (UF S4 pa (.inl (R.K.1 5, 13, .inr (.inr (.inr (.inr (va_up fv j (some u)))))))) := v4.b v5
        refine ih (j + 1) (us := us ++ [u]) (fv := va_up fv j (some u)) (by omega) (by omega) (by rw [List.length_append, hus]; rfl) y5 (v1.tr v15 (fun _ w => w)) (show Zi S4 3 = 0 by rw [z4]; exact z1) ZF_s (fun k hk => ?_)
        by_cases e0 : k = j
        · subst e0
          refine ⟨u, x, nI sj, ?_, va_up_self _ _ _, x1, ?_⟩
          · rw [List.getElem?_append_right (by omega), hus, Nat.sub_self]; rfl
          · rw [hus] at i4
            exact w5.2.2.2 _ _ _ _ _ i4
        · obtain ⟨u9, x9, nm9, i1, i2, i3, i5⟩ := htd k (by omega)
          refine ⟨u9, x9, nm9, ?_, (va_up_ne _ _ e0).trans i2, i3, i5.vx v15⟩
          rw [List.getElem?_append_left (by omega)]; exact i1
  exact hloop bigN 0 (us := []) (by unfold bigN; omega) (Nat.zero_le _) rfl y0 VX.rf hz0 hrow0 (fun k hk => absurd hk (by omega))
end FNT
