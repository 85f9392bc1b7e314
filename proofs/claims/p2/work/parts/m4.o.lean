section PS66
variable {R : yR} {S0 Sl S S1 S2 S3 : Sg} {D : fD} {i k j f nw : Nat} {vt : Nat → Nat → Nat} {tb : Nat → lTb} {x : Nat → kFm} {bs : Nat → Nat} {g : Nat → Int32} {v T : Nat} {ρ : lLc} {y : qY} {rt : Nat × Nat → Nat} {V : Nat × Nat → qV} {C L H : Nat × Nat → List Nat} {zn sz rk : Nat → Nat} {M : nM} {sk : Nat → Int64} {pl : Nat → Int32}
/-- behind a step no reference lies -/
theorem pRw.nr {w va sa ta : Nat} {F : Nat → Int32} {G : Nat → Option Nat} (hY : YK R S0) (hp : pRw R S0 Sl w va ρ F G sa ta) (hr : ∀ j z : Nat, j ≤ ρ.length → G j = some z → rTy S0 z) (hne : ρ ≠ []) : ∃ z : Nat, G ρ.length = some z ∧ vTy S0 z := by
  obtain ⟨m, hm⟩ : ∃ m : Nat, ρ.length = m + 1 := by
    cases ρ with
    | nil => exact absurd rfl hne
    | cons a r => exact ⟨r.length, rfl⟩
  have hs : ρ[m]? = some ρ[m] := List.getElem?_eq_getElem (by omega)
  obtain ⟨_, x1, y1, g1, g2, st⟩ := hp.2.2.2.2.1 m _ hs
  refine ⟨y1, by rw [hm]; exact g2, ?_⟩
  rcases hr m x1 (by omega) g1 with h | ⟨kd, u, h1, h2, h3⟩
  · exact (st.qw hY h).1
  · rcases st with ⟨_, kd2, _, t2⟩ | ⟨i9, k9, _, t2, _⟩ | ⟨i9, g9, k9, mk, tx, _, t2, _⟩
    · obtain ⟨_, _, e3⟩ := isTy_fn t2 h1
      cases e3; exact h3
    · obtain ⟨e1, _, _⟩ := isTy_fn t2 h1
      rcases h2 with z | z <;> rw [z] at e1 <;> exact absurd e1 (by decide)
    · obtain ⟨e1, _, _⟩ := isTy_fn t2 h1
      rcases h2 with z | z <;> rw [z] at e1 <;> exact absurd e1 (by decide)
theorem RQ.r0 (hL : LFS R S0 g) (hx : LX S0 Sl) (h : RQ R S0 vt tb i D k f x bs Sl nw S) (hE : hFE R S0 D) (hp : (D.I k).pa = some (v, ρ, T)) (h24 : (D.I k).kd ≠ 24) (hT : isRf T) : ρ = [] := by
  obtain ⟨w, va, sa, ta, F, G, mu, w1, w2, w3, w4, w5, w6⟩ := h.pw hL hx hE hp h24
  by_cases e : ρ = []
  · exact e
  · obtain ⟨z, z1, z2⟩ := w2.nr hL.1 w3 e
    rw [z1] at w6
    have w6 : T = abT S0 z := w6
    have := z2.nm hL.1
    have := hT.1
    omega
/-- where a variable that is a reference leads -/
theorem plVr (hy : nYk (yT R S0) zn sz rk) (hJ : kJ (yT R S0) vt tb f x rt V) (hN : kN (yT R S0) zn sz M sk pl f x rt V bs C L H) (hv4 : v < 40) (hvS : (8, v, 0) ∈ (x f).2.1) (h56 : isRf (vt (x f).1 v)) (hal : kal (x f) v) (hlo : ¬ klo (x f) v []) : ∃ (d : Nat × Nat) (π : lLc) (n : Nat), (d.1 ≤ f ∧ d.2 < 40 ∧ (8, d.2, 0) ∈ (x d.1).2.1) ∧ kR (x f) v = some (d :: π) ∧ qW (yT R S0) (rt d) π ((yT R S0).2.1 (vt (x f).1 v)) ∧ qF (yT R S0) (V d) π ((yT R S0).2.1 (vt (x f).1 v)) ∧ wRn (yT R S0) zn M (rt d) (hdN (C d)) π n ∧ n < 430000 ∧ M.w (hdN (C (f, v))) = nL n ∧ rt (f, v) = vt (x f).1 v ∧ ∃ z : Nat × Nat, V (f, v) [] = some z := by
  have hf := Nat.le_refl f
  obtain ⟨h1, h2⟩ := hJ.2.2.2.2.2.2.1 f hf v hv4 hvS
  have h5 := (yRf (R := R) (S0 := S0)).mpr h56
  have q := h2 [] _ qM_nil rfl hlo
  obtain ⟨⟨t, gg⟩, e⟩ := q.1 (by rcases h5 with a | a <;> rw [a] <;> decide)
  have et : t = rt (f, v) := ((hJ.1 (f, v)).1 [] t gg e).1
  have hA : kA (x f) v := Or.inl ⟨hv4, hal⟩
  obtain ⟨a, ea⟩ := hJ.2.2.2.1 f hf v t gg e (by rw [et, h1]; exact h5) hA
  obtain ⟨-, d, π, rfl, d1, d2, d3⟩ := hJ.2.2.1 f hf v a hA ea
  rw [h1] at d2 d3
  obtain ⟨l1, l2, l3, _⟩ := hJ.ld hf hA ea
  obtain ⟨m1, m2, m3, m4, _⟩ := hN.2.2.2 f v d π hf hA (Or.inl ⟨hv4, hvS⟩) ea
  obtain ⟨m0, c1, c2⟩ := m4 hv4
  exact ⟨d, π, m1, ⟨l1, l2, l3⟩, ea, d2, d3, m3, m2, by rw [c1]; exact c2, h1, _, e⟩
/-- loans of what a shared reference leads to are shared -/
theorem FnD.sh {u κ : Nat} (h : FnD R S0 i D) (hs : ∀ a ∈ D.st k, pnE a) (h1 : isRf (D.E.vt v)) (h2 : D.E.vt v % 2 = 0) (q : HA R S0 i D k u κ) (ho : ¬ κ < 100) (hv : (tbD D).1 κ = v) : (tbD D).2.2.1 κ := by
  rcases q with ⟨_, q, _⟩ | ⟨_, v9, q9, r9, m9, ρ9, s9, z1, z2, _⟩
  · rcases q with ⟨q1, _⟩ | ⟨k2, l, v2, sh, ρ2, q1, q2, q3, ⟨e1, e2, e3⟩, q5⟩
    · exact absurd q1 ho
    · subst q1
      obtain ⟨d1, d2, d3⟩ := dcd_lm (v := v2) (s := sh) (ρ := ρ2)
      have hv : (dcd (lm v2 ρ2 sh)).1 = v := hv
      rw [d1] at hv
      subst hv
      show (dcd (lm v2 ρ2 sh)).2.2 % 2 = 1
      rw [d3, ← e2]
      have hbd := (h.1.2.2 k2 q2 q3).2.2.1
      unfold tPt at hbd
      rcases e3 with ⟨k3, T2, z⟩ | ⟨k3, g, m, T2, z⟩
      · rw [k3] at hbd
        obtain ⟨v8, ρ8, T8, hi, _, _, _, _, hc⟩ := hbd
        have z8 := hi.1
        rw [z] at z8
        have e8 : v2 = v8 := (Prod.mk.inj (Option.some.inj z8)).1
        rcases hc with ⟨_, hc, _⟩ | ⟨_, _, hc, _⟩
        · rw [hc]
        · rw [← e8] at hc
          have := hc h1; omega
      · rw [k3] at hbd
        obtain ⟨_, v8, ρ8, w9, q9, g9, m9, r9, _, _, _, _, _, ⟨_, _, hc⟩, _, a1, a2, a3, a4, a5, a6, _⟩ := hbd
        rw [z] at a6
        have e8 : v2 = v8 := (Prod.mk.inj (Option.some.inj a6)).1
        by_cases hn : (D.I k2).n3 = 1
        · rw [hn]
        · rw [← e8] at hc
          have := hc hn h1; omega
  · exfalso
    have hm : (q9, r9, 64 * cdP v9 ρ9 + m9) ∈ D.st k := by rw [z1]; exact List.mem_cons_self ..
    exact pn_4 hs _ hm (Or.inr z2)
theorem RQ.rac (h : RQ R S0 vt tb i D k f x bs Sl nw S) (hQ : D.Pe < 24000) : rI S 33 (nI k) = some (nI (D.I k).ac) := by
  rw [rI_n (show k < rlen 33 from h.k24 hQ) (by decide)]
  exact congrArg some ((congrFun (h.2.2.1.1.2.2.2.2.2.1 33 (by decide)) k).trans h.2.1.2.2.1)
/-- READ of a number -/
theorem s_2a (hL : LFS R S0 g) (hx : LX S0 Sl) (hE : hFE R S0 D) (h1 : RQ R S0 vt tb i D k f x bs Sl (k + 1) S1) (hQ : D.Pe < 24000) (hk : (D.I k).kd = 2) (hz : Zi S1 76 = Zi S 76) (e70 : Zi S1 70 = Zi S 70) (e3 : Zi S1 3 = Zi S 3) (er : Zr S1 = Zr S) (hi : iPa D.E (D.I k) (D.st k) v ρ T) (hu : iUv D.E (D.I k) v) (ho : (D.I k).ho = none) (hac : (D.I k).ac = 1) (hT : T = 1 ∨ T = 2) (hw : wkS (eT T :: D.st k) (D.st (k + 1))) : Rt (f_runRead R.K S1 (nI k)) (fun S2 _ => RTt R S0 vt tb i D k f x bs Sl S S2) := by
  have k24 : (D.I k).kd ≠ 24 := by rw [hk]; decide
  have hne : isRf (D.E.vt v) → ρ ≠ [] := fun w z => by
    rcases hi.2.2.2.1 with ⟨w2, _⟩ | ⟨_, ⟨_, w2⟩ | ⟨ρ2, w2, _⟩⟩
    · exact w2 w
    · have := w.1; omega
    · rw [z] at w2; cases w2
  have ha : (D.I k).ac ≠ 0 ∧ (D.I k).ac ≠ 7 ∧ (D.I k).ac ≠ 6 := by rw [hac]; decide
  obtain ⟨rt, V, C, L, H, fl, t9, ⟨hJ, hN, hC, hF⟩, _⟩ := h1.2.2.2.2.2.2.1
  obtain ⟨d, π, n, ⟨c1, c2, c3⟩, c4, c5, c6, c7, c8, c9⟩ := h1.pn hL hJ hN hi hu hne k24 ha
  have hvt : vt (x f).1 = D.E.vt := by rw [h1.2.2.2.2.2.1.1]; exact h1.2.2.2.2.2.2.2.2.1
  obtain ⟨w, r1, r2, r3⟩ := h1.fd (n := hdN (C (f, v))) (m := ρ.length) (n2 := n) hL hx hE hQ hN hi.1 hi.2.1.1 hi.2.2.1 k24 rfl (Nat.le_refl _) (Or.inr (by rw [List.take_length, ← hvt]; exact c8))
  unfold f_runRead
  refine Rt.bd r1 (Rt.bd (h1.rac hQ) (Rt.ip (by rw [hac]; rfl) (Rt.bd r2 ?_)))
  rw [r3]
  show Rt ((rJ S1 61 (nI n)).bind fun v29 => bnd (f_push R.K S1 v29) fun S30 v31 => f_runRead_165 R.K S30) _
  refine Rt.bd (rJ_n (show n < rlen 61 from c7) (by decide)) ?_
  have hb := h1.sb
  refine Rt.bn (psh_ (p := bs f + wl (D.st k)) h1.2.2.2.1.2.1 (by omega)) (fun S2 _ ⟨q1, q2, q3, q4⟩ => ?_)
  unfold f_runRead_165
  have eTT : eT T = (0, T, 0) := if_neg (by omega)
  rw [eTT] at hw
  refine Rt.rt ⟨q1.rx h1.2.2.1, Or.inr ⟨(q1.2.2.2.2.2.2.2 3 (by decide)).trans e3, (q1.2.2.2.2.2.2.2 70 (by decide)).trans e70, NXt.fr ?_ er hz⟩⟩
  exact h1.p0 hL (h1.e1 (kd_s hk (by decide))) (t2 := T) (by omega) hi.2.2.2.2.2.2.2 hw (kdM_k hk (by decide)) ho q1 (fun p hp => q4 p (by omega)) ((q1.2.2.2.2.2.2.2 77 (by decide)).trans h1.2.2.2.1.1) q2
/-- READ of a shared reference -/
theorem s_2b (hL : LFS R S0 g) (hx : LX S0 Sl) (hE : hFE R S0 D) (h1 : RQ R S0 vt tb i D k f x bs Sl (k + 1) S1) (hQ : D.Pe < 24000) (hk : (D.I k).kd = 2) (hz : Zi S1 76 = Zi S 76) (e70 : Zi S1 70 = Zi S 70) (e3 : Zi S1 3 = Zi S 3) (er : Zr S1 = Zr S) (hi : iPa D.E (D.I k) (D.st k) v ρ T) (hu : iUv D.E (D.I k) v) (ho : (D.I k).ho = some (40 + wl (D.st k))) (hac : (D.I k).ac = 1) (hT : isRf T) (hT2 : T % 2 = 0) (hw : wkS (eT T :: D.st k) (D.st (k + 1))) : Rt (f_runRead R.K S1 (nI k)) (fun S2 _ => RTt R S0 vt tb i D k f x bs Sl S S2) := by
  have k24 : (D.I k).kd ≠ 24 := by rw [hk]; decide
  have hρ := h1.r0 hL hx hE hi.1 k24 hT
  subst hρ
  have hy := nYk_of hL
  have hEy := h1.1.2.2.2.2
  have hv4 := hi.2.1.1
  have hTv : D.E.vt v = T := by
    rcases hi.2.2.2.1 with ⟨w2, w3⟩ | ⟨_, ⟨_, w2⟩ | ⟨ρ2, w2, _⟩⟩
    · have w3 : T = D.E.vt v := w3
      exact w3.symm
    · exact w2.symm
    · cases w2
  have hrv : isRf (D.E.vt v) := by rw [hTv]; exact hT
  obtain ⟨rt, V, C, L, H, fl, t9, ⟨hJ, hN, hC, hF⟩, _⟩ := h1.2.2.2.2.2.2.1
  obtain ⟨a1, a2, a3, a4, a5, a6⟩ := h1.2.2.2.2.2.1
  have hvt : vt (x f).1 = D.E.vt := by rw [a1]; exact h1.2.2.2.2.2.2.2.2.1
  have htb : tb (x f).1 = tbD D := by rw [a1]; exact h1.2.2.2.2.2.2.2.2.2
  have hFn := h1.1.1
  have hfu := hFn.fu hy hEy h1.1.2.1.1 h1.1.2.1.2.1 h1.1.2.1.2.2 hi.1 k24 (by rw [hac]; decide) (by rw [hac]; decide) (Or.inl (by rw [hac]; decide)) (pTy_fu hi.2.2.2.1).1 (pTy_fu hi.2.2.2.1).2
  have hkv : kal (x f) v := by rw [a5]; exact ⟨hv4, Or.inl (by rw [(hu.1 hrv).1]; exact List.mem_singleton_self _)⟩
  obtain ⟨d, π, n, ⟨c1, c2, c3⟩, c4, c5, c6, c7, c8, c9, c10, z9, c11⟩ := plVr hy hJ hN hv4 (by rw [a2]; exact trL_8.mpr hi.2.2.1) (by rw [hvt]; exact hrv) hkv (by rw [a6]; exact hfu.1 qM_nil [] T qM_nil rfl)
  obtain ⟨w, r1, r2, r3⟩ := h1.fd (n := hdN (C (f, v))) (m := 0) (n2 := hdN (C (f, v))) hL hx hE hQ hN hi.1 hv4 hi.2.2.1 k24 rfl (Nat.le_refl _) (Or.inl ⟨rfl, rfl⟩)
  obtain ⟨p1, p2, p3⟩ := hN.hd hy (d := (f, v)) (Nat.le_refl f) hv4 (by rw [a2]; exact trL_8.mpr hi.2.2.1)
  unfold f_runRead
  refine Rt.bd r1 (Rt.bd (h1.rac hQ) (Rt.ip (by rw [hac]; rfl) (Rt.bd r2 ?_)))
  show Rt (bnd (f_find R.K S1 (some w) (nI 0)) fun S27 v28 => (rJ S27 61 v28).bind fun v29 => bnd (f_push R.K S27 v29) fun S30 v31 => f_runRead_165 R.K S30) _
  rw [r3]
  show Rt ((rJ S1 61 (nI (hdN (C (f, v))))).bind fun v29 => bnd (f_push R.K S1 v29) fun S30 v31 => f_runRead_165 R.K S30) _
  refine Rt.bd (rJ_n (show hdN (C (f, v)) < rlen 61 from p3) (by decide)) ?_
  have hb := h1.sb
  refine Rt.bn (psh_ (p := bs f + wl (D.st k)) h1.2.2.2.1.2.1 (by omega)) (fun S2 _ ⟨q1, q2, q3, q4⟩ => ?_)
  unfold f_runRead_165
  have hnt := hi.2.2.2.2.2.2.2
  have hs := h1.1.2.2.2.1.all hnt
  have hst := h1.st.2
  have h177 := h1.pt.2
  have hed : edg D k (k + 1) := h1.e1 (kd_s hk (by decide))
  obtain ⟨U, hU⟩ : ∃ U : Nat, T = 10000 + 2 * U := ⟨(T - 10000) / 2, by have := hT.1; omega⟩
  have hU9 : U < 10000 := by have := hT.2; omega
  have eTT : eT T = (1, U, 0) := by
    unfold eT
    rw [if_pos (by omega), if_pos (by omega), show (T - 10000) / 2 = U by omega]
  rw [eTT] at hw
  have hcr := (yB_yT (R := R) (S0 := S0)).2.2.1
  have hc := hcr U hU9
  have eU : (yT R S0).2.1 (vt (x f).1 v) = U := by rw [hvt, hTv, hU]; exact hc.2.1
  rw [eU] at c5 c6
  have hal : ∀ u : Nat, AB D k u → u < 40 → AL D k u := fun u w h4 => w.al (fun z => by rw [ho] at z; have := Option.some.inj z; omega)
  have hal2 : ∀ u : Nat, (u < 40 ∧ AB D k u) → kal (x f) u := fun u z => by rw [a5]; exact ⟨z.1, hal u z.2 z.1⟩
  have hun : ¬ ((yT R S0).1 (10000 + 2 * U) = 6) := by rw [hc.1]; decide
  obtain ⟨b1, b2⟩ := lBw_copy2 (t := 40 + wl (x f).2.1) (un := (yT R S0).1 (10000 + 2 * U) = 6) (hd := kH (x f) v) (hJ.2.1.1 f (Nat.le_refl f)) (kA_to a3 hal2) (Or.inl ⟨hv4, hkv⟩) c4 (by show ¬ ((yT R S0).1 (rt (f, v)) = 6); rw [c10, hvt, hTv, hU, hc.1]; decide) hun (fun l q => q) (fun u l g2 g3 g4 => by
    have g2 : kH (x f) u l := g2
    have g3 : ¬ (tb (x f).1).2.2.2.1 l := g3
    have g4 : (tb (x f).1).1 l = v := g4
    show (tb (x f).1).2.2.1 l
    rw [htb] at g3 g4 ⊢
    rw [a4] at g2
    exact hFn.sh hs hrv (by rw [hTv]; exact hT2) g2 g3 g4)
  have hJ2 := kJ_pushR (k := 1) (T := U) (m := 0) (t := 10000 + 2 * U) hJ hcr hU9 (Or.inl ⟨rfl, rfl⟩) a3 (by omega) (fun r m2 => by
    rw [a2]
    exact ⟨fun z => absurd (Or.inr (Or.inl rfl)) (trL_4 (pn_4 hs) _ z), fun z => absurd (Or.inr (Or.inr rfl)) (trL_4 (pn_4 hs) _ z)⟩) hal2 ⟨d, π, rfl, c2, c5, c6⟩ b1 b2
  refine Rt.rt ⟨q1.rx h1.2.2.1, Or.inr ⟨(q1.2.2.2.2.2.2.2 3 (by decide)).trans e3, (q1.2.2.2.2.2.2.2 70 (by decide)).trans e70, NXt.fr ?_ er hz⟩⟩
  exact h1.eR (q := 1) (U := U) (t := 10000 + 2 * U) hL hed hJ hN hC hF hnt (Or.inl rfl) (by omega) hw (kdM_k hk (by decide)) ho (fun κ hκ => by
    rw [a4] at hκ
    rcases hκ with ⟨_, hκ⟩ | ⟨hκ, _⟩
    · exact hFn.hf hed (by omega) ho k24 (by rw [(hu.1 hrv).2]; exact List.mem_singleton_self _) hκ.1
    · omega) hal c2 c8 c7 hJ2 q1 (fun p hp => q4 p (by omega)) (q3.trans c9) ((q1.2.2.2.2.2.2.2 77 (by decide)).trans h1.2.2.2.1.1) q2
end PS66
