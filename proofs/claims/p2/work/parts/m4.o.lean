-- m4.o.lean.txt
section
section PS66
variable {R : yR} {S0 Sl S S1 S2 S3 : Sg} {D : fD} {i k j f nw : Nat} {vt : Nat → Nat → Nat} {tb : Nat → lTb} {x : Nat → kFm} {bs : Nat → Nat} {g : Nat → Int32} {v T : Nat} {ρ : lLc} {y : qY} {rt : Nat × Nat → Nat} {V : Nat × Nat → qV} {C L H : Nat × Nat → List Nat} {zn sz rk : Nat → Nat} {M : nM} {sk : Nat → Int64} {pl : Nat → Int32}
/-- behind a step no reference lies -/
theorem pRw.nr {w va sa ta : Nat} {F : Nat → Int32} {G : Nat → Option Nat} (hY : YK R S0) (hp : pRw R S0 Sl w va ρ F G sa ta) (hr : ∀ j z : Nat, j ≤ ρ.length → G j = some z → rTy S0 z) (hne : ρ ≠ []) : ∃ z : Nat, G ρ.length = some z ∧ vTy S0 z := by
  obtain ⟨m, hm⟩ : ∃ m : Nat, ρ.length = m + 1 := by
    cases ρ with
    | nil => exact absurd rfl hne
    | cons a r => exact ⟨r.length, rfl⟩
  have hs : ρ[m]? = some ρ[m] := List.getElem?_eq_getElem (by omega)
  obtain ⟨_, x1, y1, g1, g2, st⟩ := hp.2.2.2.2.1 m _ hs
  refine ⟨y1, by rw [hm]; exact g2, ?_⟩
  rcases hr m x1 (by omega) g1 with h | ⟨kd, u, h1, h2, h3⟩
  · exact (st.qw hY h).1
  · rcases st with ⟨_, kd2, _, t2⟩ | ⟨i9, k9, _, t2, _⟩ | ⟨i9, g9, k9, mk, tx, _, t2, _⟩
    · obtain ⟨_, _, e3⟩ := isTy_fn t2 h1
      cases e3; exact h3
    · obtain ⟨e1, _, _⟩ := isTy_fn t2 h1
      rcases h2 with z | z <;> rw [z] at e1 <;> exact absurd e1 (by decide)
    · obtain ⟨e1, _, _⟩ := isTy_fn t2 h1
      rcases h2 with z | z <;> rw [z] at e1 <;> exact absurd e1 (by decide)
theorem RQ.r0 (hL : LFS R S0 g) (hx : LX S0 Sl) (h : RQ R S0 vt tb i D k f x bs Sl nw S) (hE : hFE R S0 D) (hp : (D.I k).pa = some (v, ρ, T)) (h24 : (D.I k).kd ≠ 24) (hT : isRf T) : ρ = [] := by
  obtain ⟨w, va, sa, ta, F, G, mu, w1, w2, w3, w4, w5, w6⟩ := h.pw hL hx hE hp h24
  by_cases e : ρ = []
  · exact e
  · obtain ⟨z, z1, z2⟩ := w2.nr hL.1 w3 e
    rw [z1] at w6
    have w6 : T = abT S0 z := w6
    have := z2.nm hL.1
    have := hT.1
    omega
/-- where a variable that is a reference leads -/
theorem plVr (hy : nYk (yT R S0) zn sz rk) (hJ : kJ (yT R S0) vt tb f x rt V) (hN : kN (yT R S0) zn sz M sk pl f x rt V bs C L H) (hv4 : v < 40) (hvS : (8, v, 0) ∈ (x f).2.1) (h56 : isRf (vt (x f).1 v)) (hal : kal (x f) v) (hlo : ¬ klo (x f) v []) : ∃ (d : Nat × Nat) (π : lLc) (n : Nat), (d.1 ≤ f ∧ d.2 < 40 ∧ (8, d.2, 0) ∈ (x d.1).2.1) ∧ kR (x f) v = some (d :: π) ∧ qW (yT R S0) (rt d) π ((yT R S0).2.1 (vt (x f).1 v)) ∧ qF (yT R S0) (V d) π ((yT R S0).2.1 (vt (x f).1 v)) ∧ wRn (yT R S0) zn M (rt d) (hdN (C d)) π n ∧ n < 430000 ∧ M.w (hdN (C (f, v))) = nL n ∧ rt (f, v) = vt (x f).1 v ∧ ∃ z : Nat × Nat, V (f, v) [] = some z := by
  have hf := Nat.le_refl f
  obtain ⟨h1, h2⟩ := hJ.2.2.2.2.2.2.1 f hf v hv4 hvS
  have h5 := (yRf (R := R) (S0 := S0)).mpr h56
  have q := h2 [] _ qM_nil rfl hlo
  obtain ⟨⟨t, gg⟩, e⟩ := q.1 (by rcases h5 with a | a <;> rw [a] <;> decide)
  have et : t = rt (f, v) := ((hJ.1 (f, v)).1 [] t gg e).1
  have hA : kA (x f) v := Or.inl ⟨hv4, hal⟩
  obtain ⟨a, ea⟩ := hJ.2.2.2.1 f hf v t gg e (by rw [et, h1]; exact h5) hA
  obtain ⟨-, d, π, rfl, d1, d2, d3⟩ := hJ.2.2.1 f hf v a hA ea
  rw [h1] at d2 d3
  obtain ⟨l1, l2, l3, _⟩ := hJ.ld hf hA ea
  obtain ⟨m1, m2, m3, m4, _⟩ := hN.2.2.2 f v d π hf hA (Or.inl ⟨hv4, hvS⟩) ea
  obtain ⟨m0, c1, c2⟩ := m4 hv4
  exact ⟨d, π, m1, ⟨l1, l2, l3⟩, ea, d2, d3, m3, m2, by rw [c1]; exact c2, h1, _, e⟩
/-- loans of what a shared reference leads to are shared -/
theorem FnD.sh {u κ : Nat} (h : FnD R S0 i D) (hs : ∀ a ∈ D.st k, pnE a) (h1 : isRf (D.E.vt v)) (h2 : D.E.vt v % 2 = 0) (q : HA R S0 i D k u κ) (ho : ¬ κ < 100) (hv : (tbD D).1 κ = v) : (tbD D).2.2.1 κ := by
  rcases q with ⟨_, q, _⟩ | ⟨_, v9, q9, r9, m9, ρ9, s9, z1, z2, _⟩
  · rcases q with ⟨q1, _⟩ | ⟨k2, l, v2, sh, ρ2, q1, q2, q3, ⟨e1, e2, e3⟩, q5⟩
    · exact absurd q1 ho
    · subst q1
      obtain ⟨d1, d2, d3⟩ := dcd_lm (v := v2) (s := sh) (ρ := ρ2)
      have hv : (dcd (lm v2 ρ2 sh)).1 = v := hv
      rw [d1] at hv
      subst hv
      show (dcd (lm v2 ρ2 sh)).2.2 % 2 = 1
      rw [d3, ← e2]
      have hbd := (h.1.2.2 k2 q2 q3).2.2.1
      unfold tPt at hbd
      rcases e3 with ⟨k3, T2, z⟩ | ⟨k3, g, m, T2, z⟩
      · rw [k3] at hbd
        obtain ⟨v8, ρ8, T8, hi, _, _, _, _, hc⟩ := hbd
        have z8 := hi.1
        rw [z] at z8
        have e8 : v2 = v8 := (Prod.mk.inj (Option.some.inj z8)).1
        rcases hc with ⟨_, hc, _⟩ | ⟨_, _, hc, _⟩
        · rw [hc]
        · rw [← e8] at hc
          have := hc h1; omega
      · rw [k3] at hbd
        obtain ⟨_, v8, ρ8, w9, q9, g9, m9, r9, _, _, _, _, _, ⟨_, _, hc⟩, _, a1, a2, a3, a4, a5, a6, _⟩ := hbd
        rw [z] at a6
        have e8 : v2 = v8 := (Prod.mk.inj (Option.some.inj a6)).1
        by_cases hn : (D.I k2).n3 = 1
        · rw [hn]
        · rw [← e8] at hc
          have := hc hn h1; omega
  · exfalso
    have hm : (q9, r9, 64 * cdP v9 ρ9 + m9) ∈ D.st k := by rw [z1]; exact List.mem_cons_self ..
    exact pn_4 hs _ hm (Or.inr z2)
theorem RQ.rac (h : RQ R S0 vt tb i D k f x bs Sl nw S) (hQ : D.Pe < 24000) : rI S 33 (nI k) = some (nI (D.I k).ac) := by
  rw [rI_n (show k < rlen 33 from h.k24 hQ) (by decide)]
  exact congrArg some ((congrFun (h.2.2.1.1.2.2.2.2.2.1 33 (by decide)) k).trans h.2.1.2.2.1)
/-- READ of a number -/
theorem s_2a (hL : LFS R S0 g) (hx : LX S0 Sl) (hE : hFE R S0 D) (h1 : RQ R S0 vt tb i D k f x bs Sl (k + 1) S1) (hQ : D.Pe < 24000) (hk : (D.I k).kd = 2) (hz : Zi S1 76 = Zi S 76) (e70 : Zi S1 70 = Zi S 70) (e3 : Zi S1 3 = Zi S 3) (er : Zr S1 = Zr S) (hi : iPa D.E (D.I k) (D.st k) v ρ T) (hu : iUv D.E (D.I k) v) (ho : (D.I k).ho = none) (hac : (D.I k).ac = 1) (hT : T = 1 ∨ T = 2) (hw : wkS (eT T :: D.st k) (D.st (k + 1))) : Rt (f_runRead R.K S1 (nI k)) (fun S2 _ => RTt R S0 vt tb i D k f x bs Sl S S2) := by
  have k24 : (D.I k).kd ≠ 24 := by rw [hk]; decide
  have hne : isRf (D.E.vt v) → ρ ≠ [] := fun w z => by
    rcases hi.2.2.2.1 with ⟨w2, _⟩ | ⟨_, ⟨_, w2⟩ | ⟨ρ2, w2, _⟩⟩
    · exact w2 w
    · have := w.1; omega
    · rw [z] at w2; cases w2
  have ha : (D.I k).ac ≠ 0 ∧ (D.I k).ac ≠ 7 ∧ (D.I k).ac ≠ 6 := by rw [hac]; decide
  obtain ⟨rt, V, C, L, H, fl, t9, ⟨hJ, hN, hC, hF⟩, _⟩ := h1.2.2.2.2.2.2.1
  obtain ⟨d, π, n, ⟨c1, c2, c3⟩, c4, c5, c6, c7, c8, c9⟩ := h1.pn hL hJ hN hi hu hne k24 ha
  have hvt : vt (x f).1 = D.E.vt := by rw [h1.2.2.2.2.2.1.1]; exact h1.2.2.2.2.2.2.2.2.1
  obtain ⟨w, r1, r2, r3⟩ := h1.fd (n := hdN (C (f, v))) (m := ρ.length) (n2 := n) hL hx hE hQ hN hi.1 hi.2.1.1 hi.2.2.1 k24 rfl (Nat.le_refl _) (Or.inr (by rw [List.take_length, ← hvt]; exact c8))
  unfold f_runRead
  refine Rt.bd r1 (Rt.bd (h1.rac hQ) (Rt.ip (by rw [hac]; rfl) (Rt.bd r2 ?_)))
  rw [r3]
  show Rt ((rJ S1 61 (nI n)).bind fun v29 => bnd (f_push R.K S1 v29) fun S30 v31 => f_runRead_165 R.K S30) _
  refine Rt.bd (rJ_n (show n < rlen 61 from c7) (by decide)) ?_
  have hb := h1.sb
  refine Rt.bn (psh_ (p := bs f + wl (D.st k)) h1.2.2.2.1.2.1 (by omega)) (fun S2 _ ⟨q1, q2, q3, q4⟩ => ?_)
  unfold f_runRead_165
  have eTT : eT T = (0, T, 0) := if_neg (by omega)
  rw [eTT] at hw
  refine Rt.rt ⟨q1.rx h1.2.2.1, Or.inr ⟨(q1.2.2.2.2.2.2.2 3 (by decide)).trans e3, (q1.2.2.2.2.2.2.2 70 (by decide)).trans e70, NXt.fr ?_ er hz⟩⟩
  exact h1.p0 hL (h1.e1 (kd_s hk (by decide))) (t2 := T) (by omega) hi.2.2.2.2.2.2.2 hw (kdM_k hk (by decide)) ho q1 (fun p hp => q4 p (by omega)) ((q1.2.2.2.2.2.2.2 77 (by decide)).trans h1.2.2.2.1.1) q2
/-- READ of a shared reference -/
theorem s_2b (hL : LFS R S0 g) (hx : LX S0 Sl) (hE : hFE R S0 D) (h1 : RQ R S0 vt tb i D k f x bs Sl (k + 1) S1) (hQ : D.Pe < 24000) (hk : (D.I k).kd = 2) (hz : Zi S1 76 = Zi S 76) (e70 : Zi S1 70 = Zi S 70) (e3 : Zi S1 3 = Zi S 3) (er : Zr S1 = Zr S) (hi : iPa D.E (D.I k) (D.st k) v ρ T) (hu : iUv D.E (D.I k) v) (ho : (D.I k).ho = some (40 + wl (D.st k))) (hac : (D.I k).ac = 1) (hT : isRf T) (hT2 : T % 2 = 0) (hw : wkS (eT T :: D.st k) (D.st (k + 1))) : Rt (f_runRead R.K S1 (nI k)) (fun S2 _ => RTt R S0 vt tb i D k f x bs Sl S S2) := by
  have k24 : (D.I k).kd ≠ 24 := by rw [hk]; decide
  have hρ := h1.r0 hL hx hE hi.1 k24 hT
  subst hρ
  have hy := nYk_of hL
  have hEy := h1.1.2.2.2.2
  have hv4 := hi.2.1.1
  have hTv : D.E.vt v = T := by
    rcases hi.2.2.2.1 with ⟨w2, w3⟩ | ⟨_, ⟨_, w2⟩ | ⟨ρ2, w2, _⟩⟩
    · have w3 : T = D.E.vt v := w3
      exact w3.symm
    · exact w2.symm
    · cases w2
  have hrv : isRf (D.E.vt v) := by rw [hTv]; exact hT
  obtain ⟨rt, V, C, L, H, fl, t9, ⟨hJ, hN, hC, hF⟩, _⟩ := h1.2.2.2.2.2.2.1
  obtain ⟨a1, a2, a3, a4, a5, a6⟩ := h1.2.2.2.2.2.1
  have hvt : vt (x f).1 = D.E.vt := by rw [a1]; exact h1.2.2.2.2.2.2.2.2.1
  have htb : tb (x f).1 = tbD D := by rw [a1]; exact h1.2.2.2.2.2.2.2.2.2
  have hFn := h1.1.1
  have hfu := hFn.fu hy hEy h1.1.2.1.1 h1.1.2.1.2.1 h1.1.2.1.2.2 hi.1 k24 (by rw [hac]; decide) (by rw [hac]; decide) (Or.inl (by rw [hac]; decide)) (pTy_fu hi.2.2.2.1).1 (pTy_fu hi.2.2.2.1).2
  have hkv : kal (x f) v := by rw [a5]; exact ⟨hv4, Or.inl (by rw [(hu.1 hrv).1]; exact List.mem_singleton_self _)⟩
  obtain ⟨d, π, n, ⟨c1, c2, c3⟩, c4, c5, c6, c7, c8, c9, c10, z9, c11⟩ := plVr hy hJ hN hv4 (by rw [a2]; exact trL_8.mpr hi.2.2.1) (by rw [hvt]; exact hrv) hkv (by rw [a6]; exact hfu.1 qM_nil [] T qM_nil rfl)
  obtain ⟨w, r1, r2, r3⟩ := h1.fd (n := hdN (C (f, v))) (m := 0) (n2 := hdN (C (f, v))) hL hx hE hQ hN hi.1 hv4 hi.2.2.1 k24 rfl (Nat.le_refl _) (Or.inl ⟨rfl, rfl⟩)
  obtain ⟨p1, p2, p3⟩ := hN.hd hy (d := (f, v)) (Nat.le_refl f) hv4 (by rw [a2]; exact trL_8.mpr hi.2.2.1)
  unfold f_runRead
  refine Rt.bd r1 (Rt.bd (h1.rac hQ) (Rt.ip (by rw [hac]; rfl) (Rt.bd r2 ?_)))
  show Rt (bnd (f_find R.K S1 (some w) (nI 0)) fun S27 v28 => (rJ S27 61 v28).bind fun v29 => bnd (f_push R.K S27 v29) fun S30 v31 => f_runRead_165 R.K S30) _
  rw [r3]
  show Rt ((rJ S1 61 (nI (hdN (C (f, v))))).bind fun v29 => bnd (f_push R.K S1 v29) fun S30 v31 => f_runRead_165 R.K S30) _
  refine Rt.bd (rJ_n (show hdN (C (f, v)) < rlen 61 from p3) (by decide)) ?_
  have hb := h1.sb
  refine Rt.bn (psh_ (p := bs f + wl (D.st k)) h1.2.2.2.1.2.1 (by omega)) (fun S2 _ ⟨q1, q2, q3, q4⟩ => ?_)
  unfold f_runRead_165
  have hnt := hi.2.2.2.2.2.2.2
  have hs := h1.1.2.2.2.1.all hnt
  have hst := h1.st.2
  have h177 := h1.pt.2
  have hed : edg D k (k + 1) := h1.e1 (kd_s hk (by decide))
  obtain ⟨U, hU⟩ : ∃ U : Nat, T = 10000 + 2 * U := ⟨(T - 10000) / 2, by have := hT.1; omega⟩
  have hU9 : U < 10000 := by have := hT.2; omega
  have eTT : eT T = (1, U, 0) := by
    unfold eT
    rw [if_pos (by omega), if_pos (by omega), show (T - 10000) / 2 = U by omega]
  rw [eTT] at hw
  have hcr := (yB_yT (R := R) (S0 := S0)).2.2.1
  have hc := hcr U hU9
  have eU : (yT R S0).2.1 (vt (x f).1 v) = U := by rw [hvt, hTv, hU]; exact hc.2.1
  rw [eU] at c5 c6
  have hal : ∀ u : Nat, AB D k u → u < 40 → AL D k u := fun u w h4 => w.al (fun z => by rw [ho] at z; have := Option.some.inj z; omega)
  have hal2 : ∀ u : Nat, (u < 40 ∧ AB D k u) → kal (x f) u := fun u z => by rw [a5]; exact ⟨z.1, hal u z.2 z.1⟩
  have hun : ¬ ((yT R S0).1 (10000 + 2 * U) = 6) := by rw [hc.1]; decide
  obtain ⟨b1, b2⟩ := lBw_copy2 (t := 40 + wl (x f).2.1) (un := (yT R S0).1 (10000 + 2 * U) = 6) (hd := kH (x f) v) (hJ.2.1.1 f (Nat.le_refl f)) (kA_to a3 hal2) (Or.inl ⟨hv4, hkv⟩) c4 (by show ¬ ((yT R S0).1 (rt (f, v)) = 6); rw [c10, hvt, hTv, hU, hc.1]; decide) hun (fun l q => q) (fun u l g2 g3 g4 => by
    have g2 : kH (x f) u l := g2
    have g3 : ¬ (tb (x f).1).2.2.2.1 l := g3
    have g4 : (tb (x f).1).1 l = v := g4
    show (tb (x f).1).2.2.1 l
    rw [htb] at g3 g4 ⊢
    rw [a4] at g2
    exact hFn.sh hs hrv (by rw [hTv]; exact hT2) g2 g3 g4)
  have hJ2 := kJ_pushR (k := 1) (T := U) (m := 0) (t := 10000 + 2 * U) hJ hcr hU9 (Or.inl ⟨rfl, rfl⟩) a3 (by omega) (fun r m2 => by
    rw [a2]
    exact ⟨fun z => absurd (Or.inr (Or.inl rfl)) (trL_4 (pn_4 hs) _ z), fun z => absurd (Or.inr (Or.inr rfl)) (trL_4 (pn_4 hs) _ z)⟩) hal2 ⟨d, π, rfl, c2, c5, c6⟩ b1 b2
  refine Rt.rt ⟨q1.rx h1.2.2.1, Or.inr ⟨(q1.2.2.2.2.2.2.2 3 (by decide)).trans e3, (q1.2.2.2.2.2.2.2 70 (by decide)).trans e70, NXt.fr ?_ er hz⟩⟩
  exact h1.eR (q := 1) (U := U) (t := 10000 + 2 * U) hL hed hJ hN hC hF hnt (Or.inl rfl) (by omega) hw (kdM_k hk (by decide)) ho (fun κ hκ => by
    rw [a4] at hκ
    rcases hκ with ⟨_, hκ⟩ | ⟨hκ, _⟩
    · exact hFn.hf hed (by omega) ho k24 (by rw [(hu.1 hrv).2]; exact List.mem_singleton_self _) hκ.1
    · omega) hal c2 c8 c7 hJ2 q1 (fun p hp => q4 p (by omega)) (q3.trans c9) ((q1.2.2.2.2.2.2.2 77 (by decide)).trans h1.2.2.2.1.1) q2
end PS66
end
-- m4.p.lean.txt
section
section PS67
variable {R : yR} {S0 Sl S S1 S2 S3 : Sg} {g : Nat → Int32} {T k t : Nat} {y : qY} {zn sz rk : Nat → Nat} {M M2 : nM} {W V : qV} {c l h c0 l0 h0 fl : List Nat}
theorem psN_q9 {u w : Nat → Nat} : ∀ {n : Nat}, (∀ j : Nat, j < n → u j = w j) → psN u n = psN w n
  | 0, _ => rfl
  | n + 1, h => by
    show psN u n + u n = psN w n + w n
    rw [psN_q9 (fun j hj => h j (by omega)), h n (by omega)]
/-- a row of as many, in parts of as many -/
theorem ftN_spl {cs : Nat → List Nat} : ∀ {n : Nat} {c2 : List Nat}, c2.length = (ftN cs n).length → ∃ cs2 : Nat → List Nat, c2 = ftN cs2 n ∧ ∀ j : Nat, j < n → (cs2 j).length = (cs j).length
  | 0, c2, h => ⟨fun _ => [], by
      have h : c2.length = 0 := h
      exact List.eq_nil_of_length_eq_zero h, fun j hj => by omega⟩
  | n + 1, c2, h => by
    have h : c2.length = (ftN cs n ++ cs n).length := h
    rw [List.length_append] at h
    obtain ⟨cs2, e1, e2⟩ := ftN_spl (cs := cs) (n := n) (c2 := c2.take (ftN cs n).length) (by rw [List.length_take]; omega)
    refine ⟨lUp cs2 n (c2.drop (ftN cs n).length), ?_, fun j hj => ?_⟩
    · show c2 = ftN (lUp cs2 n (c2.drop (ftN cs n).length)) n ++ lUp cs2 n (c2.drop (ftN cs n).length) n
      rw [lUp_eq, ftN_cg (g := cs2) (fun j hj => lUp_ne (by omega)), ← e1, List.take_append_drop]
    · by_cases e : j = n
      · subst e
        rw [lUp_eq, List.length_drop]; omega
      · rw [lUp_ne e]; exact e2 j (by omega)
theorem ftN_cor {cs cs2 : Nat → List Nat} {n j i a b : Nat} (hl : ∀ j : Nat, j < n → (cs2 j).length = (cs j).length) (hj : j < n) (h1 : (cs j)[i]? = some a) (h2 : (cs2 j)[i]? = some b) : ∃ q : Nat, (ftN cs n)[q]? = some a ∧ (ftN cs2 n)[q]? = some b := by
  have i1 := (List.getElem?_eq_some_iff.mp h1).1
  have i2 := (List.getElem?_eq_some_iff.mp h2).1
  refine ⟨psN (fun j => (cs j).length) j + i, (ftN_get hj i1).trans h1, ?_⟩
  rw [← psN_q9 (u := fun j => (cs2 j).length) (fun q hq => hl q (by omega))]
  exact (ftN_get hj i2).trans h2
/-- a whole value, its own nodes copied -/
theorem pL.cp : ∀ {k T : Nat} {V : qV} {c l h c2 : List Nat}, pL y sz M k T V c l h → qF y V [] T → c2.length = c.length → (∀ i a b : Nat, c[i]? = some a → c2[i]? = some b → M2.w b = M.w a ∧ M2.h b = 1) → agN M M2 l → pL y sz M2 k T V c2 l h
  | 0, _, _, _, _, _, _, q, _, _, _, _ => q.elim
  | k + 1, T, V, c, l, h, c2, q, hf, hn, hc, ha => by
    rcases q with ⟨h2, cs, ls, hs, e1, e2, e3, hq⟩ | ⟨h2, n, e1, hl⟩
    · rw [e1] at hn hc
      rw [e2] at ha ⊢
      rw [e3]
      obtain ⟨cs2, b1, b2⟩ := ftN_spl hn
      rw [b1] at hc ⊢
      refine Or.inl ⟨h2, cs2, ls, hs, rfl, rfl, rfl, fun j hj => pL.cp (hq j hj) ?_ (b2 j hj) (fun i a b z1 z2 => ?_) (ha.im (fun a w => ftN_mem.mpr ⟨j, hj, w⟩))⟩
      · rw [qF_S]
        exact qF_in (ρ := [(0, j)]) hf (fun a w => by rw [List.mem_singleton.mp w]) ⟨h2, hj, rfl⟩
      · obtain ⟨p, p1, p2⟩ := ftN_cor b2 hj z1 z2
        exact hc p a b p1 p2
    · rw [e1] at hn hc
      match c2, hn with
      | [b], _ =>
        obtain ⟨w1, w2⟩ := hc 0 n b rfl rfl
        refine Or.inr ⟨h2, b, rfl, Or.inr ⟨w2, ?_⟩⟩
        rw [w1]
        rcases hl with ⟨z, _⟩ | ⟨_, z⟩
        · obtain ⟨z2, z3⟩ := (hf [] T qM_nil rfl).1 h2
          have z3 : V [] = some z2 := z3
          rw [z] at z3; cases z3
        · exact vL.st z ha
theorem NO.ag {A : Nat → Prop} (e : NO A S S2) (h : ∀ a ∈ l, ¬ A a) : agN (nMS S) (nMS S2) l := fun a ha => e.2.2.2.2.2.2.2.2 a (h a ha)
theorem bnd_s9 {α β : Type} {a : Sg} {b : α} {f : Sg → α → Option (Sg × β)} : bnd (some (a, b)) f = f a b := rfl
/-- takePlace -/
theorem tkp_ {x : Nat} (hL : LFS R S0 g) (hx : LX S0 Sl) (e : RNx Sl S) (hr : rTy S0 x) (eT : abT S0 x = T) (hp : pL (yT R S0) (szN R S0) (nMS S) k T W c0 l0 h0) (hk : lkN (Zr S 63) c0) (hF : qF (yT R S0) W [] T) (hf : FLs S fl t) (h1 : ∀ n ∈ fl, 1 ≤ n) (hro : t ≤ fl.length + 424640) (hcv : cvN c0 l0 fl t) : Rt (f_takePlace R.K S (some x) (nI (hdN c0))) (fun S2 r => ∃ (Ln fl2 : List Nat) (t2 : Nat), NO (fun m => m ∈ Ln ∨ m ∈ c0) S S2 ∧ FLs S2 fl2 t2 ∧ (∀ a : Nat, cnN a Ln + cnN a fl2 + ind t a = cnN a fl + ind t2 a) ∧ (∀ a ∈ c0, Zr S2 62 a = 0 ∧ Zr S2 63 a = Zr S 63 a) ∧ (∀ a ∈ Ln, a ∈ fl ∨ t < a) ∧ vaR (yT R S0) (szN R S0) (nMS S2) T W r (Ln ++ l0) h0) := by
  have hy := nYk_of hL
  have hlen := hp.len hy
  have hz := hy.1 T
  have hc1 : 1 ≤ c0.length := by omega
  have dis : ∀ a : Nat, a ∈ c0 → a ∉ fl ∧ a ∉ l0 ∧ a ≤ t := fun a ha => by
    obtain ⟨z1, z2⟩ := hcv a
    have m1 := cnN_mem.mp ha
    exact ⟨fun w => by have := cnN_mem.mp w; omega, fun w => by have := cnN_mem.mp w; omega, (z2 (by omega)).2⟩
  have dl : ∀ a : Nat, a ∈ l0 → a ∉ fl ∧ a ≤ t := fun a ha => by
    obtain ⟨z1, z2⟩ := hcv a
    have m1 := cnN_mem.mp ha
    exact ⟨fun w => by have := cnN_mem.mp w; omega, (z2 (by omega)).2⟩
  have nd0 : c0.Nodup := cnN_nd.mpr (fun a => by have := (hcv a).1; omega)
  have hbg : 100 < bigN := by unfold bigN; omega
  unfold f_takePlace
  generalize bigN = bg at hbg ⊢
  by_cases h2 : yK R S0 T = 2
  · obtain ⟨i9, ta, ff, o1, _⟩ := vwS hL hx e hr (by rw [eT]; exact h2)
    refine Rt.bd o1 (Rt.ip rfl ?_)
    have ho : ∀ z : Nat, some x = some z → rTy S0 z := fun z q => by cases q; exact hr
    have eo : zN R S0 (abU S0 (some x)) = zN R S0 T := by rw [← eT]; rfl
    have h16 := hz.2.1
    have hrm : zN R S0 T + t ≤ fl.length + 429999 := by omega
    refine Rt.bn (npl_ hL hx e (o := some x) ho (by rw [eo]; exact hz.1) (by rw [eo]; exact h16) hf (by rw [eo]; exact hrm)) (fun S4 r4 ⟨Ln, l2, t2, a, q1, q2, q3, q4, q5, q6, q7, q8, q9⟩ => ?_)
    rw [eo] at q1
    rw [lvo_ hL hx (e.tr q7.rn) ho, bnd_s9, eo, ← q1]
    have a0 : Ln[0]? = some a := q2
    have ea : a = hdN Ln := by
      have := hdN_0 (c := Ln) (by rw [q1]; exact hz.1)
      rw [a0] at this; exact Option.some.inj this
    have nfl : ∀ b : Nat, b ∈ Ln → b ∉ l2 ∧ (b ∈ fl ∨ t < b) := fun b hb => ⟨(q8.1 b hb).1, (q8.1 b hb).2.2⟩
    have c0L : ∀ b : Nat, b ∈ c0 → b ∉ Ln := fun b hb w => by
      obtain ⟨z1, _, z3⟩ := dis b hb
      rcases (nfl b w).2 with z | z
      · exact z1 z
      · omega
    have l0L : ∀ b : Nat, b ∈ l0 → b ∉ Ln := fun b hb w => by
      obtain ⟨z1, z3⟩ := dl b hb
      rcases (nfl b w).2 with z | z
      · exact z1 z
      · omega
    have x4 : ∀ b : Nat, b ∉ Ln → Zl S4 61 b = Zl S 61 b ∧ Zr S4 62 b = Zr S 62 b ∧ Zr S4 63 b = Zr S 63 b := fun b hb => q7.2.2.2.2.2.2.2.2 b hb
    refine (tk41 (z := r4) Ln c0 bg S4 r4 (nI (hdN c0)) (by rw [q1]; exact hlen.symm) (by rw [q1]; have := hz.2.1; omega) (by rw [q1]; have := hz.2.1; omega) q6 q4 (hk.cg (fun b hb => (x4 b (c0L b hb)).2.2)) q5 nd0 (fun b hb => ⟨(nfl b hb).1, fun w => c0L b w hb⟩) (fun b hb w => (dis b hb).1 (q8.2.2.1 b w)) (fun b hb => by rw [q3, Option.some.inj (q2.symm.trans hb)]) (fun b hb => by rw [Option.some.inj ((hdN_0 hc1).symm.trans hb)])).mo (fun S2 r ⟨p1, p2, p3, p4, p5⟩ => ?_)
    have hNO : NO (fun m => m ∈ Ln ∨ m ∈ c0) S S2 := (q7.mo (fun m w => Or.inl w)).tr p3
    have ge : ∀ b : Nat, b ∈ c0 → ∃ (i : Nat) (d : Nat), Ln[i]? = some d ∧ c0[i]? = some b := fun b hb => by
      obtain ⟨i, hi, e9⟩ := List.mem_iff_getElem.mp hb
      have hi2 : i < Ln.length := by rw [q1, ← hlen]; exact hi
      exact ⟨i, Ln[i], List.getElem?_eq_getElem hi2, by rw [List.getElem?_eq_getElem hi, e9]⟩
    refine ⟨Ln, l2, t2, hNO, p2, fun b => q8.eq q5 hf.2.2.2.1 q6.2.2.2.1 (fun n hn => ⟨h1 n hn, hf.2.2.2.2 n hn⟩) (fun n hn => (q4.1 n hn).1) b, fun b hb => ?_, fun b hb => (nfl b hb).2, Or.inl ⟨h2, k, Ln, l0, ?_, ?_, ?_, rfl⟩⟩
    · obtain ⟨i, d, i1, i2⟩ := ge b hb
      obtain ⟨_, _, z3, _⟩ := p5 i d b i1 i2
      exact ⟨z3, by rw [p4]; exact (x4 b (c0L b hb)).2.2⟩
    · refine hp.cp hF (by rw [q1]; exact hlen.symm) (fun i b d i1 i2 => ?_) (hNO.ag (fun b hb w => ?_))
      · obtain ⟨z1, z2, _, _⟩ := p5 i d b i2 i1
        refine ⟨?_, z2⟩
        show Zl S2 61 d = Zl S 61 b
        rw [z1]; exact (x4 b (c0L b (List.mem_of_getElem? i1))).1
      · rcases w with w | w
        · exact l0L b hb w
        · exact (dis b w).2.1 hb
    · show lkN (Zr S2 63) Ln
      rw [p4]; exact q4
    · rw [p1, q3, ea]; rfl
  · have hk2 : ∃ kd : Int32, oI S 20 (some x) 0 = some kd ∧ kd ≠ 3 := by
      obtain ⟨kd, ix, o, q, _⟩ := hr.ty
      obtain ⟨tn, _, _, z3, z4⟩ := e.ty (hx.ty q)
      refine ⟨kd, oI_mk z3 z4 rfl, fun w => h2 ?_⟩
      rcases yK_k hL hr q with ⟨z, _⟩ | ⟨_, i9, w1, w2, _, _, _, w3⟩ | z | z | z
      · rcases z with z | z | z | z <;> (rw [w] at z; exact absurd z (by decide))
      · rw [eT] at w3; exact w3
      · have := z.1; rw [w] at this; exact absurd this (by decide)
      · have := z.1; rw [w] at this; exact absurd this (by decide)
      · rcases z.1 with z | z <;> (rw [w] at z; exact absurd z (by decide))
    obtain ⟨kd, o1, o2⟩ := hk2
    have hy2 : (yT R S0).1 T ≠ 2 := h2
    cases k with
    | zero => exact hp.elim
    | succ k =>
    rcases hp with ⟨z, _⟩ | ⟨_, n, en, hl⟩
    · exact absurd z hy2
    · subst en
      generalize hh : hdN [n] = n9
      obtain rfl : n = n9 := hh
      obtain ⟨n1, n4⟩ := hk.1 n (List.mem_singleton_self n)
      refine Rt.bd o1 (Rt.iq o2 (Rt.bd (wZ_n (show n < rlen 62 from n4) (by decide) (Or.inl rfl)) ?_))
      have e2 : NO (fun m => m = n) S (Ur S 62 (upd (Zr S 62) n 0)) := NO.w2 rfl
      have v2 : Zl (Ur S 62 (upd (Zr S 62) n 0)) = Zl S := rfl
      have u2 : Zr (Ur S 62 (upd (Zr S 62) n 0)) 62 n = 0 := by rw [Zr_us, upd_s]
      have w2 : Zr (Ur S 62 (upd (Zr S 62) n 0)) 63 = Zr S 63 := Zr_u9 (by decide)
      have f2 : FLs (Ur S 62 (upd (Zr S 62) n 0)) fl t := hf.no e2 (fun m hm w => (dis n (List.mem_singleton_self n)).1 (by rw [← w]; exact hm)) rfl rfl
      generalize Ur S 62 (upd (Zr S 62) n 0) = S4 at e2 v2 u2 w2 f2
      refine Rt.bd (rJ_n (show n < rlen 61 from n4) (by decide)) (Rt.rt ⟨[], fl, t, e2.mo (fun m w => Or.inr (by rw [w]; exact List.mem_singleton_self n)), f2, fun a => by rw [show cnN a [] = 0 from rfl, Nat.zero_add], fun b hb => ?_, fun b hb => absurd hb (List.not_mem_nil), Or.inr ⟨hy2, k, ?_⟩⟩)
      · rw [List.mem_singleton.mp hb, w2]; exact ⟨u2, rfl⟩
      · rw [v2]
        rcases hl with ⟨z, _⟩ | ⟨_, z⟩
        · obtain ⟨z2, z3⟩ := (hF [] T qM_nil rfl).1 hy2
          have z3 : W [] = some z2 := z3
          rw [z] at z3; cases z3
        · exact vL.st z (e2.ag (fun b hb w => (dis n (List.mem_singleton_self n)).2.1 (by rw [← w]; exact hb)))
end PS67
end
-- m4.q.lean.txt
section
section PS68
variable {y : qY} {vt : Nat → Nat → Nat} {tb : Nat → lTb} {zn sz rk : Nat → Nat} {M M2 : nM} {sk sk2 : Nat → Int64} {pl pl2 : Nat → Int32} {f : Nat} {x x2 : Nat → kFm} {rt rt2 : Nat × Nat → Nat} {V V2 : Nat × Nat → qV} {bs : Nat → Nat} {C L H C2 L2 H2 : Nat × Nat → List Nat} {v T : Nat} {ρ σ : lLc} {fl : List Nat} {t : Nat} {tk : Nat → Int32}
/-- a value is moved out of its place -/
theorem kJ_mv (hJ : kJ y vt tb f x rt V) (hn : (x f).2.2.1 = 0) (hl : wl (x f).2.1 < 211) (hno : ∀ r m2 : Nat, (5, r, m2) ∉ (x f).2.1 ∧ (6, r, m2) ∉ (x f).2.1) {B : Nat} {al2 : Nat → Prop} {lo2 : Nat → lLc → Prop} (hT0 : T ≠ 0) (hT5 : y.1 T ≠ 5) (hT6 : y.1 T ≠ 6) (hv4 : v < 40) (hvS : (8, v, 0) ∈ (x f).2.1) (hw : qW y (vt (x f).1 v) ρ T) (hm : qM σ) (hσ : qW y (vt (x f).1 v) σ B) (hσρ : ρ = σ ∨ ρ = σ ++ [(1, 0)]) (hfu : fuL y (klo (x f)) v ρ T) (hal : ∀ u : Nat, al2 u → kal (x f) u) (hlo : ∀ (w : Nat) (π : lLc), ¬ lo2 w π → ¬ klo (x f) w π ∧ (w = v → ¬ lCmp π σ)) (hk : lCk (tb (x f).1) (kH (x f)) (fun u => (u < 40 ∧ al2 u) ∨ (40 ≤ u ∧ u < 40 + wl (x f).2.1)) v ρ False) : (qF y (V (f, v)) ρ T ∧ rt (f, v) = vt (x f).1 v) ∧ kJ y vt tb f (kUx x f ((x f).1, (0, T, 0) :: (x f).2.1, 0, lUp (kR (x f)) (40 + wl (x f).2.1) none, kH (x f), al2, lo2, kAn (x f))) (qRt rt (f, 40 + wl (x f).2.1) T) (qUp (qUp V (f, v) (qC (V (f, v)) σ)) (f, 40 + wl (x f).2.1) (qS (V (f, v)) ρ)) := by
  have hf := Nat.le_refl f
  have hms : qMs ρ := by
    rcases hσρ with e | e
    · rw [e]; exact qMs_M hm
    · rw [e]
      intro a ha
      rcases List.mem_append.mp ha with q | q
      · exact Or.inl (hm a q)
      · rw [List.mem_singleton.mp q]; exact Or.inr rfl
  obtain ⟨F1, F2⟩ := pl_A hJ hv4 hvS hw hms hfu
  have wρ : qW y (rt (f, v)) ρ T := by rw [F2]; exact hw
  have wσ : qW y (rt (f, v)) σ B := by rw [F2]; exact hσ
  have iv := hJ.2.1.1 f hf
  have hcc : ∀ (u : Nat) (b : lLc), ((u < 40 ∧ al2 u) ∨ (40 ≤ u ∧ u < 40 + wl (x f).2.1)) → kR (x f) u = some b → ¬ lCmp b ((f, v) :: σ) := fun u b hu hb hcm => by
    have hA := kA_to hn hal u hu
    obtain ⟨-, r, π, rfl, -, w1, -⟩ := hJ.2.2.1 f hf u b hA hb
    refine (lAc_var iv (kA_to hn hal) hk hu hb ?_).1
    obtain ⟨rfl, hcm2⟩ := lCmp_cons hcm
    clear hcm
    rcases hσρ with rfl | rfl
    · exact hcm2.imp lP_consI lP_consI
    · rcases hcm2 with q | q
      · exact Or.inl (lP_consI (lP_tr q (lP_app _ _)))
      · obtain ⟨s, rfl⟩ := q
        cases s with
        | nil => rw [List.append_nil]; exact Or.inl (lP_consI (lP_app _ _))
        | cons a s =>
          obtain ⟨T2, v1, v2⟩ := qW_cut w1
          obtain rfl := qW_det wσ v1
          obtain ⟨T3, v3, v4⟩ := qW_cut wρ
          obtain rfl := qW_det wσ v3
          have h4 : y.1 B = 4 := v4.2.1
          obtain ⟨q, i⟩ := a
          refine Or.inr (lP_consI ?_)
          match q, v2 with
          | 0, v2 => exact absurd (h4.symm.trans v2.1) (by decide)
          | 1, v2 =>
            obtain rfl : i = 0 := v2.1
            exact ⟨s, by rw [List.append_assoc]; rfl⟩
          | g + 2, v2 => exact absurd (h4.symm.trans v2.1) (by decide)
  have j1 := kJ_cut hJ (σ := σ) (R2 := kR (x f)) (al2 := al2) (lo2 := lo2) hn hv4 hno hm (fun _ _ => rfl) (Or.inl rfl) hal hlo hcc
  generalize hx1 : kUx x f ((x f).1, (x f).2.1, 0, kR (x f), kH (x f), al2, lo2, kAn (x f)) = x1 at j1
  have e1 : x1 f = ((x f).1, (x f).2.1, 0, kR (x f), kH (x f), al2, lo2, kAn (x f)) := by rw [← hx1, kUx_eq]
  have eS : (x1 f).2.1 = (x f).2.1 := by rw [e1]
  have hu : qFu y T (qS (V (f, v)) ρ) := qFu_S (hJ.1 _) wρ F1
  have hk0 : kNm (0, T, 0) := by unfold kNm; simp
  have j := kJ_push (hd := kH (x1 f) (40 + wl (x1 f).2.1)) j1 hk0 (by rw [e1]) (by rw [eS]; exact hl) hu.1 (fun w hw => by
    obtain ⟨a, b⟩ := w
    have e9 : a = T := (hu.1.1 [] a b hw).1
    show y.1 a ≠ 5 ∧ y.1 a ≠ 6
    rw [e9]
    exact ⟨hT5, hT6⟩) (e := (0, T, 0)) ⟨lUp_eq, hT5, hT6, fun _ => ⟨qRt_eq, by rw [qUp_eq]; exact hu.2⟩, fun q => absurd q hT0⟩
  rw [lUp_self] at j
  rw [e1, ← hx1, kUx2] at j
  exact ⟨⟨F1, F2⟩, j⟩
/-- some roots of the latest frame change -/
theorem kN.rq {Q : Nat → Prop} (hy : nYk y zn sz rk) (hJ : kJ y vt tb f x rt V) (h : kN y zn sz M sk pl f x rt V bs C L H)
  (hx : ∀ j : Nat, j ≠ f → x2 j = x j) (h8 : ∀ u : Nat, ¬ Q u → ((8, u, 0) ∈ (x2 f).2.1 ↔ (8, u, 0) ∈ (x f).2.1)) (hw : ∀ u : Nat, ¬ Q u → 40 ≤ u → (u < 40 + wl (x2 f).2.1 ↔ u < 40 + wl (x f).2.1))
  (hV : ∀ r : Nat × Nat, ¬ (r.1 = f ∧ Q r.2) → rt2 r = rt r ∧ V2 r = V r ∧ C2 r = C r ∧ L2 r = L r ∧ H2 r = H r) (hM : ∀ r : Nat × Nat, ¬ (r.1 = f ∧ Q r.2) → r.1 ≤ f → kSc (x r.1).2.1 r.2 → agN M M2 (C r) ∧ agN M M2 (L r))
  (hp : ∀ r : Nat × Nat, ¬ (r.1 = f ∧ Q r.2) → r.1 ≤ f → r.2 < 40 → (8, r.2, 0) ∈ (x r.1).2.1 → pl2 (40 * r.1 + r.2) = pl (40 * r.1 + r.2)) (hs : ∀ r : Nat × Nat, ¬ (r.1 = f ∧ Q r.2) → r.1 ≤ f → 40 ≤ r.2 → r.2 < 40 + wl (x r.1).2.1 → sk2 (bs r.1 + (r.2 - 40)) = sk (bs r.1 + (r.2 - 40)))
  (hn : ∀ u : Nat, Q u → rPc y sz M2 sk2 pl2 (x2 f).2.1 (bs f) f u (rt2 (f, u)) (V2 (f, u)) (C2 (f, u)) (L2 (f, u)) (H2 (f, u)))
  (hr : ∀ (j u : Nat) (d : Nat × Nat) (π : lLc), j ≤ f → kA (x2 j) u → kSc (x2 j).2.1 u → kR (x2 j) u = some (d :: π) → (¬ (j = f ∧ Q u) ∧ ¬ (d.1 = f ∧ Q d.2) ∧ kA (x j) u ∧ kR (x j) u = some (d :: π)) ∨ rfA y zn M2 sk2 (bs j) u (rt2 d) (C2 d) (C2 (j, u)) π) : kN y zn sz M2 sk2 pl2 f x2 rt2 V2 bs C2 L2 H2 := by
  have hag : ∀ r : Nat × Nat, ¬ (r.1 = f ∧ Q r.2) → r.1 ≤ f → agN M M2 (C r) ∧ agN M M2 (L r) := fun r h1 h2 => by
    by_cases c : kSc (x r.1).2.1 r.2
    · exact hM r h1 h2 c
    · obtain ⟨z1, z2, _⟩ := (h.1 r.1 r.2 h2).2.2 c
      have z1 : C r = [] := z1
      have z2 : L r = [] := z2
      rw [z1, z2]
      exact ⟨fun _ w => (by cases w), fun _ w => (by cases w)⟩
  refine kN.up (bs := bs) (f2 := f) hy hJ h (fun r => ¬ (r.1 = f ∧ Q r.2) ∧ r.1 ≤ f) (fun j u ⟨k1, k2⟩ => ?_) (fun j u hj hk => ?_) (fun j u hj => ?_) ⟨h.2.2.1.1, fun j hj => ?_⟩ (fun j u d π hj ha hc he => ?_)
  · obtain ⟨v1, v2, v3, v4, v5⟩ := hV (j, u) k1
    obtain ⟨a1, a2⟩ := hag (j, u) k1 k2
    refine ⟨⟨k2, rfl⟩, ?_, fun a => ?_, ⟨v1, v2⟩, ⟨v3, v4, v5⟩, a1, a2, fun a b => hp (j, u) k1 k2 a b, fun a b => hs (j, u) k1 k2 a b⟩
    · by_cases e : j = f
      · subst e; exact h8 u (fun w => k1 ⟨rfl, w⟩)
      · rw [hx j e]
    · by_cases e : j = f
      · subst e; exact hw u (fun w => k1 ⟨rfl, w⟩) a
      · rw [hx j e]
  · have e : j = f ∧ Q u := Classical.byContradiction (fun w => hk ⟨w, hj⟩)
    obtain ⟨e1, e2⟩ := e
    subst e1
    exact hn u e2
  · obtain ⟨_, _, v3, v4, v5⟩ := hV (j, u) (fun w => by have : j = f := w.1; omega)
    rw [v3, v4, v5]; exact h.2.1 j u hj
  · rw [hx j (by omega)]; exact h.2.2.1.2 j hj
  · rcases hr j u d π hj ha hc he with ⟨w1, w2, w3, w4⟩ | w
    · exact Or.inl ⟨⟨w1, hj⟩, ⟨w2, (hJ.ld hj w3 w4).1⟩, w3, w4⟩
    · exact Or.inr w
/-- a part of a root's nodes stands apart from the rest -/
theorem kC.cv {r : Nat × Nat} {c0 l0 : List Nat} (hc : kC C L H fl t tk) (h1 : r.1 < 60) (h2 : r.2 < 300) (hfl : fl.Nodup) (hs : ∀ a : Nat, cnN a c0 + cnN a l0 ≤ cnN a (C r) + cnN a (L r)) : cvN c0 l0 fl t := fun a => by
  have := hs a
  by_cases w : a ∈ C r ∨ a ∈ L r
  · obtain ⟨q1, q2, q3, q4, _⟩ := hc.one h1 h2 w
    rw [cnN_z q1]
    exact ⟨by omega, fun _ => ⟨q2, q3⟩⟩
  · have z1 := cnN_z (fun z => w (Or.inl z))
    have z2 := cnN_z (fun z => w (Or.inr z))
    have := cnN_nd.mp hfl a
    exact ⟨by omega, fun z => by omega⟩
theorem qG_C {W : qV} : qG W ρ (fun _ => none) = qC W ρ := funext fun π => by
  unfold qG qC
  cases qD ρ π <;> rfl
/-- two roots are told anew -/
def u2N {α : Type} (F : Nat × Nat → α) (r1 r2 : Nat × Nat) (a b : α) : Nat × Nat → α := fun r => if r = r1 then a else if r = r2 then b else F r
theorem u2N_1 {α : Type} {F : Nat × Nat → α} {r1 r2 : Nat × Nat} {a b : α} : u2N F r1 r2 a b r1 = a := if_pos rfl
theorem u2N_2 {α : Type} {F : Nat × Nat → α} {r1 r2 : Nat × Nat} {a b : α} (h : r2 ≠ r1) : u2N F r1 r2 a b r2 = b := by
  unfold u2N
  rw [if_neg h, if_pos rfl]
theorem u2N_o {α : Type} {F : Nat × Nat → α} {r1 r2 r : Nat × Nat} {a b : α} (h1 : r ≠ r1) (h2 : r ≠ r2) : u2N F r1 r2 a b r = F r := by
  unfold u2N
  rw [if_neg h1, if_neg h2]
end PS68
end
-- m4.r.lean.txt
section
section PS69
variable {y : qY} {vt : Nat → Nat → Nat} {tb : Nat → lTb} {zn sz rk : Nat → Nat} {M M2 : nM} {sk sk2 : Nat → Int64} {pl pl2 : Nat → Int32} {f : Nat} {x x2 : Nat → kFm} {rt rt2 : Nat × Nat → Nat} {V V2 : Nat × Nat → qV} {bs : Nat → Nat} {C L H C2 L2 H2 : Nat × Nat → List Nat} {v T : Nat} {ρ σ : lLc} {fl : List Nat} {t : Nat} {tk : Nat → Int32}
theorem kN.ix (h : kN y zn sz M sk pl f x rt V bs C L H) {j u : Nat} (hj : j ≤ f) (h4 : 40 ≤ u) (hu : u < 40 + wl (x j).2.1) : bs j + (u - 40) < bs f + wl (x f).2.1 := by
  by_cases e : j = f
  · subst e; omega
  · have := (h.bsm (j := j) (q := f) hj (Nat.le_refl _)).2 (by omega); omega
theorem psN_two {w : Nat → Nat} : psN w 2 = w 0 + w 1 := by
  show 0 + w 0 + w 1 = _
  omega
/-- the nodes when a value is moved out of its place -/
theorem kN.mv {k0 t2 : Nat} {al2 : Nat → Prop} {lo2 : Nat → lLc → Prop} {c0 l0 g0 rest hr Ln fl2 : List Nat} {r : Int64} (hy : nYk y zn sz rk) (hJ : kJ y vt tb f x rt V) (hN : kN y zn sz M sk pl f x rt V bs C L H) (hC : kC C L H fl t tk) (hf6 : f < 60) (hw1 : ∀ j : Nat, j ≤ f → wl (x j).2.1 ≤ 177) (hn0 : (x f).2.2.1 = 0) (hv4 : v < 40) (hvS : (8, v, 0) ∈ (x f).2.1) (hnr : y.1 (rt (f, v)) ≠ 5 ∧ y.1 (rt (f, v)) ≠ 6) (hal : ∀ u : Nat, al2 u → kal (x f) u)
  (hJ2 : kJ y vt tb f (kUx x f ((x f).1, (0, T, 0) :: (x f).2.1, 0, lUp (kR (x f)) (40 + wl (x f).2.1) none, kH (x f), al2, lo2, kAn (x f))) (qRt rt (f, 40 + wl (x f).2.1) T) (qUp (qUp V (f, v) (qC (V (f, v)) ρ)) (f, 40 + wl (x f).2.1) (qS (V (f, v)) ρ)))
  (p0 : pL y sz M k0 T (qS (V (f, v)) ρ) c0 l0 g0) (pc : ∀ a : Nat, cnN a (C (f, v)) + cnN a (L (f, v)) = cnN a c0 + cnN a l0 + cnN a rest) (ph : ∀ a : Nat, cnN a (H (f, v)) = cnN a g0 + cnN a hr) (pm : ∀ a ∈ C (f, v), a ∈ c0 ∨ a ∈ rest) (pf : foR y zn sz M (rt (f, v)) T (V (f, v)) ρ (C (f, v)) c0 rest hr)
  (hM : ∀ a : Nat, a ∉ Ln → a ∉ c0 → M2.w a = M.w a ∧ M2.h a = M.h a ∧ M2.x a = M.x a) (hfl2 : ∀ a : Nat, cnN a Ln + cnN a fl2 + ind t a = cnN a fl + ind t2 a) (hc0 : ∀ a ∈ c0, M2.h a = 0 ∧ M2.x a = M.x a) (hLn : ∀ a ∈ Ln, a ∈ fl ∨ t < a) (hva : vaR y sz M2 T (qS (V (f, v)) ρ) r (Ln ++ l0) g0)
  (hsk : ∀ q : Nat, q < bs f + wl (x f).2.1 → sk2 q = sk q) (hsk2 : sk2 (bs f + wl (x f).2.1) = r) : ∃ l2 h2 : List Nat, kN y zn sz M2 sk2 pl f (kUx x f ((x f).1, (0, T, 0) :: (x f).2.1, 0, lUp (kR (x f)) (40 + wl (x f).2.1) none, kH (x f), al2, lo2, kAn (x f))) (qRt rt (f, 40 + wl (x f).2.1) T) (qUp (qUp V (f, v) (qC (V (f, v)) ρ)) (f, 40 + wl (x f).2.1) (qS (V (f, v)) ρ)) bs C (u2N L (f, v) (f, 40 + wl (x f).2.1) l2 (Ln ++ l0)) (u2N H (f, v) (f, 40 + wl (x f).2.1) h2 g0) ∧ kC C (u2N L (f, v) (f, 40 + wl (x f).2.1) l2 (Ln ++ l0)) (u2N H (f, v) (f, 40 + wl (x f).2.1) h2 g0) fl2 t2 tk := by
  have hf := Nat.le_refl f
  have hnm : kNm (0, T, 0) := by show ¬ ((0 : Nat) = 8 ∨ (0 : Nat) = 4 ∨ (0 : Nat) = 5 ∨ (0 : Nat) = 6); decide
  have h177 := hw1 f hf
  have e1 : ((f, 40 + wl (x f).2.1) : Nat × Nat) ≠ (f, v) := fun w => by have := (Prod.mk.inj w).2; omega
  obtain ⟨ct, lt, ht⟩ := (hN.1 f (40 + wl (x f).2.1) hf).2.2 (fun w => by rcases w with w | w <;> omega)
  have inV : ∀ a : Nat, 1 ≤ cnN a c0 + cnN a l0 + cnN a rest → (a ∉ fl ∧ a ≤ t) ∧ cnN a c0 + cnN a l0 + cnN a rest = 1 ∧ ∀ q : Nat × Nat, q.1 < 60 → q.2 < 300 → (a ∈ C q ∨ a ∈ L q) → q = (f, v) := fun a ha => by
    have hm : a ∈ C (f, v) ∨ a ∈ L (f, v) := by
      have := pc a
      by_cases w : a ∈ C (f, v)
      · exact Or.inl w
      · have := cnN_z w
        exact Or.inr (cnN_mem.mpr (by omega))
    obtain ⟨q1, q2, q3, q4, q5⟩ := hC.one (r := (f, v)) hf6 (show v < 300 by omega) hm
    exact ⟨⟨q1, q3⟩, by rw [← pc a]; exact q4, q5⟩
  have dj : ∀ (q : Nat × Nat) (a : Nat), q ≠ (f, v) → q.1 ≤ f → kSc (x q.1).2.1 q.2 → (a ∈ C q ∨ a ∈ L q) → a ∉ Ln ∧ a ∉ c0 := fun q a h1 h2 h3 h4 => by
    have hq := hw1 q.1 h2
    have q300 : q.2 < 300 := by rcases h3 with z | z <;> omega
    obtain ⟨q1, q2, q3, q4, q5⟩ := hC.one (r := q) (by omega) q300 h4
    refine ⟨fun w => ?_, fun w => ?_⟩
    · rcases hLn a w with z | z
      · exact q1 z
      · omega
    · have := cnN_mem.mp w
      exact h1 ((inV a (by omega)).2.2 q (by omega) q300 h4)
  have dr : ∀ a ∈ rest, a ∉ Ln ∧ a ∉ c0 := fun a ha => by
    have m1 := cnN_mem.mp ha
    obtain ⟨⟨z1, z2⟩, z3, _⟩ := inV a (by omega)
    refine ⟨fun w => ?_, fun w => ?_⟩
    · rcases hLn a w with z | z
      · exact z1 z
      · omega
    · have := cnN_mem.mp w; omega
  obtain ⟨f1, f2⟩ := pf M2 (fun a ha => hM a (dr a ha).1 (dr a ha).2) (fun a ha => (hc0 a ha).2)
  obtain ⟨k2, l2, h2, g1, g2, g3⟩ := f1 (fun _ => none) k0 [] [] (p0.none hy (fun a ha => (hc0 a ha).1))
  rw [qG_C] at g1
  obtain ⟨_, hlk, hpl⟩ := (hN.1 f v hf).1 hv4 hvS
  have hlk2 : lkN M2.x (C (f, v)) := hlk.cg (fun a ha => by
    rcases pm a ha with w | w
    · exact (hc0 a w).2
    · exact (hM a (dr a w).1 (dr a w).2).2.2)
  have nQ : ∀ q : Nat × Nat, ¬ (q.1 = f ∧ (q.2 = v ∨ q.2 = 40 + wl (x f).2.1)) → q ≠ (f, v) ∧ q ≠ (f, 40 + wl (x f).2.1) := fun q hq => ⟨fun w => hq (by rw [w]; exact ⟨rfl, Or.inl rfl⟩), fun w => hq (by rw [w]; exact ⟨rfl, Or.inr rfl⟩)⟩
  refine ⟨l2, h2, kN.rq (Q := fun u => u = v ∨ u = 40 + wl (x f).2.1) hy hJ hN (fun j hj => kUx_lo hj) (fun u _ => by rw [kUx_top]; exact nm_8 hnm) (fun u hu h4 => by rw [kUx_top]; exact wl_u hnm (fun w => hu (Or.inr w)) h4) (fun q hq => ?_) (fun q hq h1 h3 => ?_) (fun _ _ _ _ _ => rfl) (fun q hq h1 h4 h5 => hsk _ (hN.ix h1 h4 h5)) (fun u hu => ?_) (fun j u d π hj ha hc hrr => ?_), ?_⟩
  · obtain ⟨n1, n2⟩ := nQ q hq
    exact ⟨qRt_ne n2, (qUp_ne n2).trans (qUp_ne n1), rfl, u2N_o n1 n2, u2N_o n1 n2⟩
  · obtain ⟨n1, n2⟩ := nQ q hq
    exact ⟨fun a w => hM a (dj q a n1 h1 h3 (Or.inl w)).1 (dj q a n1 h1 h3 (Or.inl w)).2, fun a w => hM a (dj q a n1 h1 h3 (Or.inr w)).1 (dj q a n1 h1 h3 (Or.inr w)).2⟩
  · rcases hu with rfl | rfl
    · rw [qRt_ne e1.symm, qUp_ne e1.symm, qUp_eq, u2N_1, u2N_1, kUx_top]
      exact ⟨fun _ _ => ⟨⟨k2, g1⟩, hlk2, hpl⟩, fun w => by omega, fun w => absurd (Or.inl ⟨hv4, (nm_8 hnm).mpr hvS⟩) w⟩
    · rw [qRt_eq, qUp_eq, u2N_2 e1, u2N_2 e1, kUx_top, ct]
      refine ⟨fun w => by omega, fun _ _ => ⟨rfl, ?_⟩, fun w => absurd (Or.inr ⟨by omega, ?_⟩) w⟩
      · rw [show 40 + wl (x f).2.1 - 40 = wl (x f).2.1 by omega, hsk2]; exact hva
      · show 40 + wl (x f).2.1 < 40 + wl ((0, T, 0) :: (x f).2.1)
        rw [wl_n hnm]; omega
  · have ld2 := hJ2.ld hj ha hrr
    have old : kA (x j) u ∧ kR (x j) u = some (d :: π) ∧ (j, u) ≠ (f, 40 + wl (x f).2.1) ∧ kSc (x j).2.1 u := by
      by_cases e : j = f
      · subst e
        rw [kUx_top] at ha hrr hc
        have hrr : lUp (kR (x j)) (40 + wl (x j).2.1) none u = some (d :: π) := hrr
        have hu : u ≠ 40 + wl (x j).2.1 := fun w => by rw [w, lUp_eq] at hrr; cases hrr
        rw [lUp_ne hu] at hrr
        refine ⟨?_, hrr, fun w => hu (Prod.mk.inj w).2, ?_⟩
        · rcases ha with ⟨z1, z2⟩ | ⟨z1, z2⟩
          · exact Or.inl ⟨z1, hal u z2⟩
          · have z2 : u < 40 + wl ((0, T, 0) :: (x j).2.1) + 0 := z2
            rw [wl_n hnm] at z2; exact Or.inr ⟨z1, by omega⟩
        · rcases hc with ⟨z1, z2⟩ | ⟨z1, z2⟩
          · exact Or.inl ⟨z1, (nm_8 hnm).mp z2⟩
          · have z2 : u < 40 + wl ((0, T, 0) :: (x j).2.1) := z2
            rw [wl_n hnm] at z2; exact Or.inr ⟨z1, by omega⟩
      · rw [kUx_lo e] at ha hrr hc
        exact ⟨ha, hrr, fun w => e (Prod.mk.inj w).1, hc⟩
    obtain ⟨oa, or, ot, oc⟩ := old
    have onv : (j, u) ≠ (f, v) := fun w => by
      obtain ⟨w1, w2⟩ := Prod.mk.inj w
      subst w1; subst w2
      rcases (hJ.2.2.1 j hj u _ oa or).1 with z | z
      · exact hnr.1 z
      · exact hnr.2 z
    obtain ⟨l1, l2', l3, T9, l4, l5, l6⟩ := hJ.ld hj oa or
    by_cases ed : d = (f, v)
    · refine Or.inr ?_
      subst ed
      obtain ⟨_, _, _, T8, m4, m5, _⟩ := ld2
      obtain ⟨n, n1, n2, n3, n4⟩ := hN.2.2.2 j u (f, v) π hj oa oc or
      have hnp : lP ρ π → π = ρ := fun w => by
        exfalso
        obtain ⟨s, rfl⟩ := w
        rw [qUp_ne e1.symm, qUp_eq] at m5
        obtain ⟨τ, z, hz⟩ := qF_pl m5
        rw [List.append_assoc, qC_in] at hz
        cases hz
      refine ⟨n, n1, ?_, fun a => ?_, fun a => ?_⟩
      · rw [qRt_ne e1.symm]
        exact f2 π T9 n l4 l6 hnp n2
      · obtain ⟨m, i1, i2⟩ := n3 a
        have hm : m ∈ C (j, u) := by rw [i1]; exact List.mem_singleton_self m
        have := dj (j, u) m onv hj oc (Or.inl hm)
        exact ⟨m, i1, (hM m this.1 this.2).1.trans i2⟩
      · have hlt : u < 40 + wl (x j).2.1 := by
          rcases oc with z | z <;> omega
        rw [hsk _ (hN.ix hj a hlt)]; exact n4 a
    · refine Or.inl ⟨fun w => ?_, fun w => ?_, oa, or⟩
      · rcases w with ⟨w1, w2 | w2⟩
        · exact onv (by rw [w1, w2])
        · exact ot (by rw [w1, w2])
      · rcases w with ⟨w1, w2 | w2⟩
        · exact ed (Prod.ext w1 w2)
        · omega
  · have r0 : ∀ i : Nat, i < 2 → i = 0 ∨ i = 1 := fun i hi => by omega
    refine hC.fam (r := fun i => if i = 0 then (f, v) else (f, 40 + wl (x f).2.1)) (n := 2) (fun i hi => ?_) (fun i j hi hj he => ?_) (fun q hq => ?_) (fun a => ?_) (fun q => Or.inl ?_)
    · rcases r0 i hi with e | e <;> subst e
      · exact ⟨hf6, show v < 300 by omega⟩
      · exact ⟨hf6, show 40 + wl (x f).2.1 < 300 by omega⟩
    · rcases r0 i hi with e | e <;> rcases r0 j hj with e2 | e2 <;> subst e <;> subst e2
      · rfl
      · exact absurd he.symm e1
      · exact absurd he e1
      · rfl
    · have n1 := hq 0 (by omega)
      have n2 := hq 1 (by omega)
      exact ⟨rfl, u2N_o n1 n2, u2N_o n1 n2⟩
    · rw [psN_two, psN_two]
      show (cnN a (C (f, v)) + cnN a (u2N L (f, v) (f, 40 + wl (x f).2.1) l2 (Ln ++ l0) (f, v))) + (cnN a (C (f, 40 + wl (x f).2.1)) + cnN a (u2N L (f, v) (f, 40 + wl (x f).2.1) l2 (Ln ++ l0) (f, 40 + wl (x f).2.1))) + cnN a fl2 + ind t a = (cnN a (C (f, v)) + cnN a (L (f, v))) + (cnN a (C (f, 40 + wl (x f).2.1)) + cnN a (L (f, 40 + wl (x f).2.1))) + cnN a fl + ind t2 a
      rw [u2N_1, u2N_2 e1, ct, lt, cnN_app]
      have w1 := g2 a
      have w2 := pc a
      have w3 := hfl2 a
      have w4 : cnN a ([] : List Nat) = 0 := rfl
      rw [w4] at w1 ⊢
      omega
    · rw [psN_two, psN_two]
      refine ⟨?_, Or.inl rfl⟩
      show cnN q (u2N H (f, v) (f, 40 + wl (x f).2.1) h2 g0 (f, v)) + cnN q (u2N H (f, v) (f, 40 + wl (x f).2.1) h2 g0 (f, 40 + wl (x f).2.1)) ≤ cnN q (H (f, v)) + cnN q (H (f, 40 + wl (x f).2.1))
      rw [u2N_1, u2N_2 e1, ht]
      have w1 := g3 q
      have w2 := ph q
      have w4 : cnN q ([] : List Nat) = 0 := rfl
      rw [w4] at w1 ⊢
      omega
end PS69
end
-- m4.s.lean.txt
section
section PS70
variable {R : yR} {S0 Sl S S1 S2 S3 : Sg} {D : fD} {i k j f nw : Nat} {vt : Nat → Nat → Nat} {tb : Nat → lTb} {x : Nat → kFm} {bs : Nat → Nat} {g : Nat → Int32} {v T : Nat} {ρ σ : lLc} {rt : Nat × Nat → Nat} {V : Nat × Nat → qV} {C L H : Nat × Nat → List Nat} {fl : List Nat} {t : Nat} {tk : Nat → Int32} {s : List tE}
/-- what is moved lacks its value behind -/
theorem FnD.mo {B : Nat} {π : lLc} (hy : nYk (yT R S0) (zN R S0) (szN R S0) (rkN R S0 g)) (hE : D.E.y = yT R S0) (h : FnD R S0 i D) (e : edg D k j) (hk : (D.I k).kd = 2) (hac : (D.I k).ac = 4 ∨ (D.I k).ac = 5) (hp : (D.I k).pa = some (v, ρ, T)) (hv : v < 40) (hm : qM σ) (hr : ρ = σ ∨ ρ = σ ++ [(1, 0)]) (hw : qW (yT R S0) (D.E.vt v) σ B) (hc : lCmp π σ) : LO R S0 D j v π := fun h1 ⟨U, h2⟩ => by
  have htv := h.2.2.1.1 k v T ρ e.1 e.2.1 (by rw [hk]; decide) hp
  rw [hE] at h2
  have hin : ∀ c : Nat, inR R S0 (D.E.vt v) v σ c → inR R S0 (D.tv k) v ρ c := fun c q => by
    rw [htv]
    rcases hr with z | z
    · rw [z]; exact q
    · unfold inR at q ⊢
      rw [z, pfO_st hm]; exact q
  have key : ∃ c : Nat, inR R S0 (D.E.vt v) v π c ∧ inR R S0 (D.E.vt v) v σ c := by
    rcases hc with ⟨τ, z⟩ | ⟨τ, z⟩
    · refine ⟨_, ?_, inR_ex hy⟩
      rw [z] at hm hw
      exact inR_sub hy h1 (qM_app.mp hm).2 hw (by rw [← z]; exact inR_ex hy)
    · refine ⟨_, inR_ex hy, ?_⟩
      rw [z] at h1 h2
      exact inR_sub hy hm (qM_app.mp h1).2 h2 (by rw [← z]; exact inR_ex hy)
  obtain ⟨c, c1, c2⟩ := key
  have c16 := inR_16 hy h1 h2 c1
  exact ⟨c, c1, h.2.2.1.2.1 k e.1 e.2.1 e.2.2.1 j e.2.2.2 c (by omega) (Or.inl ⟨hk, hac, v, ρ, T, hp, hin c c2⟩)⟩
/-- a step's end, if nobody holds anything new, and more may lack a value -/
theorem finV (hL : LFS R S0 g) (hk : PK R S0 i D k) (e : edg D k j) (hw : wkS s (D.st j)) (hs : ∀ a ∈ s, pnE a) (ho : (D.I k).ho = none)
  (h0 : (x f).2.2.1 = 0) (hi : (x f).1 = i) (hst : wkS (x f).2.1 (trL (AL D j) (D.st j))) (hH : kH (x f) = HA R S0 i D k) (hal : kal (x f) = fun u => u < 40 ∧ AL D k u) (hlo : ∀ (v : Nat) (π : lLc), v < 40 → klo (x f) v π → LO R S0 D j v π) (h : kT (yT R S0) (zN R S0) (szN R S0) vt tb f x bs S2) (h77 : Zi S2 77 = nI j) (h73 : Zi S2 73 = nI (bs f + wl (D.st j))) (h75 : Zr S2 75 = Zr S 75) (h76 : Zi S2 76 = Zi S 76) : NXt R S0 vt tb i D k f x bs S S2 := by
  obtain ⟨hD, hkk, hW, hG, hE⟩ := hk
  have hy := nYk_of hL
  have hj := wkS_pn hw hs
  obtain ⟨j1, j2, j3, j4, j5⟩ := hD.in e
  have hno : ∀ u : Nat, (D.I k).ho ≠ some u := fun u w => by rw [ho] at w; cases w
  have hwl := (hD.pt j1 j2).2
  have a1 : ∀ u κ : Nat, u < 40 → AL D j u → kH (x f) u κ → HK D j u κ := fun u κ hu q w => by
    rw [hH] at w
    rcases w with ⟨_, w⟩ | ⟨w, _⟩
    · exact hD.hk e (by omega) (hno u) w.1
    · omega
  have a2 : ∀ m κ : Nat, m < wl (D.st j) → AL D j (40 + m) ∨ mkS (D.st j) → kH (x f) (40 + m) κ → HK D j (40 + m) κ ∧ (mkS (D.st j) → m = 0 → okl R S0 i D κ) := fun m κ hm2 q w => by
    rw [hH] at w
    refine ⟨?_, fun z => absurd z (pn_mk hj)⟩
    rcases w with ⟨_, w⟩ | ⟨w, _⟩
    · exact hD.hk e (by omega) (hno _) w.1
    · omega
  have a3 : ∀ (κ r m : Nat), (5, r, m) ∈ trL (AL D j) (D.st j) ∨ (6, r, m) ∈ trL (AL D j) (D.st j) → kH (x f) 300 κ → HA R S0 i D j 300 κ := fun κ r m q => by
    rcases q with q | q
    · exact absurd (Or.inr (Or.inl rfl)) (trL_4 (pn_4 hj) _ q)
    · exact absurd (Or.inr (Or.inr rfl)) (trL_4 (pn_4 hj) _ q)
  obtain ⟨X, x1, x2, x3⟩ := kT.fin (D := D) (j := j) (i := i) (R := R) (S0 := S0) hy yB_yT h h0 hi hst (fun u hu q => by rw [hal]; exact ⟨hu, hD.al e (by omega) (hno u) q⟩) a1 a2 a3 (fun v π hv _ w => hlo v π hv w)
  exact ⟨j, X, e, ⟨hD, ⟨j1, j2, j5⟩, j3 hW, gtS.of hj, hE⟩, h77, h73, ⟨h75, h76⟩, x1, x2, x3.t3 hj⟩
/-- the type of a place -/
theorem RQ.ft (hL : LFS R S0 g) (hx : LX S0 Sl) (h : RQ R S0 vt tb i D k f x bs Sl nw S) (hE : hFE R S0 D) (hQ : D.Pe < 24000) (hp : (D.I k).pa = some (v, ρ, T)) (hT : T ≠ 0) (h24 : (D.I k).kd ≠ 24) : ∃ w xt : Nat, rQ S 38 (nI k) = some (some w) ∧ (∀ S2 : Sg, RNx Sl S2 → oBk S2 18 (some w) = some w ∧ f_X18_type R.K S2 w = some (S2, some xt)) ∧ rTy S0 xt ∧ abT S0 xt = T := by
  obtain ⟨w, va, sa, ta, F, G, mu, w1, w2, w3, w4, w5, w6⟩ := h.pw hL hx hE hp h24
  have e := h.2.2.1.1
  obtain ⟨p1, p2, p3, p4, p5, p6⟩ := w2
  have hg : ∃ xt : Nat, G ρ.length = some xt := by
    cases hG : G ρ.length with
    | none =>
      rw [hG] at w6
      exact absurd w6 hT
    | some z => exact ⟨z, rfl⟩
  obtain ⟨xt, hg⟩ := hg
  rw [hg] at w6
  refine ⟨w, xt, ?_, fun S2 e2 => ⟨oB_mk (by rw [e2.1]; exact p1) (by rw [e2.2.1]; exact p2), ?_⟩, w3 _ _ (Nat.le_refl _) hg, w6.symm⟩
  · rw [rQ_n (show k < rlen 38 from h.k24 hQ) (by decide), e.2.2.2.1, w1]
  · unfold f_X18_type
    rw [oR_mk (by rw [e2.1]; exact p1) (by rw [e2.2.1]; exact p2) (v := some ta) rfl, Option.bind_some, oI_mk (by rw [e2.1]; exact p1) (by rw [e2.2.1]; exact p2) (v := nI ρ.length) rfl, Option.bind_some, aQ_n (by rw [e2.1]; exact p4.1) (by rw [e2.2.1]; exact p4.2) (Nat.lt_succ_self _) (by omega), Option.bind_some, hg]
theorem kC.f1 (hc : kC C L H fl t tk) : ∀ n ∈ fl, 1 ≤ n := fun n hn => by
  have h1 := hc.1 n
  have h2 := cnN_mem.mp hn
  unfold ind at h1
  by_cases c : 1 ≤ n ∧ n ≤ t
  · exact c.1
  · rw [if_neg c] at h1; omega
theorem RX.no {A : Nat → Prop} (h : RX Sl S) (e : NO A S S2) : RX Sl S2 := h.mk e.rn (e.wq h.2.1) (e.2.2.2.2.2.2.2.1 86 (by decide) (by decide)) (e.2.2.2.2.2.2.2.1 66 (by decide) (by decide)) ((e.2.2.2.2.2.2.2.1 81 (by decide) (by decide)).trans h.2.2.2.2)
end PS70
end
-- m4.t.lean.txt
section
section PS71
variable {R : yR} {S0 Sl S S1 S2 S3 : Sg} {D : fD} {i k j f nw : Nat} {vt : Nat → Nat → Nat} {tb : Nat → lTb} {x : Nat → kFm} {bs : Nat → Nat} {g : Nat → Int32} {v T : Nat} {ρ σ : lLc}
/-- what is told of a move: who may look -/
theorem RQ.ckm {B : Nat} (h1 : RQ R S0 vt tb i D k f x bs Sl nw S) (hi : iPa D.E (D.I k) (D.st k) v ρ B) (hu : iUv D.E (D.I k) v) (ho : (D.I k).ho = none) (hac : (D.I k).ac = 4 ∨ (D.I k).ac = 5) (hnv : ¬ isRf (D.E.vt v)) : lCk (tb (x f).1) (kH (x f)) (fun u => (u < 40 ∧ kal (x f) u) ∨ (40 ≤ u ∧ u < 40 + wl (x f).2.1)) v ρ False := by
  obtain ⟨a1, a2, a3, a4, a5, a6⟩ := h1.2.2.2.2.2.1
  have htb : tb (x f).1 = tbD D := by rw [a1]; exact h1.2.2.2.2.2.2.2.2.2
  have hs := h1.1.2.2.2.1.all hi.2.2.2.2.2.2.2
  have hst := h1.st.2
  have h177 := h1.pt.2
  have hus : ∀ u : Nat, u ∉ (D.I k).us := fun u hm => by rw [(hu.2 hnv).1] at hm; cases hm
  have hck := h1.1.1.ck h1.1.2.1.1 h1.1.2.1.2.1 h1.1.2.1.2.2 hi.1 (by rcases hac with z | z <;> rw [z] <;> decide) (fun z => by rcases hac with w | w <;> rw [w] at z <;> omega) (Or.inr ⟨hi.2.2.2.2.1, B, hi.2.2.2.1⟩) (A2 := fun u => (u < 40 ∧ kal (x f) u) ∨ (40 ≤ u ∧ u < 40 + wl (x f).2.1)) (fun u κ z1 z2 => by
    have hno : (D.I k).ho ≠ some u := fun w => by rw [ho] at w; cases w
    rcases z1 with ⟨z3, z4⟩ | ⟨z3, z4⟩
    · rw [a5] at z4
      exact ⟨by omega, (z4.2.ab (hus u)).1, hno⟩
    · rw [hst] at z4
      refine ⟨by omega, ?_, hno⟩
      rcases z2 with ⟨_, z2⟩ | ⟨z2, _⟩
      · rcases z2.2.1 z3 with z5 | z5
        · exact (z5.ab (hus u)).1
        · exact absurd z5 (pn_mk hs)
      · omega)
  intro u κ g1 g2 g3 g4 g5
  rw [htb] at g3 g4 g5 ⊢
  rw [a4] at g2
  exact (hck u κ g1 g2 g3 g4 g5).imp (fun z => by rcases hac with w | w <;> rw [w] at z <;> omega) id
theorem RQ.lom {B : Nat} (hL : LFS R S0 g) (h1 : RQ R S0 vt tb i D k f x bs Sl nw S) (e : edg D k j) (hk : (D.I k).kd = 2) (hac : (D.I k).ac = 4 ∨ (D.I k).ac = 5) (hp : (D.I k).pa = some (v, ρ, T)) (hv : v < 40) (hm : qM σ) (hr : ρ = σ ∨ ρ = σ ++ [(1, 0)]) (hw : qW (yT R S0) (D.E.vt v) σ B) : ∀ (w : Nat) (π : lLc), ¬ (LO R S0 D j w π ∨ 40 ≤ w) → ¬ klo (x f) w π ∧ (w = v → ¬ lCmp π σ) := fun w π h => by
  have hE := h1.1.2.2.2.2
  have a6 := h1.2.2.2.2.2.1.2.2.2.2.2
  refine ⟨fun q => h ?_, fun ew q => h ?_⟩
  · by_cases c : w < 40
    · rw [a6] at q
      exact Or.inl (h1.1.1.lo (nYk_of hL) hE e c q (fun c _ _ => (kdM_k hk (by decide)).nk))
    · exact Or.inr (by omega)
  · subst ew
    exact Or.inl (h1.1.1.mo (nYk_of hL) hE e hk hac hp hv hm hr hw q)
/-- READ: a value that is no reference is moved -/
theorem s_2m (hL : LFS R S0 g) (hx : LX S0 Sl) (hE : hFE R S0 D) (h1 : RQ R S0 vt tb i D k f x bs Sl (k + 1) S1) (hQ : D.Pe < 24000) (hk : (D.I k).kd = 2) (hz : Zi S1 76 = Zi S 76) (e70 : Zi S1 70 = Zi S 70) (e3 : Zi S1 3 = Zi S 3) (er : Zr S1 = Zr S) (hi : iPa D.E (D.I k) (D.st k) v ρ T) (hu : iUv D.E (D.I k) v) (ho : (D.I k).ho = none) (hac : (D.I k).ac = 4) (hm : qM ρ) (hT : ¬ isRf T) (hw : wkS (eT T :: D.st k) (D.st (k + 1))) : Rt (f_runRead R.K S1 (nI k)) (fun S2 _ => RTt R S0 vt tb i D k f x bs Sl S S2) := by
  have k24 : (D.I k).kd ≠ 24 := by rw [hk]; decide
  have hy := nYk_of hL
  have hEy := h1.1.2.2.2.2
  have hv4 := hi.2.1.1
  have hT0 := hi.2.2.2.2.2.1
  have hqv : ¬ isRf (D.E.vt v) ∧ qW (yT R S0) (D.E.vt v) ρ T := by
    have q := hi.2.2.2.1
    rw [hEy] at q
    rcases q with w2 | ⟨w1, ⟨_, w2⟩ | ⟨ρ2, w2, _⟩⟩
    · exact w2
    · rw [← w2] at w1; exact absurd w1 hT
    · rw [w2] at hm
      have z := (qM_cons.mp hm).1
      have z : (1 : Nat) = 0 := z
      omega
  obtain ⟨hnv, hqw⟩ := hqv
  obtain ⟨rt, V, C, L, H, fl, t9, ⟨hJ, hN, hC, hF⟩, _⟩ := h1.2.2.2.2.2.2.1
  obtain ⟨a1, a2, a3, a4, a5, a6⟩ := h1.2.2.2.2.2.1
  have hvt : vt (x f).1 = D.E.vt := by rw [a1]; exact h1.2.2.2.2.2.2.2.2.1
  have hFn := h1.1.1
  have hf6 := h1.2.2.2.2.1
  have hws := h1.2.2.2.2.2.2.2.1
  have hnt := hi.2.2.2.2.2.2.2
  have hs := h1.1.2.2.2.1.all hnt
  have hst := h1.st.2
  have h177 := h1.pt.2
  have hb := h1.sb
  have hed : edg D k (k + 1) := h1.e1 (kd_s hk (by decide))
  have hvS : (8, v, 0) ∈ (x f).2.1 := by rw [a2]; exact trL_8.mpr hi.2.2.1
  have hno : ∀ r m2 : Nat, (5, r, m2) ∉ (x f).2.1 ∧ (6, r, m2) ∉ (x f).2.1 := fun r m2 => by
    rw [a2]
    exact ⟨fun z => absurd (Or.inr (Or.inl rfl)) (trL_4 (pn_4 hs) _ z), fun z => absurd (Or.inr (Or.inr rfl)) (trL_4 (pn_4 hs) _ z)⟩
  have hfu := hFn.fu hy hEy h1.1.2.1.1 h1.1.2.1.2.1 h1.1.2.1.2.2 hi.1 k24 (by rw [hac]; decide) (by rw [hac]; decide) (Or.inl (by rw [hac]; decide)) (pTy_fu hi.2.2.2.1).1 (pTy_fu hi.2.2.2.1).2
  rw [hEy, ← a6] at hfu
  have t56 : (yT R S0).1 T ≠ 5 ∧ (yT R S0).1 T ≠ 6 := ⟨fun z => hT (yRf.mp (Or.inl z)), fun z => hT (yRf.mp (Or.inr z))⟩
  obtain ⟨⟨F1, F2⟩, hJ2⟩ := kJ_mv (T := T) (B := T) (σ := ρ) (al2 := kal (x f)) (lo2 := fun w π => LO R S0 D (k + 1) w π ∨ 40 ≤ w) hJ a3 (by omega) hno hT0 t56.1 t56.2 hv4 hvS (by rw [hvt]; exact hqw) hm (by rw [hvt]; exact hqw) (Or.inl rfl) hfu (fun u q => q) (h1.lom hL hed hk (Or.inl hac) hi.1 hv4 hm (Or.inl rfl) hqw) (h1.ckm hi hu ho (Or.inl hac) hnv)
  have hnr : (yT R S0).1 (rt (f, v)) ≠ 5 ∧ (yT R S0).1 (rt (f, v)) ≠ 6 := by
    rw [F2, hvt]
    exact ⟨fun z => hnv (yRf.mp (Or.inl z)), fun z => hnv (yRf.mp (Or.inr z))⟩
  obtain ⟨⟨⟨k9, pl9⟩, plk, _⟩, p2, p3⟩ := hN.hd hy (d := (f, v)) (Nat.le_refl f) hv4 hvS
  obtain ⟨k0, c0, l0, g0, rest, hr, b1, b2, b3, b4, b5, b6, b7⟩ := pl9.fo hy plk (by rw [F2, hvt]; exact hqw) (prS.of (hJ.1 (f, v)) (qF_pl F1))
  obtain ⟨w, r1, r2, r3⟩ := h1.fd (n := hdN (C (f, v))) (m := ρ.length) (n2 := hdN c0) hL hx hE hQ hN hi.1 hv4 hi.2.2.1 k24 rfl (Nat.le_refl _) (Or.inr (by rw [List.take_length]; exact Or.inl ⟨hnv, by rw [F2, hvt] at b3; exact b3⟩))
  obtain ⟨w', xt, r4, r5, r6, r7⟩ := h1.ft hL hx hE hQ hi.1 hT0 k24
  obtain rfl : w = w' := by rw [r1] at r4; exact Option.some.inj (Option.some.inj r4)
  have hcv : cvN c0 l0 fl t9 := hC.cv (r := (f, v)) hf6 (show v < 300 by omega) hF.2.2.2.1 (fun a => by have := b4 a; omega)
  have htk := tkp_ (W := qS (V (f, v)) ρ) hL hx h1.2.2.1.1 r6 r7 b1 b2 (by rw [qF_S, List.append_nil]; exact F1) hF hC.f1 (hN.room hy hC hf6 hws hF.2.2.2.2) hcv
  unfold f_runRead
  refine Rt.bd r1 (Rt.bd (h1.rac hQ) (Rt.iq (by rw [hac]; decide) (Rt.bd (h1.rac hQ) (Rt.ip (by rw [hac]; rfl) (Rt.bd (r5 S1 h1.2.2.1.1).1 (Rt.be (r5 S1 h1.2.2.1.1).2 (Rt.bd r2 (Rt.be r3 (Rt.bn htk (fun S2 r ⟨Ln, fl2, t2, q1, q2, q3, q4, q5, q6⟩ => ?_))))))))))
  have h73 : Zi S2 73 = nI (bs f + wl (D.st k)) := (q1.2.2.2.2.2.2.2.1 73 (by decide) (by decide)).trans h1.2.2.2.1.2.1
  refine Rt.bn (psh_ (p := bs f + wl (D.st k)) h73 (by omega)) (fun S3 _ ⟨s1, s2, s3, s4⟩ => ?_)
  unfold f_runRead_165
  have e72 : Zl S2 72 = Zl S1 72 := q1.2.2.2.2.2.1 72 (by decide)
  obtain ⟨l2, h2, n1, n2⟩ := hN.mv (M2 := nMS S3) (sk2 := Zl S3 72) (r := r) hy hJ hC hf6 hws a3 hv4 hvS hnr (fun u q => q) hJ2 b1 b4 b5 b6 b7 (fun a z1 z2 => by
    rw [s1.sam.1]
    exact q1.2.2.2.2.2.2.2.2 a (fun z => z.elim z1 z2)) q3 (fun a ha => by
    rw [s1.sam.1]
    exact q4 a ha) q5 (by rw [s1.sam.1]; exact q6) (fun p hp => by rw [s4 p (by rw [hst] at hp; omega), e72]) (by rw [hst]; exact s3)
  have eTT : eT T = (0, T, 0) := by
    unfold eT
    rw [if_neg (fun z => by
      have : abT S0 xt = T := r7
      rcases r6.nm hL.1 with ⟨z1, _, _, _⟩ | ⟨kd, u, _, _, z2, _⟩
      · have := z1.nm hL.1; omega
      · rw [r7] at z2; exact hT z2)]
  rw [eTT] at hw
  have h74 : Zr S3 74 = Zr S1 74 := by rw [s1.sam.2.1, q1.2.2.2.2.2.2.1 74 (by decide) (by decide)]
  have h67 : Zr S3 67 = Zr S1 67 := by rw [s1.sam.2.2.1, q1.2.2.2.2.2.2.1 67 (by decide) (by decide)]
  have kt : kT (yT R S0) (zN R S0) (szN R S0) vt tb f (kUx x f ((x f).1, (0, T, 0) :: (x f).2.1, 0, lUp (kR (x f)) (40 + wl (x f).2.1) none, kH (x f), kal (x f), (fun w π => LO R S0 D (k + 1) w π ∨ 40 ≤ w), kAn (x f))) bs S3 := ⟨_, _, C, _, _, fl2, t2, hJ2, by rw [h74]; exact n1, by rw [h67]; exact n2, s1.sam.fl q2⟩
  refine Rt.rt ⟨s1.rx (h1.2.2.1.no q1), Or.inr ⟨((s1.2.2.2.2.2.2.2 3 (by decide)).trans (q1.2.2.2.2.2.2.2.1 3 (by decide) (by decide))).trans e3, ((s1.2.2.2.2.2.2.2 70 (by decide)).trans (q1.2.2.2.2.2.2.2.1 70 (by decide) (by decide))).trans e70, NXt.fr ?_ er hz⟩⟩
  refine (finV (s := (0, T, 0) :: D.st k) hL h1.1 hed hw (fun a ha => ?_) ho ?_ ?_ ?_ ?_ ?_ (fun v9 π hv9 q => ?_) kt ?_ ?_ ?_ ?_).ux rfl
  · rcases List.mem_cons.mp ha with z | z
    · rw [z]; exact pnE_k (Or.inl rfl)
    · exact hs a z
  · rw [kUx_top]
  · rw [kUx_top]; exact a1
  · rw [kUx_top]
    show wkS ((0, T, 0) :: (x f).2.1) _
    rw [a2]
    exact trL_c hw (show (0 : Nat) ≠ 3 by decide) (show (0 : Nat) ≠ 5 by decide) (show (0 : Nat) ≠ 6 by decide) (hFn.dn hed ho (by omega))
  · rw [kUx_top]; exact a4
  · rw [kUx_top]; exact a5
  · rw [kUx_top] at q
    rcases q with q | q
    · exact q
    · omega
  · exact ((s1.2.2.2.2.2.2.2 77 (by decide)).trans (q1.2.2.2.2.2.2.2.1 77 (by decide) (by decide))).trans h1.2.2.2.1.1
  · rw [s2, wkS_wl hw, wl_n (by show ¬ ((0 : Nat) = 8 ∨ (0 : Nat) = 4 ∨ (0 : Nat) = 5 ∨ (0 : Nat) = 6); decide)]
    congr 1
  · rw [s1.2.2.2.2.2.2.1, q1.2.2.2.2.2.2.1 75 (by decide) (by decide)]
  · exact (s1.2.2.2.2.2.2.2 76 (by decide)).trans (q1.2.2.2.2.2.2.2.1 76 (by decide) (by decide))
end PS71
end
-- m4.u.lean.txt
section
section PS72
variable {y : qY} {vt : Nat → Nat → Nat} {tb : Nat → lTb} {zn sz rk : Nat → Nat} {M M2 : nM} {sk : Nat → Int64} {pl : Nat → Int32} {f : Nat} {x : Nat → kFm} {rt : Nat × Nat → Nat} {V : Nat × Nat → qV} {bs : Nat → Nat} {C L H : Nat × Nat → List Nat} {v U : Nat} {d : Nat × Nat} {π : lLc}
/-- more is used, what leads nowhere -/
theorem kJ_alp (h : kJ y vt tb f x rt V) {al2 : Nat → Prop} (hal : ∀ u : Nat, al2 u → kal (x f) u ∨ (kR (x f) u = none ∧ V (f, u) [] = none)) : kJ y vt tb f (kUx x f ((x f).1, (x f).2.1, (x f).2.2.1, kR (x f), kH (x f), al2, klo (x f), kAn (x f))) rt V := by
  have hw0 := h
  obtain ⟨h0, h1, h2, h3, h4, h5, h6, h7, h8⟩ := h
  have hf := Nat.le_refl f
  have hA : ∀ u : Nat, kA ((x f).1, (x f).2.1, (x f).2.2.1, kR (x f), kH (x f), al2, klo (x f), kAn (x f)) u → kA (x f) u ∨ (kR (x f) u = none ∧ V (f, u) [] = none) := fun u hu => by
    rcases hu with ⟨z1, z2⟩ | ⟨z1, z2⟩
    · exact (hal u z2).imp (fun w => Or.inl ⟨z1, w⟩) id
    · exact Or.inl (Or.inr ⟨z1, z2⟩)
  have hB : ∀ (u : Nat) (a : lLc), kA ((x f).1, (x f).2.1, (x f).2.2.1, kR (x f), kH (x f), al2, klo (x f), kAn (x f)) u → kR (x f) u = some a → kA (x f) u := fun u a hu ha => by
    rcases hA u hu with w | ⟨w, _⟩
    · exact w
    · rw [w] at ha; cases ha
  refine kJ_top hw0 _ rfl rfl (fun j u _ => ⟨rfl, rfl⟩) (fun u => h0 (f, u)) (lIv_mono2 (h1.1 f hf) (fun u a hu ha => ⟨hB u a hu ha, ha⟩) (fun u a l _ _ hl => hl) (fun u a _ _ => Iff.rfl)) (fun u a hu ha => h2 f hf u a (hB u a hu ha) ha) (fun u t g hv hk2 hu => ?_) (kK_cg (h4 f hf) (fun u _ => ⟨rfl, rfl, rfl⟩)) (fun u π z hz => ⟨(h5 f u π z hz).2.1, (h5 f u π z hz).2.2⟩) (fun v v4 hvS => h6 f hf v v4 hvS) (fun r m => ⟨fun q => ?_, fun q => ?_⟩) (h8 f hf)
  · rcases hA u hu with w | ⟨_, w⟩
    · exact h3 f hf u t g hv hk2 w
    · rw [w] at hv; cases hv
  · exact kPm_cg ((h7 f hf r m).1 q).2 rfl (fun u b hu hb => ⟨hB u b hu hb, hb⟩) (fun _ _ _ _ => rfl) (fun _ q => q) rfl (fun _ _ _ _ => ⟨rfl, rfl⟩)
  · exact kPm_cg ((h7 f hf r m).2 q).2 rfl (fun u b hu hb => ⟨hB u b hu hb, hb⟩) (fun _ _ _ _ => rfl) (fun _ q => q) rfl (fun _ _ _ _ => ⟨rfl, rfl⟩)
/-- a reference leads to no variable that is a reference -/
theorem kJ.nrf {T : Nat} {q : Nat × Nat} (hT : y.1 T ≠ 5 ∧ y.1 T ≠ 6) (h6 : y.1 (rt q) = 5 ∨ y.1 (rt q) = 6) (a3 : qW y (rt d) π T) : d ≠ q := fun e => by
  subst e
  cases π with
  | nil =>
    have a3 : T = rt d := a3
    rw [a3] at hT
    rcases h6 with z | z
    · exact hT.1 z
    · exact hT.2 z
  | cons s π =>
    obtain ⟨q, i⟩ := s
    match q, a3 with
    | 0, a3 => rcases h6 with z | z <;> exact absurd (z.symm.trans a3.1) (by decide)
    | 1, a3 => rcases h6 with z | z <;> exact absurd (z.symm.trans a3.2.1) (by decide)
    | g + 2, a3 => rcases h6 with z | z <;> exact absurd (z.symm.trans a3.1) (by decide)
/-- a reference is moved out of its variable -/
theorem kJ_mvR {al2 : Nat → Prop} {lo2 : Nat → lLc → Prop} (hJ : kJ y vt tb f x rt V) (hn : (x f).2.2.1 = 0) (hl : wl (x f).2.1 < 211) (hno : ∀ r m2 : Nat, (5, r, m2) ∉ (x f).2.1 ∧ (6, r, m2) ∉ (x f).2.1) (hcr : qCr y) (hrf : qRf y) (hU : U < 10000) (hv4 : v < 40) (hvt : rt (f, v) = 10001 + 2 * U) (hkv : kal (x f) v) (a1 : kR (x f) v = some (d :: π)) (a2 : d.2 < 40) (a3 : qW y (rt d) π U) (a4 : qF y (V d) π U) (hal : ∀ u : Nat, al2 u → kal (x f) u ∧ u ≠ v) (hlo : ∀ (w : Nat) (π : lLc), ¬ lo2 w π → ¬ klo (x f) w π ∧ (w = v → ¬ lCmp π [])) (hk : lCk (tb (x f).1) (kH (x f)) (fun u => (u < 40 ∧ al2 u) ∨ (40 ≤ u ∧ u < 40 + wl (x f).2.1)) v [] False) : d ≠ (f, v) ∧ kJ y vt tb f (kUx x f ((x f).1, (x f).2.1, 0, lUp (kR (x f)) v none, kH (x f), al2, lo2, kAn (x f))) rt (qUp V (f, v) (qC (V (f, v)) [])) ∧ kJ y vt tb f (kUx x f ((x f).1, (2, U, 0) :: (x f).2.1, 0, lUp (lUp (kR (x f)) v none) (40 + wl (x f).2.1) (some (d :: π)), lUp (kH (x f)) (40 + wl (x f).2.1) (kH (x f) v), al2, lo2, kAn (x f))) (qRt rt (f, 40 + wl (x f).2.1) (10001 + 2 * U)) (qUp (qUp V (f, v) (qC (V (f, v)) [])) (f, 40 + wl (x f).2.1) (qL (10001 + 2 * U))) := by
  have hf := Nat.le_refl f
  have hc := hcr U hU
  have h6 : y.1 (rt (f, v)) = 6 := by rw [hvt]; exact hc.2.2.1
  have eU : y.2.1 (rt (f, v)) = U := by rw [hvt]; exact hc.2.2.2
  have hU56 := hrf (rt (f, v)) (Or.inr h6)
  rw [eU] at hU56
  have hdv : d ≠ (f, v) := kJ.nrf hU56 (Or.inr h6) a3
  have iv := hJ.2.1.1 f hf
  have hal1 : ∀ u : Nat, al2 u → kal (x f) u := fun u q => (hal u q).1
  have hA2 : ∀ u : Nat, ((u < 40 ∧ al2 u) ∨ (40 ≤ u ∧ u < 40 + wl (x f).2.1)) → kA (x f) u ∧ u ≠ v := fun u hu => ⟨kA_to hn hal1 u hu, by
    rcases hu with q | q
    · exact (hal u q.2).2
    · omega⟩
  have hcc : ∀ (u : Nat) (b : lLc), ((u < 40 ∧ al2 u) ∨ (40 ≤ u ∧ u < 40 + wl (x f).2.1)) → kR (x f) u = some b → ¬ lCmp b ((f, v) :: []) := fun u b hu hb hcm => (lAc_var iv (kA_to hn hal1) hk hu hb hcm).1
  have hRn : ∀ u : Nat, u ≠ v → lUp (kR (x f)) v none u = kR (x f) u := fun u q => lUp_ne q
  have hcc2 : ∀ (u : Nat) (b : lLc), ((u < 40 ∧ al2 u) ∨ (40 ≤ u ∧ u < 40 + wl (x f).2.1)) → lUp (kR (x f)) v none u = some b → ¬ lCmp b ((f, v) :: []) := fun u b hu hb => hcc u b hu (by rw [← hRn u (hA2 u hu).2]; exact hb)
  obtain ⟨b1, b2⟩ := lBw_move (t := 40 + wl (x f).2.1) (un := y.1 (10001 + 2 * U) = 6) (hd := kH (x f) v) iv hA2 (Or.inl ⟨hv4, hkv⟩) a1 hk (fun _ => h6) (fun l q => q)
  have j1 := kJ_cut hJ (σ := []) (R2 := lUp (kR (x f)) v none) (al2 := al2) (lo2 := lo2) hn hv4 hno qM_nil hRn (Or.inr ⟨lUp_eq, rfl⟩) hal1 hlo hcc2
  refine ⟨hdv, j1, ?_⟩
  generalize hx1 : kUx x f ((x f).1, (x f).2.1, 0, lUp (kR (x f)) v none, kH (x f), al2, lo2, kAn (x f)) = x1 at j1
  have e1 : x1 f = ((x f).1, (x f).2.1, 0, lUp (kR (x f)) v none, kH (x f), al2, lo2, kAn (x f)) := by rw [← hx1, kUx_eq]
  have eS : (x1 f).2.1 = (x f).2.1 := by rw [e1]
  have htg : qTg y rt (qUp V (f, v) (qC (V (f, v)) [])) (d :: π) U := ⟨d, π, rfl, a2, a3, by rw [qUp_ne hdv]; exact a4⟩
  have r := kJ_pushR (m := 0) (k := 2) (t := 10001 + 2 * U) (T := U) (a := d :: π) (hd := kH (x f) v) (al2 := al2) j1 hcr hU (Or.inr ⟨rfl, rfl⟩) (by rw [e1]) (by rw [eS]; exact hl) (by rw [eS]; exact hno) (by rw [e1]; exact fun u q => q) htg (by rw [e1]; exact b1) (by
    rw [e1]
    intro u hu b hb
    have hne := (hA2 u hu).2
    have hb : lUp (kR (x f)) v none u = some b := hb
    have hb2 : kR (x f) u = some b := by rw [← hRn u hne]; exact hb
    exact b2 u hu b hb2)
  rw [e1, ← hx1, kUx2] at r
  exact r
/-- the nodes when a reference leaves its variable -/
theorem kN.cutR {al2 : Nat → Prop} {lo2 : Nat → lLc → Prop} {fl : List Nat} {t : Nat} {tk : Nat → Int32} (hy : nYk y zn sz rk) (hrf : qRf y) (hJ : kJ y vt tb f x rt V) (hN : kN y zn sz M sk pl f x rt V bs C L H) (hC : kC C L H fl t tk) (hf6 : f < 60) (hw1 : ∀ j : Nat, j ≤ f → wl (x j).2.1 ≤ 177) (hn0 : (x f).2.2.1 = 0) (hv4 : v < 40) (hvS : (8, v, 0) ∈ (x f).2.1) (h56 : y.1 (rt (f, v)) = 5 ∨ y.1 (rt (f, v)) = 6) (h2 : y.1 (rt (f, v)) ≠ 2 ∧ y.1 (rt (f, v)) ≠ 3 ∧ y.1 (rt (f, v)) ≠ 4) (hal : ∀ u : Nat, al2 u → kal (x f) u)
  (hM : ∀ a : Nat, a ≠ hdN (C (f, v)) → M2.w a = M.w a ∧ M2.h a = M.h a ∧ M2.x a = M.x a) (hM0 : M2.h (hdN (C (f, v))) = 0) (hM1 : M2.x = M.x) : kN y zn sz M2 sk pl f (kUx x f ((x f).1, (x f).2.1, 0, lUp (kR (x f)) v none, kH (x f), al2, lo2, kAn (x f))) rt (qUp V (f, v) (qC (V (f, v)) [])) bs C L H := by
  have hf := Nat.le_refl f
  obtain ⟨⟨k, q1⟩, q2, q3⟩ := (hN.1 f v hf).1 hv4 hvS
  have hl1 : (C (f, v)).length = 1 := by rw [q1.len hy]; exact hy.2.1 _ h2.1
  obtain ⟨m, em⟩ : ∃ m : Nat, C (f, v) = [m] := by
    match hc : C (f, v), hl1 with
    | [m], _ => exact ⟨m, rfl⟩
  rw [em] at hM hM0
  have hM : ∀ a : Nat, a ≠ m → M2.w a = M.w a ∧ M2.h a = M.h a ∧ M2.x a = M.x a := hM
  have hM0 : M2.h m = 0 := hM0
  have eLH : L (f, v) = [] ∧ H (f, v) = [] := by
    cases k with
    | zero => exact q1.elim
    | succ k =>
      rcases q1 with ⟨z, _⟩ | ⟨_, n, _, ⟨_, _, z1, z2⟩ | ⟨_, z⟩⟩
      · exact absurd z h2.1
      · exact ⟨z1, z2⟩
      · rcases z with ⟨z, _⟩ | ⟨z, _⟩ | ⟨_, _, _, z1, z2⟩
        · exact absurd z h2.2.1
        · exact absurd z h2.2.2
        · exact ⟨z1, z2⟩
  have dj : ∀ (q : Nat × Nat) (a : Nat), q ≠ (f, v) → q.1 ≤ f → kSc (x q.1).2.1 q.2 → (a ∈ C q ∨ a ∈ L q) → a ≠ m := fun q a h1 h2 h3 h4 e => by
    have hq := hw1 q.1 h2
    have q300 : q.2 < 300 := by rcases h3 with z | z <;> omega
    obtain ⟨_, _, _, _, z⟩ := hC.one (r := q) (by omega) q300 h4
    exact h1 (z (f, v) hf6 (show v < 300 by omega) (Or.inl (by rw [em, e]; exact List.mem_singleton_self m))).symm
  refine kN.r1 (u0 := v) hy hJ hN (fun j hj => kUx_lo hj) (fun u _ => by rw [kUx_top]) (fun u _ _ => by rw [kUx_top]) (fun q hq => ⟨rfl, qUp_ne hq, rfl, rfl, rfl⟩) (fun q h1 h3 h4 => ⟨fun a w => hM a (dj q a h1 h3 h4 (Or.inl w)), fun a w => hM a (dj q a h1 h3 h4 (Or.inr w))⟩) (fun _ _ _ _ _ => rfl) (fun _ _ _ _ _ => rfl) ?_ (fun j u d π hj ha hc hr => Or.inl ?_)
  · rw [qUp_eq, kUx_top, eLH.1, eLH.2]
    refine ⟨fun _ _ => ⟨⟨k, ?_⟩, by rw [hM1]; exact q2, q3⟩, fun w => by omega, fun w => absurd (Or.inl ⟨hv4, hvS⟩) w⟩
    rw [← qG_C, qG_z]
    exact q1.none hy (fun a ha => by rw [em] at ha; rw [List.mem_singleton.mp ha]; exact hM0)
  · have old : kA (x j) u ∧ kR (x j) u = some (d :: π) ∧ (j, u) ≠ (f, v) := by
      by_cases e : j = f
      · subst e
        rw [kUx_top] at ha hr
        have hr : lUp (kR (x j)) v none u = some (d :: π) := hr
        have hu : u ≠ v := fun w => by rw [w, lUp_eq] at hr; cases hr
        rw [lUp_ne hu] at hr
        refine ⟨?_, hr, fun w => hu (Prod.mk.inj w).2⟩
        rcases ha with ⟨z1, z2⟩ | ⟨z1, z2⟩
        · exact Or.inl ⟨z1, hal u z2⟩
        · have z2 : u < 40 + wl (x j).2.1 + 0 := z2
          exact Or.inr ⟨z1, by omega⟩
      · rw [kUx_lo e] at ha hr
        exact ⟨ha, hr, fun w => e (Prod.mk.inj w).1⟩
    obtain ⟨oa, or, on⟩ := old
    obtain ⟨z1, r9, π9, e9, _, z2, _⟩ := hJ.2.2.1 j hj u _ oa or
    cases e9
    exact ⟨on, kJ.nrf (hrf _ z1) h56 z2, oa, or⟩
end PS72
end
-- m4.v.lean.txt
section
section PS73
variable {R : yR} {S0 Sl S S1 S2 S3 : Sg} {D : fD} {i k j f nw : Nat} {vt : Nat → Nat → Nat} {tb : Nat → lTb} {x : Nat → kFm} {bs : Nat → Nat} {g : Nat → Int32} {v T : Nat} {ρ σ : lLc}
/-- takePlace of one node -/
theorem tkl_ {z n t : Nat} {fl : List Nat} (hL : LFS R S0 g) (hx : LX S0 Sl) (e : RNx Sl S) (hr : rTy S0 z) (h2 : yK R S0 (abT S0 z) ≠ 2) (n4 : n < 430000) (hf : FLs S fl t) (hn : n ∉ fl) : Rt (f_takePlace R.K S (some z) (nI n)) (fun S2 r => r = Zl S 61 n ∧ NO (fun m => m = n) S S2 ∧ Zr S2 62 n = 0 ∧ Zr S2 63 = Zr S 63 ∧ FLs S2 fl t) := by
  have hk2 : ∃ kd : Int32, oI S 20 (some z) 0 = some kd ∧ kd ≠ 3 := by
    obtain ⟨kd, ix, o, q, _⟩ := hr.ty
    obtain ⟨tn, _, _, z3, z4⟩ := e.ty (hx.ty q)
    refine ⟨kd, oI_mk z3 z4 rfl, fun w => h2 ?_⟩
    rcases yK_k hL hr q with ⟨z, _⟩ | ⟨_, i9, w1, w2, _, _, _, w3⟩ | z | z | z
    · rcases z with z | z | z | z <;> (rw [w] at z; exact absurd z (by decide))
    · exact w3
    · have := z.1; rw [w] at this; exact absurd this (by decide)
    · have := z.1; rw [w] at this; exact absurd this (by decide)
    · rcases z.1 with z | z <;> (rw [w] at z; exact absurd z (by decide))
  obtain ⟨kd, o1, o2⟩ := hk2
  unfold f_takePlace
  generalize bigN = bg
  refine Rt.bd o1 (Rt.iq o2 (Rt.bd (wZ_n (show n < rlen 62 from n4) (by decide) (Or.inl rfl)) ?_))
  have e2 : NO (fun m => m = n) S (Ur S 62 (upd (Zr S 62) n 0)) := NO.w2 rfl
  have v2 : Zl (Ur S 62 (upd (Zr S 62) n 0)) = Zl S := rfl
  have u2 : Zr (Ur S 62 (upd (Zr S 62) n 0)) 62 n = 0 := by rw [Zr_us, upd_s]
  have w2 : Zr (Ur S 62 (upd (Zr S 62) n 0)) 63 = Zr S 63 := Zr_u9 (by decide)
  have f2 : FLs (Ur S 62 (upd (Zr S 62) n 0)) fl t := hf.no e2 (fun m hm w => hn (by rw [← w]; exact hm)) rfl rfl
  generalize Ur S 62 (upd (Zr S 62) n 0) = S4 at e2 v2 u2 w2 f2
  exact Rt.bd (rJ_n (show n < rlen 61 from n4) (by decide)) (Rt.rt ⟨by rw [v2], e2, u2, w2, f2⟩)
/-- a step's end: a reference came on top, more may lack a value -/
theorem finRv {q U : Nat} {R2 : Nat → Option lLc} {hd : Nat → Prop} {lo2 : Nat → lLc → Prop} (hL : LFS R S0 g) (hk : PK R S0 i D k) (e : edg D k j) (hq : q = 1 ∨ q = 2) (hw : wkS ((q, U, 0) :: D.st k) (D.st j)) (hs : ∀ a ∈ D.st k, pnE a) (ho : (D.I k).ho = some (40 + wl (D.st k))) (hat : atT R S0 i D k (x f)) (hhd : ∀ κ : Nat, hd κ → HK D j (40 + wl (D.st k)) κ) (hlo : ∀ (v : Nat) (π : lLc), v < 40 → lo2 v π → LO R S0 D j v π)
  (h : kT (yT R S0) (zN R S0) (szN R S0) vt tb f (kUx x f ((x f).1, (q, U, 0) :: (x f).2.1, 0, R2, lUp (kH (x f)) (40 + wl (D.st k)) hd, (fun u => u < 40 ∧ AB D k u), lo2, kAn (x f))) bs S2) (h77 : Zi S2 77 = nI j) (h73 : Zi S2 73 = nI (bs f + wl (D.st k) + 1)) (h75 : Zr S2 75 = Zr S 75) (h76 : Zi S2 76 = Zi S 76) : NXt R S0 vt tb i D k f x bs S S2 := by
  obtain ⟨hD, hkk, hW, hG, hE⟩ := hk
  obtain ⟨a1, a2, a3, a4, a5, a6⟩ := hat
  have hy := nYk_of hL
  have hnm : kNm (q, U, 0) := pR_nm hq
  have hpq : pnE (q, U, 0) := pnE_k (by omega)
  have hj : ∀ a ∈ D.st j, pnE a := wkS_pn hw (fun a ha => by
    rcases List.mem_cons.mp ha with w | w
    · rw [w]; exact hpq
    · exact hs a w)
  obtain ⟨j1, j2, j3, j4, j5⟩ := hD.in e
  have h177 := (hD.pt hkk.1 hkk.2.1).2
  have hwl := wkS_wl hw
  rw [wl_n hnm] at hwl
  have hno : ∀ u : Nat, u ≠ 40 + wl (D.st k) → (D.I k).ho ≠ some u := fun u hu w => by rw [ho] at w; exact hu (Option.some.inj w).symm
  generalize hX : ((x f).1, (q, U, 0) :: (x f).2.1, 0, R2, lUp (kH (x f)) (40 + wl (D.st k)) hd, (fun u => u < 40 ∧ AB D k u), lo2, kAn (x f)) = X at h
  have eH : kH X = lUp (kH (x f)) (40 + wl (D.st k)) hd := by rw [← hX]; rfl
  have b1 : ∀ u κ : Nat, u < 40 → AL D j u → kH (kUx x f X f) u κ → HK D j u κ := fun u κ hu q1 w => by
    rw [kUx_top, eH, lUp_ne (by omega), a4] at w
    rcases w with ⟨_, w⟩ | ⟨w, _⟩
    · exact hD.hk e (by omega) (hno u (by omega)) w.1
    · omega
  have b2 : ∀ m κ : Nat, m < wl (D.st j) → AL D j (40 + m) ∨ mkS (D.st j) → kH (kUx x f X f) (40 + m) κ → HK D j (40 + m) κ ∧ (mkS (D.st j) → m = 0 → okl R S0 i D κ) := fun m κ hm2 q1 w => by
    rw [kUx_top, eH] at w
    refine ⟨?_, fun z => absurd z (pn_mk hj)⟩
    by_cases z : m = wl (D.st k)
    · subst z
      rw [lUp_eq] at w
      exact hhd κ w
    · rw [lUp_ne (by omega), a4] at w
      rcases w with ⟨_, w⟩ | ⟨w, _⟩
      · exact hD.hk e (by omega) (hno _ (by omega)) w.1
      · omega
  have b3 : ∀ (κ r m : Nat), (5, r, m) ∈ trL (AL D j) (D.st j) ∨ (6, r, m) ∈ trL (AL D j) (D.st j) → kH (kUx x f X f) 300 κ → HA R S0 i D j 300 κ := fun κ r m q1 => by
    rcases q1 with q1 | q1
    · exact absurd (Or.inr (Or.inl rfl)) (trL_4 (pn_4 hj) _ q1)
    · exact absurd (Or.inr (Or.inr rfl)) (trL_4 (pn_4 hj) _ q1)
  obtain ⟨Y, x1, x2, x3⟩ := kT.fin (D := D) (j := j) (i := i) (R := R) (S0 := S0) hy yB_yT h (by rw [kUx_top, ← hX]) (by rw [kUx_top, ← hX]; exact a1) (by
    rw [kUx_top, ← hX]
    show wkS ((q, U, 0) :: (x f).2.1) _
    rw [a2]
    exact trL_c hw (show q ≠ 3 by omega) (show q ≠ 5 by omega) (show q ≠ 6 by omega) (fun n hn => hD.al e (by omega) (hno _ (by omega)))) (fun u hu q1 => by rw [kUx_top, ← hX]; exact ⟨hu, hD.ab e (by omega) q1⟩) b1 b2 b3 (fun v π hv _ w => by
    rw [kUx_top, ← hX] at w
    exact hlo v π hv w)
  rw [kUx_top, ← hX] at x2
  rw [kUx2] at x3
  exact ⟨j, Y, e, ⟨hD, ⟨j1, j2, j5⟩, j3 hW, gtS.of hj, hE⟩, h77, by rw [h73, hwl]; rfl, ⟨h75, h76⟩, x1, x2, x3.t3 hj⟩
/-- READ: a reference is moved -/
theorem s_2r (hL : LFS R S0 g) (hx : LX S0 Sl) (hE : hFE R S0 D) (h1 : RQ R S0 vt tb i D k f x bs Sl (k + 1) S1) (hQ : D.Pe < 24000) (hk : (D.I k).kd = 2) (hz : Zi S1 76 = Zi S 76) (e70 : Zi S1 70 = Zi S 70) (e3 : Zi S1 3 = Zi S 3) (er : Zr S1 = Zr S) (hi : iPa D.E (D.I k) (D.st k) v ρ T) (hu : iUv D.E (D.I k) v) (ho : (D.I k).ho = some (40 + wl (D.st k))) (hac : (D.I k).ac = 4) (hT : isRf T) (hT2 : T % 2 = 1) (hw : wkS (eT T :: D.st k) (D.st (k + 1))) : Rt (f_runRead R.K S1 (nI k)) (fun S2 _ => RTt R S0 vt tb i D k f x bs Sl S S2) := by
  have k24 : (D.I k).kd ≠ 24 := by rw [hk]; decide
  have hρ := h1.r0 hL hx hE hi.1 k24 hT
  subst hρ
  have hy := nYk_of hL
  have hEy := h1.1.2.2.2.2
  have hv4 := hi.2.1.1
  have hTv : D.E.vt v = T := by
    rcases hi.2.2.2.1 with ⟨w2, w3⟩ | ⟨_, ⟨_, w2⟩ | ⟨ρ2, w2, _⟩⟩
    · have w3 : T = D.E.vt v := w3
      exact w3.symm
    · exact w2.symm
    · cases w2
  have hrv : isRf (D.E.vt v) := by rw [hTv]; exact hT
  obtain ⟨rt, V, C, L, H, fl, t9, ⟨hJ, hN, hC, hF⟩, _⟩ := h1.2.2.2.2.2.2.1
  have hat := h1.2.2.2.2.2.1
  obtain ⟨a1, a2, a3, a4, a5, a6⟩ := id hat
  have hvt : vt (x f).1 = D.E.vt := by rw [a1]; exact h1.2.2.2.2.2.2.2.2.1
  have htb : tb (x f).1 = tbD D := by rw [a1]; exact h1.2.2.2.2.2.2.2.2.2
  have hFn := h1.1.1
  have hf6 := h1.2.2.2.2.1
  have hws := h1.2.2.2.2.2.2.2.1
  have hfu := hFn.fu hy hEy h1.1.2.1.1 h1.1.2.1.2.1 h1.1.2.1.2.2 hi.1 k24 (by rw [hac]; decide) (by rw [hac]; decide) (Or.inl (by rw [hac]; decide)) (pTy_fu hi.2.2.2.1).1 (pTy_fu hi.2.2.2.1).2
  have hkv : kal (x f) v := by rw [a5]; exact ⟨hv4, Or.inl (by rw [(hu.1 hrv).1]; exact List.mem_singleton_self _)⟩
  have hvS : (8, v, 0) ∈ (x f).2.1 := by rw [a2]; exact trL_8.mpr hi.2.2.1
  obtain ⟨d, π, n, ⟨c1, c2, c3⟩, c4, c5, c6, c7, c8, c9, c10, z9, c11⟩ := plVr hy hJ hN hv4 hvS (by rw [hvt]; exact hrv) hkv (by rw [a6]; exact hfu.1 qM_nil [] T qM_nil rfl)
  have hnt := hi.2.2.2.2.2.2.2
  have hs := h1.1.2.2.2.1.all hnt
  have hst := h1.st.2
  have h177 := h1.pt.2
  have hb := h1.sb
  have hed : edg D k (k + 1) := h1.e1 (kd_s hk (by decide))
  obtain ⟨U, hU⟩ : ∃ U : Nat, T = 10001 + 2 * U := ⟨(T - 10000) / 2, by have := hT.1; omega⟩
  have hU9 : U < 10000 := by have := hT.2; omega
  have eTT : eT T = (2, U, 0) := by
    unfold eT
    rw [if_pos (by omega), if_neg (by omega), show (T - 10000) / 2 = U by omega]
  rw [eTT] at hw
  have hB := yB_yT (R := R) (S0 := S0)
  have hcr := hB.2.2.1
  have hc := hcr U hU9
  have eU : (yT R S0).2.1 (vt (x f).1 v) = U := by rw [hvt, hTv, hU]; exact hc.2.2.2
  rw [eU] at c5 c6
  have ert : rt (f, v) = 10001 + 2 * U := by rw [c10, hvt, hTv, hU]
  have hus : ∀ u : Nat, u ≠ v → u ∉ (D.I k).us := fun u h4 hm => by
    rw [(hu.1 hrv).1] at hm
    exact h4 (List.mem_singleton.mp hm)
  have hhn : ∀ u : Nat, u ≠ 40 + wl (D.st k) → (D.I k).ho ≠ some u := fun u hu w => by rw [ho] at w; exact hu (Option.some.inj w).symm
  have hno : ∀ r m2 : Nat, (5, r, m2) ∉ (x f).2.1 ∧ (6, r, m2) ∉ (x f).2.1 := fun r m2 => by
    rw [a2]
    exact ⟨fun z => absurd (Or.inr (Or.inl rfl)) (trL_4 (pn_4 hs) _ z), fun z => absurd (Or.inr (Or.inr rfl)) (trL_4 (pn_4 hs) _ z)⟩
  have hck := hFn.ck h1.1.2.1.1 h1.1.2.1.2.1 h1.1.2.1.2.2 hi.1 (by rw [hac]; decide) (fun z => by rw [hac] at z; omega) (Or.inl rfl) (A2 := fun u => (u < 40 ∧ ((u < 40 ∧ AB D k u) ∧ u ≠ v)) ∨ (40 ≤ u ∧ u < 40 + wl (x f).2.1)) (fun u κ z1 z2 => by
    rcases z1 with ⟨z3, ⟨_, z4⟩, _⟩ | ⟨z3, z4⟩
    · exact ⟨by omega, z4, hhn u (by omega)⟩
    · rw [hst] at z4
      refine ⟨by omega, ?_, hhn u (by omega)⟩
      rcases z2 with ⟨_, z2⟩ | ⟨z2, _⟩
      · rcases z2.2.1 z3 with z5 | z5
        · exact (z5.ab (hus u (by omega))).1
        · exact absurd z5 (pn_mk hs)
      · omega)
  obtain ⟨hdv, j1, j2⟩ := kJ_mvR (v := v) (U := U) (d := d) (π := π) (al2 := fun u => (u < 40 ∧ AB D k u) ∧ u ≠ v) (lo2 := fun w π => LO R S0 D (k + 1) w π ∨ 40 ≤ w) hJ a3 (by omega) hno hcr hB.2.2.2 hU9 hv4 ert hkv c4 c2 c5 c6 (fun u z => ⟨by rw [a5]; exact ⟨z.1.1, z.1.2.al (hhn u (by omega))⟩, z.2⟩) (h1.lom hL hed hk (Or.inl hac) hi.1 hv4 qM_nil (Or.inl rfl) (B := D.E.vt v) rfl) (fun u κ g1 g2 g3 g4 g5 => by
    rw [htb] at g3 g4 g5 ⊢
    rw [a4] at g2
    exact (hck u κ g1 g2 g3 g4 g5).imp (fun z => by rw [hac] at z; omega) id)
  obtain ⟨w, r1, r2, r3⟩ := h1.fd (n := hdN (C (f, v))) (m := 0) (n2 := hdN (C (f, v))) hL hx hE hQ hN hi.1 hv4 hi.2.2.1 k24 rfl (Nat.le_refl _) (Or.inl ⟨rfl, rfl⟩)
  have hT0 := hi.2.2.2.2.2.1
  obtain ⟨w', xt, r4, r5, r6, r7⟩ := h1.ft hL hx hE hQ hi.1 hT0 k24
  obtain rfl : w = w' := by rw [r1] at r4; exact Option.some.inj (Option.some.inj r4)
  obtain ⟨p1, p2, p3⟩ := hN.hd hy (d := (f, v)) (Nat.le_refl f) hv4 hvS
  have hin : hdN (C (f, v)) ∈ C (f, v) := hdN_i p2
  obtain ⟨o1, _, _, _, o5⟩ := hC.one (r := (f, v)) hf6 (show v < 300 by omega) (Or.inl hin)
  have hy56 : (yT R S0).1 (rt (f, v)) = 6 := by rw [ert]; exact hc.2.2.1
  have htk := tkl_ (z := xt) (n := hdN (C (f, v))) hL hx h1.2.2.1.1 r6 (by
    rw [r7, ← hTv, ← hvt, ← c10]
    show (yT R S0).1 (rt (f, v)) ≠ 2
    rw [hy56]; decide) p3 hF o1
  unfold f_runRead
  refine Rt.bd r1 (Rt.bd (h1.rac hQ) (Rt.iq (by rw [hac]; decide) (Rt.bd (h1.rac hQ) (Rt.ip (by rw [hac]; rfl) (Rt.bd (r5 S1 h1.2.2.1.1).1 (Rt.be (r5 S1 h1.2.2.1.1).2 (Rt.bd r2 (Rt.be r3 (Rt.bn htk (fun S2 r ⟨q0, q1, q2, q3, q4⟩ => ?_))))))))))
  have h73 : Zi S2 73 = nI (bs f + wl (D.st k)) := (q1.2.2.2.2.2.2.2.1 73 (by decide) (by decide)).trans h1.2.2.2.1.2.1
  refine Rt.bn (psh_ (p := bs f + wl (D.st k)) h73 (by omega)) (fun S3 _ ⟨s1, s2, s3, s4⟩ => ?_)
  unfold f_runRead_165
  have e72 : Zl S2 72 = Zl S1 72 := q1.2.2.2.2.2.1 72 (by decide)
  have hd300 : d.2 < 300 := by omega
  have nd : ∀ a : Nat, (a ∈ C d ∨ a ∈ L d) → a ≠ hdN (C (f, v)) := fun a ha w => hdv (o5 d (by omega) hd300 (by rw [w] at ha; exact ha))
  have agM : ∀ a : Nat, a ≠ hdN (C (f, v)) → (nMS S3).w a = (nMS S1).w a ∧ (nMS S3).h a = (nMS S1).h a ∧ (nMS S3).x a = (nMS S1).x a := fun a z => by
    rw [s1.sam.1]; exact q1.2.2.2.2.2.2.2.2 a z
  have hN1 := hN.cutR (M2 := nMS S3) (al2 := fun u => (u < 40 ∧ AB D k u) ∧ u ≠ v) (lo2 := fun w π => LO R S0 D (k + 1) w π ∨ 40 ≤ w) hy hB.2.2.2 hJ hC hf6 hws a3 hv4 hvS (Or.inr hy56) (by rw [hy56]; decide) (fun u z => by rw [a5]; exact ⟨z.1.1, z.1.2.al (hhn u (by omega))⟩) agM (by rw [s1.sam.1]; exact q2) (by rw [s1.sam.1]; exact q3)
  generalize hx1 : kUx x f ((x f).1, (x f).2.1, 0, lUp (kR (x f)) v none, kH (x f), (fun u => (u < 40 ∧ AB D k u) ∧ u ≠ v), (fun w π => LO R S0 D (k + 1) w π ∨ 40 ≤ w), kAn (x f)) = x1 at j1 hN1
  have e1 : x1 f = ((x f).1, (x f).2.1, 0, lUp (kR (x f)) v none, kH (x f), (fun u => (u < 40 ∧ AB D k u) ∧ u ≠ v), (fun w π => LO R S0 D (k + 1) w π ∨ 40 ≤ w), kAn (x f)) := by rw [← hx1, kUx_eq]
  have eS : (x1 f).2.1 = (x f).2.1 := by rw [e1]
  have hN2 := hN1.skc (sk2 := Zl S3 72) (fun p hp => by rw [eS, hst] at hp; rw [s4 p (by omega), e72])
  obtain ⟨_, _, _, T9, l4, _, l6⟩ := hJ.ld (Nat.le_refl f) (Or.inl ⟨hv4, hkv⟩) c4
  have hwk : wRn (yT R S0) (zN R S0) (nMS S3) (rt d) (hdN (C d)) π n := (hN.hd hy (d := d) c1 c2 c3).1.wk hy l4 l6 c7 (fun a ha => agM a (nd a (Or.inl ha))) (fun a ha => agM a (nd a (Or.inr ha)))
  have hN3 := hN2.pR (q := 2) (U := U) (m := 0) (t := 10001 + 2 * U) (n := n) (d := d) (π := π) (hd := kH (x f) v) (al2 := fun u => (u < 40 ∧ AB D k u) ∧ u ≠ v) hy hB j1 (by rw [e1]) (by rw [eS]; omega) (Or.inr rfl) (by omega) (by rw [e1]; exact fun u z => z) c2 c8 hwk (by rw [eS, hst, s3, q0]; exact c9)
  rw [e1, ← hx1, kUx2] at hN3
  generalize hx3 : kUx x f ((x f).1, (2, U, 0) :: (x f).2.1, 0, lUp (lUp (kR (x f)) v none) (40 + wl (x f).2.1) (some (d :: π)), lUp (kH (x f)) (40 + wl (x f).2.1) (kH (x f) v), (fun u => (u < 40 ∧ AB D k u) ∧ u ≠ v), (fun w π => LO R S0 D (k + 1) w π ∨ 40 ≤ w), kAn (x f)) = x3 at j2
  have hN3 : kN (yT R S0) (zN R S0) (szN R S0) (nMS S3) (Zl S3 72) (Zr S1 74) f x3 (qRt rt (f, 40 + wl (x f).2.1) (10001 + 2 * U)) (qUp (qUp V (f, v) (qC (V (f, v)) [])) (f, 40 + wl (x f).2.1) (qL (10001 + 2 * U))) bs C L H := by
    rw [← hx3]; exact hN3
  have e3' : x3 f = ((x f).1, (2, U, 0) :: (x f).2.1, 0, lUp (lUp (kR (x f)) v none) (40 + wl (x f).2.1) (some (d :: π)), lUp (kH (x f)) (40 + wl (x f).2.1) (kH (x f) v), (fun u => (u < 40 ∧ AB D k u) ∧ u ≠ v), (fun w π => LO R S0 D (k + 1) w π ∨ 40 ≤ w), kAn (x f)) := by rw [← hx3, kUx_eq]
  have hnt3 : ((f, v) : Nat × Nat) ≠ (f, 40 + wl (x f).2.1) := fun w => by have := (Prod.mk.inj w).2; omega
  have hax : ∀ u : Nat, (u < 40 ∧ AB D k u) → kal (x3 f) u ∨ (kR (x3 f) u = none ∧ qUp (qUp V (f, v) (qC (V (f, v)) [])) (f, 40 + wl (x f).2.1) (qL (10001 + 2 * U)) (f, u) [] = none) := fun u z => by
    rw [e3']
    by_cases c : u = v
    · subst c
      refine Or.inr ⟨?_, ?_⟩
      · show lUp (lUp (kR (x f)) u none) (40 + wl (x f).2.1) (some (d :: π)) u = none
        rw [lUp_ne (by omega), lUp_eq]
      · rw [qUp_ne hnt3, qUp_eq]
        exact qC_in (ρ := []) (σ := [])
    · exact Or.inl ⟨z, c⟩
  have j4 := kJ_alp (al2 := fun u => u < 40 ∧ AB D k u) j2 hax
  have hN4 := hN3.cx (x2 := kUx x3 f ((x3 f).1, (x3 f).2.1, (x3 f).2.2.1, kR (x3 f), kH (x3 f), (fun u => u < 40 ∧ AB D k u), klo (x3 f), kAn (x3 f))) (cxU rfl (fun _ => Iff.rfl) (fun u a hu ha => ⟨by
    have ha : kR (x3 f) u = some a := ha
    rcases hu with ⟨z1, z2⟩ | z
    · rcases hax u z2 with w | ⟨w, _⟩
      · exact Or.inl ⟨z1, w⟩
      · rw [w] at ha; cases ha
    · exact Or.inr z, ha⟩))
  rw [e3', ← hx3, kUx2] at j4 hN4
  rw [hst] at j4 hN4
  have h74 : Zr S3 74 = Zr S1 74 := by rw [s1.sam.2.1, q1.2.2.2.2.2.2.1 74 (by decide) (by decide)]
  have h67 : Zr S3 67 = Zr S1 67 := by rw [s1.sam.2.2.1, q1.2.2.2.2.2.2.1 67 (by decide) (by decide)]
  refine Rt.rt ⟨s1.rx (h1.2.2.1.no q1), Or.inr ⟨((s1.2.2.2.2.2.2.2 3 (by decide)).trans (q1.2.2.2.2.2.2.2.1 3 (by decide) (by decide))).trans e3, ((s1.2.2.2.2.2.2.2 70 (by decide)).trans (q1.2.2.2.2.2.2.2.1 70 (by decide) (by decide))).trans e70, NXt.fr ?_ er hz⟩⟩
  refine finRv (q := 2) (U := U) (hd := kH (x f) v) (lo2 := fun w π => LO R S0 D (k + 1) w π ∨ 40 ≤ w) hL h1.1 hed (Or.inr rfl) hw hs ho hat (fun κ hκ => ?_) (fun v9 π9 hv9 q => q.resolve_right (by omega)) ⟨_, _, C, L, H, fl, t9, j4, by rw [h74]; exact hN4, by rw [h67]; exact hC, s1.sam.fl q4⟩ ?_ s2 ?_ ?_
  · rw [a4] at hκ
    rcases hκ with ⟨_, hκ⟩ | ⟨hκ, _⟩
    · exact hFn.hf hed (by omega) ho k24 (by rw [(hu.1 hrv).2]; exact List.mem_singleton_self _) hκ.1
    · omega
  · exact ((s1.2.2.2.2.2.2.2 77 (by decide)).trans (q1.2.2.2.2.2.2.2.1 77 (by decide) (by decide))).trans h1.2.2.2.1.1
  · rw [s1.2.2.2.2.2.2.1, q1.2.2.2.2.2.2.1 75 (by decide) (by decide)]
  · exact (s1.2.2.2.2.2.2.2 76 (by decide)).trans (q1.2.2.2.2.2.2.2.1 76 (by decide) (by decide))
end PS73
end
