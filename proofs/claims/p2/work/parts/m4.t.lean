section PS71
variable {R : yR} {S0 Sl S S1 S2 S3 : Sg} {D : fD} {i k j f nw : Nat} {vt : Nat → Nat → Nat} {tb : Nat → lTb} {x : Nat → kFm} {bs : Nat → Nat} {g : Nat → Int32} {v T : Nat} {ρ σ : lLc}
/-- what is told of a move: who may look -/
theorem RQ.ckm {B : Nat} (h1 : RQ R S0 vt tb i D k f x bs Sl nw S) (hi : iPa D.E (D.I k) (D.st k) v ρ B) (hu : iUv D.E (D.I k) v) (ho : (D.I k).ho = none) (hac : (D.I k).ac = 4 ∨ (D.I k).ac = 5) (hnv : ¬ isRf (D.E.vt v)) : lCk (tb (x f).1) (kH (x f)) (fun u => (u < 40 ∧ kal (x f) u) ∨ (40 ≤ u ∧ u < 40 + wl (x f).2.1)) v ρ False := by
  obtain ⟨a1, a2, a3, a4, a5, a6⟩ := h1.2.2.2.2.2.1
  have htb : tb (x f).1 = tbD D := by rw [a1]; exact h1.2.2.2.2.2.2.2.2.2
  have hs := h1.1.2.2.2.1.all hi.2.2.2.2.2.2.2
  have hst := h1.st.2
  have h177 := h1.pt.2
  have hus : ∀ u : Nat, u ∉ (D.I k).us := fun u hm => by rw [(hu.2 hnv).1] at hm; cases hm
  have hck := h1.1.1.ck h1.1.2.1.1 h1.1.2.1.2.1 h1.1.2.1.2.2 hi.1 (by rcases hac with z | z <;> rw [z] <;> decide) (fun z => by rcases hac with w | w <;> rw [w] at z <;> omega) (Or.inr ⟨hi.2.2.2.2.1, B, hi.2.2.2.1⟩) (A2 := fun u => (u < 40 ∧ kal (x f) u) ∨ (40 ≤ u ∧ u < 40 + wl (x f).2.1)) (fun u κ z1 z2 => by
    have hno : (D.I k).ho ≠ some u := fun w => by rw [ho] at w; cases w
    rcases z1 with ⟨z3, z4⟩ | ⟨z3, z4⟩
    · rw [a5] at z4
      exact ⟨by omega, (z4.2.ab (hus u)).1, hno⟩
    · rw [hst] at z4
      refine ⟨by omega, ?_, hno⟩
      rcases z2 with ⟨_, z2⟩ | ⟨z2, _⟩
      · rcases z2.2.1 z3 with z5 | z5
        · exact (z5.ab (hus u)).1
        · exact absurd z5 (pn_mk hs)
      · omega)
  intro u κ g1 g2 g3 g4 g5
  rw [htb] at g3 g4 g5 ⊢
  rw [a4] at g2
  exact (hck u κ g1 g2 g3 g4 g5).imp (fun z => by rcases hac with w | w <;> rw [w] at z <;> omega) id
theorem RQ.lom {B : Nat} (hL : LFS R S0 g) (h1 : RQ R S0 vt tb i D k f x bs Sl nw S) (e : edg D k j) (hk : (D.I k).kd = 2) (hac : (D.I k).ac = 4 ∨ (D.I k).ac = 5) (hp : (D.I k).pa = some (v, ρ, T)) (hv : v < 40) (hm : qM σ) (hr : ρ = σ ∨ ρ = σ ++ [(1, 0)]) (hw : qW (yT R S0) (D.E.vt v) σ B) : ∀ (w : Nat) (π : lLc), ¬ (LO R S0 D j w π ∨ 40 ≤ w) → ¬ klo (x f) w π ∧ (w = v → ¬ lCmp π σ) := fun w π h => by
  have hE := h1.1.2.2.2.2
  have a6 := h1.2.2.2.2.2.1.2.2.2.2.2
  refine ⟨fun q => h ?_, fun ew q => h ?_⟩
  · by_cases c : w < 40
    · rw [a6] at q
      exact Or.inl (h1.1.1.lo (nYk_of hL) hE e c q (fun c _ _ => (kdM_k hk (by decide)).nk))
    · exact Or.inr (by omega)
  · subst ew
    exact Or.inl (h1.1.1.mo (nYk_of hL) hE e hk hac hp hv hm hr hw q)
/-- READ: a value that is no reference is moved -/
theorem s_2m (hL : LFS R S0 g) (hx : LX S0 Sl) (hE : hFE R S0 D) (h1 : RQ R S0 vt tb i D k f x bs Sl (k + 1) S1) (hQ : D.Pe < 24000) (hk : (D.I k).kd = 2) (hz : Zi S1 76 = Zi S 76) (e70 : Zi S1 70 = Zi S 70) (e3 : Zi S1 3 = Zi S 3) (er : Zr S1 = Zr S) (hi : iPa D.E (D.I k) (D.st k) v ρ T) (hu : iUv D.E (D.I k) v) (ho : (D.I k).ho = none) (hac : (D.I k).ac = 4) (hm : qM ρ) (hT : ¬ isRf T) (hw : wkS (eT T :: D.st k) (D.st (k + 1))) : Rt (f_runRead R.K S1 (nI k)) (fun S2 _ => RTt R S0 vt tb i D k f x bs Sl S S2) := by
  have k24 : (D.I k).kd ≠ 24 := by rw [hk]; decide
  have hy := nYk_of hL
  have hEy := h1.1.2.2.2.2
  have hv4 := hi.2.1.1
  have hT0 := hi.2.2.2.2.2.1
  have hqv : ¬ isRf (D.E.vt v) ∧ qW (yT R S0) (D.E.vt v) ρ T := by
    have q := hi.2.2.2.1
    rw [hEy] at q
    rcases q with w2 | ⟨w1, ⟨_, w2⟩ | ⟨ρ2, w2, _⟩⟩
    · exact w2
    · rw [← w2] at w1; exact absurd w1 hT
    · rw [w2] at hm
      have z := (qM_cons.mp hm).1
      have z : (1 : Nat) = 0 := z
      omega
  obtain ⟨hnv, hqw⟩ := hqv
  obtain ⟨rt, V, C, L, H, fl, t9, ⟨hJ, hN, hC, hF⟩, _⟩ := h1.2.2.2.2.2.2.1
  obtain ⟨a1, a2, a3, a4, a5, a6⟩ := h1.2.2.2.2.2.1
  have hvt : vt (x f).1 = D.E.vt := by rw [a1]; exact h1.2.2.2.2.2.2.2.2.1
  have hFn := h1.1.1
  have hf6 := h1.2.2.2.2.1
  have hws := h1.2.2.2.2.2.2.2.1
  have hnt := hi.2.2.2.2.2.2.2
  have hs := h1.1.2.2.2.1.all hnt
  have hst := h1.st.2
  have h177 := h1.pt.2
  have hb := h1.sb
  have hed : edg D k (k + 1) := h1.e1 (kd_s hk (by decide))
  have hvS : (8, v, 0) ∈ (x f).2.1 := by rw [a2]; exact trL_8.mpr hi.2.2.1
  have hno : ∀ r m2 : Nat, (5, r, m2) ∉ (x f).2.1 ∧ (6, r, m2) ∉ (x f).2.1 := fun r m2 => by
    rw [a2]
    exact ⟨fun z => absurd (Or.inr (Or.inl rfl)) (trL_4 (pn_4 hs) _ z), fun z => absurd (Or.inr (Or.inr rfl)) (trL_4 (pn_4 hs) _ z)⟩
  have hfu := hFn.fu hy hEy h1.1.2.1.1 h1.1.2.1.2.1 h1.1.2.1.2.2 hi.1 k24 (by rw [hac]; decide) (by rw [hac]; decide) (Or.inl (by rw [hac]; decide)) (pTy_fu hi.2.2.2.1).1 (pTy_fu hi.2.2.2.1).2
  rw [hEy, ← a6] at hfu
  have t56 : (yT R S0).1 T ≠ 5 ∧ (yT R S0).1 T ≠ 6 := ⟨fun z => hT (yRf.mp (Or.inl z)), fun z => hT (yRf.mp (Or.inr z))⟩
  obtain ⟨⟨F1, F2⟩, hJ2⟩ := kJ_mv (T := T) (B := T) (σ := ρ) (al2 := kal (x f)) (lo2 := fun w π => LO R S0 D (k + 1) w π ∨ 40 ≤ w) hJ a3 (by omega) hno hT0 t56.1 t56.2 hv4 hvS (by rw [hvt]; exact hqw) hm (by rw [hvt]; exact hqw) (Or.inl rfl) hfu (fun u q => q) (h1.lom hL hed hk (Or.inl hac) hi.1 hv4 hm (Or.inl rfl) hqw) (h1.ckm hi hu ho (Or.inl hac) hnv)
  have hnr : (yT R S0).1 (rt (f, v)) ≠ 5 ∧ (yT R S0).1 (rt (f, v)) ≠ 6 := by
    rw [F2, hvt]
    exact ⟨fun z => hnv (yRf.mp (Or.inl z)), fun z => hnv (yRf.mp (Or.inr z))⟩
  obtain ⟨⟨⟨k9, pl9⟩, plk, _⟩, p2, p3⟩ := hN.hd hy (d := (f, v)) (Nat.le_refl f) hv4 hvS
  obtain ⟨k0, c0, l0, g0, rest, hr, b1, b2, b3, b4, b5, b6, b7⟩ := pl9.fo hy plk (by rw [F2, hvt]; exact hqw) (prS.of (hJ.1 (f, v)) (qF_pl F1))
  obtain ⟨w, r1, r2, r3⟩ := h1.fd (n := hdN (C (f, v))) (m := ρ.length) (n2 := hdN c0) hL hx hE hQ hN hi.1 hv4 hi.2.2.1 k24 rfl (Nat.le_refl _) (Or.inr (by rw [List.take_length]; exact Or.inl ⟨hnv, by rw [F2, hvt] at b3; exact b3⟩))
  obtain ⟨w', xt, r4, r5, r6, r7⟩ := h1.ft hL hx hE hQ hi.1 hT0 k24
  obtain rfl : w = w' := by rw [r1] at r4; exact Option.some.inj (Option.some.inj r4)
  have hcv : cvN c0 l0 fl t9 := hC.cv (r := (f, v)) hf6 (show v < 300 by omega) hF.2.2.2.1 (fun a => by have := b4 a; omega)
  have htk := tkp_ (W := qS (V (f, v)) ρ) hL hx h1.2.2.1.1 r6 r7 b1 b2 (by rw [qF_S, List.append_nil]; exact F1) hF hC.f1 (hN.room hy hC hf6 hws hF.2.2.2.2) hcv
  unfold f_runRead
  refine Rt.bd r1 (Rt.bd (h1.rac hQ) (Rt.iq (by rw [hac]; decide) (Rt.bd (h1.rac hQ) (Rt.ip (by rw [hac]; rfl) (Rt.bd (r5 S1 h1.2.2.1.1).1 (Rt.be (r5 S1 h1.2.2.1.1).2 (Rt.bd r2 (Rt.be r3 (Rt.bn htk (fun S2 r ⟨Ln, fl2, t2, q1, q2, q3, q4, q5, q6⟩ => ?_))))))))))
  have h73 : Zi S2 73 = nI (bs f + wl (D.st k)) := (q1.2.2.2.2.2.2.2.1 73 (by decide) (by decide)).trans h1.2.2.2.1.2.1
  refine Rt.bn (psh_ (p := bs f + wl (D.st k)) h73 (by omega)) (fun S3 _ ⟨s1, s2, s3, s4⟩ => ?_)
  unfold f_runRead_165
  have e72 : Zl S2 72 = Zl S1 72 := q1.2.2.2.2.2.1 72 (by decide)
  obtain ⟨l2, h2, n1, n2⟩ := hN.mv (M2 := nMS S3) (sk2 := Zl S3 72) (r := r) hy hJ hC hf6 hws a3 hv4 hvS hnr (fun u q => q) hJ2 b1 b4 b5 b6 b7 (fun a z1 z2 => by
    rw [s1.sam.1]
    exact q1.2.2.2.2.2.2.2.2 a (fun z => z.elim z1 z2)) q3 (fun a ha => by
    rw [s1.sam.1]
    exact q4 a ha) q5 (by rw [s1.sam.1]; exact q6) (fun p hp => by rw [s4 p (by rw [hst] at hp; omega), e72]) (by rw [hst]; exact s3)
  have eTT : eT T = (0, T, 0) := by
    unfold eT
    rw [if_neg (fun z => by
      have : abT S0 xt = T := r7
      rcases r6.nm hL.1 with ⟨z1, _, _, _⟩ | ⟨kd, u, _, _, z2, _⟩
      · have := z1.nm hL.1; omega
      · rw [r7] at z2; exact hT z2)]
  rw [eTT] at hw
  have h74 : Zr S3 74 = Zr S1 74 := by rw [s1.sam.2.1, q1.2.2.2.2.2.2.1 74 (by decide) (by decide)]
  have h67 : Zr S3 67 = Zr S1 67 := by rw [s1.sam.2.2.1, q1.2.2.2.2.2.2.1 67 (by decide) (by decide)]
  have kt : kT (yT R S0) (zN R S0) (szN R S0) vt tb f (kUx x f ((x f).1, (0, T, 0) :: (x f).2.1, 0, lUp (kR (x f)) (40 + wl (x f).2.1) none, kH (x f), kal (x f), (fun w π => LO R S0 D (k + 1) w π ∨ 40 ≤ w), kAn (x f))) bs S3 := ⟨_, _, C, _, _, fl2, t2, hJ2, by rw [h74]; exact n1, by rw [h67]; exact n2, s1.sam.fl q2⟩
  refine Rt.rt ⟨s1.rx (h1.2.2.1.no q1), Or.inr ⟨((s1.2.2.2.2.2.2.2 3 (by decide)).trans (q1.2.2.2.2.2.2.2.1 3 (by decide) (by decide))).trans e3, ((s1.2.2.2.2.2.2.2 70 (by decide)).trans (q1.2.2.2.2.2.2.2.1 70 (by decide) (by decide))).trans e70, NXt.fr ?_ er hz⟩⟩
  refine (finV (s := (0, T, 0) :: D.st k) hL h1.1 hed hw (fun a ha => ?_) ho ?_ ?_ ?_ ?_ ?_ (fun v9 π hv9 q => ?_) kt ?_ ?_ ?_ ?_).ux rfl
  · rcases List.mem_cons.mp ha with z | z
    · rw [z]; exact pnE_k (Or.inl rfl)
    · exact hs a z
  · rw [kUx_top]
  · rw [kUx_top]; exact a1
  · rw [kUx_top]
    show wkS ((0, T, 0) :: (x f).2.1) _
    rw [a2]
    exact trL_c hw (show (0 : Nat) ≠ 3 by decide) (show (0 : Nat) ≠ 5 by decide) (show (0 : Nat) ≠ 6 by decide) (hFn.dn hed ho (by omega))
  · rw [kUx_top]; exact a4
  · rw [kUx_top]; exact a5
  · rw [kUx_top] at q
    rcases q with q | q
    · exact q
    · omega
  · exact ((s1.2.2.2.2.2.2.2 77 (by decide)).trans (q1.2.2.2.2.2.2.2.1 77 (by decide) (by decide))).trans h1.2.2.2.1.1
  · rw [s2, wkS_wl hw, wl_n (by show ¬ ((0 : Nat) = 8 ∨ (0 : Nat) = 4 ∨ (0 : Nat) = 5 ∨ (0 : Nat) = 6); decide)]
    congr 1
  · rw [s1.2.2.2.2.2.2.1, q1.2.2.2.2.2.2.1 75 (by decide) (by decide)]
  · exact (s1.2.2.2.2.2.2.2 76 (by decide)).trans (q1.2.2.2.2.2.2.2.1 76 (by decide) (by decide))
end PS71
