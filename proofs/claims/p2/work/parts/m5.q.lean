section PS94
variable {R : yR} {K : Ky} {S0 Sl S S1 S2 S3 : Sg} {D : fD} {i k j f nw n v : Nat} {vt : Nat → Nat → Nat} {tb : Nat → lTb} {x : Nat → kFm} {bs : Nat → Nat} {g : Nat → Int32} {X : kFm} {al : Nat → Prop}
/-- LOOK -/
theorem s_21 (hL : LFS R S0 g) (hx : LX S0 Sl) (hE : hFE R S0 D) (h : RQ R S0 vt tb i D k f x bs Sl k S) (hQ : D.Pe < 24000) (hk : (D.I k).kd = 21) : Rt (f_step R.K S) (fun S2 _ => RTt R S0 vt tb i D k f x bs Sl S S2) := by
  have h24 := h.k24 hQ
  have hy := nYk_of hL
  have hB := yB_yT (R := R) (S0 := S0)
  refine stp_21 h hQ hk (fun S1 h1 e70 e3 er el => ?_)
  have hp := h1.pt.1
  unfold tPt at hp
  rw [hk] at hp
  obtain ⟨ho, hln, v, ρ, hi, hu, hws0, n70, y3, hac, hl1, hl2, hJ9⟩ := hp
  have hEy := h1.1.2.2.2.2
  rw [hEy] at y3 hl1 hJ9
  have k24 : (D.I k).kd ≠ 24 := by rw [hk]; decide
  have T9 : 4 + (D.I k).n1 < 10000 := by omega
  have hne : isRf (D.E.vt v) → ρ ≠ [] := fun w z => by
    rcases hi.2.2.2.1 with ⟨w2, _⟩ | ⟨_, ⟨_, w2⟩ | ⟨ρ2, w2, _⟩⟩
    · exact w2 w
    · have := w.1; omega
    · rw [z] at w2; cases w2
  have ha : (D.I k).ac ≠ 0 ∧ (D.I k).ac ≠ 7 ∧ (D.I k).ac ≠ 6 := by
    rcases hac with ⟨a, _⟩ | ⟨a, _⟩ <;> rw [a] <;> decide
  obtain ⟨rt, V, C, L, H, fl, t9, ⟨hJ, hN, hC, hF⟩, _⟩ := h1.2.2.2.2.2.2.1
  obtain ⟨d, π, n, ⟨c1, c2, c3⟩, c4, c5, c6, c7, c8, c9⟩ := h1.pn hL hJ hN hi hu hne k24 ha
  obtain ⟨a1, a2, a3, a4, a5, a6⟩ := h1.2.2.2.2.2.1
  have hvt : vt (x f).1 = D.E.vt := by rw [a1]; exact h1.2.2.2.2.2.2.2.2.1
  have htb : tb (x f).1 = tbD D := by rw [a1]; exact h1.2.2.2.2.2.2.2.2.2
  obtain ⟨w, r1, r2, r3⟩ := h1.fd (n := hdN (C (f, v))) (m := ρ.length) (n2 := n) hL hx hE hQ hN hi.1 hi.2.1.1 hi.2.2.1 k24 rfl (Nat.le_refl _) (Or.inr (by rw [List.take_length, ← hvt]; exact c8))
  have hnt := hi.2.2.2.2.2.2.2
  have hs := h1.1.2.2.2.1.all hnt
  have hst := h1.st.2
  have hFn := h1.1.1
  have hf6 := h1.2.2.2.2.1
  have hws := h1.2.2.2.2.2.2.2.1
  have hX1 := h1.2.2.1
  have e := hX1.1
  have h73 := h1.2.2.2.1.2.1
  have wx : wl (x f).2.1 = 0 := hst.trans hws0
  -- what lies there
  obtain ⟨⟨t0, gg⟩, hVg⟩ : ∃ z : Nat × Nat, V d π = some z := by
    have := (c5 [] _ qM_nil rfl).1 (by rw [y3]; decide)
    rw [List.append_nil] at this
    exact this
  obtain ⟨o1, o2, o3, _, _⟩ := (hJ.1 d).1 π t0 gg hVg
  obtain rfl : t0 = 4 + (D.I k).n1 := qW_det o1 c4
  have hgg := o3 y3
  obtain ⟨⟨⟨kk, zz1⟩, zz2, _⟩, p2, p3⟩ := hN.hd hy (d := d) c1 c2 c3
  obtain ⟨k0, c0, l0, g0, rest, hr, b1, b2, b3, _⟩ := zz1.fo hy zz2 c4 (prS.of (hJ.1 d) (qPl_of hVg))
  have hn0 : n = hdN c0 := wRn.det c6 b3
  have hSg : qS (V d) π [] = some (4 + (D.I k).n1, gg) := by
    show V d (π ++ []) = _
    rw [List.append_nil]; exact hVg
  obtain ⟨m, q3, q4, q6⟩ : ∃ m : Nat, Zl S1 61 n = nL m ∧ (1 ≤ m ∧ m < 430000) ∧ vrW (Zl S1 61 m) = nI gg := by
    cases k0 with
    | zero => exact b1.elim
    | succ k0 =>
      rcases b1 with ⟨z, _⟩ | ⟨_, n9, e9, b1⟩
      · rw [y3] at z; cases z
      · rcases b1 with ⟨z, _⟩ | ⟨_, b1⟩
        · rw [hSg] at z; cases z
        · rcases b1 with ⟨_, m, g', cs, ls, hs', u1, u2, u3, u4, _, u6, _⟩ | ⟨z, _⟩ | ⟨z, _⟩
          · rw [hSg] at u1
            obtain rfl := (Prod.mk.inj (Option.some.inj u1)).2
            refine ⟨m, ?_, u4, u6⟩
            rw [hn0, e9]; exact u3
          · rw [y3] at z; cases z
          · exact absurd y3 z
  have hgl : gg < (D.I k).sc.length := by rw [hl1]; exact hgg
  obtain ⟨j, hj, hjm⟩ := sc_at hgl
  obtain ⟨hkj, hwj⟩ := hJ9 gg j hj
  obtain ⟨a, ra, rb⟩ := h1.sc hQ (Or.inr hk) hl2 hj
  have hed : edg D k j := h1.ed hjm
  unfold f_step_477 f_runMatch f_runMatch_51
  have r27 : Zr S1 27 = Zr Sl 27 := e.2.2.2.2.2.1 27 (by decide)
  refine Rt.bn (Q := fun S2 _ => RTt R S0 vt tb i D k f x bs Sl S S2) ?_ (fun S2 _ q => by unfold f_step_590; exact Rt.rt q)
  refine Rt.bd (v := 21) (by rw [rI_n (show k < rlen 27 from h24) (by decide), r27, h1.2.1.1, hk]; rfl) (Rt.iq (by decide) ?_)
  refine Rt.bd r1 (Rt.bd r1 (Rt.bd r2 (Rt.be r3 (Rt.bd (rJ_n (show n < rlen 61 from c7) (by decide)) ?_))))
  rw [q3, nL_t]
  have hvo : f_variantOf_ R.K S1 (nI m) = some (S1, nI gg) := by
    unfold f_variantOf_
    rw [rJ_n (show m < rlen 61 from q4.2) (by decide)]
    show some (S1, vrW (Zl S1 61 m)) = _
    rw [q6]
  refine Rt.bd ra (Rt.be hvo (Rt.bd rb (Rt.bd (v := Ui S1 77 (nI j)) rfl ?_)))
  have hno : ∀ u : Nat, (D.I k).ho ≠ some u := fun u w => by rw [ho] at w; cases w
  have sm : sam S1 (Ui S1 77 (nI j)) := Ui.sam9 (by decide) (by decide)
  refine Rt.rt ⟨hX1.u77, Or.inr ⟨(Zi_n (by decide)).trans e3, (Zi_n (by decide)).trans e70, NXt.fr ?_ er (by rw [h1.2.2.2.1.2.2, h.2.2.2.1.2.2])⟩⟩
  rcases hwj with ⟨_, _, _, hwj⟩ | ⟨hpos, _, _, hwj⟩
  · exact h1.id0 hL hed hnt hwj (kdM_k hk (by decide)) ho sm (fun _ _ => rfl) Zi_s ((Zi_n (by decide)).trans h73) rfl (Zi_n (by decide))
  · obtain ⟨q, Q, hq, eQ, hQ5, hrf, hacq⟩ : ∃ q Q : Nat, (q = 1 ∨ q = 2) ∧ Q = q + 4 ∧ (if (D.I k).n3 = 1 then 5 else 6) = Q ∧ (q = 2 → isRf (D.E.vt v) → D.E.vt v % 2 = 1) ∧ ((D.I k).ac = 1 ∨ (D.I k).ac = 2 → q = 1) := by
      rcases hac with ⟨a, b⟩ | ⟨a, b, c⟩
      · exact ⟨1, 5, Or.inl rfl, rfl, by rw [if_pos b], fun z => by omega, fun _ => rfl⟩
      · exact ⟨2, 6, Or.inr rfl, rfl, by rw [b]; rfl, fun _ => c, fun z => by omega⟩
    rw [hQ5] at hwj
    have hQ56 : Q = 5 ∨ Q = 6 := by omega
    have hg12 : gg < 12 := by omega
    obtain ⟨t, hkt⟩ : ∃ t : Nat, (q = 1 ∧ t = 10000 + 2 * (4 + (D.I k).n1)) ∨ (q = 2 ∧ t = 10001 + 2 * (4 + (D.I k).n1)) := by
      rcases hq with z | z
      · exact ⟨_, Or.inl ⟨z, rfl⟩⟩
      · exact ⟨_, Or.inr ⟨z, rfl⟩⟩
    obtain ⟨m1, m2, m3⟩ := dcd_lm (v := v) (s := if Q = 5 then 1 else 0) (ρ := ρ)
    have hus : ∀ u : Nat, 40 ≤ u → u ∉ (D.I k).us := fun u h4 hm => by
      have := hi.2.1.1
      by_cases z : isRf (D.E.vt v)
      · rw [(hu.1 z).1] at hm
        have := List.mem_singleton.mp hm; omega
      · rw [(hu.2 z).1] at hm; cases hm
    have hal : ∀ u : Nat, AB D k u → u < 40 → AL D k u := fun u w h4 => w.al (hno u)
    have hck := hFn.ck h1.1.2.1.1 h1.1.2.1.2.1 h1.1.2.1.2.2 hi.1 ha.1 (fun z => z.1.elim ha.2.1 ha.2.2) (Or.inr ⟨hi.2.2.2.2.1, _, hi.2.2.2.1⟩) (A2 := fun u => (u < 40 ∧ (u < 40 ∧ AB D k u)) ∨ (40 ≤ u ∧ u < 40 + wl (x f).2.1)) (fun u κ z1 z2 => by
      rcases z1 with ⟨z3, _, z4⟩ | ⟨z3, z4⟩
      · exact ⟨by omega, z4, hno u⟩
      · omega)
    have hno56 : ∀ r m2 : Nat, (5, r, m2) ∉ (x f).2.1 ∧ (6, r, m2) ∉ (x f).2.1 := fun r m2 => by
      rw [a2]
      exact ⟨fun z => absurd (Or.inr (Or.inl rfl)) (trL_4 (pn_4 hs) _ z), fun z => absurd (Or.inr (Or.inr rfl)) (trL_4 (pn_4 hs) _ z)⟩
    have hJ2 := kJ_bor (q := q) (t := t) (l0 := lm v ρ (if Q = 5 then 1 else 0)) (d := d) (π := π) (hd := fun κ => κ = lm v ρ (if Q = 5 then 1 else 0) ∨ (isRf (D.E.vt v) ∧ HKm R S0 i D k v κ)) (al2 := fun u => u < 40 ∧ AB D k u) (v := v) (ρ := ρ) (T := 4 + (D.I k).n1) hJ a3 (by omega) hno56 T9 hkt hi.2.1.1 (by rw [a2]; exact trL_8.mpr hi.2.2.1) (fun z => by
        rw [hvt] at z
        rw [a5]
        exact ⟨hi.2.1.1, Or.inl (by rw [(hu.1 z).1]; exact List.mem_singleton_self _)⟩) (fun u z => by rw [a5]; exact ⟨z.1, hal u z.2 z.1⟩) (fun u κ g1 g2 g3 g4 g5 => by
        rw [htb] at g3 g4 g5 ⊢
        rw [a4] at g2
        exact (hck u κ g1 g2 g3 g4 g5).imp hacq id) (Or.inl rfl) (by rw [htb]; exact lm_100) (by rw [htb]; exact m1) (by rw [htb]; exact m2) (fun z => by
        rw [htb]
        show ¬ ((dcd (lm v ρ (if Q = 5 then 1 else 0))).2.2 % 2 = 1)
        rw [m3, if_neg (by omega)]; decide) (by rw [htb, hvt]; exact Iff.rfl) (fun z κ hκ => by
        rw [hvt] at z
        rw [a4] at hκ
        rcases hκ with ⟨_, hκ⟩ | ⟨hκ, _⟩
        · exact Or.inr ⟨z, hκ⟩
        · have := hi.2.1.1; omega) (fun z z2 => by
        rw [hvt] at z2 ⊢
        exact yRf6 z2 (hrf z z2)) c2 c4 c5 c9
    have hmt : ∀ e : tE, e ∈ (x f).2.1 → ¬ (e.1 = 4 ∨ e.1 = 5 ∨ e.1 = 6) := by rw [a2]; exact trL_4 (pn_4 hs)
    have hJ3 := kJ_sw1 (sh := (D.I k).n1) (g := gg) (q := q) (m := 0) (a0 := d) (π0 := π) (r := (x f).2.1) (hd := fun κ => κ = lm v ρ (if Q = 5 then 1 else 0) ∨ (isRf (D.E.vt v) ∧ HKm R S0 i D k v κ)) hB.2.2.1 hJ2 (by rw [kUx_eq]) T9 hq (by rw [kUx_eq]) hmt hg12 (by decide) (by rw [kUx_eq]; exact lUp_eq) (by rw [qUp_ne (fun z => by rw [z] at c2; have c2 : 40 + wl (x f).2.1 < 40 := c2; omega)]; exact hVg) (fun κ z => by
      rw [kUx_eq] at z
      have z : lUp (kH (x f)) (40 + wl (x f).2.1) _ (40 + wl (x f).2.1) κ := z
      rw [lUp_eq] at z; exact z)
    rw [kUx_eq, kUx2, ← eQ] at hJ3
    obtain ⟨rt3, V3, hJ3, hrV⟩ : ∃ (rt3 : Nat × Nat → Nat) (V3 : Nat × Nat → qV), kJ (yT R S0) vt tb f (kUx x f ((x f).1, (Q, (D.I k).n1 * 12 + gg, 0) :: (x f).2.1, 0, lUp (lUp (kR (x f)) (40 + wl (x f).2.1) (some (d :: π))) 300 (some (d :: π)), lUp (lUp (kH (x f)) (40 + wl (x f).2.1) (fun κ => κ = lm v ρ (if Q = 5 then 1 else 0) ∨ (isRf (D.E.vt v) ∧ HKm R S0 i D k v κ))) 300 (fun κ => κ = lm v ρ (if Q = 5 then 1 else 0) ∨ (isRf (D.E.vt v) ∧ HKm R S0 i D k v κ)), (fun u => u < 40 ∧ AB D k u), klo (x f), kAn (x f))) rt3 V3 ∧ ∀ q : Nat × Nat, ¬ (q.1 = f ∧ 40 ≤ q.2) → rt3 q = rt q ∧ V3 q = V q := by
      refine ⟨_, _, hJ3, fun q hq => ?_⟩
      have n1 : q ≠ (f, 300) := fun z => hq (by rw [z]; exact ⟨rfl, by show 40 ≤ 300; decide⟩)
      have n2 : q ≠ (f, 40 + wl (x f).2.1) := fun z => hq (by rw [z]; exact ⟨rfl, by show 40 ≤ 40 + wl (x f).2.1; omega⟩)
      exact ⟨(qRt_ne n1).trans (qRt_ne n2), (qUp_ne n1).trans ((kCl_ge (fun z => hq ⟨z.1, by have := z.2.1; omega⟩)).trans (qUp_ne n2))⟩
    have hL40 : L (f, 40) = [] ∧ H (f, 40) = [] := ((hN.1 f 40 (Nat.le_refl f)).2.2 (fun z => by rcases z with z | z <;> omega)).2
    have hmk : ∀ c : Nat, (Q, (D.I k).n1 * 12 + gg, c).1 = 8 ∨ (Q, (D.I k).n1 * 12 + gg, c).1 = 4 ∨ (Q, (D.I k).n1 * 12 + gg, c).1 = 5 ∨ (Q, (D.I k).n1 * 12 + gg, c).1 = 6 := fun c => by
      show Q = 8 ∨ Q = 4 ∨ Q = 5 ∨ Q = 6
      omega
    obtain ⟨s, hsj, hws9⟩ : ∃ s : List tE, D.st j = (Q, (D.I k).n1 * 12 + gg, 64 * cdP v ρ) :: s ∧ wkS (D.st k) s := by
      cases hst : D.st j with
      | nil => rw [hst] at hwj; exact hwj.elim
      | cons a s =>
        rw [hst] at hwj
        rcases hwj.1 with z | ⟨t2, _, _, z⟩
        · rw [z]; exact ⟨s, rfl, hwj.2⟩
        · rcases z with ⟨t, _, z⟩ | ⟨T, z | z⟩
          · have := (Prod.mk.inj z).1; omega
          · have := (Prod.mk.inj z).1; omega
          · have := (Prod.mk.inj z).1; omega
    have hsp := wkS_pn hws9 hs
    have wj : wl (D.st j) = 0 := by rw [hsj, wl_0 (hmk _), wkS_wl hws9, hws0]
    obtain ⟨nv1, nv2⟩ := hN.nv (X := ((x f).1, (Q, (D.I k).n1 * 12 + gg, 0) :: (x f).2.1, 0, lUp (lUp (kR (x f)) (40 + wl (x f).2.1) (some (d :: π))) 300 (some (d :: π)), lUp (lUp (kH (x f)) (40 + wl (x f).2.1) (fun κ => κ = lm v ρ (if Q = 5 then 1 else 0) ∨ (isRf (D.E.vt v) ∧ HKm R S0 i D k v κ))) 300 (fun κ => κ = lm v ρ (if Q = 5 then 1 else 0) ∨ (isRf (D.E.vt v) ∧ HKm R S0 i D k v κ)), (fun u => u < 40 ∧ AB D k u), klo (x f), kAn (x f))) (n := 0) (w := fun _ => 0) (c := fun _ => []) (l := fun _ => []) (h := fun _ => []) (M2 := nMS (Ui S1 77 (nI j))) (sk2 := Zl (Ui S1 77 (nI j)) 72) (pl2 := Zr (Ui S1 77 (nI j)) 74) (tk2 := Zr (Ui S1 77 (nI j)) 67) (fl2 := fl) (t2 := t9) (A := fun _ => False) (rt2 := rt3) (V2 := V3) hy hJ hC hf6 hws (by rw [wx]; decide) (by show wl ((Q, (D.I k).n1 * 12 + gg, 0) :: (x f).2.1) = 0; rw [wl_0 (hmk _)]; exact wx) (fun u => by
        show (8, u, 0) ∈ (Q, (D.I k).n1 * 12 + gg, 0) :: (x f).2.1 ↔ (∃ i : Nat, i < 0 ∧ u = 0) ∨ (8, u, 0) ∈ (x f).2.1
        rw [List.mem_cons]
        constructor
        · rintro (z | z)
          · have := (Prod.mk.inj z).1
            omega
          · exact Or.inr z
        · rintro (⟨_, z, _⟩ | z)
          · omega
          · exact Or.inr z) rfl (fun _ z => by omega) (fun a b ha hb _ => by omega) (fun q hq => hrV q (fun z => hq ⟨z.1, Or.inr z.2⟩)) (fun i z => by omega) (fun _ _ _ _ _ => rfl) (fun u d2 π2 hu hA hR => by
        have hR : lUp (lUp (kR (x f)) (40 + wl (x f).2.1) (some (d :: π))) 300 (some (d :: π)) u = some (d2 :: π2) := hR
        rw [lUp_ne (by omega), lUp_ne (by omega)] at hR
        refine Or.inl ⟨?_, hR, fun ⟨_, z, _⟩ => by omega⟩
        rcases hA with ⟨q1, q2⟩ | ⟨q1, _⟩
        · have q2 : u < 40 ∧ AB D k u := q2
          exact Or.inl ⟨q1, by rw [a5]; exact ⟨q1, hal u q2.2 q1⟩⟩
        · omega) (fun a _ => ⟨rfl, rfl, rfl⟩) (fun a z => z.elim) (fun a => by
        rw [hL40.1]
        show 0 + cnN a fl + ind t9 a = 0 + cnN a fl + ind t9 a
        rfl) (fun q => ⟨Nat.zero_le _, rfl⟩) (fun _ _ => rfl)
    refine finG5 (X := ((x f).1, (Q, (D.I k).n1 * 12 + gg, 0) :: (x f).2.1, 0, lUp (lUp (kR (x f)) (40 + wl (x f).2.1) (some (d :: π))) 300 (some (d :: π)), lUp (lUp (kH (x f)) (40 + wl (x f).2.1) (fun κ => κ = lm v ρ (if Q = 5 then 1 else 0) ∨ (isRf (D.E.vt v) ∧ HKm R S0 i D k v κ))) 300 (fun κ => κ = lm v ρ (if Q = 5 then 1 else 0) ∨ (isRf (D.E.vt v) ∧ HKm R S0 i D k v κ)), (fun u => u < 40 ∧ AB D k u), klo (x f), kAn (x f))) hL h1.1 hed ⟨_, _, _, _, _, fl, t9, hJ3, nv1, nv2, sm.fl hF⟩ rfl a1 rfl ?_ (by rw [hsj]; exact gtS.cn hsp) (fun r m z => ?_) (fun q' r' m' v' ρ' hq' z zm zv => ?_) (fun u hu q => ⟨hu, hFn.ab hed (by omega) q⟩) (fun u κ hu q z => ?_) (fun m κ hm => by rw [wj] at hm; omega) (fun κ r1 m q z => ?_) (fun u π hu4 _ q => ?_) Zi_s ?_ rfl (Zi_n (by decide))
    · rw [hsj]
      show wkS _ (trE (AL D j) (wl s) (Q, (D.I k).n1 * 12 + gg, 64 * cdP v ρ) :: trL (AL D j) s)
      rw [trE_56 hQ56]
      show wkS _ ((Q, (D.I k).n1 * 12 + gg, 64 * ((64 * cdP v ρ) % 64)) :: trL (AL D j) s)
      rw [show 64 * ((64 * cdP v ρ) % 64) = 0 by omega, a2]
      exact ⟨Or.inl rfl, trL_t hws9 (fun n hn => by rw [hws0] at hn; omega)⟩
    · rw [hsj] at z
      rcases List.mem_cons.mp z with z | z
      · have := (Prod.mk.inj z).1; omega
      · exact absurd rfl (hsp _ z).1
    · rw [hsj] at z
      rcases List.mem_cons.mp z with z | z
      · obtain ⟨_, z⟩ := Prod.mk.inj z
        obtain ⟨_, z⟩ := Prod.mk.inj z
        obtain ⟨y1, y2⟩ := cdP_inj (show cdP v ρ = cdP v' ρ' by omega)
        subst y1; subst y2
        rw [a1] at c9
        refine ⟨d, π, (show lUp (lUp (kR (x f)) (40 + wl (x f).2.1) (some (d :: π))) 300 (some (d :: π)) 300 = some (d :: π) from lUp_eq), ?_⟩
        rcases c9 with c9 | ⟨π0, ρ2, u1, u2, u3, u4, _⟩
        · exact Or.inl c9
        · refine Or.inr ⟨π0, ρ2, ?_, u2, u3, u4⟩
          show lUp (lUp (kR (x f)) (40 + wl (x f).2.1) (some (d :: π))) 300 (some (d :: π)) v = _
          rw [lUp_ne (by omega), lUp_ne (by omega)]; exact u1
      · exact (hq'.elim (hsp _ z).2.2.1 (hsp _ z).2.2.2.1).elim
    · have z : lUp (lUp (kH (x f)) (40 + wl (x f).2.1) (fun κ => κ = lm v ρ (if Q = 5 then 1 else 0) ∨ (isRf (D.E.vt v) ∧ HKm R S0 i D k v κ))) 300 (fun κ => κ = lm v ρ (if Q = 5 then 1 else 0) ∨ (isRf (D.E.vt v) ∧ HKm R S0 i D k v κ)) u κ := z
      rw [lUp_ne (by omega), lUp_ne (by omega), a4] at z
      rcases z with ⟨_, z⟩ | ⟨z, _⟩
      · exact hFn.hk hed (by omega) (hno u) z.1
      · omega
    · have z : lUp (lUp (kH (x f)) (40 + wl (x f).2.1) (fun κ => κ = lm v ρ (if Q = 5 then 1 else 0) ∨ (isRf (D.E.vt v) ∧ HKm R S0 i D k v κ))) 300 (fun κ => κ = lm v ρ (if Q = 5 then 1 else 0) ∨ (isRf (D.E.vt v) ∧ HKm R S0 i D k v κ)) 300 κ := z
      rw [lUp_eq] at z
      have hv4 := hi.2.1.1
      exact Or.inr ⟨rfl, v, Q, _, 0, ρ, s, hsj, hQ56, ⟨by decide, hv4⟩, z.imp id (fun ⟨y1, y2⟩ => ⟨y1, hFn.hk hed (by omega) (hno v) y2.1, fun y => by omega, fun _ y => by omega⟩)⟩
    · have q : klo (x f) u π := q
      rw [a6] at q
      exact hFn.lo hy hEy hed hu4 q (fun c _ _ => (kdM_k hk (by decide)).nk)
    · rw [wj]
      rw [hws0] at h73
      exact (Zi_n (by decide)).trans h73
end PS94
