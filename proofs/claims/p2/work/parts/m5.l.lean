section PS89
variable {R : yR} {K : Ky} {S0 Sl S S1 S2 S3 : Sg} {D : fD} {i k j f nw n v : Nat} {vt : Nat → Nat → Nat} {tb : Nat → lTb} {x : Nat → kFm} {bs : Nat → Nat} {g : Nat → Int32} {X : kFm} {y : qY} {zn sz rk : Nat → Nat} {M : nM}
/-- a new place, nothing lies there -/
theorem pL.new (hy : nYk y zn sz rk) : ∀ (m T : Nat) (c : List Nat), rk T < m → c.length = zn T → (∀ a ∈ c, M.h a = 0) → pL y sz M m T (fun _ => Option.none) c [] []
  | 0, _, _, h, _, _ => by omega
  | m + 1, T, c, h, hl, hz => by
    by_cases h2 : y.1 T = 2
    · obtain ⟨e1, _, _, _, e5⟩ := hy.2.2.1 T h2
      obtain ⟨cs, q1, q2⟩ := ftN_spl (cs := fun j => List.replicate (zn (y.2.2.2.2 T 0 j)) 0) (n := y.2.2.2.1 T 0) (c2 := c) (by
        rw [hl, e1, ftN_len]
        exact psN_cg (fun j _ => (List.length_replicate ..).symm))
      refine Or.inl ⟨h2, cs, fun _ => [], fun _ => [], q1, ftN_nil.symm, ftN_nil.symm, fun j hj => ?_⟩
      exact pL.new hy m _ (cs j) (by have := e5 j hj; omega) (by rw [q2 j hj, List.length_replicate]) (fun a ha => hz a (by rw [q1]; exact ftN_mem.mpr ⟨j, hj, ha⟩))
    · have h1 := hy.2.1 T h2
      rw [h1] at hl
      obtain ⟨n, rfl⟩ : ∃ n : Nat, c = [n] := by
        match c, hl with
        | [n], _ => exact ⟨n, rfl⟩
      exact Or.inr ⟨h2, n, rfl, Or.inl ⟨rfl, hz n (List.mem_singleton_self n), rfl, rfl⟩⟩
theorem pL.new2 (hy : nYk y zn sz rk) {T : Nat} {c : List Nat} (hl : c.length = zn T) (hz : ∀ a ∈ c, M.h a = 0) : ∃ k : Nat, pL y sz M k T (fun _ => Option.none) c [] [] := ⟨_, pL.new hy (rk T + 1) T c (Nat.lt_succ_self _) hl hz⟩
theorem nd_ct {L l2 fl : List Nat} {t t2 : Nat} (h : Frs fl t L l2 t2) (hF : FLs S fl t) (h1 : ∀ n ∈ fl, 1 ≤ n) (hd : L.Nodup) (h2 : l2.Nodup) (hL : ∀ n ∈ L, 1 ≤ n) (a : Nat) : cnN a L + cnN a l2 + ind t a = cnN a fl + ind t2 a := h.eq hd hF.2.2.2.1 h2 (fun m hm => ⟨h1 m hm, hF.2.2.2.2 m hm⟩) hL a
/-- EMPTY -/
theorem s_13 (hL : LFS R S0 g) (hx : LX S0 Sl) (h : RQ R S0 vt tb i D k f x bs Sl k S) (hQ : D.Pe < 24000) (hk : (D.I k).kd = 13) : Rt (f_step R.K S) (fun S2 _ => RTt R S0 vt tb i D k f x bs Sl S S2) := by
  have h24 := h.k24 hQ
  have hy := nYk_of hL
  have hB := yB_yT (R := R) (S0 := S0)
  refine stp_13 h hQ hk (fun S1 h1 e70 e3 er el => ?_)
  have hp := h1.pt.1
  unfold tPt at hp
  rw [hk] at hp
  obtain ⟨_, _, ⟨_, hnt⟩, _, _, v, hvs, hv4, ho, hvr, hwr, hn1, _, _, hw⟩ := hp
  have hrn := h1.1.2.2.2.1.all hnt
  have hb := h1.sb
  have hed : edg D k (k + 1) := h1.e1 (kd_s hk (by decide))
  have hEy := h1.1.2.2.2.2
  have hFn := h1.1.1
  have h73 := h1.2.2.2.1.2.1
  rw [hwr] at h73 hb
  obtain ⟨va, v9, ty, mu, z1, z2, z3, z4, z5⟩ := h1.2.1.2.2.2.2.2.2.2.2.2.2.1 (Or.inr (Or.inl hk))
  obtain rfl : v9 = v := by rw [hvs] at z2; exact (List.cons.inj z2).1.symm
  rw [hn1] at z4
  have hX1 := h1.2.2.1
  have e := hX1.1
  obtain ⟨rt, V, C, L, H, fl, t9, ⟨hJ, hN, hC, hF⟩, _⟩ := h1.2.2.2.2.2.2.1
  obtain ⟨a1, a2, a3, a4, a5, a6⟩ := h1.2.2.2.2.2.1
  have hvt : vt (x f).1 = D.E.vt := by rw [a1]; exact h1.2.2.2.2.2.2.2.2.1
  have hf6 := h1.2.2.2.2.1
  have hws := h1.2.2.2.2.2.2.2.1
  have hro := hN.room hy hC hf6 hws hF.2.2.2.2
  have wx : wl (x f).2.1 = 0 := by rw [h1.st.2]; exact hwr
  have h76 := h1.2.2.2.1.2.2
  have hvold : (8, v9, 0) ∉ (x f).2.1 := fun w => hvr (trL_8.mp (by rw [a2] at w; exact w))
  have hal : ∀ u : Nat, u ≠ v9 → (u < 40 ∧ AL D (k + 1) u) → kal (x f) u := fun u hu q => by
    rw [a5]
    exact ⟨q.1, hFn.al hed (by omega) (fun w => by rw [ho] at w; exact hu (Option.some.inj w).symm) q.2⟩
  have hlo : ∀ (w : Nat) (π : lLc), w ≠ v9 → ¬ (LO R S0 D (k + 1) w π ∨ 40 ≤ w) → ¬ klo (x f) w π := fun w π hw hn q => by
    rw [a6] at q
    by_cases c : w < 40
    · exact hn (Or.inl (hFn.lv9 hL hEy hed c q (Or.inr (Or.inl hk)) (by rw [hvs]; exact fun z => hw (List.mem_singleton.mp z)) (by rw [hk]; decide)))
    · exact hn (Or.inr (by omega))
  have hlv : ∀ (π : lLc) (t : Nat), qM π → qW (yT R S0) (vt (x f).1 v9) π t → (LO R S0 D (k + 1) v9 π ∨ 40 ≤ v9) := fun π T q1 q2 => Or.inl (fun q3 _ => by
    rw [hvt] at q2
    have hc := inR_ex hy (ρ := π) (T0 := D.E.vt v9) (v := v9)
    have c16 := inR_16 hy q1 q2 hc
    exact ⟨_, hc, hFn.2.2.1.2.1 k hed.1 hed.2.1 hed.2.2.1 (k + 1) hed.2.2.2 _ (by omega) (Or.inr (Or.inl ⟨hk, by rw [hvs, show (16 * v9 + (pfO R S0 (D.E.vt v9) π).1) / 16 = v9 by omega]; exact List.mem_singleton_self _⟩))⟩)
  have hno : ∀ r1 m2 : Nat, (5, r1, m2) ∉ (x f).2.1 ∧ (6, r1, m2) ∉ (x f).2.1 := fun r1 m2 => by
    rw [a2]
    exact ⟨fun z => absurd (Or.inr (Or.inl rfl)) (trL_4 (pn_4 hrn) _ z), fun z => absurd (Or.inr (Or.inr rfl)) (trL_4 (pn_4 hrn) _ z)⟩
  have hJ2 := kJ_let0 (hd := fun κ => HK D (k + 1) v9 κ) (al2 := fun u => u < 40 ∧ AL D (k + 1) u) (lo2 := fun w π => LO R S0 D (k + 1) w π ∨ 40 ≤ w) hB.2.2.2 hJ a3 hno hv4 hvold hal hlo hlv
  obtain ⟨sl1, sl2⟩ := slo_ (R := R) (S := S1) e z3 h76
  have q40 : rQ S1 40 (nI k) = some (some va) := by rw [rQ_n (show k < rlen 40 from h24) (by decide), e.2.2.2.1, z1]
  refine Rt.bd q40 (Rt.be sl1 (Rt.bd q40 (Rt.bd sl2 ?_)))
  have hzT := hy.1 (abU S0 ty)
  refine Rt.bn (npl_ hL hx e z5 hzT.1 hzT.2.1 hF (by have := hzT.2.1; omega)) (fun S5 r5 ⟨c, fl3, t3, hc0, b1, b2, b3, b4, b5, b6, b7, b8, b9⟩ => ?_)
  have ec : r5 = nI (hdN c) := by
    rw [b3]
    have := hdN_0 (c := c) (by rw [b1]; exact hzT.1)
    rw [b2] at this
    rw [Option.some.inj this]
  rw [ec]
  refine Rt.bd (wRI_n (show 40 * f + v9 < rlen 74 from by show _ < 2440; omega) (by decide)) ?_
  unfold f_step_590
  have go6 : GO (fun _ => False) (fun _ => False) (fun p => p = 40 * f + v9) S5 (Ur S5 74 (upd (Zr S5 74) (40 * f + v9) (nI (hdN c)))) := Ur.go rfl
  have y6 : Zr (Ur S5 74 (upd (Zr S5 74) (40 * f + v9) (nI (hdN c)))) 74 = upd (Zr S5 74) (40 * f + v9) (nI (hdN c)) := Zr_us
  have i6 : Zi (Ur S5 74 (upd (Zr S5 74) (40 * f + v9) (nI (hdN c)))) = Zi S5 := rfl
  have l6 : Zl (Ur S5 74 (upd (Zr S5 74) (40 * f + v9) (nI (hdN c)))) = Zl S5 := rfl
  have r6 : ∀ q : Nat, q ≠ 74 → Zr (Ur S5 74 (upd (Zr S5 74) (40 * f + v9) (nI (hdN c)))) q = Zr S5 q := fun q hq => Zr_u9 hq
  have f6 : FLs (Ur S5 74 (upd (Zr S5 74) (40 * f + v9) (nI (hdN c)))) fl3 t3 := b6.eq rfl rfl (r6 63 (by decide))
  generalize Ur S5 74 (upd (Zr S5 74) (40 * f + v9) (nI (hdN c))) = S6 at go6 y6 i6 l6 r6 f6
  have n6 : nMS S6 = nMS S5 := by
    show (Zl S6 61, Zr S6 62, Zr S6 63) = (Zl S5 61, Zr S5 62, Zr S5 63)
    rw [l6, r6 62 (by decide), r6 63 (by decide)]
  have go : GO (fun a => a ∈ fl ∨ t9 < a) (fun _ => False) (fun p => p = 40 * f + v9) S1 S6 := (b7.go.mo (fun a w => (b8.1 a w).2.2) (fun _ w => w) (fun _ w => w)).tr (go6.mo (fun _ w => w.elim) (fun _ w => w) (fun _ w => w))
  have hL40 : L (f, 40) = [] ∧ H (f, 40) = [] := ((hN.1 f 40 (Nat.le_refl f)).2.2 (fun z => by rcases z with z | z <;> omega)).2
  obtain ⟨nv1, nv2⟩ := hN.nv (X := ((x f).1, (8, v9, 0) :: (x f).2.1, 0, lUp (kR (x f)) v9 none, lUp (kH (x f)) v9 (fun κ => HK D (k + 1) v9 κ), (fun u => u < 40 ∧ AL D (k + 1) u), (fun w π => LO R S0 D (k + 1) w π ∨ 40 ≤ w), kAn (x f))) (n := 1) (w := fun _ => v9) (c := fun _ => c) (l := fun _ => []) (h := fun _ => []) (M2 := nMS S6) (sk2 := Zl S6 72) (pl2 := Zr S6 74) (tk2 := Zr S6 67) (fl2 := fl3) (t2 := t3) (A := fun a => a ∈ fl ∨ t9 < a) (rt2 := qRt rt (f, v9) (vt (x f).1 v9)) (V2 := qUp V (f, v9) (fun _ => none)) hy hJ hC hf6 hws (by rw [wx]; decide) (by show wl ((8, v9, 0) :: (x f).2.1) = 0; rw [wl_0 (Or.inl rfl)]; exact wx) (fun u => by
      show (8, u, 0) ∈ (8, v9, 0) :: (x f).2.1 ↔ (∃ i : Nat, i < 1 ∧ u = v9) ∨ (8, u, 0) ∈ (x f).2.1
      rw [List.mem_cons]
      constructor
      · rintro (q | q)
        · have := (Prod.mk.inj q).2
          exact Or.inl ⟨0, by decide, (Prod.mk.inj this).1⟩
        · exact Or.inr q
      · rintro (⟨_, _, q⟩ | q)
        · rw [q]; exact Or.inl rfl
        · exact Or.inr q) rfl (fun _ _ => ⟨hv4, hvold⟩) (fun a b ha hb _ => by omega) (fun q hq => by
      have n1 : q ≠ (f, v9) := fun w => hq (by rw [w]; exact ⟨rfl, Or.inl ⟨0, by decide, rfl⟩⟩)
      exact ⟨qRt_ne n1, qUp_ne n1⟩) (fun i _ => by
      rw [qRt_eq, qUp_eq, hvt, y6, n6]
      exact ⟨pL.new2 hy (by rw [b1, z4]) (fun a ha => b9 a ha), b4, upd_s⟩) (fun j u hj hu h8 => by
      rw [y6, upd_n (fun w => ?_), b7.2.2.2.2.2.2.1 74 (by decide) (by decide)]
      obtain rfl : j = f := by omega
      obtain rfl : u = v9 := by omega
      exact hvold h8) (fun u d π hu hA hR => by
      have hR : lUp (kR (x f)) v9 none u = some (d :: π) := hR
      by_cases c0 : u = v9
      · subst c0
        rw [lUp_eq] at hR; cases hR
      · rw [lUp_ne c0] at hR
        refine Or.inl ⟨?_, hR, fun ⟨_, _, w⟩ => c0 w⟩
        rcases hA with ⟨q1, q2⟩ | ⟨q1, _⟩
        · exact Or.inl ⟨q1, hal u c0 q2⟩
        · omega) (fun a w => go.2.2.2.1 a w) (fun a w => w.imp id (fun z => Or.inl z)) (fun a => by
      rw [psN_1u, hL40.1]
      have := nd_ct b8 hF hC.f1 b5 b6.2.2.2.1 (fun n hn => (b4.1 n hn).1) a
      show cnN a c + 0 + cnN a fl3 + ind t9 a = 0 + cnN a fl + ind t3 a
      omega) (fun q => by rw [psN_1u]; exact ⟨Nat.zero_le _, go.2.2.2.2.1 q (fun w => w)⟩) (fun q hq => by rw [l6, b7.2.2.2.2.2.1 72 (by decide)])
  refine Rt.rt ⟨hX1.go go ((b7.wq hX1.2.1).eq (by rw [i6]) (by rw [i6])) ?_, Or.inr ⟨(go.2.1 3 (by decide)).trans e3, (go.2.1 70 (by decide)).trans e70, NXt.fr ?_ er ?_⟩⟩
  · rw [i6, b7.2.2.2.2.2.2.2.1 81 (by decide) (by decide)]; exact hX1.2.2.2.2
  · have hjn : ∀ a ∈ D.st (k + 1), pnE a := wkS_pn hw (fun a ha => by
      rcases List.mem_cons.mp ha with q | q
      · rw [q]; exact pnE_k (Or.inr (Or.inr (Or.inr rfl)))
      · exact hrn a q)
    have wj : wl (D.st (k + 1)) = 0 := by rw [wkS_wl hw, wl_0 (Or.inl rfl)]; exact hwr
    refine finG (X := ((x f).1, (8, v9, 0) :: (x f).2.1, 0, lUp (kR (x f)) v9 none, lUp (kH (x f)) v9 (fun κ => HK D (k + 1) v9 κ), (fun u => u < 40 ∧ AL D (k + 1) u), (fun w π => LO R S0 D (k + 1) w π ∨ 40 ≤ w), kAn (x f))) hL h1.1 hed ⟨_, _, _, _, _, fl3, t3, hJ2, nv1, nv2, f6⟩ rfl a1 rfl (by
      show wkS ((8, v9, 0) :: (x f).2.1) _
      rw [a2]
      exact trL_c hw (show (8 : Nat) ≠ 3 by decide) (show (8 : Nat) ≠ 5 by decide) (show (8 : Nat) ≠ 6 by decide) (fun n hn => by rw [hwr] at hn; omega)) (gtS.of hjn) hjn (fun u hu q => ⟨hu, q⟩) (fun u κ hu q w => ?_) (fun m κ hm => by rw [wj] at hm; omega) (fun κ r1 m q => ?_) (fun w π hw4 _ q => ?_) ((go.2.1 77 (by decide)).trans h1.2.2.2.1.1) ?_ go.2.2.1 (go.2.1 76 (by decide))
    · have w : lUp (kH (x f)) v9 (fun κ => HK D (k + 1) v9 κ) u κ := w
      by_cases c0 : u = v9
      · subst c0; rw [lUp_eq] at w; exact w
      · rw [lUp_ne c0, a4] at w
        rcases w with ⟨_, w⟩ | ⟨w, _⟩
        · exact hFn.hk hed (by omega) (fun z => by rw [ho] at z; exact c0 (Option.some.inj z).symm) w.1
        · omega
    · rcases q with q | q
      · exact absurd (Or.inr (Or.inl rfl)) (trL_4 (pn_4 hjn) _ q)
      · exact absurd (Or.inr (Or.inr rfl)) (trL_4 (pn_4 hjn) _ q)
    · rcases q with q | q
      · exact q
      · omega
    · rw [i6, b7.2.2.2.2.2.2.2.1 73 (by decide) (by decide), wj]; exact h73
  · rw [h1.2.2.2.1.2.2, h.2.2.2.1.2.2]
end PS89
