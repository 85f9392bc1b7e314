section PS100
variable {R : yR} {K : Ky} {S0 Sl S S1 S2 S3 : Sg} {D : fD} {i k j f nw n v T : Nat} {vt : Nat → Nat → Nat} {tb : Nat → lTb} {x : Nat → kFm} {bs : Nat → Nat} {g : Nat → Int32} {X : kFm}
theorem hl9 {l : List Nat} (key : ∀ q : Nat, cnN q l ≤ 1 ∧ (q ∈ l → q < 4000)) : l.length ≤ 4000 := by
  rw [← cnN_len (l := l) (m := 4000) (fun a ha => (key a).2 ha)]
  have := psN_le (w := fun a => cnN a l) (w2 := fun _ => 1) (n := 4000) (fun a _ => (key a).1)
  rw [psN_c9] at this
  omega
/-- ASSIGN -/
theorem s_14 (hL : LFS R S0 g) (hx : LX S0 Sl) (hE : hFE R S0 D) (h : RQ R S0 vt tb i D k f x bs Sl k S) (hQ : D.Pe < 24000) (hk : (D.I k).kd = 14) : Rt (f_step R.K S) (fun S2 _ => RTt R S0 vt tb i D k f x bs Sl S S2) := by
  have hy := nYk_of hL
  refine stp_14 h hQ hk (fun S1 h1 e70 e3 er el => ?_)
  have hp := h1.pt.1
  unfold tPt at hp
  rw [hk] at hp
  obtain ⟨hac, hln, v, ρ, T, r, hi, hs, hwr, hcs, _, _, hw⟩ := hp
  have k24 : (D.I k).kd ≠ 24 := by rw [hk]; decide
  have hed : edg D k (k + 1) := h1.e1 (kd_s hk (by decide))
  have hFn := h1.1.1
  have hgt := h1.1.2.2.2.1
  rw [hs] at hgt
  have hrn := hgt.tl
  have hT0 := hi.2.2.2.2.2.1
  have hv4 := hi.2.1.1
  have hvr := hi.2.2.1
  have wst : wl (D.st k) = 1 := by rw [hs, wl_n eT_nm, hwr]
  have hb := h1.sb
  have h73 := h1.2.2.2.1.2.1
  rw [wst] at h73 hb
  have hX1 := h1.2.2.1
  have e := hX1.1
  have h76 := h1.2.2.2.1.2.2
  have hf6 := h1.2.2.2.2.1
  have hws := h1.2.2.2.2.2.2.2.1
  have hst := h1.st.2
  obtain ⟨w, xt, r1, r2, hrx, exT⟩ := h1.ft hL hx hE hQ hi.1 hT0 k24
  obtain ⟨w', va, sa, ta, F, G, mu, p1, p2, p3, p4, p5, p6⟩ := h1.pw hL hx hE hi.1 k24
  obtain rfl : w' = w := by
    rw [rQ_n (show k < rlen 38 from h1.k24 hQ) (by decide), e.2.2.2.1, p1] at r1
    exact Option.some.inj (Option.some.inj r1)
  have he0 : ¬ isRf T → eT T = (0, T, 0) := fun hT => by
    rcases hrx.nm hL.1 with ⟨_, _, _, z9⟩ | ⟨_, _, _, _, z9, _⟩
    · rw [exT] at z9
      unfold eT at z9 ⊢
      by_cases c : 10000 ≤ T
      · rw [if_pos c] at z9
        by_cases c2 : T % 2 = 0
        · rw [if_pos c2] at z9; cases z9
        · rw [if_neg c2] at z9; cases z9
      · rw [if_neg c]
    · rw [exT] at z9; exact absurd z9 hT
  obtain ⟨rt, V, C, L, H, fl, t9, ⟨hJ, hN, hC, hF⟩, _⟩ := h1.2.2.2.2.2.2.1
  obtain ⟨a1, a2, a3, a4, a5, a6⟩ := h1.2.2.2.2.2.1
  have hvt : vt (x f).1 = D.E.vt := by rw [a1]; exact h1.2.2.2.2.2.2.2.2.1
  obtain ⟨d, π, X, ⟨d1, d4, dS⟩, qwd, prd, hgw, ⟨hva, hW⟩, hJ2, ⟨X1, X2, X3, X4⟩, x5, x6, x7, href⟩ := RQ.as hL h1 hk hac hi hs hwr (fun z => h1.r0 hL hx hE hi.1 k24 z) he0 hcs hed hJ hN
  obtain ⟨⟨⟨kk, zz1⟩, zz2, _⟩, q2, q3⟩ := hN.hd hy (d := d) d1 d4 dS
  obtain ⟨k0, c0, l0, g0, rest, hr, b1, b2, b3, b4, b5, b6, b7⟩ := zz1.fo hy zz2 qwd prd
  have hnlt : hdN c0 < 430000 := b3.lt q3
  have d60 : d.1 < 60 := by omega
  have d300 : d.2 < 300 := by omega
  have ne40 : ((f, 40) : Nat × Nat) ≠ d := fun z => by rw [← z] at d4; exact absurd d4 (by show ¬ (40 < 40); omega)
  have hvS : (8, v, 0) ∈ (x f).2.1 := by rw [a2]; exact trL_8.mpr (by rw [hs]; exact List.mem_cons_of_mem _ hvr)
  -- nodes stand apart
  have hd0 : ∀ a : Nat, (a ∈ c0 ∨ a ∈ l0) → (a ∉ fl ∧ 1 ≤ a ∧ a ≤ t9) ∧ cnN a c0 + cnN a l0 = 1 ∧ a ∉ L (f, 40) := fun a ha => by
    have h1' : 1 ≤ cnN a c0 + cnN a l0 := by
      rcases ha with z | z
      · have := cnN_mem.mp z; omega
      · have := cnN_mem.mp z; omega
    have hpa := b4 a
    have hm : a ∈ C d ∨ a ∈ L d := by
      by_cases z : a ∈ C d
      · exact Or.inl z
      · have := cnN_z z
        exact Or.inr (cnN_mem.mpr (by omega))
    obtain ⟨o1, o2, o3, o4, o5⟩ := hC.one d60 d300 hm
    exact ⟨⟨o1, o2, o3⟩, by omega, fun z => ne40 (o5 (f, 40) hf6 (show 40 < 300 by omega) (Or.inr z))⟩
  have h40 : ∀ a ∈ L (f, 40), a ∉ fl ∧ a ≤ t9 ∧ cnN a (L (f, 40)) ≤ 1 := fun a ha => by
    obtain ⟨o1, o2, o3, o4, o5⟩ := hC.one (r := (f, 40)) hf6 (show 40 < 300 by omega) (Or.inr ha)
    exact ⟨o1, o3, by omega⟩
  have hg9 : g0.length ≤ 4000 := hl9 (fun q => by
    have z1 := b5 q
    have z2 : cnN q (H d) ≤ sm2 (fun r => cnN q (H r)) := sm2_i1 (G := fun r => cnN q (H r)) d60 d300
    obtain ⟨z3, z4⟩ := hC.2 q
    exact ⟨by omega, fun z => (z4 (by have := cnN_mem.mp z; omega)).1⟩)
  have hcnt := b1.cnt hy
  have hsz := hy.1 T
  have hlen := b1.len hy
  have hcv : cvN c0 l0 fl t9 := hC.cv (r := d) d60 d300 hF.2.2.2.1 (fun a => by have := b4 a; omega)
  -- the program
  refine Rt.bn (Q := fun S2 _ => RTt R S0 vt tb i D k f x bs Sl S S2) ?_ (fun S2 _ q => by unfold f_step_590; exact Rt.rt q)
  unfold f_runAssign
  obtain ⟨r3, r4⟩ := r2 S1 e
  refine Rt.bd r1 (Rt.bd r3 (Rt.be r4 ?_))
  refine Rt.bn (pop_ (p := bs f) h73 (by omega)) (fun S3 xv ⟨u1, u2, u3, u4, u5⟩ => ?_)
  rw [u2]
  have n3 : nMS S3 = nMS S1 := u3.sam.1
  have e3' := (u3.rx hX1).1
  refine Rt.bd (v := nI ρ.length) (oI_mk (by rw [e3'.1]; exact p2.1) (by rw [e3'.2.1]; exact p2.2.1) rfl) ?_
  have hw74 : Zr S3 74 (40 * f + v) = nI (hdN (C (f, v))) := by
    rw [u3.2.2.2.2.2.2.1]
    exact ((hN.hd hy (d := (f, v)) (Nat.le_refl f) hv4 hvS).1).2.2
  have hfd : f_find R.K S3 (some w') (nI ρ.length) = some (S3, nI (hdN c0)) := fnd_ hL hx e3' p2 p3 p4 ((u3.2.2.2.2.2.2.2 76 (by decide)).trans h76) hf6 hv4 (Nat.le_refl _) hw74 ((hN.hd hy (d := (f, v)) (Nat.le_refl f) hv4 hvS).2.2) (by
    rw [List.take_length, n3, p5]
    exact hgw _ b3)
  refine Rt.be hfd ?_
  refine Rt.bn (doP_ (T := T) (k := k0) (V := qS (V d) π) (c := c0) (l := l0) (h := g0) (fl := fl) (t := t9) hL hx (by rw [n3]; exact b1) hrx exT e3' (u3.wq hX1.2.1) (u3.sam.fl hF) ((u3.rx hX1).2.2.2.2) (by
    have : Zr S3 63 = Zr S1 63 := by rw [u3.2.2.2.2.2.2.1]
    rw [this]; exact b2) hcv (by omega)) (fun S4 _ q4 => Rt.bn q4 (fun S5 _ ⟨fl3, v1, v2, v3, v4, v5, v6, v7⟩ => ?_))
  have go5 : GO (fun a => a ∈ c0 ∨ a ∈ l0) (fun q => q ∈ g0) (fun _ => False) S1 S5 := u3.go.tr v1.go
  have e5 := e.tr go5.1
  have hva5 : vaR (yT R S0) (szN R S0) (nMS S5) T (V (f, 40)) (Zl S1 72 (bs f)) (L (f, 40)) (H (f, 40)) := hva.st (go5.ag (fun a ha z => (hd0 a z).2.2 ha))
  have r63 : Zr S3 63 = Zr S1 63 := by rw [u3.2.2.2.2.2.2.1]
  have h63 : ∀ a ∈ c0, Zr S5 63 a = Zr S1 63 a := fun a ha => by rw [(v5 a ha).2, r63]
  refine Rt.bn (asp9_ (T := T) (W := V (f, 40)) (l := L (f, 40)) (h := H (f, 40)) (fl := fl3) (t := t9) (c0 := c0) hL hx e5 hrx exT hva5 hW v3 hlen (b2.cg h63) (cnN_nd.mpr (fun a => ?_)) (fun a ha => ⟨fun z => ?_, (h40 a ha).2.1, fun z => (hd0 a (Or.inl z)).2.2 ha⟩) (fun a ha => ⟨fun z => ?_, by have := (hd0 a (Or.inl ha)).1.2.2; have := hF.2.1; omega⟩) (fun a => ?_)) (fun S6 _ ⟨k1, l1, fl4, w1, w2, w3, w4, w5, w6⟩ => ?_)
  · by_cases c : a ∈ c0
    · have := (hd0 a (Or.inl c)).2.1; omega
    · rw [cnN_z c]; omega
  · have z1 := cnN_mem.mp z
    rw [v4 a, cnN_z (h40 a ha).1] at z1
    exact (hd0 a (Or.inr (cnN_mem.mpr (by omega)))).2.2 ha
  · have z1 := cnN_mem.mp z
    obtain ⟨⟨o1, _⟩, o2, _⟩ := hd0 a (Or.inl ha)
    have o3 := cnN_mem.mp ha
    rw [v4 a, cnN_z o1] at z1
    omega
  · by_cases c : a ∈ L (f, 40)
    · exact (h40 a c).2.2
    · rw [cnN_z c]; omega
  have go : GO (fun a => (a ∈ c0 ∨ a ∈ l0) ∨ a ∈ L (f, 40)) (fun q => q ∈ g0) (fun _ => False) S1 S6 := (go5.mo (fun a z => Or.inl z) (fun _ z => z) (fun _ z => z)).tr (w3.go.mo (fun a z => z.elim (fun y => Or.inl (Or.inl y)) Or.inr) (fun _ z => z) (fun _ z => z))
  have h81 : Zi S6 81 = nI 0 := by rw [w3.2.2.2.2.2.2.2.1 81 (by decide) (by decide)]; exact v2
  have h736 : Zi S6 73 = nI (bs f) := by rw [w3.2.2.2.2.2.2.2.1 73 (by decide) (by decide), v1.2.2.2.2.2.2.2.1 73 (by decide) (by decide) (by decide) (by decide)]; exact u4
  have h72 : ∀ q : Nat, Zl S6 72 q = Zl S1 72 q := fun q => by rw [w3.2.2.2.2.2.1 72 (by decide), v1.2.2.2.2.2.1 72 (by decide), u5]
  have h74 : Zr S6 74 = Zr S1 74 := by rw [w3.2.2.2.2.2.2.1 74 (by decide) (by decide), v1.2.2.2.2.2.2.1 74 (by decide) (by decide) (by decide) (by decide), u3.2.2.2.2.2.2.1]
  have wl0 : wl (trL (AL D k) r) = 0 := by rw [trL_wl]; exact hwr
  obtain ⟨l2, h2, nv1, nv2⟩ := hN.as (X := X) (d := d) (π := π) (W := V (f, 40)) (T := T) (c0 := c0) (l0 := l0) (g0 := g0) (rest := rest) (hr := hr) (l1 := l1) (h1 := H (f, 40)) (k1 := k1) (fl2 := fl4) (M2 := nMS S6) (sk2 := Zl S6 72) (tk2 := Zr S6 67) (A := fun a => (a ∈ c0 ∨ a ∈ l0) ∨ a ∈ L (f, 40)) (rt2 := rt) (V2 := qUp (kCl V f 0) d (qG (V d) π (V (f, 40)))) hy hJ hC hf6 hws d1 d4 dS (by rw [hst, wst]) (by rw [X2]; exact wl0) (fun u => by
    rw [X2, a2, trL_8, trL_8, hs, List.mem_cons]
    exact ⟨Or.inr, fun z => z.resolve_left (fun y => by
      have := eT_nm (t := T)
      rw [← y] at this
      exact this (Or.inl rfl))⟩) (fun q n1 n2 => ⟨rfl, (qUp_ne n1).trans (kCl_ge (fun z => n2 ⟨z.1, by have := z.2.1; omega⟩))⟩) rfl qUp_eq b4 b5 b6 b7 (fun a z => go.2.2.2.1 a z) (fun a z => z) (fun a ha => by
    show Zr S6 63 a = Zr S1 63 a
    rw [w4 a ha, h63 a ha]) w1 (fun a => by
    have z1 := w5 a
    have z2 := v4 a
    omega) (fun q => Nat.le_refl _) (fun q => by
    by_cases c : q ∈ g0
    · exact Or.inr (cnN_mem.mp c)
    · exact Or.inl (go.2.2.2.2.1 q c)) (fun j u e9 π9 hj hA hsc hR => by
    rcases href j u e9 π9 hj hA hR with z | ⟨z1, z2, z3, z4, z5, n2, z6, z7, z8, z9⟩
    · exact Or.inl z
    · refine Or.inr ⟨z1, z2, z3, hdN (C d), n2, ?_, ?_, z7, z8, z9⟩
      · have hl1 : (C d).length = 1 := by
          have t1 := zz1.len hy
          have t2 : (yT R S0).1 (rt d) ≠ 2 := by
            rw [z4] at qwd
            have qwd : T = rt d := qwd
            rw [← qwd]; exact z5
          exact t1.trans (hy.2.1 _ t2)
        match hCd : C d, hl1 with
        | [a], _ => rfl
      · obtain ⟨m, m1, m2⟩ := w6 z5
        have hm : m = hdN (C d) := by
          rw [z4] at b3
          have b3 : hdN c0 = hdN (C d) := b3
          rw [← b3, m1]; rfl
        rw [← hm]
        show Zl S6 61 m = nL n2
        rw [m2]; exact z6) (fun q _ => h72 q)
  refine Rt.rt ⟨hX1.go go (w3.wq v7) h81, Or.inr ⟨(go.2.1 3 (by decide)).trans e3, (go.2.1 70 (by decide)).trans e70, NXt.fr ?_ er ?_⟩⟩
  · have hjn := wkS_pn hw hrn
    have wj : wl (D.st (k + 1)) = 0 := (wkS_wl hw).trans hwr
    refine finG (X := X) hL h1.1 hed ⟨_, _, _, _, _, fl4, t9, hJ2, by rw [h74]; exact nv1, nv2, w2⟩ X3 X1 X4 (by rw [X2]; exact trL_t hw (fun n hn => by rw [hwr] at hn; omega)) (gtS.of hjn) hjn x5 x6 (fun m κ hm => by rw [wj] at hm; omega) (fun κ r1 m q => ?_) (fun u π hu4 _ q => x7 u π hu4 q) ((go.2.1 77 (by decide)).trans h1.2.2.2.1.1) (by rw [wj]; exact h736) go.2.2.1 (go.2.1 76 (by decide))
    rcases q with q | q
    · exact absurd (Or.inr (Or.inl rfl)) (trL_4 (pn_4 hjn) _ q)
    · exact absurd (Or.inr (Or.inr rfl)) (trL_4 (pn_4 hjn) _ q)
  · rw [h1.2.2.2.1.2.2, h.2.2.2.1.2.2]
end PS100
