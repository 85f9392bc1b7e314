theorem lnCl_x {rl : Int32} {pl : Nat → Int32} {ft : Nat → Int64} : ∀ {n : Nat} {s t : Nat × Int64}, lnCl rl pl ft n s t → n ≤ s.1 → lS s.2 t.2 ∧ ∀ q : Nat, q < n → (rl < 0 ∨ pl q = rl) → lS (ft (s.1 - n + q)) t.2
  | 0, s, t, h, _ => by
    have h : t = s := h
    rw [h]
    exact ⟨lS_rf _, fun q hq => absurd hq (by omega)⟩
  | p + 1, s, t, h, hn => by
    obtain ⟨tn2, x, h1, h2⟩ := h
    obtain ⟨m, em⟩ : ∃ m : Nat, s.1 = m + 1 := ⟨s.1 - 1, by omega⟩
    rw [em] at h1
    have h1 : (tn2, x) = (m, 0 ||| ft m) := h1
    injection h1 with e1 e2
    subst e1; subst e2
    obtain ⟨g1, g2⟩ := lnCl_x h2 (by show p ≤ tn2; omega)
    have g1 : lS (if rl < 0 then s.2 ||| (0 ||| ft tn2) else if pl p = rl then s.2 ||| (0 ||| ft tn2) else s.2) t.2 := g1
    constructor
    · refine lS_tr ?_ g1
      by_cases c1 : rl < 0
      · rw [if_pos c1]; exact lS_orl _ _
      · rw [if_neg c1]
        by_cases c2 : pl p = rl
        · rw [if_pos c2]; exact lS_orl _ _
        · rw [if_neg c2]; exact lS_rf _
    · intro q hq hr
      by_cases e : q = p
      · subst e
        rw [show s.1 - (q + 1) + q = tn2 by omega]
        refine lS_tr ?_ g1
        have key : lS (ft tn2) (s.2 ||| (0 ||| ft tn2)) := fun l _ hb => by rw [lbit_or, lbit_or, hb, Bool.or_true, Bool.or_true]
        by_cases c1 : rl < 0
        · rw [if_pos c1]; exact key
        · rw [if_neg c1, if_pos (hr.resolve_left c1)]; exact key
      · have g3 := g2 q (by omega) hr
        have g3 : lS (ft (tn2 - p + q)) t.2 := g3
        rw [show s.1 - (p + 1) + q = tn2 - p + q by omega]
        exact g3
theorem pop1 {ft : Nat → Int64} {tn tn2 : Nat} {x : Int64} (h : (tn2, x) = popF ft 1 tn 0) (ht : 1 ≤ tn) {l : Nat} (hb : lbit (ft (tn - 1)) l = true) : lbit x l = true := by
  obtain ⟨m, rfl⟩ : ∃ m : Nat, tn = m + 1 := ⟨tn - 1, by omega⟩
  have h : (tn2, x) = (m, 0 ||| ft m) := h
  injection h with e1 e2
  rw [e2, lbit_or]
  rw [show m + 1 - 1 = m by omega] at hb
  rw [hb, Bool.or_true]
theorem psR_at {ft gt : Nat → Int64} {tn tn2 : Nat} {x : Int64} (h : psR ft tn x gt tn2) (ht : tn < 512) : gt tn = x := by
  rcases h with ⟨-, -, e⟩ | ⟨e, -⟩
  · rw [e, pk_uLs]
  · omega
section
variable {F X : tF} {G : Nat → Nat → Nat} {rs a b yp yt : Nat} {k : Nat → Option (List tE)} {C : lnC} {Q : lnQ} {h : Nat → lnT} {hU : Nat → fuT} {i o p : Nat} {s : List tE}
/-- jumps ahead -/
theorem ft_j (w : lnW F X G rs a b k C Q h) (ht : ∀ i : Nat, a ≤ i → i < b → fuR F i (hU (i + 1)) (hU i)) (h54 : C.2.2.2.2.1 ≤ 54) (hf : (h b).2.2.2.2.2.1 < 0) (hkb : k b = none) (hi : a ≤ i) (hb : i < b) (hc : crn F k h a p i) (hs : k i = some s) (ho : F 0 i = nI o) (h33 : o < 33) (hl : ¬ isL (F 0 i)) {j L m : Nat} {r : List tE} (hij : i < j) (hjb : j < b) (h13 : F 0 j = 13) (hjL : F 1 j = nI L) (hL : L < 1100) (htg : tgt F i L) (hr : k j = some r) (hcr : (wl r = 0 ∧ m = 0) ∨ (nu o ∧ po F G i o = 1 ∧ m = wl s - 1 ∧ wl r = wl s ∧ rgn F G k i j (wl r))) : lkp (lnkT F k a b C.2.2.2.2.2 h hU) i j m (fun _ => False) := by
  obtain ⟨n1, n2, n3, n4, n5, n6, n7, n8, n9, n10⟩ := ft_n w h54 hf hkb hi hb hc hs ho h33 hl
  obtain ⟨j1, j2⟩ := c_jump (le := lS) (h := fun j => lnp (h j)) lS_rf (fun x y z => lS_tr) (lnW_p w) hi hij hjb n9 hl hL htg (Or.inl h13) hjL
  have h40 := w.n40
  have hcj : (∃ p2 : Nat, crn F k h a p2 j) ∧ ∀ q : Nat, q < m → lnF (h j) q = lnF (h i) q := by
    rcases hcr with ⟨e1, e2⟩ | ⟨e1, e2, e3, e4, e5⟩
    · exact ⟨⟨j, by omega, Nat.le_refl _, j1, ⟨r, hr, e1⟩, fun m m1 m2 => absurd m1 (by omega)⟩, fun q hq => absurd hq (by omega)⟩
    · obtain ⟨m1, m2, m3⟩ := n10 e1
      obtain ⟨g1, g2⟩ := crn_J w m2 (j - (i + 1)) j (by omega) hjb e5
      refine ⟨⟨p, g1⟩, fun q hq => ?_⟩
      rw [g2 q (by omega), n7 q (by omega)]
  have hU1 := fu_jump w.ce ht hi hij hjb (Or.inl h13) hjL hL htg
  refine ⟨⟨by omega, hjb, hcj.1⟩, fun u l _ hw9 hH => ?_, fun u u4 _ hb9 => ⟨lS_b hU1 hb9.1, hb9.2⟩⟩
  obtain ⟨g1, g2⟩ := hH
  refine ⟨g1, ?_⟩
  rcases g2 with ⟨g2, g3⟩ | ⟨g2, g3, g4⟩ | ⟨g2, -⟩
  · exact Or.inl ⟨g2, lS_b (j2 u g2) g3⟩
  · refine Or.inr (Or.inl ⟨g2, g3, ?_⟩)
    rw [hcj.2 (u - 40) (by omega)]; exact g4
  · rcases hcr with ⟨e1, e2⟩ | ⟨e1, e2, e3, e4, -⟩ <;> omega
/-- the way back -/
theorem ft_b2 (w : lnW F X G rs a b k C Q h) (ht : ∀ i : Nat, a ≤ i → i < b → fuR F i (hU (i + 1)) (hU i)) (h0 : (hU a).2.2 = 0) (hi : a ≤ i) (hb : i < b) (hc : crn F k h a p i) (hs : k i = some s) (ho : F 0 i = nI 15) {j L : Nat} {r : List tE} (haj : a ≤ j) (hji : j ≤ i) (h14 : F 0 j = 14) (hjL : F 1 j = nI L) (hiL : F 1 i = nI L) (hL : L < 1100) (hr : k j = some r) (hr0 : wl r = 0) : lkp (lnkT F k a b C.2.2.2.2.2 h hU) i j 0 (fun _ => False) := by
  obtain ⟨c1, s2, c2, c3⟩ := crn_T w (i - p) i (by have := hc.2.1; omega) hb hc
  have h40 := w.n40
  obtain ⟨j1, j2⟩ := c_loop (le := lS) (h := fun j => lnp (h j)) lS_rf (fun x y z => lS_tr) (lnW_p w) w.ag (ce_lb w.ce) (fun m m1 m2 _ m4 => by
    obtain ⟨sm, hsm⟩ := w.al m m1 m2 m4
    exact ce_ntg w.ce m1 m2 hsm haj (by omega) h14 hjL) haj hji hb c1 ho hL hiL (Or.inr h14) hjL
  have hU1 := fu_loop w.ce ht h0 haj hji hb ho hiL hL h14 hjL
  refine ⟨⟨haj, by omega, j, haj, Nat.le_refl _, j1, ⟨r, hr, hr0⟩, fun m m1 m2 => absurd m1 (by omega)⟩, fun u l _ hw9 hH => ?_, fun u u4 _ hb9 => ?_⟩
  · obtain ⟨g1, g2⟩ := hH
    refine ⟨g1, ?_⟩
    rcases g2 with ⟨g2, g3⟩ | ⟨g2, g3, g4⟩ | ⟨g2, -⟩
    · exact Or.inl ⟨g2, lS_b (j2 u g2) g3⟩
    · omega
    · omega
  · refine ⟨?_, hb9.2⟩
    rw [hU1]; exact hb9.1
theorem rf_eq {ak : Nat → Int32} {x : Int32} {T : Nat} (hx : x = nI T) (hT : T < 3040) : rfB ak x ↔ (ak T = 5 ∨ ak T = 6) := by
  unfold rfB
  rw [hx, cN_nI (by omega)]
  exact ⟨fun q => q.2, fun q => ⟨nI_pos (by omega), q⟩⟩
/-- the rules hold along Loans' last pass, if it told nothing -/
theorem rfB_q {Q1 F20 : Nat → Int32} {x : Int32} {T yt : Nat} (z9 : ∀ t : Nat, t < yt → Q1 t = F20 t) (hx : x = nI T) (hT : T < yt) (h30 : yt ≤ 3040) : rfB Q1 x = rfB F20 x := by
  unfold rfB
  rw [hx, cN_nI (by omega), z9 T hT]
theorem pl_lt {F X : tF} {yp yt p v n T : Nat} {pa ro mu : Int32} (h : tbO F X yp yt) (z2 : ∀ w : Nat, w < 40 → F 15 w ≠ -1 → ∃ T0 : Nat, F 15 w = nI T0 ∧ tyV yp yt (F 20) T0) (hp : plI F X p v n T pa ro mu) : T < yt := by
  have hne : F 15 v ≠ -1 := pl_ne n pa ro T mu hp.2.2.2.1 hp.2.2.2.2.2.2.2.2.2.2
  obtain ⟨T0, f1, f2⟩ := z2 v hp.2.1 hne
  obtain ⟨ds, os, o, -, -, q⟩ := pG_of h f1 f2 hp
  rcases q with ⟨-, -, -, q1, -, q2, -⟩ | ⟨-, d⟩ | ⟨-, -, -, -, U, ds', os', -, -, -, -, d⟩
  · rw [q1]; exact q2
  · exact d.2.2.2.2.2
  · exact d.2.2.2.2.2
theorem lR_tr (w : lnW F X G rs a b k C Q h) (zz : lnZ F X G a b k C Q yp yt) (ht : ∀ i : Nat, a ≤ i → i < b → fuR F i (hU (i + 1)) (hU i)) (h0 : (hU a).2.2 = 0) (hub : ∀ i : Nat, a ≤ i → i < b → C.1 i = (hU (i + 1)).1) (hf : (h b).2.2.2.2.2.1 < 0) (hi : a ≤ i) (hb : i < b) (hc : crn F k h a p i) (hs : k i = some s) (ho : F 0 i = nI o) (h33 : o < 33) : lRu F G (tbF F C.2.2.2.1 C.2.2.1) (fun g => Q.2.2.2.2.2.2.1 g 6) (fun g => Q.2.2.2.2.2.2.2 g 1) Q.2.2.2.2.1 k a b (lnkT F k a b C.2.2.2.2.2 h hU) i s o := by
  have zz1 := zz
  obtain ⟨z1, z2, z3, z4, z5, z6, z7, z8, z9, z10, z11, z12, z13⟩ := zz
  have hce := ce_op w.ce hi hb hs ho h33
  have hpl10 : ∀ p9 : Nat, (o = 2 ∨ o = 3 ∨ o = 26) → F 1 i = nI p9 → p9 < 3001 → rfB Q.1 (F 10 p9) = rfB (F 20) (F 10 p9) := by
    rintro p9 (rfl | rfl | rfl) h1 hp9
    · obtain ⟨p2, T, mu, g1, ⟨v2, n2', pa, ro, g2⟩, -⟩ := hce
      obtain rfl : p9 = p2 := (nI_eq (by omega) (by have := g2.1.1; omega)).mp (h1.symm.trans g1)
      exact rfB_q z9 g2.2.2.2.2.2.2.2.2.1 (pl_lt z1 z2 g2) z1.1.2.1
    · obtain ⟨p2, T, g1, ⟨v2, n2', pa, ro, mu, g2, -⟩, -⟩ := hce
      obtain rfl : p9 = p2 := (nI_eq (by omega) (by have := g2.1.1; omega)).mp (h1.symm.trans g1)
      exact rfB_q z9 g2.2.2.2.2.2.2.2.2.1 (pl_lt z1 z2 g2) z1.1.2.1
    · obtain ⟨p2, v2, n2', T, pa, ro, mu, r, g1, g2, g3, g4, g5⟩ := hce
      obtain rfl : p9 = p2 := (nI_eq (by omega) (by have := g2.1.1; omega)).mp (h1.symm.trans g1)
      exact rfB_q z9 g2.2.2.2.2.2.2.2.2.1 (pl_lt z1 z2 g2) z1.1.2.1
  have hpv : ∀ v : Nat, v < 40 → F 15 v ≠ -1 → v < C.2.2.2.2.2 → rfB Q.1 (Q.2.1 v) = rfB (F 20) (F 15 v) := fun v hv hne hvn => by
    obtain ⟨T0, f1, f2⟩ := z2 v hv hne
    rw [(z10 v hvn).1]
    exact rfB_q z9 f1 f2.2 z1.1.2.1
  have h60 := w.ce.2.1
  have h40 := w.n40
  have fu9 := fu_up ht hi hb ho h33
  have nl : (o ≠ 13 ∧ o ≠ 14) → ¬ isL (F 0 i) := isL_o ho h33
  have dat := fun (q : o ≠ 13 ∧ o ≠ 14) => ft_n (G := G) w z7 hf z8 hi hb hc hs ho h33 (nl q)
  have nui : o ≠ 15 → o ≠ 16 → o ≠ 20 → o ≠ 22 → nu o := fun q1 q2 q3 q4 => ⟨q1, q2, q3, q4⟩
  -- a plain one
  have pln : (o ≠ 13 ∧ o ≠ 14) → o ≠ 15 → o ≠ 16 → o ≠ 20 → o ≠ 22 → o ≠ 24 → o ≠ 25 → o ≠ 26 → o ≠ 29 → o ≠ 30 → o ≠ 32 → ∀ m : Nat, m ≤ wl s - po F G i o → lkp (lnkT F k a b C.2.2.2.2.2 h hU) i (i + 1) m (fun _ => False) := fun q1 q2 q3 q4 q5 q6 q7 q8 q9 q10 q11 m hm => by
    have d := dat q1
    refine ft_k (G := G) w z7 hf z8 hi hb hc hs ho h33 (nl q1) (nui q2 q3 q4 q5) hm (fun u _ _ => by rw [lnLk_1 o h33 q6 q7 q8 q9 q10 q11 d.2.2.1]) (fun u _ _ hb9 => ?_)
    rw [fu9]
    exact lS_b (uaF_up o h33 q2 q3 q4 q5 q6 q7 q8 q9 q10 q11) hb9
  refine ⟨?_, ?_, ?_, ?_, ?_, ?_, ?_, ?_, ?_, ?_, ?_, ?_, ?_, ?_, ?_, ?_, ?_⟩
  · rintro (rfl | rfl | rfl | rfl | rfl | rfl | rfl | rfl | rfl) <;> exact pln (by decide) (by decide) (by decide) (by decide) (by decide) (by decide) (by decide) (by decide) (by decide) (by decide) (by decide) _ (Nat.le_refl _)
  · intro q
    exact ft_l w ht z8 hi hb hc hs ho h33 q
  · rintro (rfl | rfl | rfl | rfl | rfl | rfl | rfl) <;> exact pln (by decide) (by decide) (by decide) (by decide) (by decide) (by decide) (by decide) (by decide) (by decide) (by decide) (by decide) _ (Nat.le_refl _)
  · rintro rfl n h2 hn
    refine pln (by decide) (by decide) (by decide) (by decide) (by decide) (by decide) (by decide) (by decide) (by decide) (by decide) (by decide) _ ?_
    show wl s - n ≤ wl s - cN (F 2 i)
    rw [h2, cN_nI (by omega)]; exact Nat.le_refl _
  · intro q
    have q13 : o ≠ 13 ∧ o ≠ 14 := by omega
    obtain ⟨n1, n2, n3, n4, n5, n6, n7, n8, n9, n10⟩ := dat q13
    refine ⟨pln q13 (by omega) (by omega) (by omega) (by omega) (by omega) (by omega) (by omega) (by omega) (by omega) (by omega) _ (by rcases q with rfl | rfl <;> exact Nat.le_refl _), fun p9 v h1 hp9 h6 hv => ⟨?_, ?_, fun hrf l hH => ?_⟩⟩
    · intro hr9
      refine ⟨?_, hr9⟩
      rw [fu9]
      exact uaF_v (by omega) h1 hp9 h6 hv
    · rcases q with rfl | rfl
      · obtain ⟨p2, T, mu, g1, ⟨v2, n2', pa, ro, g2⟩, -⟩ := hce
        obtain rfl : p9 = p2 := (nI_eq (by omega) (by have := g2.1.1; omega)).mp (h1.symm.trans g1)
        obtain rfl : v = v2 := (nI_eq (by omega) (by have := g2.2.1; omega)).mp (h6.symm.trans g2.2.2.2.2.1)
        have := ft_ck (hU := hU) w zz1 (hub i hi hb) hi hb (nl q13) g2 (n4.1 rfl p9 v h1 hp9 h6 hv) (by omega)
        rw [n1] at this
        exact fun u l e1 e2 e3 e4 e5 => ⟨rfl, (this u l e1 e2 e3 e4 e5).2⟩
      · obtain ⟨p2, T, g1, ⟨v2, n2', pa, ro, mu, g2, -⟩, -⟩ := hce
        obtain rfl : p9 = p2 := (nI_eq (by omega) (by have := g2.1.1; omega)).mp (h1.symm.trans g1)
        obtain rfl : v = v2 := (nI_eq (by omega) (by have := g2.2.1; omega)).mp (h6.symm.trans g2.2.2.2.2.1)
        have := ft_ck (hU := hU) w zz1 (hub i hi hb) hi hb (nl q13) g2 (n4.2.1 rfl p9 v h1 hp9 h6 hv) (by omega)
        rw [n1] at this
        exact fun u l e1 e2 e3 e4 e5 => absurd (this u l e1 e2 e3 e4 e5).1 (by decide)
    · obtain ⟨g1, g2⟩ := hH
      refine ⟨g1, Or.inr (Or.inl ⟨by omega, by omega, ?_⟩)⟩
      have hbv : lbit ((h i).1 v) l = true := by
        rcases g2 with ⟨-, g3⟩ | ⟨g2, -⟩ | ⟨g2, -⟩
        · rw [n5] at g3; exact g3
        · omega
        · omega
      rw [show 40 + wl s - 40 = wl s by omega]
      have key : ∀ (t9 : lnT) (gt : Nat → Int64) (tn2 : Nat), psR (lnF (h i)) (lnN (h i)) ((h i).1 v) gt tn2 → lnF t9 = gt → lbit (lnF t9 (wl s)) l = true := fun t9 gt tn2 hps et => by
        rw [et, ← n1, psR_at hps (by omega)]; exact hbv
      rcases q with rfl | rfl
      · obtain ⟨p2, v2, u, g3, g4, g5, g6, eu, g7⟩ := n3
        obtain rfl : p9 = p2 := (nI_eq (by omega) (by omega)).mp (h1.symm.trans g3)
        obtain rfl : v = v2 := (nI_eq (by omega) (by omega)).mp (h6.symm.trans g5)
        rcases g7 with ⟨-, gt, tn2, g8, g9⟩ | ⟨g7, -⟩
        · refine key _ gt tn2 ?_ (by rw [g9]; rfl)
          rw [eu] at g8; exact g8
        · rw [hpl10 p9 (Or.inl rfl) h1 hp9] at g7; exact absurd hrf g7
      · obtain ⟨p2, v2, u, g3, g4, g5, g6, eu, g7⟩ := n3
        obtain rfl : p9 = p2 := (nI_eq (by omega) (by omega)).mp (h1.symm.trans g3)
        obtain rfl : v = v2 := (nI_eq (by omega) (by omega)).mp (h6.symm.trans g5)
        rcases g7 with ⟨-, gt, tn2, g8, g9⟩ | ⟨g7, -⟩
        · refine key _ gt tn2 ?_ (by rw [g9]; rfl)
          rw [eu] at g8; exact g8
        · rw [hpl10 p9 (Or.inr (Or.inl rfl)) h1 hp9] at g7; exact absurd hrf g7
  · rintro rfl
    obtain ⟨n1, n2, n3, n4, n5, n6, n7, n8, n9, n10⟩ := dat (by decide)
    refine ⟨pln (by decide) (by decide) (by decide) (by decide) (by decide) (by decide) (by decide) (by decide) (by decide) (by decide) (by decide) _ (Nat.le_refl _), fun p9 v c h1 hp9 h6 hv h2 hc54 => ?_⟩
    obtain ⟨p2, T, b2, m2, mu, g1, ⟨v2, n2', pa, ro, g2⟩, -⟩ := hce
    obtain rfl : p9 = p2 := (nI_eq (by omega) (by have := g2.1.1; omega)).mp (h1.symm.trans g1)
    obtain rfl : v = v2 := (nI_eq (by omega) (by have := g2.2.1; omega)).mp (h6.symm.trans g2.2.2.2.2.1)
    have hne : F 15 v ≠ -1 := pl_ne n2' pa ro T mu g2.2.2.2.1 g2.2.2.2.2.2.2.2.2.2.2
    have hvn := z11 v hv hne
    obtain ⟨p3, v3, b3, x, gt, tn2, g3, g4, g5, g6, g7, g8, g9, g10, g11⟩ := n3
    obtain rfl : p9 = p3 := (nI_eq (by omega) (by omega)).mp (h1.symm.trans g3)
    obtain rfl : v = v3 := (nI_eq (by omega) (by omega)).mp (h6.symm.trans g5)
    obtain rfl : c = b3 := (nI_eq (by omega) (by omega)).mp (h2.symm.trans g7)
    have eF : lnF (h (i + 1)) (wl s) = x := by
      rw [g11]
      show gt (wl s) = x
      rw [← n1]
      exact psR_at g10 (by have := n1; unfold lnN at this; omega)
    refine ⟨?_, ?_, ?_, fun hrf l hH => ?_⟩
    · intro hr9
      refine ⟨?_, hr9⟩
      rw [fu9]
      exact uaF_v (by omega) h1 hp9 h6 hv
    · have := ft_ck (hU := hU) w zz1 (hub i hi hb) hi hb (nl (by decide)) g2 (n4.2.2.1 rfl p9 v h1 hp9 h6 hv) (by omega)
      rw [n1] at this
      refine fun u l e1 e2 e3 e4 e5 => ⟨fun q => ?_, (this u l e1 e2 e3 e4 e5).2⟩
      have q2 := (this u l e1 e2 e3 e4 e5).1
      rw [if_pos q] at q2
      exact absurd q2 (by decide)
    · refine ⟨Or.inr ⟨i, s, hi, hb, ho, h2, hs⟩, Or.inr (Or.inl ⟨by omega, by omega, ?_⟩)⟩
      rw [show 40 + wl s - 40 = wl s by omega, eF]
      rcases g9 with ⟨-, e⟩ | ⟨-, e⟩
      · rw [e, lbit_or, lbit_bt c c (by omega) (by omega), decide_eq_true rfl]; rfl
      · rw [e, lbit_or, lbit_bt c c (by omega) (by omega), decide_eq_true rfl]; rfl
    · obtain ⟨q1, q2⟩ := hH
      refine ⟨q1, Or.inr (Or.inl ⟨by omega, by omega, ?_⟩)⟩
      rw [show 40 + wl s - 40 = wl s by omega, eF]
      have hbv : lbit ((h i).1 v) l = true := by
        rcases q2 with ⟨-, g3⟩ | ⟨g2, -⟩ | ⟨g2, -⟩
        · rw [n5] at g3; exact g3
        · omega
        · omega
      rcases g9 with ⟨-, e⟩ | ⟨e1, e⟩
      · rw [e, lbit_or, hbv, Bool.or_true]
      · rw [hpv v hv hne hvn] at e1
        exact absurd hrf e1
  · rintro rfl v h1 hv
    obtain ⟨n1, n2, n3, n4, n5, n6, n7, n8, n9, n10⟩ := dat (by decide)
    obtain ⟨v2, T, r, g1, g2, g3, g4, g5, -⟩ := hce
    obtain rfl : v = v2 := (nI_eq (by omega) (by omega)).mp (h1.symm.trans g2)
    have hvn := z12 v i hv (by omega) g5
    obtain ⟨v3, x, tn2, e1, e2, e3, e4⟩ := n3
    obtain rfl : v = v3 := (nI_eq (by omega) (by omega)).mp (h1.symm.trans e1)
    have n6 : 1 ≤ wl s := n6
    obtain ⟨m1, m2, m3⟩ := n10 (nui (by decide) (by decide) (by decide) (by decide))
    refine ⟨ft_k (G := G) w z7 hf z8 hi hb hc hs ho h33 (nl (by decide)) (nui (by decide) (by decide) (by decide) (by decide)) (Nat.le_refl _) (fun u _ hu => by rw [e4]; exact pk_uLn hu) (fun u _ hu hb9 => by rw [fu9]; exact uaF_k (by omega) h1 hv hb9 hu), fun l hH => ?_⟩
    obtain ⟨q1, q2⟩ := hH
    refine ⟨q1, Or.inl ⟨hvn, m3 v l hvn ?_⟩⟩
    rcases q2 with ⟨g2, -⟩ | ⟨-, -, g4⟩ | ⟨g2, -⟩
    · omega
    · rw [e4]
      show lbit (vp_updL (h i).1 v x v) l = true
      rw [pk_uLs]
      refine pop1 e3 (by have := n1; unfold lnN at this; omega) ?_
      have e8 : (h i).2.2.2.2.2.2.2.1 = wl s := n1
      rw [e8]
      rw [show 40 + (wl s - 1) - 40 = wl s - 1 by omega] at g4
      exact g4
    · omega
  · intro q v h1 hv
    have q13 : o ≠ 13 ∧ o ≠ 14 := by omega
    obtain ⟨n1, n2, n3, n4, n5, n6, n7, n8, n9, n10⟩ := dat q13
    refine ft_k (G := G) w z7 hf z8 hi hb hc hs ho h33 (nl q13) (nui (by omega) (by omega) (by omega) (by omega)) (by rcases q with rfl | rfl <;> exact Nat.le_refl _) (fun u _ hu => ?_) (fun u _ hu hb9 => by rw [fu9]; exact uaF_k (by omega) h1 hv hb9 hu)
    rcases q with rfl | rfl
    · obtain ⟨v3, e1, e2, e4⟩ := n3
      obtain rfl : v = v3 := (nI_eq (by omega) (by omega)).mp (h1.symm.trans e1)
      rw [e4]; exact pk_uLn hu
    · obtain ⟨v3, e1, e2, e4⟩ := n3
      obtain rfl : v = v3 := (nI_eq (by omega) (by omega)).mp (h1.symm.trans e1)
      rw [e4]; exact pk_uLn hu
  · rintro rfl v h1 hv
    obtain ⟨n1, n2, n3, n4, n5, n6, n7, n8, n9, n10⟩ := dat (by decide)
    obtain ⟨v2, sh, g, j, n, T, b2, q, r, c1, c2, c3, c4, c5, c6, c7, c8, c9, c10, c11, c12, c13, c14, c15, c16, c17, c18, c19⟩ := hce
    obtain rfl : v = v2 := (nI_eq (by omega) (by omega)).mp (h1.symm.trans c2)
    have hvn := z12 v i hv (by omega) c13
    obtain ⟨v3, b3, e1, e2, e3, e4, e5⟩ := n3
    obtain rfl : v = v3 := (nI_eq (by omega) (by omega)).mp (h1.symm.trans e1)
    obtain rfl : b2 = b3 := (nI_eq (by omega) (by omega)).mp (c16.symm.trans e3)
    obtain ⟨m1, m2, m3⟩ := n10 (nui (by decide) (by decide) (by decide) (by decide))
    have only : ∀ q9 r9 m9 : Nat, (q9, r9, m9) ∈ s → (q9 = 5 ∨ q9 = 6) → (q9, r9, m9) = (q + 4, sh * 12 + g, b2 + 1 + 64 * j) := fun q9 r9 m9 hm hq9 => by
      rw [c18] at hm
      rcases List.mem_cons.mp hm with z | z
      · exact z
      · exfalso
        have hv9 := w.v211 i s hi hb hs
        rw [c18] at hv9
        have hv9 : vl r + (if q + 4 = 8 then 0 else if q + 4 = 4 ∨ q + 4 = 5 ∨ q + 4 = 6 then 211 else 1) ≤ 211 := hv9
        rw [if_neg (by omega), if_pos (by omega)] at hv9
        have : ∀ {r : List tE}, (q9, r9, m9) ∈ r → 211 ≤ vl r := fun {r} => by
          induction r with
          | nil => intro z; simp at z
          | cons x r ih =>
            intro z
            show 211 ≤ vl r + (if x.1 = 8 then 0 else if x.1 = 4 ∨ x.1 = 5 ∨ x.1 = 6 then 211 else 1)
            rcases List.mem_cons.mp z with z | z
            · rw [← z]
              show 211 ≤ vl r + (if q9 = 8 then 0 else if q9 = 4 ∨ q9 = 5 ∨ q9 = 6 then 211 else 1)
              rw [if_neg (by omega), if_pos (by omega)]; omega
            · have := ih z; omega
        have := this z
        omega
    have mm : (b2 + 1 + 64 * j) % 64 = b2 + 1 := by omega
    have mm2 : (b2 + 1 + 64 * (j + 1)) % 64 = b2 + 1 := by omega
    have hq56 : q + 4 = 5 ∨ q + 4 = 6 := by omega
    refine ⟨ft_k (G := G) w z7 hf z8 hi hb hc hs ho h33 (nl (by decide)) (nui (by decide) (by decide) (by decide) (by decide)) (Nat.le_refl _) (fun u _ hu => by rw [e5]; exact pk_uLn hu) (fun u _ hu hb9 => by rw [fu9]; exact uaF_k (by omega) h1 hv hb9 hu), fun l hH => ?_, fun l hH => ?_⟩
    · obtain ⟨q1, q2⟩ := hH
      refine ⟨q1, Or.inl ⟨hvn, m3 v l hvn ?_⟩⟩
      rw [e5]
      show lbit (vp_updL (h i).1 v (lnB (h i) b2) v) l = true
      rw [pk_uLs]
      rcases q2 with ⟨g2, -⟩ | ⟨-, g2, -⟩ | ⟨-, s3, q9, r9, m9, g3, g4, g5, g6⟩
      · omega
      · omega
      · obtain rfl : s = s3 := some_i (hs.symm.trans g3)
        have y3 : m9 = b2 + 1 + 64 * j := congrArg (fun e : tE => e.2.2) (only q9 r9 m9 g4 g5)
        rw [y3, mm] at g6
        rcases g6 with g6 | ⟨c, g6, g7, g8⟩
        · omega
        · rw [show b2 = c by omega]; exact g8
    · obtain ⟨q1, q2⟩ := hH
      refine ⟨q1, Or.inr (Or.inr ⟨rfl, ?_⟩)⟩
      rcases q2 with ⟨g2, -⟩ | ⟨-, g2, -⟩ | ⟨-, s3, q9, r9, m9, g3, g4, g5, g6⟩
      · omega
      · omega
      · obtain rfl : s = s3 := some_i (hs.symm.trans g3)
        have y3 : m9 = b2 + 1 + 64 * j := congrArg (fun e : tE => e.2.2) (only q9 r9 m9 g4 g5)
        refine ⟨(q + 4, sh * 12 + g, b2 + 1 + 64 * (j + 1)) :: (8, v, 0) :: r, q + 4, sh * 12 + g, b2 + 1 + 64 * (j + 1), c19, List.mem_cons_self .., hq56, ?_⟩
        rw [mm2]
        rw [y3, mm] at g6
        have eB : lnB (h (i + 1)) = lnB (h i) := by rw [e5]; rfl
        rw [eB]; exact g6
  · rintro rfl p9 v h1 hp9 h6 hv
    obtain ⟨n1, n2, n3, n4, n5, n6, n7, n8, n9, n10⟩ := dat (by decide)
    obtain ⟨p2, v2, n2', T, pa, ro, mu, r, g1, g2, g3, g4, g5⟩ := hce
    obtain rfl : p9 = p2 := (nI_eq (by omega) (by have := g2.1.1; omega)).mp (h1.symm.trans g1)
    obtain rfl : v = v2 := (nI_eq (by omega) (by have := g2.2.1; omega)).mp (h6.symm.trans g2.2.2.2.2.1)
    have hne : F 15 v ≠ -1 := pl_ne n2' pa ro T mu g2.2.2.2.1 g2.2.2.2.2.2.2.2.2.2.2
    have hvn := z11 v hv hne
    obtain ⟨p3, v3, x, tn2, e1, e2, e3, e4, e5, e6⟩ := n3
    obtain rfl : p9 = p3 := (nI_eq (by omega) (by omega)).mp (h1.symm.trans e1)
    obtain rfl : v = v3 := (nI_eq (by omega) (by omega)).mp (h6.symm.trans e3)
    have n6 : 1 ≤ wl s := n6
    obtain ⟨m1, m2, m3⟩ := n10 (nui (by decide) (by decide) (by decide) (by decide))
    obtain ⟨fa1, fa2⟩ := uaF_a (ua := (hU (i + 1)).2.1) (x := (hU (i + 1)).1) h1 hp9 h6 hv
    constructor
    · intro hrf
      have e4' : h (i + 1) = lnSt (h i) (vp_updL (h i).1 v x) (h i).2.2.2.2.2.1 (h i).2.2.2.2.2.2.1 tn2 (h i).2.2.2.2.2.2.2.2 := by
        rcases e6 with ⟨-, e⟩ | ⟨e, -⟩
        · exact e
        · rw [hpl10 p9 (Or.inr (Or.inr rfl)) h1 hp9] at e; exact absurd hrf e
      refine ⟨ft_k (G := G) w z7 hf z8 hi hb hc hs ho h33 (nl (by decide)) (nui (by decide) (by decide) (by decide) (by decide)) (Nat.le_refl _) (fun u _ hu => by rw [e4']; exact pk_uLn hu) (fun u _ hu hb9 => by rw [fu9]; exact fa1 u hb9 (fun _ _ => hu)), fun l hH => ?_⟩
      obtain ⟨q1, q2⟩ := hH
      refine ⟨q1, Or.inl ⟨hvn, m3 v l hvn ?_⟩⟩
      rcases q2 with ⟨g2, -⟩ | ⟨-, -, g4⟩ | ⟨g2, -⟩
      · omega
      · rw [e4']
        show lbit (vp_updL (h i).1 v x v) l = true
        rw [pk_uLs]
        refine pop1 e5 (by have := n1; unfold lnN at this; omega) ?_
        have e8 : (h i).2.2.2.2.2.2.2.1 = wl s := n1
        rw [e8]
        rw [show 40 + (wl s - 1) - 40 = wl s - 1 by omega] at g4
        exact g4
      · omega
    · intro hrf
      have e4' : (h (i + 1)).1 = (h i).1 := by
        rcases e6 with ⟨e, -⟩ | ⟨-, e⟩
        · rw [hpl10 p9 (Or.inr (Or.inr rfl)) h1 hp9] at e; exact absurd e hrf
        · rw [e]; rfl
      have kk := ft_k (G := G) (E := fun u => u = 999) (hU := fun _ => (0, fun _ => 0, 0)) w z7 hf z8 hi hb hc hs ho h33 (nl (by decide)) (nui (by decide) (by decide) (by decide) (by decide)) (Nat.le_refl _) (fun u _ _ => by rw [e4']) (fun u _ _ hb9 => hb9)
      refine ⟨⟨by omega, m1, p, m2⟩, fun u l hu hH => kk.2.1 u l (fun e => by
        have : po F G i 26 = 1 := rfl
        rcases hu with hu | hu <;> omega) hu hH, fun u u4 hu hb9 => ?_, fun hst => ?_, ?_⟩
      · refine ⟨?_, hb9.2⟩
        rw [fu9]; exact fa1 u hb9.1 hu
      · intro hr9
        refine ⟨?_, hr9⟩
        rw [fu9]; exact fa2 hst
      · have := ft_ck (hU := hU) w zz1 (hub i hi hb) hi hb (nl (by decide)) g2 (n4.2.2.2.1 rfl p9 v h1 hp9 h6 hv (by rw [hpl10 p9 (Or.inr (Or.inr rfl)) h1 hp9]; exact hrf)) (by omega)
        rw [n1] at this
        exact fun u l e1 e2 e3 e4 e5 => absurd (this u l e1 e2 e3 e4 e5).1 (by decide)
  · rintro rfl v0 v1 h1 h2 hv hv4
    obtain ⟨n1, n2, n3, n4, n5, n6, n7, n8, n9, n10⟩ := dat (by decide)
    obtain ⟨v02, v12, g1, g6, e1, e2, e3, e4, e5, e6⟩ := n3
    obtain rfl : v0 = v02 := (nI_eq (by omega) (by omega)).mp (h1.symm.trans e1)
    obtain rfl : v1 = v12 := (nI_eq (by omega) (by omega)).mp (h2.symm.trans e2)
    have n42 := n4.2.2.2.2.1 rfl v0 v1 h1 h2 hv hv4
    have wh := (wh_of (ce_op w.ce hi hb hs ho h33)).2.1 (Or.inr rfl)
    have hfi : (h (i + 1)).2.2.2.2.2.1 < 0 := lnW_fi w z7 hf (b - (i + 1)) (i + 1) (by omega) (by omega)
    have lv := lnLv_no w.n40 wh (v1 - v0) _ _ e5 (by rw [e6] at hfi; exact hfi)
    refine ⟨ft_k (G := G) w z7 hf z8 hi hb hc hs ho h33 (nl (by decide)) (nui (by decide) (by decide) (by decide) (by decide)) (Nat.le_refl _) (fun u _ hu => ?_) (fun u _ hu hb9 => by rw [fu9]; exact uaF_s h1 h2 hv hv4 hb9 (by omega)), fun u l hu ho9 hH hl9 t1 t2 => ?_⟩
    · have := lv.2.1 u
      rw [if_neg (by omega)] at this
      rw [e6]; exact this
    · obtain ⟨g1', g2'⟩ := hH
      have hl54 : l < 54 := by
        rcases Nat.lt_or_ge l 54 with q | q
        · exact q
        · exact absurd q hl9
      obtain ⟨j9, s9, j1, j2, j3, j4, j5⟩ := g1'.resolve_left (by omega)
      obtain ⟨p9, v9, l9, y1, y2, y3, y4, y5, y6⟩ := z4 j9 j1 j2 j3
      obtain rfl : l9 = l := (nI_eq (by omega) (by omega)).mp (y5.symm.trans j4)
      obtain ⟨pof, lon, z3⟩ := z3
      have tb3 := ga_tb (pof := pof) (lon := lon) z4 (b - a) (by omega) (fun i j a1 a2 a3 a4 => z5 i j a1 (by omega) a3 (by omega)) j9 p9 v9 l9 j1 (by omega) j3 y1 y2 y3 y4 y5 y6
      rw [← z3] at tb3
      obtain ⟨t3, t4, -⟩ := tb3
      have t3 : C.2.2.2.1 l9 = nI p9 := t3
      have ev : (tbF F C.2.2.2.1 C.2.2.1).1 l9 = v9 := by
        show cN (F 6 (cN (C.2.2.2.1 l9))) = v9
        rw [t3, cN_nI (by omega), y3, cN_nI (by omega)]
      rw [ev] at t1 t2 ⊢
      show F 20 (cN (F 15 v9)) = 5 ∨ F 20 (cN (F 15 v9)) = 6
      have hpl := bo_pl w.ce j1 j2 j3 j5
      obtain ⟨p8, v8, n8', T8, l8, pa8, ro8, mu8, x1, x2, x3, x4⟩ := hpl
      obtain rfl : p9 = p8 := (nI_eq (by omega) (by have := x2.1.1; omega)).mp (y1.symm.trans x1)
      obtain rfl : v9 = v8 := (nI_eq (by omega) (by have := x2.2.1; omega)).mp (y3.symm.trans x2.2.2.2.2.1)
      have hne : F 15 v9 ≠ -1 := pl_ne n8' pa8 ro8 T8 mu8 x2.2.2.2.1 x2.2.2.2.2.2.2.2.2.2.2
      obtain ⟨T0, f1, f2⟩ := z2 v9 y4 hne
      have hvn := z11 v9 y4 hne
      apply Classical.byContradiction
      intro hno
      refine n42 v9 l9 t1 t2 ?_ (by omega) t4 ?_
      · rw [hpv v9 y4 hne hvn]
        exact fun q => hno q.2
      · rcases g2' with ⟨q2, q3⟩ | ⟨q2, q3, q4⟩ | ⟨q2, -⟩
        · right
          refine ⟨u, q2, ho9, ?_, by rw [← n5]; exact q3⟩
          rcases hu with ⟨-, hu⟩ | ⟨hu, -⟩
          · rw [hub i hi hb]; exact hu.1
          · omega
        · left
          refine ⟨u - 40, ?_, q4⟩
          rcases hu with ⟨hu, -⟩ | ⟨-, hu⟩ <;> omega
        · rcases hu with ⟨hu, -⟩ | ⟨-, hu⟩ <;> omega
  · rintro rfl g h1 hg
    obtain ⟨n1, n2, n3, n4, n5, n6, n7, n8, n9, n10⟩ := dat (by decide)
    have epo : po F G i 21 = G g 0 := by
      show G (cN (F 1 i)) 0 = _
      rw [h1, cN_nI (by omega)]
    rw [epo] at n6
    refine ⟨pln (by decide) (by decide) (by decide) (by decide) (by decide) (by decide) (by decide) (by decide) (by decide) (by decide) (by decide) _ (by rw [epo]; exact Nat.le_refl _), fun hrf q l hq hrl hH => ?_⟩
    obtain ⟨g2, e1, e2, n, x, t1, gt, tn2, e3, e4, e5, e6, e7⟩ := n3
    obtain rfl : g = g2 := (nI_eq (by omega) (by have := w.nb40; omega)).mp (h1.symm.trans e1)
    obtain ⟨hG1, hG2⟩ := w.hG g e2
    obtain ⟨gg, r9, ⟨gg1, gg2⟩, gg3, -⟩ := hce
    obtain rfl : g = gg := (nI_eq (by omega) (by omega)).mp (h1.symm.trans gg3)
    have hG5 := (z13 g hg gg2).2.1
    have en : n = G g 0 := by
      rw [hG1] at e3
      exact ((nI_eq (by omega) (by omega)).mp e3).symm
    subst en
    have e8 : (h i).2.2.2.2.2.2.2.1 = wl s := n1
    rw [e8] at e5
    obtain ⟨-, k2⟩ := lnCl_x e5 n6
    have et1 : t1 = wl s - G g 0 := lnCl_n e5
    have hx := k2 q hq hrl
    rcases e6 with ⟨-, e6⟩ | ⟨e6, -⟩
    · obtain ⟨q1, q2⟩ := hH
      refine ⟨q1, Or.inr (Or.inl ⟨by omega, by omega, ?_⟩)⟩
      rw [show 40 + (wl s - G g 0) - 40 = t1 by omega]
      have : lnF (h (i + 1)) t1 = x := by
        rw [e7]; exact psR_at e6 (by omega)
      rw [this]
      rcases q2 with ⟨g2, -⟩ | ⟨-, -, g4⟩ | ⟨g2, -⟩
      · omega
      · refine lS_b hx ?_
        rw [show 40 + (wl s - G g 0) + q - 40 = wl s - G g 0 + q by omega] at g4
        exact g4
      · omega
    · have e6 : ¬ rfB Q.1 (Q.2.2.2.2.2.2.1 g 5) := e6
      rw [show rfB Q.1 (Q.2.2.2.2.2.2.1 g 5) = rfB (F 20) (Q.2.2.2.2.2.2.1 g 5) from rfB_q z9 hG5 (z13 g hg gg2).2.2 z1.1.2.1] at e6
      rw [hG5] at e6
      exact absurd hrf e6
  · rintro rfl h2
    obtain ⟨n1, n2, n3, n4, n5, n6, n7, n8, n9, n10⟩ := dat (by decide)
    have n6 : cN (F 2 i) ≤ wl s := n6
    rw [h2] at n6
    have n6 : 1 ≤ wl s := n6
    have hx : lnX F i (h i) (0 ||| lnF (h i) (wl s - 1)) := by
      refine Or.inl ⟨h2, wl s - 1, ?_⟩
      rw [n1]
      obtain ⟨m, em⟩ : ∃ m : Nat, wl s = m + 1 := ⟨wl s - 1, by omega⟩
      rw [em]; rfl
    obtain ⟨c1, c2⟩ := n4.2.2.2.2.2 rfl _ hx
    have hbx : ∀ l : Nat, (lnkT F k a b C.2.2.2.2.2 h hU).1 i (40 + (wl s - 1)) l → lbit (0 ||| lnF (h i) (wl s - 1)) l = true := fun l hH => by
      obtain ⟨q1, q2⟩ := hH
      rcases q2 with ⟨g2, -⟩ | ⟨-, -, g4⟩ | ⟨g2, -⟩
      · omega
      · rw [show 40 + (wl s - 1) - 40 = wl s - 1 by omega] at g4
        rw [lbit_or, g4, Bool.or_true]
      · omega
    constructor
    · intro l hH hl9 f18 f19
      have hb9 := hbx l hH
      obtain ⟨g1', -⟩ := hH
      have hl54 : l < 54 := by
        rcases Nat.lt_or_ge l 54 with q | q
        · exact q
        · exact absurd q hl9
      obtain ⟨j9, s9, j1, j2, j3, j4, j5⟩ := g1'.resolve_left (by omega)
      obtain ⟨p9, v9, l9, y1, y2, y3, y4, y5, y6⟩ := z4 j9 j1 j2 j3
      obtain rfl : l9 = l := (nI_eq (by omega) (by omega)).mp (y5.symm.trans j4)
      obtain ⟨pof, lon, z3⟩ := z3
      have tb3 := ga_tb (pof := pof) (lon := lon) z4 (b - a) (by omega) (fun i j a1 a2 a3 a4 => z5 i j a1 (by omega) a3 (by omega)) j9 p9 v9 l9 j1 (by omega) j3 y1 y2 y3 y4 y5 y6
      rw [← z3] at tb3
      obtain ⟨t3, t4, -⟩ := tb3
      have t3 : C.2.2.2.1 l9 = nI p9 := t3
      have ev : (tbF F C.2.2.2.1 C.2.2.1).1 l9 = v9 := by
        show cN (F 6 (cN (C.2.2.2.1 l9))) = v9
        rw [t3, cN_nI (by omega), y3, cN_nI (by omega)]
      rw [ev] at f18 f19 ⊢
      show F 20 (cN (F 15 v9)) = 5 ∨ F 20 (cN (F 15 v9)) = 6
      obtain ⟨p8, v8, n8', T8, l8, pa8, ro8, mu8, x1, x2, x3, x4⟩ := bo_pl w.ce j1 j2 j3 j5
      obtain rfl : p9 = p8 := (nI_eq (by omega) (by have := x2.1.1; omega)).mp (y1.symm.trans x1)
      obtain rfl : v9 = v8 := (nI_eq (by omega) (by have := x2.2.1; omega)).mp (y3.symm.trans x2.2.2.2.2.1)
      have hne : F 15 v9 ≠ -1 := pl_ne n8' pa8 ro8 T8 mu8 x2.2.2.2.1 x2.2.2.2.2.2.2.2.2.2.2
      have hvn := z11 v9 y4 hne
      obtain ⟨r1, r2, r3⟩ := z10 v9 hvn
      apply Classical.byContradiction
      intro hno
      have := c2 v9 l9 hvn (by rw [r2]; exact f18) (by rw [r3]; exact f19) (by rw [hpv v9 y4 hne hvn]; exact fun q => hno q.2) t4
      rw [this] at hb9
      exact absurd hb9 (by decide)
    · intro _ r l hme hr hl9 hH
      exact c1 r hme hr l hl9 (lbit_lt (hbx l hH)) (hbx l hH)
  · intro q j r htj hr hij hjb h13 hjL
    have q13 : o ≠ 13 ∧ o ≠ 14 := by omega
    obtain ⟨L, hL1, hL2⟩ := ce_lb w.ce j (by omega) hjb (Or.inl h13)
    have hiL : F 1 i = nI L := hjL.symm.trans hL2
    have htg : tgt F i L := Or.inl ⟨by rw [ho]; rcases q with rfl | rfl | rfl | rfl; exact Or.inl rfl; exact Or.inr (Or.inl rfl); exact Or.inr (Or.inr (Or.inl rfl)); exact Or.inr (Or.inr (Or.inr rfl)), hiL⟩
    obtain ⟨j2, ⟨x1, x2⟩, x3, x4, x5, x6⟩ := htj
    obtain rfl : j = j2 := ce_one w.ce (by omega) hjb (Or.inl h13) (by omega) x3 (Or.inl x4) hjL x5
    have dd := dat q13
    rcases q with rfl | rfl | rfl | rfl
    · obtain ⟨v0, e4⟩ := hce
      have e0 : wl s = 0 := wl_vl v0
      obtain ⟨j3, ⟨y1, -⟩, y3, y4, y5, y6⟩ := e4.resolve_left id
      obtain rfl : j = j3 := ce_one w.ce (by omega) hjb (Or.inl h13) (by omega) y3 (Or.inl y4) hjL y5
      obtain rfl : r = s := some_i (hr.symm.trans y6)
      exact ft_j (G := G) w ht z7 hf z8 hi hb hc hs ho h33 (nl q13) hij hjb h13 hL2 hL1 htg hr (Or.inl ⟨e0, by omega⟩)
    · obtain ⟨r2, e1, ⟨e2, e3⟩, e4⟩ := hce
      have ew : wl s = wl r2 + 1 := by rw [e1]; exact wl_n (by simp)
      have : wl r2 = 0 := wl_vl e3
      obtain ⟨j3, ⟨y1, -⟩, y3, y4, y5, y6⟩ := e4.resolve_left id
      obtain rfl : j = j3 := ce_one w.ce (by omega) hjb (Or.inl h13) (by omega) y3 (Or.inl y4) hjL y5
      obtain rfl : r = r2 := some_i (hr.symm.trans y6)
      exact ft_j (G := G) w ht z7 hf z8 hi hb hc hs ho h33 (nl q13) hij hjb h13 hL2 hL1 htg hr (Or.inl ⟨this, by omega⟩)
    · obtain ⟨r2, e1, e2, e4⟩ := hce
      obtain ⟨j3, ⟨y1, y2⟩, y3, y4, y5, y6⟩ := e4.resolve_left id
      obtain rfl : j = j3 := ce_one w.ce (by omega) hjb (Or.inl h13) (by omega) y3 (Or.inl y4) hjL y5
      obtain rfl : r = s := some_i (hr.symm.trans y6)
      have ew : wl r = wl r2 + 1 := by rw [e1]; exact wl_n (by simp)
      refine ft_j (G := G) w ht z7 hf z8 hi hb hc hs ho h33 (nl q13) hij hjb h13 hL2 hL1 htg hr (Or.inr ⟨nui (by decide) (by decide) (by decide) (by decide), rfl, rfl, rfl, y2.resolve_left (by omega)⟩)
    · obtain ⟨r2, e1, e2, e4⟩ := hce
      obtain ⟨j3, ⟨y1, y2⟩, y3, y4, y5, y6⟩ := e4.resolve_left id
      obtain rfl : j = j3 := ce_one w.ce (by omega) hjb (Or.inl h13) (by omega) y3 (Or.inl y4) hjL y5
      obtain rfl : r = s := some_i (hr.symm.trans y6)
      have ew : wl r = wl r2 + 1 := by rw [e1]; exact wl_n (by simp)
      refine ft_j (G := G) w ht z7 hf z8 hi hb hc hs ho h33 (nl q13) hij hjb h13 hL2 hL1 htg hr (Or.inr ⟨nui (by decide) (by decide) (by decide) (by decide), rfl, rfl, rfl, y2.resolve_left (by omega)⟩)
  · rintro rfl j haj hji h14 hjL
    obtain ⟨L, hL1, hL2⟩ := ce_lb w.ce j haj (by omega) (Or.inr h14)
    obtain ⟨v0, j3, x1, x2, x3, x4, x5⟩ := hce
    obtain rfl : j = j3 := ce_one w.ce haj (by omega) (Or.inr h14) x1 (by omega) (Or.inr x3) hjL x4
    exact ft_b2 w ht h0 hi hb hc hs ho haj hji h14 hL2 (hjL.symm.trans hL2) hL1 x5 (wl_vl v0)
  · rintro rfl j tc g r h1 htc h13' hij hjb h13 hr hg hg12
    obtain ⟨n1, n2, n3, n4, n5, n6, n7, n8, n9, n10⟩ := dat (by decide)
    obtain ⟨L, hL1, hL2⟩ := ce_lb w.ce j (by omega) hjb (Or.inl h13)
    obtain ⟨sh, n, tb, r2, c1, c2, c3, c4, c5, c6, ⟨c7, c8⟩, c9⟩ := hce
    obtain rfl : tc = tb := (nI_eq (by omega) (by omega)).mp (h1.symm.trans c5)
    have hgn : g < n := by
      rw [c7] at hg
      exact (nI_ltI (by omega) (by omega)).mp hg
    have htg : tgt F i L := Or.inr ⟨ho, tc, n, g, h1, c7, by omega, c4, hgn, h13'.trans hL2⟩
    have key : wl r = 0 ∧ ∀ (q sh2 m : Nat) (r0 : List tE), (q = 1 ∨ q = 2) → s = (q, 4 + sh2, m) :: r0 → r = (q + 4, sh2 * 12 + g, m) :: r0 → wl r0 = 0 := by
      rcases c9 with ⟨d1, d2, d3⟩ | ⟨q, m, d0, d1, d2, d3⟩
      · obtain ⟨j3, ⟨y1, -⟩, y3, y4, y5, y6⟩ := (d3 g hgn).resolve_left id
        obtain rfl : j = j3 := ce_one w.ce (by omega) hjb (Or.inl h13) (by omega) y3 (Or.inl y4) h13'.symm y5
        have e9 := some_i (hr.symm.trans y6)
        refine ⟨by rw [e9, wl_00 (by omega)]; exact wl_vl c8, fun q sh2 m r0 hq e1 e2 => ?_⟩
        rw [d1] at e1
        injection e1 with e1 _
        injection e1 with e1 _
        omega
      · obtain ⟨j3, ⟨y1, -⟩, y3, y4, y5, y6⟩ := (d3 g hgn).resolve_left id
        obtain rfl : j = j3 := ce_one w.ce (by omega) hjb (Or.inl h13) (by omega) y3 (Or.inl y4) h13'.symm y5
        have e9 := some_i (hr.symm.trans y6)
        refine ⟨by rw [e9, wl_00 (by omega)]; exact wl_vl c8, fun q sh2 m r0 hq e1 e2 => ?_⟩
        rw [d1] at e1
        injection e1 with _ e1
        rw [← e1]; exact wl_vl c8
    have ews : wl s - 1 = 0 := by
      rcases c9 with ⟨d1, -⟩ | ⟨q, m, d0, d1, -⟩
      · rw [d1, wl_0n (by omega), wl_vl c8]
      · rw [d1, wl_0n (by omega), wl_vl c8]
    refine ⟨ft_j (G := G) w ht z7 hf z8 hi hb hc hs ho h33 (nl (by decide)) hij hjb h13 hL2 hL1 htg hr (Or.inl ⟨key.1, ews⟩), fun q sh2 m r0 hq e1 e2 l hH => ?_⟩
    have er0 := key.2 q sh2 m r0 hq e1 e2
    obtain ⟨q1, q2⟩ := hH
    refine ⟨q1, Or.inr (Or.inr ⟨rfl, r, q + 4, sh2 * 12 + g, m, hr, by rw [e2]; exact List.mem_cons_self .., by omega, ?_⟩)⟩
    by_cases m0 : m = 0
    · exact Or.inl (by rw [m0])
    · right
      obtain ⟨j0, l0, k1, k2, k3, k4, k5, k6, -, k7⟩ := crn_M w z5 (i - p) i (by have := hc.2.1; omega) hb hc s (wl r0) (q, 4 + sh2, m) hs (by
        rw [e1]
        show (if q = 8 ∨ q = 4 ∨ q = 5 ∨ q = 6 then ent r0 (wl r0) else if wl r0 = wl r0 then some (q, 4 + sh2, m) else ent r0 (wl r0)) = _
        rw [if_neg (by omega), if_pos rfl]) ⟨hq, m0⟩
      have k6 : m = l0 + 1 := k6
      refine ⟨l0, k5, by omega, ?_⟩
      rw [lnW_B w z5 k1 (by omega) k3 k4 k5 (j - (j0 + 1)) j (by omega) (by omega), ← k7]
      rcases q2 with ⟨g2, -⟩ | ⟨-, -, g4⟩ | ⟨g2, -⟩
      · omega
      · rw [show 40 + wl r0 - 40 = wl r0 by omega] at g4
        exact g4
      · omega
  · rintro rfl l hH
    obtain ⟨n1, n2, n3, n4, n5, n6, n7, n8, n9, n10⟩ := dat (by decide)
    have hk1 : k (i + 1) = some s := hce
    have eB : lnB (h (i + 1)) = lnB (h i) := lnLk_B 23 (by decide) (by decide) n3
    obtain ⟨q1, q2⟩ := hH
    refine ⟨q1, ?_⟩
    rcases q2 with ⟨g2, -⟩ | ⟨-, g2, -⟩ | ⟨-, s3, q9, r9, m9, g3, g4, g5, g6⟩
    · omega
    · omega
    · refine Or.inr (Or.inr ⟨rfl, s3, q9, r9, m9, ?_, g4, g5, by rw [eB]; exact g6⟩)
      rw [hk1, ← hs]; exact g3
end
