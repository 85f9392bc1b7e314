section
variable {y : qY} {z : qZ} {vt vo : Nat → Nat → Nat} {vc : Nat → Nat} {tb : Nat → lTb} {hp : Nat} {tk tk2 : Nat → Prop} {c c2 : Nat → Int} {f g i j : Nat} {x : Nat → kFm} {An : Nat → lLc → Nat → Prop} {fb : Nat → Nat} {top top2 : Nat} {fil fil2 : Nat → Nat → Nat → Prop} {N : lK} {L : Nat → Nat → lLc → Prop} {Rm : Nat → Prop} {F X : tF} {G : Nat → Nat → Nat} {rs a b n yp yt : Nat} {k : Nat → Option (List tE)} {rl : Nat → Int32} {pl : Nat → Nat → Int32} {me : Int32} {s s2 : List tE} {R R2 : Nat → Option lLc}
theorem drC_0 : drC y z c hp top (fun _ _ _ => False) (fun _ => False) := fun _ _ _ h => absurd h id
theorem kS_tk (h : kS y z vt vo vc tb hp tk c f x fb top fil) (ht : ∀ k : Nat, tk k → tk2 k) : kS y z vt vo vc tb hp tk2 c f x fb top fil := by
  obtain ⟨rt, ra, V, hJ, l0, lr⟩ := h
  refine ⟨rt, ra, V, hJ, qMm_subT l0 l0.1 (fun _ _ _ q => q) (fun r π t gg bb hv9 k4 hb9 k g9 g8 => ?_), lr⟩
  obtain ⟨b9, b1, b2, b3⟩ := (l0.2.1 r π t gg hv9).2 k4
  rw [hb9] at b1
  have b1 : bb = b9 := by omega
  subst b1
  exact ht k (b3 k g9 g8)
/-- DROP -/
theorem s_drp (E : sgE y z F X G rs a b n yp yt k N L Rm (tb g) rl pl me (vt g)) (hy : kYs y z vt vo vc) (h : At y z vt vo vc tb hp a b k N L Rm g f x An fb i tk c top fil) (ho : F 0 i = nI 27) : ∃ T m : Nat, F 1 i = nI T ∧ T < 3040 ∧ F 22 T = nI m ∧ m ≤ 16 ∧ m ≤ top ∧ ∃ (P : Nat → Nat → Int32 → Prop) (B : Nat → Prop), drC y z c hp top P B ∧ (F 23 T ≠ 0 → tyN yp (F 20) T ∧ T < yt ∧ ∀ p : Int32, P T (top - m) p) ∧ ∀ tk2 : Nat → Prop, (∀ k : Nat, tk k → ¬ B k → tk2 k) → At y z vt vo vc tb hp a b k N L Rm g f x An fb (i + 1) tk2 c (top - m) fil := by
  obtain ⟨s, R, hs, ha, hb, hN, hR, hk⟩ := h
  obtain ⟨T, r, g1, g2, rfl, h1⟩ := ce_op E.2.1 ha hb hs ho (by decide)
  obtain ⟨e1, e2⟩ := E.2.2.2.2.2.2.2.1 i 27 _ ha hb hs ho (by decide) hN hR
  have hlk := e1.2.2.1 (by omega)
  rw [wl_t, Nat.add_sub_cancel] at hlk
  have hmk := e2.2.1 (by omega)
  have hRm := e2.1 (by omega)
  have hv := E.2.2.1 i _ ha hb hs
  have hno := no56 (vl_no (vl_1 hv nm_t))
  have h3 : ∀ l : Nat, (∃ r9 m : Nat, (5, r9, m) ∈ r ∨ (6, r9, m) ∈ r) → N.1 i 300 l → N.1 (i + 1) 300 l := fun l hm => by
    obtain ⟨r9, m9, hm⟩ := hm
    have n5 := hno r9 m9
    exact absurd hm (by rintro (q | q); exact n5.1 q; exact n5.2 q)
  have fz : F 20 0 = 0 ∧ F 22 0 = 0 ∧ F 23 0 = 0 := ⟨E.1.1.1.2.2.2.1.1, E.1.1.1.2.2.2.2.1.1, E.1.1.1.2.2.2.2.2.1.1⟩
  have popd : ∀ e : tE, tNf F T = e → kNm e → ∀ m : Nat, kes z e = m → F 22 T = nI m → m ≤ 16 → F 23 T = 0 → ∃ T m : Nat, F 1 i = nI T ∧ T < 3040 ∧ F 22 T = nI m ∧ m ≤ 16 ∧ m ≤ top ∧ ∃ (P : Nat → Nat → Int32 → Prop) (B : Nat → Prop), drC y z c hp top P B ∧ (F 23 T ≠ 0 → tyN yp (F 20) T ∧ T < yt ∧ ∀ p : Int32, P T (top - m) p) ∧ ∀ tk2 : Nat → Prop, (∀ k : Nat, tk k → ¬ B k → tk2 k) → At y z vt vo vc tb hp a b k N L Rm g f x An fb (i + 1) tk2 c (top - m) fil := fun e ee he m hm h22 hm16 h23 => by
    rw [ee] at hk
    obtain ⟨et, ew⟩ := At_s hk
    have et : top = fb f + vc g + (khs z r + kes z e) := et
    rw [hm] at et
    refine ⟨T, m, g1, g2, h22, hm16, by omega, fun _ _ _ => False, fun _ => False, drC_0, fun q => absurd h23 q, fun tk2 ht => ?_⟩
    have q := st_pop (E := [e]) (s2 := r) hk rfl (fun e9 he9 => by rw [List.mem_singleton.mp he9]; exact he) E.2.2.2.2.2.2.2.2.1 hlk hmk h3
    rw [show top - m = fb f + vc g + khs z r by omega]
    exact At_mk E h1 hRm hlk.1 (kS_tk q (fun k hk9 => ht k hk9 (fun q => q)))
  by_cases c0 : T = 0
  · subst c0
    exact popd (0, 0, 0) (tNf_u (by decide) (by rw [fz.1]; decide) (by rw [fz.1]; decide)) nm0 0 rfl fz.2.1 (by decide) fz.2.2
  · by_cases hrf : F 20 T = 5 ∨ F 20 T = 6
    · have hU := E.1.2.2.2.2.1 T g2 (by rcases hrf with q | q; exact Or.inr (Or.inl q); exact Or.inr (Or.inr q))
      have row := E.1.1.1.2.2.2.2.2.2.2.1 T hU.1 hU.2
      have kk := sg_k E (T0 := T) ⟨Or.inr ⟨hU.1, hrf⟩, hU.2⟩
      have h23 : F 23 T = 0 := by
        have q : F 23 T = if F 20 T = 4 then 1 else 0 := row.2.2.1
        rw [q, if_neg (by rcases hrf with z9 | z9 <;> rw [z9] <;> decide)]
      rcases hrf with h5 | h6
      · obtain ⟨U, u1, u2, u3, u4, u5, u6⟩ := kk.1 h5
        exact popd (1, U, 0) u6 (by unfold kNm; simp) 1 rfl row.2.1 (by decide) h23
      · obtain ⟨U, u1, u2, u3, u4, u5, u6⟩ := kk.2.1 h6
        exact popd (2, U, 0) u6 (by unfold kNm; simp) 1 rfl row.2.1 (by decide) h23
    · have h5 : F 20 T ≠ 5 := fun q => hrf (Or.inl q)
      have h6 : F 20 T ≠ 6 := fun q => hrf (Or.inr q)
      obtain ⟨t1, t2⟩ := gd_0 E hR hs c0 h5 h6
      have hk2 := st_rt E h5 h6 hk
      have sz := sg_sz E (u := T) ⟨Or.inl t1, t2⟩
      rw [ymF_n E.1.1 t1] at sz
      obtain ⟨et, ew⟩ := At_s hk2
      have et : top = fb f + vc g + (khs z r + kes z (0, T, 0)) := et
      rw [show kes z (0, T, 0) = z.1 T from if_neg c0] at et
      obtain ⟨P, B, p1, p2, p3⟩ := kS_drp hy (sg_16 E) hk2 (T := T) (m := 0) (S := r) (by rw [kUx_eq]; rfl) (by rw [kUx_eq]; rfl) c0
      have eA : top - z.1 T = fb f + vc g + khs z r := by omega
      rw [kUx_eq] at p2
      refine ⟨T, z.1 T, g1, g2, sz.1, sz.2.2, by omega, P, B, p1, fun _ => ⟨t1, t2, fun p => by rw [eA]; exact p2 p⟩, fun tk2 ht => ?_⟩
      have q := p3 tk2 ht
      rw [kUx_eq, kUx2] at q
      rw [eA]
      refine At_mk E h1 hRm hlk.1 (s := r) (R := R) ?_
      refine fin q (fun u w l hu _ hh => ?_) (kpA E.2.2.2.2.2.2.2.2.1 hlk hmk · (fun q => q)) (fun v π q => kpL E.2.2.2.2.2.2.2.2.1 hmk v π (fun q => q) q)
      rcases hu with hu | hu | ⟨rfl, hu⟩
      · exact hlk.2.1 u l (fun q => q) (Or.inl hu.1) hh
      · exact hlk.2.1 u l (fun q => q) (Or.inr hu) hh
      · exact h3 l hu hh
/-- SCOPE -/
theorem s_scp (E : sgE y z F X G rs a b n yp yt k N L Rm (tb g) rl pl me (vt g)) (hy : kYs y z vt vo vc) (h : At y z vt vo vc tb hp a b k N L Rm g f x An fb i tk c top fil) (ho : F 0 i = nI 32) : ∃ v0 v1 : Nat, F 1 i = nI v0 ∧ F 2 i = nI v1 ∧ v0 ≤ v1 ∧ v1 ≤ 40 ∧ ∃ (P : Nat → Nat → Int32 → Prop) (B : Nat → Prop), drC y z c hp top P B ∧ (∀ (v : Nat) (p : Int32) (s : List tE), k i = some s → (8, v, 0) ∈ s → v0 ≤ v → v < v1 → (∀ q : Nat, q < 16 → ibit p q = true → fil f v q) → P (vt g v) (fb f + vo g v) p) ∧ ∀ (tk2 : Nat → Prop) (fil2 : Nat → Nat → Nat → Prop), (∀ k : Nat, tk k → ¬ B k → tk2 k) → (∀ j w : Nat, ¬ (j = f ∧ v0 ≤ w ∧ w < v1) → fil2 j w = fil j w) → At y z vt vo vc tb hp a b k N L Rm g f x An fb (i + 1) tk2 c top fil2 := by
  obtain ⟨s, R, hs, ha, hb, hN, hR, hk⟩ := h
  obtain ⟨v0, v1, O, r, ⟨g1, -⟩, g2, g3, g4, rfl, g5, g6, h1⟩ := ce_op E.2.1 ha hb hs ho (by decide)
  obtain ⟨e1, e2⟩ := E.2.2.2.2.2.2.2.1 i 32 _ ha hb hs ho (by decide) hN hR
  obtain ⟨hlk, hck⟩ := e1.2.2.2.2.2.2.2.2.2.2.1 rfl v0 v1 g3 g4 g1 g2
  have hmk := e2.2.1 (by omega)
  have hRm := e2.1 (by omega)
  have all8 : ∀ e : tE, e ∈ O ++ r → ∃ v : Nat, e = (8, v, 0) := fun e he => by
    rcases List.mem_append.mp he with q | q
    · obtain ⟨v, q, -⟩ := g5 e q; exact ⟨v, q⟩
    · obtain ⟨v, q, -⟩ := g6 e q; exact ⟨v, q⟩
  have hno : ∀ r9 m9 : Nat, (5, r9, m9) ∉ O ++ r ∧ (6, r9, m9) ∉ O ++ r := fun r9 m9 => ⟨fun q => by
    obtain ⟨v, q⟩ := all8 _ q; injection q with q; exact absurd q (by decide), fun q => by
    obtain ⟨v, q⟩ := all8 _ q; injection q with q; exact absurd q (by decide)⟩
  have w0 : wl (O ++ r) = 0 := wl_8 all8
  have wr : wl r = 0 := wl_8 (fun e he => all8 e (List.mem_append_right _ he))
  obtain ⟨P, B, p1, p2, p3⟩ := kS_scp (O := O) (S2 := r) (v0 := v0) (v1 := v1) (al2 := fun u => u < 40 ∧ N.2.1 (i + 1) u ∧ ¬ L (i + 1) u []) (lo2 := L (i + 1)) hy (sg_16 E) hk (by rw [kUx_eq]; rfl) g2 (by rw [kUx_eq]; exact hno) (by rw [kUx_eq]; rfl) g5 (fun v q1 q2 q3 => by
    obtain ⟨w, q4, q5⟩ := g6 _ q3
    injection q4 with _ q4
    injection q4 with q4 _
    omega) (by
    rw [kUx_eq]
    intro u hu q
    refine ⟨q.1, hlk.2.2 u q.1 (by omega) q.2.1, fun z9 => q.2.2 (kpL E.2.2.2.2.2.2.2.2.1 hmk u [] (fun q => q) z9)⟩) (by
    rw [kUx_eq]
    exact fun w π _ hn q => hn (kpL E.2.2.2.2.2.2.2.2.1 hmk w π (fun q => q) q)) (by
    rw [kUx_eq]
    intro u l hu ho9 hh hl t1 t2
    exact hck u l (hu.imp (fun z => ⟨z.1, z.2.2.1⟩) (fun z => z)) ho9 hh hl t1 t2)
  rw [kUx_eq] at p2
  refine ⟨v0, v1, g3, g4, g1, g2, P, B, p1, fun v p s9 hs9 hm q1 q2 hb9 => p2 v p q1 q2 ?_ hb9, fun tk2 fil2 ht hf => ?_⟩
  · obtain rfl : O ++ r = s9 := some_i (hs.symm.trans hs9)
    exact hm
  · have q := p3 tk2 fil2 ht hf
    rw [kUx_eq, kUx2] at q
    have q : kS y z vt vo vc tb hp tk2 c f (kUx x f (g, r, 0, (fun u => if v0 ≤ u ∧ u < v1 then none else R u), N.1 i, (fun u => u < 40 ∧ N.2.1 (i + 1) u ∧ ¬ L (i + 1) u []), L (i + 1), An)) fb top fil2 := q
    refine At_mk E h1 hRm hlk.1 (s := r) (R := fun u => if v0 ≤ u ∧ u < v1 then none else R u) ?_
    refine fin q (fun u w l hu hr hh => ?_) (fun u q => q) (fun v π q => q)
    by_cases c9 : v0 ≤ u ∧ u < v1
    · have hr : (if v0 ≤ u ∧ u < v1 then none else R u) = some w := hr
      rw [if_pos c9] at hr; simp at hr
    · rcases hu with hu | hu | ⟨rfl, r9, m9, hu⟩
      · exact hlk.2.1 u l c9 (Or.inl hu.1) hh
      · rw [wr] at hu; omega
      · exact absurd hu (by rintro (q | q); exact (hno r9 m9).1 (List.mem_append_right _ q); exact (hno r9 m9).2 (List.mem_append_right _ q))
end
