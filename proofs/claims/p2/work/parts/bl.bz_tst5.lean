/-- an assignment: the value, then the place, then the instruction -/
theorem l_asg {yp rs k tt nw r p2 q n1 n2 n3 b1 b2 T qt2 qv2 ql2 : Nat} {X : tF} {G : Nat → Nat → Nat} {ft f1 f2 f3 : Int32} {s u x y w t : tgS} {qv ql : Nat} {qp qm qp2 qa2 qr2 qm2 qf : Int32} (hv : tRw yp X G (rs + 4096 * k) tt (r + 1) p2 n1 b2 ft f1 s u T qv ql qp qm) (hrs : rs < 4096) (hk : k ≤ 16) (hS : x = u ∨ ∃ v z : Nat, tSe u x v T z ∧ v < u.1 4 ∧ u.2 15 v = -1 ∧ (f3 = 0 → tyV yp (u.1 7) (u.2 20) T) ∧ u.2 22 T = nI z ∧ z ≤ 17) (hl : tRs yp X G (rs + 4096 * k) tt nw r n2 b1 1 f1 f2 x y qt2 qv2 ql2 qp2 qa2 qr2 qm2) (hP : tPl y w (nI qv2) qa2 (nI ql2) qr2 (nI qt2) (y.2 22 qt2) (aN qf)) (hA : tAd w t 26 (nI (y.1 2)) 0 0 (-1)) (hJ : tJ t) (hJx : tJ x) (h4 : s.1 4 ≤ 40) (hn : n3 < tt) (hf : f3 ≠ 0 → n3 = tt - 1) (h2 : f3 = 0 → f2 = 0 ∧ n3 = q ∧ T = qt2 ∧ (ql2 = 0 ∨ qm2 ≠ 0)) (hp : f3 = 0 → nw < r ∧ r + 1 < p2 ∧ p2 < q) (hcp : ft = 0 → tCq X nw q s) : tSs 1 yp X G rs tt nw q n3 (b1 + b2) 0 ft f3 s t 0 qt2 qv2 ql2 qp2 qm2 := by
  obtain ⟨⟨a1, a2, a3, a4, a5, a6⟩, h5⟩ := hv
  obtain ⟨⟨c1, c2, c3, c4, c5, c6⟩, h6⟩ := hl
  have x45 : x.1 4 = u.1 4 ∧ x.1 5 = u.1 5 := by
    rcases hS with rfl | ⟨v, z, hS, -⟩
    · exact ⟨rfl, rfl⟩
    · exact ⟨hS.2.1 4 (by decide), hS.2.1 5 (by decide)⟩
  have t4 : t.1 4 = y.1 4 := by rw [hA.1 4 (by decide), hP.1 4 (by decide)]
  have t5 : t.1 5 = y.1 5 := by rw [hA.1 5 (by decide), hP.1 5 (by decide)]
  refine ⟨⟨hn, hf, hJ, c4, by omega, by omega, Or.inl rfl⟩, fun z => ?_⟩
  obtain ⟨y1, y2, y3, y4⟩ := h2 z
  obtain ⟨p1, p3, p4⟩ := hp z
  obtain ⟨g1, g2, g3, g4, g5⟩ := h6 y1
  obtain ⟨e1, e2, e3, e4, e5⟩ := h5 g1
  obtain ⟨w0, w1, w2, w3, w7⟩ := hcp e1
  have hq1 := g4 rfl
  obtain ⟨-, rfl, hpl⟩ : qp2 = 1 ∧ y = x ∧ plV yp X x qv2 ql2 qa2 qr2 qt2 qm2 := g5.elim id (fun q9 => absurd (hq1.symm.trans q9.1) (by decide))
  have cl1 := cL_le (X := X) (show nw ≤ r + 1 by omega); have cl2 := cL_le (X := X) (show r + 1 ≤ p2 by omega); have cl3 := cL_le (X := X) (show p2 ≤ q by omega)
  obtain ⟨r0, r1, r2, r3, r7⟩ := e5.2.2.1
  have ox : tOK (s.1 1) 0 0 0 0 0 u y (fun _ a b => b = a) := by
    rcases hS with rfl | ⟨v, zz, hS, hv1, hv2, -⟩
    · exact tOK_mn tOK_rf (Nat.le_refl _) (by omega) (fun F hF y => rfl)
    · exact tOK_se (lo := s.1 1) hS hv2
  have x0 : y.1 0 = u.1 0 ∧ y.1 2 = u.1 2 := by
    rcases hS with rfl | ⟨v, zz, hS, -⟩
    · exact ⟨rfl, rfl⟩
    · exact ⟨hS.2.1 0 (by decide), hS.2.1 2 (by decide)⟩
  have hy2 : y.1 2 < 3001 := by omega
  have hw0e := hP.1 0 (by decide)
  have hw0 : w.1 0 < 6000 := by omega
  have hIw := tI_pl g3 hP
  have hIt := tI_ad hIw hA hw0 (by unfold isL; decide)
  have t0 : t.1 0 = w.1 0 + 1 := (insA_lt hA.2.2.1 hw0).1
  have k1 := tOK_nc e5 ox
  have k2 := tOK_seq (tOK_seq k1 (tOK_pl (lo := s.1 1) hP hy2)) (tOK_ad (lo := s.1 1) hA hw0 (by unfold isL; decide))
  refine ⟨e1, y2, hIt, [], nwI_0 (by omega), tOK_mn k2 (Nat.le_refl _) (by omega) (fun F hF hz J O hO => ?_)⟩
  obtain ⟨m, m1, m2, ⟨m', m3, m4, v1, v2⟩, v3⟩ := hz
  obtain ⟨rfl, f6, f7, f8, f9, f10, f11, f12⟩ := v2
  obtain ⟨b1', k0, kk1, -⟩ := v3
  have hv0 := scI_vl hO.1
  have x1 := s_val (J := J) hrs hk v1 hO
  have hFt := hF.2.2.2
  have hxy : tXt y t := tXt_tr (tOK_pl (lo := 0) hP hy2).1 (tXt_ad hA hw0)
  have hFy := tFu_dn hFt hxy
  have h7 : y.1 7 ≤ 3040 := hJx.2.2.2.2.2.2.1
  have hT9 : qt2 < y.1 7 := hpl.2.2.2.2
  have k22 := hFy.1 22 (by decide) (by decide) qt2 hT9
  have hpi : plI F X (y.1 2) qv2 ql2 qt2 qa2 qr2 qm2 := ⟨⟨hy2, by rw [f11]; exact aN_ge _⟩, c4.2.1, c4.2.2.1, by omega, f6, f7, f8, f9, f10, by rw [f12, k22], plS_F hpl.1 hpl.2.1.1 hFy h7 _ _ _ _ _ hpl.2.2.1⟩
  have hop9 := (tOK_seq (tOK_pl (lo := 0) hP hy2) (tOK_ad (lo := 0) hA hw0 (by unfold isL; decide))).2.1.2
  have su0 := e5.1.1 0 (by decide)
  have hm9 : (8, qv2, 0) ∈ O := sc_mem hO.2 hxy hop9 hFt hpl.1 (by omega) hpl.2.1.2 (by omega)
  rw [if_neg (by decide), b1']
  rw [y3] at x1
  exact sg_app x1 (sg_one (o := 26) k0 ⟨y.1 2, qv2, kk1, hy2, f6, c4.2.1⟩ (sg_end x1 m3) (vs (show vl O ≤ 211 by omega)) (fun k9 hk9 => ⟨y.1 2, qv2, ql2, qt2, qa2, qr2, qm2, O, kk1, hpi, y4, rfl, hk9⟩) (hvi := Or.inr (vIs_pl (o := 26) k0 (Or.inr (Or.inr (Or.inr rfl))) kk1 hy2 f6 c4.2.1 (List.mem_cons_of_mem _ hm9)))) m3 (Nat.le_succ _)
