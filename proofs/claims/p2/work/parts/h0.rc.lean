section
variable {y : qY} {z : qZ} {vt vo : Nat → Nat → Nat} {vc : Nat → Nat} {tb : Nat → lTb} {hp top : Nat} {tk : Nat → Prop} {c c2 : Nat → Int} {f : Nat} {x : Nat → kFm} {fb : Nat → Nat} {fil : Nat → Nat → Nat → Prop}
/-- cells above the top don't matter -/
theorem kS_cc (hy : kYs y z vt vo vc) (h : kS y z vt vo vc tb hp tk c f x fb top fil) (hc : ∀ k : Nat, k < top → c2 k = c k) : kS y z vt vo vc tb hp tk c2 f x fb top fil := by
  obtain ⟨rt, ra, V, hJ, hL⟩ := h
  have hL0 := hL
  obtain ⟨l0, l1, l2, l3, l4, l5, l6, l7, l8, l9⟩ := hL
  have hcc := kTopC hy hJ hL0 hc
  have own : ∀ (r : Nat × Nat) (w : Nat × Nat), V r [] = some w → c2 (ra r) = c (ra r) := fun r w hw => hcc r [] w hw
  have ads : ∀ (a : lLc) (T : Nat), qTg y rt V a T → qAd y z c2 rt ra a = qAd y z c rt ra a := fun a T ha => qAd_pl hJ.1 ha (fun _ _ _ => ⟨rfl, rfl⟩) (fun r2 π2 π1 w e2 hw _ _ => hcc r2 π1 w hw)
  refine ⟨rt, ra, V, hJ, qMm_c l0 hcc, fun j hj u a hu ha hw => ?_, fun j hj => kAk_cg (hJ.2.2.2.2.1 j hj) (l2 j hj) (fun _ _ => rfl) (fun u w _ _ hw => own (j, u) w hw), l3, l4, l5, l6, fun j hj v v4 hv π t g1 g2 g3 g4 => l7 j hj v v4 hv π t g1 g2 g3 ?_, l8, l9⟩
  · have l1u := l1 j hj u a hu ha hw
    obtain ⟨w, hw⟩ := hw
    rw [own (j, u) w hw, l1u]
    rcases hu with hu | hu
    · rw [ads a _ (hJ.2.2.1 j hj u a hu ha).2]
    · subst hu
      have h7 : ∃ q2 r2 m : Nat, kPm y rt V j (tb (x j).1) (x j) q2 r2 m := by
        rcases (hJ.2.2.2.2.2.1 j 300 [] w hw).2.1 with ⟨b1, b2⟩ | ⟨b1, b2⟩ | ⟨b1, r2, m, b2⟩ | ⟨r2, m2, i, b1, b2, b3⟩
        · omega
        · have := hJ.2.2.2.2.2.2.2.2 j hj
          omega
        · have h7 := hJ.2.2.2.2.2.2.2.1 j hj r2 m
          rcases b2 with b2 | b2
          · exact ⟨5, r2, m, (h7.1 b2).2⟩
          · exact ⟨6, r2, m, (h7.2 b2).2⟩
        · omega
      obtain ⟨q2, r2, m, a0, π0, p1, p2, p3, p4, -⟩ := h7
      obtain rfl := Option.some.inj (p1.symm.trans ha)
      refine congrArg Int.ofNat (?_ : qAd y z c2 rt ra (a0 :: π0) = qAd y z c rt ra (a0 :: π0)).symm
      exact qA_pl (hJ.1 a0) (qPl_of p4) p3 (fun π1 w hw _ _ => hcc a0 π1 w hw)
  · have e := qA_sh (z := z) (c := c2) (c2 := c) (a := 0) (b := 0) g2 (qN_M g1)
    have e9 : qA y z c2 (vt (x j).1 v) 0 π = qA y z c (vt (x j).1 v) 0 π := by omega
    rw [← e9]; exact g4
end
section
variable {D : mD} {f g i j tp mln : Nat} {x : Nat → kFm} {An : Nat → lLc → Nat → Prop} {fb : Nat → Nat} {ft ff gt gf : Nat → Int32} {fc gc : Nat → Int64} {k0 : Nat → Option Nat} {k1 k2 : Nat → Int32}
/-- what the class's rows tell of the functions -/
def mRw (D : mD) (nc : Nat → Nat → Int32) (nr : Nat → Nat → Nat → Int32) : Prop := ∀ g : Nat, g < D.nb → nc g 9 = nI (D.aa g) ∧ nc g 4 = nI (psum D.z (D.vt g) (D.G g 0)) ∧ nc g 8 = nI (D.vc g) ∧ nc g 7 = nI (D.nv g) ∧ nc g 3 = nI (D.G g 0) ∧ (∃ lv : Nat, nc g 2 = nI lv) ∧ D.G g 0 ≤ D.nv g ∧ (∀ v : Nat, v < 40 → D.FG g 15 v ≠ -1 → nr g 3 v = D.FG g 15 v) ∧ (∀ v : Nat, v < D.G g 0 → D.FG g 15 v ≠ -1) ∧ nr g 5 = D.FG g 17
theorem psum_le {z : qZ} {p : Nat → Nat} (hz : ∀ t : Nat, z.1 t ≤ 16) : ∀ n : Nat, psum z p n ≤ 16 * n
  | 0 => Nat.le_refl _
  | n + 1 => by
    show psum z p n + z.1 (p n) ≤ 16 * (n + 1)
    have := psum_le hz (p := p) n
    have := hz (p n)
    omega
/-- a function that is called -/
theorem Q_ca (hO : mOk D) {nc : Nat → Nat → Int32} {nr : Nat → Nat → Nat → Int32} (hR : mRw D nc nr) {g2 : Nat} (hg2 : g2 < D.nb) : ∃ lv : Nat, caF nc nr g2 (D.aa g2) (psum D.z (D.vt g2) (D.G g2 0)) (D.vc g2) (D.nv g2) (D.G g2 0) lv := by
  obtain ⟨r1, r2, r3, r4, r5, ⟨lv, r6⟩, r7, r8, r9, -⟩ := hR g2 hg2
  obtain ⟨E, En, hab, h17, hvc, -⟩ := hO.2.2.2.2 g2 hg2
  have h40 := mE_n E
  have hnb := hO.2.1
  refine ⟨lv, by omega, r1, r2, r3, ⟨r4, h40⟩, ⟨r5, by omega⟩, r6, fun v hv => ?_, by omega⟩
  obtain ⟨T, t1, t2, -⟩ := Q_ty E (show v < 40 by omega) (r9 v hv)
  exact ⟨T, (r8 v (by omega) (r9 v hv)).trans t1, t2⟩
theorem enF_cg {y : qY} {z : qZ} {F F2 : tF} {G : Nat → Nat → Nat} {yp yt a : Nat} {k : Nat → Option (List tE)} {N : lK} {Rm : Nat → Prop} {tb : lTb} {rl : Nat → Int32} {pl : Nat → Nat → Int32} {me : Int32} {vt vo : Nat → Nat → Nat} {g : Nat} (h20 : F2 20 = F 20) (h21 : F2 21 = F 21) (h : enF y z F G yp yt a k N Rm tb rl pl me vt vo g) : enF y z F2 G yp yt a k N Rm tb rl pl me vt vo g := by
  obtain ⟨P, p1, p2, p3, p4, p5, p6, p7⟩ := h
  refine ⟨P, p1, p2, p3, p4, p5, fun q hq => ?_, p7⟩
  obtain ⟨z1, z2, z3⟩ := p6 q hq
  refine ⟨by rw [h20]; exact z1, ?_, z3⟩
  rw [z2]
  unfold ymF
  rw [h20, h21]
/-- a call -/
theorem Q_C (hO : mOk D) (hrow : ∀ g0 : Nat, g0 < D.nb → D.FG g 20 = D.FG g0 20 ∧ D.FG g 21 = D.FG g0 21) (hGb : ∀ g : Nat, g < 40 → D.G g 1 < 3040 → g < D.nb) {nc : Nat → Nat → Int32} {nr : Nat → Nat → Nat → Int32} (hR : mRw D nc nr) {az : Nat → Int32} {kn bs : Nat} (hQ : QMd D kn g bs k0 k1 k2 mln i ft fc tp ff) (ho : D.FG g 0 i = nI 21) : ∃ g2 cf ac vc vn np lv : Nat, D.FG g 1 i = nI g2 ∧ caF nc nr g2 cf ac vc vn np lv ∧ ac ≤ tp ∧ ∀ (ml2 : Nat) (gc : Nat → Int64) (gf : Nat → Int32) (g0 : Nat → Option Nat) (g1 g3 : Nat → Int32), kn < 60 → grC fc gc mln ml2 (tp - ac + vc + 3600) → (∀ j : Nat, g0 j = if j = kn then some (D.na g 0) else k0 j) → (∀ j : Nat, g1 j = if j = kn then nI (i + 1) else k1 j) → (∀ j : Nat, g3 j = if j = kn then nI bs else k2 j) → fiC az nr g2 kn vn np ff gf → QMd D (kn + 1) g2 (tp - ac) g0 g1 g3 ml2 cf ft gc (tp - ac + vc) gf := by
  obtain ⟨f, x, An, fb, rfl, hf, hg, rfl, hb, hfl, hch, hA⟩ := hQ
  obtain ⟨E, En, hab, h17, hvc, h32⟩ := hO.2.2.2.2 g hg
  have hy := hO.1
  obtain ⟨s, hs, ha, hib, hi6, hN, hRm, et, h33, het⟩ := mAt_b hO hg hA
  have hfl0 := hfl s hs
  obtain ⟨g2, r9, ⟨c1, c2⟩, c3, c4, c5⟩ := ce_op E.2.1 ha hib hs ho (by decide)
  have hg2 := hGb g2 c1 c2
  obtain ⟨E2, En2, hab2, h172, hvc2, -⟩ := hO.2.2.2.2 g2 hg2
  have En3 : enF D.y D.z (D.FG g) D.G D.yp D.yt (D.aa g2) (D.kk g2) (D.NN g2) (D.RR g2) (D.tb g2) D.rl D.pl (D.rl g2) D.vt D.vo g2 := enF_cg (hrow g2 hg2).1 (hrow g2 hg2).2 En2
  have q1 := (s_call (L2 := D.LL g2) E hy hA ho c3 c1 hab2 En3).1
  obtain ⟨lv, hca⟩ := Q_ca hO hR hg2
  have h402 := mE_n E2
  refine ⟨g2, _, _, _, _, _, lv, c3, hca, q1, fun ml2 gc gf g0 g1 g3 hk60 hgr hg0 hg1 hg3 hfi => ?_⟩
  have hgf : ∀ j : Nat, j < 40 * (f + 1) → gf j = ff j := fun j hj => by rw [hfi j, if_neg (by omega)]
  have hml : mln ≤ ml2 ∧ tp - psum D.z (D.vt g2) (D.G g2 0) + D.vc g2 + 3600 ≤ ml2 ∧ ml2 ≤ 600000 ∧ ∀ k : Nat, k < mln → gc k = fc k := by
    rcases hgr with ⟨w1, rfl, rfl⟩ | ⟨w1, rfl, w3⟩
    · exact ⟨Nat.le_refl _, w1, hb.2.1, fun _ _ => rfl⟩
    · exact ⟨by omega, by omega, by omega, w3⟩
  have hA2 : mAt D g f x An fb i ft gc tp ff := by
    obtain ⟨s3, R3, z1, z2, z3, z4, z5, z6⟩ := hA
    refine ⟨s3, R3, z1, z2, z3, z4, z5, kS_cc hy z6 (fun k hk => ?_)⟩
    unfold cI
    rw [hml.2.2.2 k (by omega)]
  obtain ⟨-, r, R, q2, q3, q4, q5, q6, q7, q8, q9, q10⟩ := s_call (L2 := D.LL g2) E hy hA2 ho c3 c1 hab2 En3
  have hAt := q10 (filP gf) (fun j hj => funext fun v => funext fun q => by
    unfold filP
    by_cases hv : v < 40
    · rw [hgf (40 * j + v) (by omega)]
    · exact propext ⟨fun z => absurd z.1 hv, fun z => absurd z.1 hv⟩)
  obtain ⟨fb2, hfb⟩ : ∃ fb2 : Nat → Nat, fb2 = fun j => if j = f + 1 then tp - psum D.z (D.vt g2) (D.G g2 0) else fb j := ⟨_, rfl⟩
  have b1 : fb2 (f + 1) = tp - psum D.z (D.vt g2) (D.G g2 0) := by rw [hfb]; exact if_pos rfl
  have b0 : ∀ j : Nat, j ≤ f → fb2 j = fb j := fun j hj => by rw [hfb]; exact if_neg (by omega)
  rw [← hfb] at hAt
  refine ⟨f + 1, kUx x f (Cf (D.NN g) (D.LL g) g i r (D.G g2 0) R An), kAo D.y (D.vt g2) R (wl r) (D.G g2 0) (ouF D.pl g2), fb2, rfl, by omega, hg2, b1.symm, ⟨by omega, hml.2.2.1, by rw [b1]; exact hml.2.1, by rw [b1]; omega⟩, fun s2 hs2 v h1 h2 => ?_, ?_, ?_⟩
  · rw [hfi] at h2
    have hn : 40 * (f + 1) ≤ 40 * (f + 1) + v ∧ 40 * (f + 1) + v < 40 * (f + 1) + D.nv g2 := by omega
    rw [if_pos hn, show 40 * (f + 1) + v - 40 * (f + 1) = v by omega] at h2
    have hv : v < D.G g2 0 := by
      rcases Nat.lt_or_ge v (D.G g2 0) with z | z
      · exact z
      · rw [if_neg (by omega)] at h2; exact absurd rfl h2
    obtain ⟨P, p1, p2, -⟩ := En2
    rw [hs2] at p1
    obtain rfl := Option.some.inj p1
    exact ⟨(p2 _).mpr ⟨v, rfl, hv⟩, (hR g2 hg2).2.2.2.2.2.2.2.2.1 v hv⟩
  · refine ⟨g, i, r, R, An, hg, kUx_eq, ⟨q2, q3, q4, q5, q6, q7, q8, ho, c3, c1⟩, rfl, (hg0 (f + 1)).trans (if_pos rfl), (hg1 (f + 1)).trans (if_pos rfl), ⟨(hg3 (f + 1)).trans ((if_pos rfl).trans (by rw [b0 f (Nat.le_refl _)])), by rw [b0 f (Nat.le_refl _)]; exact hb.2.2.2⟩, fun v h1 h2 => ?_, ?_⟩
    · rw [hgf _ (by have := mE_n E; omega)] at h2
      obtain ⟨z1, z2⟩ := hfl0 v h1 h2
      rw [hs] at q2
      have q2 := Option.some.inj q2
      rw [q2] at z1
      exact ⟨e8_A _ z1, z2⟩
    · refine chn_cg f (fun j hj => ⟨?_, b0 j (by omega)⟩) (fun j hj => ⟨(hg0 j).trans (if_neg (by omega)), (hg1 j).trans (if_neg (by omega)), (hg3 j).trans (if_neg (by omega))⟩) (fun k hk hne => by rw [hgf k (by omega)] at hne; exact hne) rfl (fun g hg => mE_n (hO.2.2.2.2 g hg).1) hch
      unfold kUx
      rw [if_neg (by omega)]
  · exact hAt
end
