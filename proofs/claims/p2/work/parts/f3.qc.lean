/-- frame f waits at i for a call of g2 -/
def Wt (F : tF) (G : Nat → Nat → Nat) (a b : Nat) (k : Nat → Option (List tE)) (N : lK) (Rm : Nat → Prop) (i g2 : Nat) (r : List tE) : Prop := k i = some (tAs F G g2 (G g2 0) ++ r) ∧ k (i + 1) = some (tNf F (G g2 1) :: r) ∧ N.2.2 i ∧ Rm i ∧ a ≤ i ∧ i < b ∧ wl r < 211 ∧ F 0 i = nI 21 ∧ F 1 i = nI g2 ∧ g2 < 40
section
variable {y : qY} {z : qZ} {vt vo : Nat → Nat → Nat} {vc : Nat → Nat} {tb : Nat → lTb} {hp : Nat} {tk tk2 : Nat → Prop} {c c2 : Nat → Int} {f g i j : Nat} {x : Nat → kFm} {An : Nat → lLc → Nat → Prop} {fb : Nat → Nat} {top top2 : Nat} {fil fil2 : Nat → Nat → Nat → Prop} {N : lK} {L : Nat → Nat → lLc → Prop} {Rm : Nat → Prop} {F X : tF} {G : Nat → Nat → Nat} {rs a b n yp yt : Nat} {k : Nat → Option (List tE)} {rl : Nat → Int32} {pl : Nat → Nat → Int32} {me : Int32} {s s2 r : List tE} {R R2 : Nat → Option lLc} {rs2 g2 a2 b2 i2 n2 : Nat} {k2 : Nat → Option (List tE)} {N2 : lK} {L2 : Nat → Nat → lLc → Prop} {Rm2 : Nat → Prop} {F2 : tF} {me2 : Int32}
/-- the caller's frame is told behind the call -/
theorem fin_r {e : tE} {ro : Option lLc} {H2 : Nat → Nat → Prop} (h : kS y z vt vo vc tb hp tk c f (kUx x f (g, e :: r, 0, lUp R (40 + wl r) ro, H2, (fun u => u < 40 ∧ N.2.1 j u ∧ ¬ L j u []), L j, An)) fb top fil) (he : kNm e) (hv : vl (e :: r) ≤ 211) (h1 : lkp N i j (wl r) (fun _ => False)) (hH : ∀ u l : Nat, u ≠ 40 + wl r → H2 u l → N.1 i u l) (hh9 : ∀ (q : lLc) (l : Nat), ro = some q → H2 (40 + wl r) l → N.1 j (40 + wl r) l) : kS y z vt vo vc tb hp tk c f (kUx x f (Fr N L g j (e :: r) (lUp R (40 + wl r) ro) An)) fb top fil := by
  refine fin h (fun u w l hu hr hh => ?_) (fun u q => q) (fun v π q => q)
  rcases hu with hu | hu | ⟨rfl, r9, m9, hu⟩
  · exact h1.2.1 u l (fun q => q) (Or.inl hu.1) (hH u l (by omega) hh)
  · rw [wl_n he] at hu
    by_cases e9 : u = 40 + wl r
    · rw [e9, lUp_eq] at hr
      rw [e9] at hh ⊢
      exact hh9 w l hr hh
    · exact h1.2.1 u l (fun q => q) (Or.inr ⟨hu.1, by omega⟩) (hH u l e9 hh)
  · exfalso
    have n5 := no56 (vl_no (vl_1 hv he)) r9 m9
    rcases hu with hu | hu
    · rcases List.mem_cons.mp hu with q | q
      · exact he (Or.inr (Or.inr (Or.inl (by rw [← q]))))
      · exact n5.1 q
    · rcases List.mem_cons.mp hu with q | q
      · exact he (Or.inr (Or.inr (Or.inr (by rw [← q]))))
      · exact n5.2 q
/-- what a returning call asks and gives -/
def rtG (y : qY) (z : qZ) (vt vo : Nat → Nat → Nat) (vc : Nat → Nat) (tb : Nat → lTb) (hp : Nat) (a b : Nat) (k : Nat → Option (List tE)) (N : lK) (L : Nat → Nat → lLc → Prop) (Rm : Nat → Prop) (g f : Nat) (x : Nat → kFm) (An : Nat → lLc → Nat → Prop) (fb : Nat → Nat) (i : Nat) (tk : Nat → Prop) (c : Nat → Int) (top : Nat) (fil : Nat → Nat → Nat → Prop) (F2 : tF) (k2 : Nat → Option (List tE)) (g2 i2 : Nat) : Prop := ∃ T m : Nat, F2 1 i2 = nI T ∧ T < 3040 ∧ F2 22 T = nI m ∧ m ≤ 16 ∧ top = fb (f + 1) + vc g2 + m ∧ ∃ (P : Nat → Nat → Int32 → Prop) (B : Nat → Prop), drC y z c hp top P B ∧ (∀ (v : Nat) (p : Int32) (s : List tE), k2 i2 = some s → v < 40 → (8, v, 0) ∈ s → (∀ q : Nat, q < 16 → ibit p q = true → fil (f + 1) v q) → P (vt g2 v) (fb (f + 1) + vo g2 v) p) ∧ ∀ (tk2 : Nat → Prop) (c2 : Nat → Int) (fil2 : Nat → Nat → Nat → Prop), (∀ k : Nat, tk k → ¬ B k → tk2 k) → (∀ q : Nat, q < m → c2 (fb (f + 1) + q) = c (fb (f + 1) + vc g2 + q)) → (∀ k : Nat, ¬ (fb (f + 1) ≤ k ∧ k < fb (f + 1) + m) → c2 k = c k) → (∀ j : Nat, j ≤ f → fil2 j = fil j) → ∃ x2 : Nat → kFm, (∀ j : Nat, j ≤ f → x2 j = x j) ∧ At y z vt vo vc tb hp a b k N L Rm g f x2 An fb (i + 1) tk2 c2 (fb (f + 1) + m) fil2
/-- RETURN to a caller -/
theorem s_ret (E : sgE y z F X G rs a b n yp yt k N L Rm (tb g) rl pl me (vt g)) (E2 : sgE y z F2 X G rs2 a2 b2 n2 yp yt k2 N2 L2 Rm2 (tb g2) rl pl me2 (vt g2)) (hF0 : F2 20 = F 20) (hF1 : F2 21 = F 21) (hrs : rs2 = G g2 1) (hme : me2 = rl g2) (hou : ∀ q : Nat, q < G g2 0 → (tb g2).2.2.2.1 (ouF pl g2 q) ∧ (pl g2 q < 0 ∨ ∃ w : Nat, w < 8 ∧ pl g2 q = nI w)) (hrl : rl g2 < 0 ∨ ∃ w : Nat, w < 8 ∧ rl g2 = nI w) (hy : kYs y z vt vo vc) (W : Wt F G a b k N Rm i g2 r) (hx : x f = Cf N L g i r (G g2 0) R An) (h : At y z vt vo vc tb hp a2 b2 k2 N2 L2 Rm2 g2 (f + 1) x (kAo y (vt g2) R (wl r) (G g2 0) (ouF pl g2)) fb i2 tk c top fil) (ho : F2 0 i2 = nI 22) : rtG y z vt vo vc tb hp a b k N L Rm g f x An fb i tk c top fil F2 k2 g2 i2 := by
  obtain ⟨s, R9, hs, ha, hb, hN, hR, hk⟩ := h
  obtain ⟨T, O, g1, ⟨gT, -, -⟩, g3, g4, gO⟩ := ce_op E2.2.1 ha hb hs ho (by decide)
  obtain ⟨w1, w2, w3, w4, w5, w6, w7, w8, w9, w0⟩ := W
  obtain ⟨y0, y1, y2, y3, z1, z2, z3⟩ := sg_p E
  have eN : ∀ T : Nat, tNf F2 T = tNf F T := fun T => by unfold tNf; rw [hF0, hF1]
  have eT : G g2 1 = T := by rw [← hrs]; exact gT.symm
  rw [eT] at w2
  have hO : ∀ a : tE, a ∈ O → ∃ v : Nat, a = (8, v, 0) := fun a ha9 => by
    obtain ⟨v, q, -⟩ := gO a ha9
    exact ⟨v, q⟩
  obtain ⟨e1, e2⟩ := E.2.2.2.2.2.2.2.1 i 21 _ w5 w6 w1 w8 (by decide) w3 w4
  obtain ⟨hlk, hres⟩ := e1.2.2.2.2.2.2.2.2.2.2.2.1 rfl g2 w9 w0
  rw [wl_app, wl_as, show G g2 0 + wl r - G g2 0 = wl r by omega] at hlk hres
  have hRm := e2.1 (by omega)
  have hj := E.2.2.2.2.2.2.2.2.2.2.2.1.2 (i + 1) hRm
  have hv1 := E.2.2.1 (i + 1) _ hj.1 hj.2 w2
  obtain ⟨f1, f2⟩ := E2.2.2.2.2.2.2.2.1 i2 22 _ ha hb hs ho (by decide) hN hR
  have r22 := f1.2.2.2.2.2.2.2.2.2.2.2.2.1 rfl
  have fz : F2 20 0 = 0 ∧ F2 22 0 = 0 := ⟨E2.1.1.1.2.2.2.1.1, E2.1.1.1.2.2.2.2.1.1⟩
  have ez : F 20 0 = 0 := E.1.1.1.2.2.2.1.1
  have fNf : ∀ j : Nat, j ≤ f → kUx x (f + 1) (Fr N2 L2 g2 i2 s R9 (kAo y (vt g2) R (wl r) (G g2 0) (ouF pl g2))) j = x j := fun j hj9 => kUx_ne (by omega)
  have ef : kUx x (f + 1) (Fr N2 L2 g2 i2 s R9 (kAo y (vt g2) R (wl r) (G g2 0) (ouF pl g2))) f = Cf N L g i r (G g2 0) R An := by rw [fNf f (Nat.le_refl f)]; exact hx
  -- nothing comes back
  have none0 : T = 0 → ((∀ a : tE, a ∈ s → ∃ v : Nat, a = (8, v, 0)) ∨ ∃ (m : Nat) (O : List tE), s = (0, 0, m) :: O ∧ ∀ a : tE, a ∈ O → ∃ v : Nat, a = (8, v, 0)) → rtG y z vt vo vc tb hp a b k N L Rm g f x An fb i tk c top fil F2 k2 g2 i2 := fun t0 hc => by
    subst t0
    obtain ⟨et, -⟩ := At_s hk
    have e0 : khs z s = 0 := by
      rcases hc with q | ⟨m, O9, rfl, q⟩
      · exact khs_8 q
      · show khs z O9 + kes z (0, 0, m) = 0
        rw [khs_8 q]; rfl
    rw [e0] at et
    obtain ⟨P, B, p1, p2, p3⟩ := kS_ret0 hy (sg_16 E) hk (by rw [kUx_eq]; exact hc) (by rw [ef]; exact w7) y0 (al2 := fun u => u < 40 ∧ N.2.1 (i + 1) u ∧ ¬ L (i + 1) u []) (lo2 := L (i + 1)) (by rw [ef]; exact fun u q => q) (by rw [ef]; exact fun w π q => q)
    rw [kUx_eq] at p2
    refine ⟨0, 0, g1, by decide, fz.2, by decide, et, P, B, p1, fun v p s9 hs9 hv hm => ?_, fun tk2 c2 fil2 ht h1 h2 hf2 => ?_⟩
    · rw [hs] at hs9
      injection hs9 with hs9
      subst hs9
      exact p2 v p hv hm
    · have q := p3 tk2 fil2 ht hf2
      rw [ef] at q
      have ec : c2 = c := funext fun k => h2 k (by omega)
      subst ec
      rw [tNf_u (by decide) (by rw [ez]; decide) (by rw [ez]; decide)] at w2 hv1
      refine ⟨_, fNf, At_mk E w2 hRm hlk.1 (fin_r q nm0 hv1 hlk (fun u l _ q => q) (fun q l e9 => by simp at e9))⟩
  rcases g4 with ⟨c1, rfl⟩ | ⟨-, rfl, t0⟩
  · obtain ⟨r1, r2⟩ := r22 c1
    rw [wl_t, wl_8 hO] at r1 r2
    obtain ⟨et, -⟩ := At_s hk
    by_cases c0 : T = 0
    · have e9 : tNf F2 T = (0, 0, 0) := by
        rw [c0]
        exact tNf_u (by decide) (by rw [fz.1]; decide) (by rw [fz.1]; decide)
      exact none0 c0 (Or.inr ⟨0, O, by rw [e9], hO⟩)
    · by_cases hrf : F2 20 T = 5 ∨ F2 20 T = 6
      · have hU := E2.1.2.2.2.2.1 T g3 (by rcases hrf with q | q; exact Or.inr (Or.inl q); exact Or.inr (Or.inr q))
        have row := E2.1.1.1.2.2.2.2.2.2.2.1 T hU.1 hU.2
        have kk := sg_k E2 (T0 := T) ⟨Or.inr ⟨hU.1, hrf⟩, hU.2⟩
        have key : ∃ k9 U t : Nat, tNf F2 T = (k9, U, 0) ∧ U < 10000 ∧ ((k9 = 1 ∧ t = 10000 + 2 * U) ∨ (k9 = 2 ∧ t = 10001 + 2 * U)) := by
          rcases hrf with h5 | h6
          · obtain ⟨U, u1, u2, u3, u4, u5, u6⟩ := kk.1 h5
            exact ⟨1, U, _, u6, u2, Or.inl ⟨rfl, rfl⟩⟩
          · obtain ⟨U, u1, u2, u3, u4, u5, u6⟩ := kk.2.1 h6
            exact ⟨2, U, _, u6, u2, Or.inr ⟨rfl, rfl⟩⟩
        obtain ⟨k9, U, t, eU, u2, u3⟩ := key
        have nk : kNm (k9, U, 0) := by
          rcases u3 with ⟨rfl, -⟩ | ⟨rfl, -⟩ <;> (unfold kNm; simp)
        have ek : kes z (k9, U, 0) = 1 := by
          rcases u3 with ⟨rfl, -⟩ | ⟨rfl, -⟩ <;> rfl
        have et : top = fb (f + 1) + vc g2 + (khs z O + kes z (tNf F2 T)) := et
        rw [eU, ek, khs_8 hO] at et
        have hres := hres ((rf_eq rfl (by omega)).mpr (by rw [eT, ← hF0]; exact hrf))
        obtain ⟨P, B, p1, p2, p3⟩ := kS_retR hy (sg_16 E) hk (k := k9) (U := U) (m := 0) (t := t) (n := G g2 0) (ou := ouF pl g2) (O := O) (by rw [kUx_eq]; show tNf F2 T :: O = _; rw [eU]) hO (by rw [ef]; exact w7) u2 u3 (by rw [ef]; rfl) (by rw [kUx_eq, ef]; rfl) (by rw [kUx_eq]; rfl) (al2 := fun u => u < 40 ∧ N.2.1 (i + 1) u ∧ ¬ L (i + 1) u []) (lo2 := L (i + 1)) (hd := fun l => N.1 (i + 1) (40 + wl r) l) (by rw [ef]; exact fun u q => q) (by rw [ef]; exact fun w π q => q) (by
          rw [kUx_eq]
          intro l q1 q2 q3
          obtain ⟨v, e9, -, v1, v2⟩ := gO _ q3
          injection e9 with _ e9
          injection e9 with e9 _
          have e9 : (tb g2).1 l = v := e9
          exact r1 l q1 q2 (by rw [e9]; exact v1) (by rw [e9]; exact v2)) (by
          rw [kUx_eq, ef]
          intro q hq q1 l q2
          refine hres q l hq ?_ q2
          rcases hrl with z9 | ⟨w, hw, e9⟩
          · exact Or.inl z9
          · have := r2 ((rf_eq g1 (by omega)).mpr hrf) w _ (by rw [hme]; exact e9) hw (hou q hq).1 q1
            right
            unfold ouF at this
            rcases (hou q hq).2 with z9 | ⟨w9, hw9, e8⟩
            · rw [if_pos z9] at this; omega
            · rw [e8, if_neg (nI_pos (by omega)), cN_nI (by omega)] at this
              rw [e8, e9, show w9 = w by omega])
        rw [kUx_eq] at p2 p3
        refine ⟨T, 1, g1, g3, row.2.1, by decide, by omega, P, B, p1, fun v p s9 hs9 hv hm => ?_, fun tk2 c2 fil2 ht h1 h2 hf2 => ?_⟩
        · rw [hs] at hs9
          injection hs9 with hs9
          subst hs9
          exact p2 v p hv hm
        · obtain ⟨q, h9⟩ := p3 tk2 c2 fil2 ht (h1 0 (by decide)) (fun k hk9 => h2 k (by omega)) hf2
          rw [ef] at h9
          rw [← eN, eU] at w2 hv1
          refine ⟨_, fNf, At_mk E w2 hRm hlk.1 (fin_r h9 nk hv1 hlk (fun u l hu q => ?_) (fun q l e9 hh => ?_))⟩
          · have q : lUp (N.1 i) (40 + wl r) (fun l => N.1 (i + 1) (40 + wl r) l) u l := q
            rw [lUp_ne hu] at q
            exact q
          · have hh : lUp (N.1 i) (40 + wl r) (fun l => N.1 (i + 1) (40 + wl r) l) (40 + wl r) l := hh
            rw [lUp_eq] at hh
            exact hh
      · have h5 : F2 20 T ≠ 5 := fun q => hrf (Or.inl q)
        have h6 : F2 20 T ≠ 6 := fun q => hrf (Or.inr q)
        obtain ⟨t1, t2⟩ := gd_0 E2 hR hs c0 h5 h6
        have hk2 := st_rt E2 h5 h6 hk
        have sz := sg_sz E2 (u := T) ⟨Or.inl t1, t2⟩
        rw [ymF_n E2.1.1 t1] at sz
        obtain ⟨et, -⟩ := At_s hk2
        have et : top = fb (f + 1) + vc g2 + (khs z O + kes z (0, T, 0)) := et
        rw [show kes z (0, T, 0) = z.1 T from if_neg c0, khs_8 hO] at et
        have fNf2 : ∀ j : Nat, j ≤ f → kUx x (f + 1) (Fr N2 L2 g2 i2 ((0, T, 0) :: O) R9 (kAo y (vt g2) R (wl r) (G g2 0) (ouF pl g2))) j = x j := fun j hj9 => kUx_ne (by omega)
        have ef2 : kUx x (f + 1) (Fr N2 L2 g2 i2 ((0, T, 0) :: O) R9 (kAo y (vt g2) R (wl r) (G g2 0) (ouF pl g2))) f = Cf N L g i r (G g2 0) R An := by rw [fNf2 f (Nat.le_refl f)]; exact hx
        obtain ⟨P, B, p1, p2, p3⟩ := kS_ret1 hy (sg_16 E) hk2 (T := T) (m := 0) (O := O) (by rw [kUx_eq]; rfl) hO (by rw [ef2]; exact w7) c0 (al2 := fun u => u < 40 ∧ N.2.1 (i + 1) u ∧ ¬ L (i + 1) u []) (lo2 := L (i + 1)) (by rw [ef2]; exact fun u q => q) (by rw [ef2]; exact fun w π q => q)
        rw [kUx_eq] at p2 p3
        refine ⟨T, z.1 T, g1, g3, sz.1, sz.2.2, by omega, P, B, p1, fun v p s9 hs9 hv hm => ?_, fun tk2 c2 fil2 ht h1 h2 hf2 => ?_⟩
        · rw [hs] at hs9
          injection hs9 with hs9
          subst hs9
          rcases List.mem_cons.mp hm with q | q
          · exact absurd q (fun q => nm_t (F := F2) (t := T) (Or.inl (by rw [← q])))
          · exact p2 v p hv (List.mem_cons_of_mem _ q)
        · have q := p3 tk2 c2 fil2 ht h1 h2 hf2
          rw [ef2] at q
          have q2 := st_tr E (by rw [← hF0]; exact h5) (by rw [← hF0]; exact h6) q
          refine ⟨_, fNf2, At_mk E w2 hRm hlk.1 (fin_r q2 nm_t hv1 hlk (fun u l _ q => q) (fun q l e9 => by simp at e9))⟩
  · exact none0 t0 (Or.inl hO)
/-- RETURN of main -/
theorem s_end (E : sgE y z F X G rs a b n yp yt k N L Rm (tb g) rl pl me (vt g)) (hy : kYs y z vt vo vc) (h : At y z vt vo vc tb hp a b k N L Rm g f x An fb i tk c top fil) (ho : F 0 i = nI 22) : ∃ T m : Nat, F 1 i = nI T ∧ T < 3040 ∧ F 22 T = nI m ∧ m ≤ 16 ∧ top = fb f + vc g + m ∧ ∃ (P : Nat → Nat → Int32 → Prop) (B : Nat → Prop), drC y z c hp top P B ∧ ∀ (v : Nat) (p : Int32) (s : List tE), k i = some s → v < 40 → (8, v, 0) ∈ s → (∀ q : Nat, q < 16 → ibit p q = true → fil f v q) → P (vt g v) (fb f + vo g v) p := by
  obtain ⟨s, R9, hs, ha, hb, hN, hR, hk⟩ := h
  obtain ⟨T, O, g1, ⟨gT, -, -⟩, g3, g4, gO⟩ := ce_op E.2.1 ha hb hs ho (by decide)
  have hO : ∀ a : tE, a ∈ O → ∃ v : Nat, a = (8, v, 0) := fun a ha9 => by
    obtain ⟨v, q, -⟩ := gO a ha9
    exact ⟨v, q⟩
  have fz : F 20 0 = 0 ∧ F 22 0 = 0 := ⟨E.1.1.1.2.2.2.1.1, E.1.1.1.2.2.2.2.1.1⟩
  obtain ⟨P, B, p1, p2⟩ := kS_end hy (sg_16 E) hk
  rw [kUx_eq] at p2
  have p3 : ∀ (v : Nat) (p : Int32) (s : List tE), k i = some s → v < 40 → (8, v, 0) ∈ s → (∀ q : Nat, q < 16 → ibit p q = true → fil f v q) → P (vt g v) (fb f + vo g v) p := fun v p s9 hs9 hv hm => by
    rw [hs] at hs9
    injection hs9 with hs9
    subst hs9
    exact p2 v p hv hm
  rcases g4 with ⟨c1, rfl⟩ | ⟨-, rfl, t0⟩
  · by_cases c0 : T = 0
    · obtain ⟨et, -⟩ := At_s hk
      have et : top = fb f + vc g + (khs z O + kes z (tNf F T)) := et
      rw [c0, tNf_u (by decide) (by rw [fz.1]; decide) (by rw [fz.1]; decide), khs_8 hO] at et
      exact ⟨0, 0, by rw [← c0]; exact g1, by decide, fz.2, by decide, et, P, B, p1, p3⟩
    · by_cases hrf : F 20 T = 5 ∨ F 20 T = 6
      · have hU := E.1.2.2.2.2.1 T g3 (by rcases hrf with q | q; exact Or.inr (Or.inl q); exact Or.inr (Or.inr q))
        have row := E.1.1.1.2.2.2.2.2.2.2.1 T hU.1 hU.2
        have kk := sg_k E (T0 := T) ⟨Or.inr ⟨hU.1, hrf⟩, hU.2⟩
        have ek : kes z (tNf F T) = 1 := by
          rcases hrf with h5 | h6
          · obtain ⟨U, u1, u2, u3, u4, u5, u6⟩ := kk.1 h5
            rw [u6]; rfl
          · obtain ⟨U, u1, u2, u3, u4, u5, u6⟩ := kk.2.1 h6
            rw [u6]; rfl
        obtain ⟨et, -⟩ := At_s hk
        have et : top = fb f + vc g + (khs z O + kes z (tNf F T)) := et
        rw [ek, khs_8 hO] at et
        exact ⟨T, 1, g1, g3, row.2.1, by decide, et, P, B, p1, p3⟩
      · have h5 : F 20 T ≠ 5 := fun q => hrf (Or.inl q)
        have h6 : F 20 T ≠ 6 := fun q => hrf (Or.inr q)
        obtain ⟨t1, t2⟩ := gd_0 E hR hs c0 h5 h6
        have hk2 := st_rt E h5 h6 hk
        have sz := sg_sz E (u := T) ⟨Or.inl t1, t2⟩
        rw [ymF_n E.1.1 t1] at sz
        obtain ⟨et, -⟩ := At_s hk2
        have et : top = fb f + vc g + (khs z O + kes z (0, T, 0)) := et
        rw [show kes z (0, T, 0) = z.1 T from if_neg c0, khs_8 hO] at et
        exact ⟨T, z.1 T, g1, g3, sz.1, sz.2.2, by omega, P, B, p1, p3⟩
  · obtain ⟨et, -⟩ := At_s hk
    rw [khs_8 hO] at et
    subst t0
    exact ⟨0, 0, g1, by decide, fz.2, by decide, et, P, B, p1, p3⟩
end
