section LY43
variable {R : yR} {S0 Sb Sx S S1 S2 S3 : Sg} {P P1 P2 P3 Pe h h0 h1 h2 hc L L1 L2 Le Lb z n z2 n2 : Nat} {Γ Γ0 Γ1 Γ2 Λ : List Nat} {E : eV} {s s1 s2 yD : List tE} {gv : Nat} {js ks us : List Nat} {bw : Nat → Nat} {V : Sg → Option Nat → Option (Sg × Unit)} {m mn i : Nat} {x : pRc} {A J bk : Nat → Nat} {xk : Nat → List tE} {p q b c v w : Nat}
/-- what lies at the point of a match -/
theorem rz_m {K : Nat} {i : iR} (hK : K = 20 ∨ K = 21) (hk : i.kd = K) (a : AT S P x) (h27 : x.1 27 = nI K) (h33 : x.1 33 = nI i.ac) (ha : i.ac < 8) (h34 : x.1 34 = oNm i.ho) (h35 : x.1 35 = oNm i.ln) (h37 : rAr R S (x.2.2 37) i.us) (h36 : rAr R S (x.2.2 36) i.fr) (h32 : ∃ tk : Nat, x.1 32 = nI tk ∧ tk < R.T) (h38 : (x.2.2 38 = none ∧ i.pa = none) ∨ ∃ (w v T : Nat) (ρ : lLc), x.2.2 38 = some w ∧ i.pa = some (v, ρ, T) ∧ isPt R S0 S w v ρ T ∧ pVa S w i.n2) (hln : i.ln = none) (h42 : rAr R S (x.2.2 42) i.sc) (hsc : i.sc ≠ []) : rz R S0 S P i := by
  subst hk
  have e : ∀ r : Nat, 27 ≤ r → r ≤ 35 → r ≠ 31 → Zr S r P = x.1 r := a.1
  have q : ∀ r : Nat, 36 ≤ r → r ≤ 42 → Zq S r P = x.2.2 r := a.2.2
  unfold rz
  rw [e 27 (by decide) (by decide) (by decide), e 28 (by decide) (by decide) (by decide), e 29 (by decide) (by decide) (by decide), e 30 (by decide) (by decide) (by decide), e 32 (by decide) (by decide) (by decide), e 33 (by decide) (by decide) (by decide), e 34 (by decide) (by decide) (by decide), e 35 (by decide) (by decide) (by decide), q 36 (by decide) (by decide), q 37 (by decide) (by decide), q 38 (by decide) (by decide), q 39 (by decide) (by decide), q 40 (by decide) (by decide), q 41 (by decide) (by decide), q 42 (by decide) (by decide), a.2.1]
  exact ⟨h27, by omega, h33, ha, h34, h35, h37, h36, h32, h38, (fun l e => by rw [hln] at e; cases e), Or.inr (Or.inr (Or.inr (Or.inl ⟨hK, h42, hsc⟩))), fun w => by omega, fun w => by omega, fun w => by omega, fun w => by omega, fun w => by omega, fun w => by omega, fun w => by omega⟩
/-- where the arms begin, by variants -/
theorem mt_sc {ta : Nat} {vf : Nat → Nat} {ft : Nat → Int32} {Z : Nat → Prop} (q : ArT R S0 S1 E Le js p m Pe mn mn A J xk bk) (hij : ∀ k j : Nat, k < mn → j < mn → vf k = vf j → k = j) (hvf : ∀ k : Nat, k < mn → vf k < mn) (hft : ∀ j : Nat, j < mn → ft (vf j) = nI (A j) ∧ Z j) (hPe : Pe < 24000) (h1 : 1 ≤ mn) (hta : ta ∈ ZL S1 ∧ ZF S1 ta = .inl (R.K.1 0, mn, .inl ft)) : ∃ sc : List Nat, sc.length = mn ∧ sc ≠ [] ∧ rAr R S1 (some ta) sc ∧ ∀ g j : Nat, sc[g]? = some j → ∃ k : Nat, k < mn ∧ vf k = g ∧ j = A k ∧ m < j := by
  obtain ⟨r, hr⟩ := Classical.skolem.mp (fun g : Nat => show ∃ k : Nat, g < mn → (k < mn ∧ vf k = g) by
    by_cases e : g < mn
    · obtain ⟨k, k1, k2⟩ := inj_sur mn vf hvf (fun j k => hij j k) g e
      exact ⟨k, fun _ => ⟨k1, k2⟩⟩
    · exact ⟨0, fun w => absurd w e⟩)
  have hlen : ((List.range mn).map (fun g => A (r g))).length = mn := by rw [List.length_map, List.length_range]
  have hg : ∀ g j : Nat, ((List.range mn).map (fun g => A (r g)))[g]? = some j → g < mn ∧ j = A (r g) := fun g j h => by
    rw [List.getElem?_map] at h
    by_cases e : g < mn
    · rw [List.getElem?_range e] at h; exact ⟨e, (Option.some.inj h).symm⟩
    · rw [List.getElem?_eq_none (by rw [List.length_range]; omega)] at h; cases h
  have hne : (List.range mn).map (fun g => A (r g)) ≠ [] := fun e => by rw [e] at hlen; have : 0 = mn := hlen; omega
  have hA : ∀ k : Nat, k < mn → m < A k ∧ A k < 24000 := fun k hk => by
    have a1 := q.mo (k := 0) (j := k) (Nat.zero_le _) (by omega)
    have a2 := q.mo (k := k) (j := mn) (by omega) (Nat.le_refl _)
    have := q.1
    have := q.2.1
    omega
  refine ⟨(List.range mn).map (fun g => A (r g)), hlen, hne, Or.inr ⟨ta, ft, rfl, hta.1, by rw [hlen]; exact hta.2, hne, fun g j e => ?_⟩, fun g j e => ?_⟩
  · obtain ⟨g1, rfl⟩ := hg g j e
    obtain ⟨r1, r2⟩ := hr g g1
    have := (hft (r g) r1).1
    rw [r2] at this
    exact ⟨this, (hA _ r1).2⟩
  · obtain ⟨g1, rfl⟩ := hg g j e
    obtain ⟨r1, r2⟩ := hr g g1
    exact ⟨r g, r1, r2, rfl, (hA _ r1).1⟩
/-- the rows of a match are made, then its arms are laid -/
theorem lma105 {a xe ar px cap w9 va9 ix tv xt t bd nn m9 : Nat} {mu rf : Int32} {x2 : Option Nat} {ρ : List (Nat × Nat)} {f : Nat → Option Nat} {vf ps bs vs : Nat → Nat} {Q : Sg → Unit → Prop} (hF : FEn R S0 E Λ gv) (hB : BWt R bw) (hV : LbV R S0 E Λ gv bw V nn) (hm : m9 ≤ nn) (hM : MtH R S0 a xe ar px p mn mu rf) (hxt : ∃ gs : List Value, ZF S0 xe = .inr (15, gs) ∧ gs[12]? = some (.ref t)) (ht : isTy S0 t 4 (nI i) none) (henM : enM R S0 i mn) (har : ar ∈ ZL R.S) (hFa : ZF S0 ar = .inl (R.K.1 7, cap, .inr (.inr (.inr (.inr f))))) (hmc : mn ≤ cap) (hG : GJ Λ Γ js) (hv : ∀ i ∈ js, i < vs 0) (hw : vs mn ≤ 40) (hq : ps mn ≤ R.T) (hel : ∀ k : Nat, k < mn → ∃ y : Nat, f k = some y ∧ sN R S0 Λ gv (m9 + 1) 2 y (ps k) (ps (k + 1)) (bs k) (bs (k + 1)) (vs k) (vs (k + 1)) Γ Γ (i, vf k, bd)) (hij : ∀ k j : Nat, k < mn → j < mn → vf k = vf j → k = j) (hvf : ∀ k : Nat, k < mn → vf k < mn) (hmo : ∀ i j : Nat, i ≤ j → j ≤ mn → ps i + (j - i) ≤ ps j ∧ bs i ≤ bs j ∧ vs i ≤ vs j) (hP : m + 1 + 8 * (bw (ps mn) - bw (ps 0)) < 24000) (hl : L + bs mn + vs mn ≤ 160 + bs 0 + vs 0) (hr : RMl R Sb (z + 2 + 20 * (bw (ps mn) - bw (ps 0))) (n + 24 + 60 * (bw (ps mn) - bw (ps 0)))) (hbd : (rf = 0 ∧ bd = 0) ∨ (rf = 1 ∧ ((mu = 0 ∧ bd = 1) ∨ (mu = 1 ∧ bd = 2)) ∧ x2 = some w9 ∧ PlF bd R S0 Sx E js w9 va9 ix tv xt i ρ)) (pp : LPt R S0 Sb Sx m 0 Γ L L x z n) (kk : K0 Sx (m + 1))
  (kf : ∀ (S2 : Sg) (Pe Le z2 n2 : Nat) (A J bk : Nat → Nat) (xk : Nat → List tE) (ft : Nat → Int32) (ta : Nat), FRM R S0 Sb S2 m Pe 0 Γ L Le z2 n2 → LX Sx S2 → AT S2 m (x.1, x.2.1, va_up x.2.2 42 (some ta)) → ArT R S0 S2 E Le js p m Pe mn mn A J xk bk → (ta ∈ ZL S2 ∧ ZF S2 ta = .inl (R.K.1 0, mn, .inl ft)) → (∀ j : Nat, j < mn → ft (vf j) = nI (A j) ∧ xkO (cdP ix ρ) E js i bd (vf j) (xk j) ∧ ∃ (y : Nat) (ys : List Value), f j = some y ∧ ZF S0 y = .inr (13, ys) ∧ ys[5]? = some (.ref (bk j))) → K0 S2 Pe → Pe ≤ m + 1 + 8 * (bw (ps mn) - bw (ps 0)) → z2 ≤ z + 2 + 20 * (bw (ps mn) - bw (ps 0)) → n2 ≤ n + 24 + 60 * (bw (ps mn) - bw (ps 0)) → Le + bs 0 + vs 0 ≤ L + bs mn + vs mn → Q S2 ()) : Rt (f_layMatch_105 R.K V Sx (some a) x2 (nI m)) Q := by
  have hL := hF.1.1
  have hM2 := hM
  obtain ⟨ha9, k1, hpT, hxe, gs, e1, e2, e3⟩ := hM2
  obtain ⟨gs', g1, g2⟩ := hxt
  obtain rfl : gs' = gs := by rw [g1] at e1; cases e1; rfl
  obtain ⟨fs, i1, i2, i3, i4, i5, i6⟩ := henM
  have c0 := pp.1
  have hz0 := pp.2.2.2.1
  have hn0 := pp.2.2.2.2.1
  obtain ⟨r1, r2⟩ := hr
  unfold f_layMatch_105
  obtain ⟨ti, _, _, t3, t4⟩ := c0.1.ty ht
  have hi70 : i < 70 := by have := hF.1.2.1.2.1; omega
  have hq11 : rQ Sx 11 (nI i) = some (some (R.ws i)) := by
    rw [rQ_n (show i < rlen 11 from hi70) (by decide), c0.1.2.2.2.2.1 11 (fun w => by rcases w with w | w | w <;> omega), hF.1.2.2.2.2.2.2.2.2.1.1]
    obtain ⟨_, a1, _⟩ := hF.1.2.2.2.1 i i1
    rw [a1]
  obtain ⟨w1, fs2, w2, w3, w4⟩ := c0.1.it (hL _ i3.1) i4
  refine Rt.bd (c0.1.vr (by decide) (by decide) (oR_mk (hL a ha9) k1 (v := some xe) rfl)) (Rt.bd (c0.1.vr (by decide) (by decide) (oR_mk (hL xe hxe) g1 (v := some t) g2)) (Rt.bd (oI_mk t3 t4 (v := nI i) rfl) (Rt.bd hq11 (Rt.bd (oI_mk w1 w2 (v := nI mn) ((w4 3 (by decide) (Or.inl (by decide))).trans i5)) ?_))))
  refine Rt.be (nA_ok (by omega) ⟨by omega, by omega⟩) ?_
  have w0 : NW Sx (Un Sx (.inl (R.K.1 0, mn, .inl (fun _ => 0))) mn) := (NW.rf c0.hz).un
  have hno : Zz Sx ∉ ZL Sx := fun w => Nat.lt_irrefl _ (c0.hz _ w)
  have hm1 : Zz Sx ∈ ZL (Un Sx (.inl (R.K.1 0, mn, .inl (fun _ => 0))) mn) ∧ ZF (Un Sx (.inl (R.K.1 0, mn, .inl (fun _ => 0))) mn) (Zz Sx) = .inl (R.K.1 0, mn, .inl (fun _ => 0)) := ⟨List.mem_cons_self, ZF_uz⟩
  have hz1 : Zz (Un Sx (.inl (R.K.1 0, mn, .inl (fun _ => 0))) mn) = Zz Sx + 1 := rfl
  have hn1 : Zn (Un Sx (.inl (R.K.1 0, mn, .inl (fun _ => 0))) mn) = Zn Sx + mn := rfl
  generalize Un Sx (.inl (R.K.1 0, mn, .inl (fun _ => 0))) mn = A1 at w0 hm1 hz1 hn1
  have p1 := pp.nw (z2 := z + 1) (n2 := n + 12) w0 (by omega) (by omega)
  have hnb : Zz Sx ∉ ZL Sb := fun w => hno (pp.2.1.1.1 _ w).1
  refine p1.wA (by omega) (by decide) (okA_mk hm1.1 hm1.2) ⟨by decide, fun y e hy => by cases e; exact absurd hy hnb⟩ (fun A2 p2 s2 => ?_)
  refine Rt.bd (p2.1.1.vi (by decide) (by decide) (oI_mk (hL a ha9) k1 (v := nI mn) rfl)) ?_
  have hz2 : Zz A2 = Zz Sx + 1 := s2.2.2.2.1.trans hz1
  have hn2 : Zn A2 = Zn Sx + mn := s2.2.2.2.2.1.trans hn1
  refine Rt.be (nA_ok (by omega) ⟨by omega, by omega⟩) ?_
  have w2' : NW A2 (Un A2 (.inl (R.K.1 0, mn, .inl (fun _ => 0))) mn) := (NW.rf p2.1.hz).un
  have hno2 : Zz A2 ∉ ZL A2 := fun w => Nat.lt_irrefl _ (p2.1.hz _ w)
  have hm2 : Zz A2 ∈ ZL (Un A2 (.inl (R.K.1 0, mn, .inl (fun _ => 0))) mn) ∧ ZF (Un A2 (.inl (R.K.1 0, mn, .inl (fun _ => 0))) mn) (Zz A2) = .inl (R.K.1 0, mn, .inl (fun _ => 0)) := ⟨List.mem_cons_self, ZF_uz⟩
  have hz3 : Zz (Un A2 (.inl (R.K.1 0, mn, .inl (fun _ => 0))) mn) = Zz A2 + 1 := rfl
  have hn3 : Zn (Un A2 (.inl (R.K.1 0, mn, .inl (fun _ => 0))) mn) = Zn A2 + mn := rfl
  generalize Un A2 (.inl (R.K.1 0, mn, .inl (fun _ => 0))) mn = A3 at w2' hm2 hz3 hn3
  have p3 := p2.nw (z2 := z + 2) (n2 := n + 24) w2' (by omega) (by omega)
  have hta2 : Zz Sx ∈ ZL A2 ∧ ZF A2 (Zz Sx) = .inl (R.K.1 0, mn, .inl (fun _ => 0)) := s2.ob hm1.1 hm1.2
  have hta3 : Zz Sx ∈ ZL A3 ∧ ZF A3 (Zz Sx) = .inl (R.K.1 0, mn, .inl (fun _ => 0)) := ⟨(w2'.1 _ hta2.1).1, (w2'.1 _ hta2.1).2.trans hta2.2⟩
  have x02 : LX Sx A2 := w0.lx.tr s2.1
  have hS0 : ∀ y : Nat, y ∉ ZL Sx → y ∉ ZL S0 := fun y hy w => hy (c0.1.1 _ w).1
  have hno3 : Zz A2 ∉ ZL Sx := fun w => hno2 (x02.1 _ w).1
  have vt : PVc R S0 A3 (m + 1) (m + 1) (Zz Sx) mn (fun _ => 0) := ⟨hta3.1, hta3.2, hS0 _ hno, fun w => ?_, fun k h1 h2 => by omega⟩
  · have ve : PVc R S0 A3 (m + 1) (m + 1) (Zz A2) mn (fun _ => 0) := ⟨hm2.1, hm2.2, hS0 _ hno3, fun w => hno2 (p2.1.usm (NW.us2 p2.1 w2' w)), fun k h1 h2 => by omega⟩
    refine lma142 (e := Zz A2) (ta := Zz Sx) (z0 := z + 2) (n0 := n + 24) (x := (x.1, x.2.1, va_up x.2.2 42 (some (Zz Sx)))) (Sx := Sx) (Sb := Sb) hF hB hV hm hM i6 har hFa hmc hG hv hw hq hel hij hvf hmo hP hl ⟨by omega, by omega⟩ hbd ⟨fun w => hno3 (pp.2.1.1.1 _ w).1, hnb, hno3, hno, fun w => by omega⟩ (va_up_self x.2.2 42 (some (Zz Sx))) (fun S2 Pe Le z2 n2 A J bk xk ft => kf S2 Pe Le z2 n2 A J bk xk ft (Zz Sx)) bigN 0 A3 (by unfold bigN; omega) (Nat.zero_le _) ⟨m + 1, L, z + 2, n + 24, fun _ => m + 1, fun _ => 0, fun _ => 0, fun _ => [], _, _, p3.frm, x02.tr w2'.lx, p3.2.2.1, ⟨rfl, rfl, fun k hk => by omega⟩, ⟨ve, vt⟩, fun j hj => by omega, ?_, Nat.le_refl _, by omega, by omega, by omega, Nat.le_refl _⟩
    by_cases e0 : m = 0
    · subst e0
      have a3 := p3.2.2.1.1 27 (by decide) (by decide) (by decide)
      have ax := pp.2.2.1.1 27 (by decide) (by decide) (by decide)
      unfold K0
      rw [a3, show (x.1, x.2.1, va_up x.2.2 42 (some (Zz Sx))).1 27 = x.1 27 from rfl, ← ax]; exact kk
    · have b3 := (p3.2.1.2.1 0 (by omega)).1 27 (by decide) (by decide)
      have bx := (pp.2.1.2.1 0 (by omega)).1 27 (by decide) (by decide)
      unfold K0
      rw [b3, ← bx]; exact kk
  · have w2 := NW.us2 p2.1 w2' w
    have w3 : Us S0 A1 (Zz Sx) := by unfold Us at w2 ⊢; rw [s2.2.2.2.2.2, s2.2.2.1] at w2; exact w2
    exact hno (c0.usm (NW.us2 c0 w0 w3))
end LY43
