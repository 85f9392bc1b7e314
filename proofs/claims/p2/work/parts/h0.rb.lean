section
variable {D : mD} {f g i j tp mln : Nat} {x : Nat → kFm} {An : Nat → lLc → Nat → Prop} {fb : Nat → Nat} {ft ff gt gf : Nat → Int32} {fc gc : Nat → Int64} {k0 : Nat → Option Nat} {k1 k2 : Nat → Int32}
theorem mE_y (E : mEf D g) : tbO (D.FG g) D.X D.yp D.yt ∧ D.y = yF (D.FG g) D.X D.yp D.yt ∧ D.z = zF (D.FG g) D.X D.yt := ⟨E.1.1, E.1.2.1, E.1.2.2.1⟩
/-- drops, by the class's rows -/
theorem Q_dr {ak : Nat → Int32} {P : Nat → Nat → Int32 → Prop} {B : Nat → Prop} (hO : mOk D) (hg : g < D.nb) (hak : ∀ t : Nat, t < D.yt → ak t = D.FG g 20 t) (htl : tp ≤ mln) (h : drC D.y D.z (cI fc) D.mh tp P B) : drK ak (D.FG g 21) (D.FG g 22) (D.FG g 23) (D.X 1) (D.X 2) (D.X 3) fc D.mh mln (fun t a p => D.FG g 23 t ≠ 0 ∧ tyN D.yp (D.FG g 20) t ∧ t < D.yt ∧ P t a p) B := by
  obtain ⟨E, -⟩ := hO.2.2.2.2 g hg
  obtain ⟨e1, e2, e3⟩ := mE_y E
  rw [e2, e3] at h
  exact drK_of e1 hak (Nat.le_refl _) hO.2.2.1 htl h
/-- a typed variable -/
theorem Q_ty (E : mEf D g) {v : Nat} (hv : v < 40) (h : D.FG g 15 v ≠ -1) : ∃ T : Nat, D.FG g 15 v = nI T ∧ T < 3040 ∧ tyV D.yp D.yt (D.FG g 20) T ∧ D.vt g v = ymF (D.FG g) T ∧ v < D.nv g := by
  obtain ⟨h1, T, h2, h3, h4⟩ := E.2.2.2.2.2.1 v hv h
  have h5 : D.yt ≤ 3040 := E.1.1.1.2.1
  have h6 := h3.2
  exact ⟨T, h2, by omega, h3, h4, h1⟩
theorem gtB_tk {B : Nat → Prop} (h : gtB ft gt B) : ∀ k : Nat, tkP ft k → ¬ B k → tkP gt k := fun k hk hb => by
  rcases h k with q | ⟨-, q⟩
  · show gt k ≠ 0
    rw [q]; exact hk
  · exact absurd q hb
/-- the cells of a place are among the first 16 -/
theorem sg_pc (hz16 : ∀ t : Nat, D.z.1 t ≤ 16) (E : mEf D g) {s : List tE} {p c : Nat} (hs : D.kk g i = some s) (ha : D.aa g ≤ i) (hb : i < D.bb g) (ho : D.FG g 0 i = nI 26) (h1 : D.FG g 1 i = nI p) (hp : p < 3001) (hc : c < 32) (hbit : ibit (D.FG g 12 p) c = true) : c < 16 := by
  obtain ⟨p9, v9, n, T, pa, ro, mu, r, q1, q2, -⟩ := ce_op E.2.1 ha hb hs ho (by decide)
  have e1 : p9 = p := (nI_eq (by have := q2.1.1; omega) (by omega)).mp (q1.symm.trans h1)
  subst e1
  obtain ⟨T0, ds, os, o, -, -, -, -, -, w, -, h⟩ := sg_pl E q2
  have hn := q2.2.2.1
  have key : ∀ z9 : Nat, o + z9 ≤ 16 → D.FG g 12 p9 = pCells ro (nI z9) → c < 16 := fun z9 hz h12 => by
    rw [h12, pc_bit w hn hz hc] at hbit
    by_cases e : os = []
    · rw [if_pos e, Bool.and_eq_true] at hbit
      have := of_decide_eq_true hbit.2
      omega
    · rw [if_neg e] at hbit
      have h9 := of_decide_eq_true hbit
      cases os with
      | nil => exact absurd rfl e
      | cons a os =>
        have h9 : c = a := h9
        have := w.2.2.2.2.2.1 a (List.mem_cons_self ..)
        omega
  rcases h with ⟨-, -, -, hz, h12, -⟩ | ⟨-, -, h0, -, -, h12⟩
  · exact key _ hz h12
  · exact key _ (by have := hz16 (D.vt g v9); omega) h12
/-- instructions that work on variables -/
theorem Q_E (hO : mOk D) {et ak : Nat → Int32} (het : ∀ v : Nat, v < 40 → D.FG g 15 v ≠ -1 → et v = D.FG g 15 v) (hak : ∀ t : Nat, t < D.yt → ak t = D.FG g 20 t) (kn bs : Nat) : stE (D.FG g) et ak (D.FG g 21) (D.X 1) (D.X 2) (D.X 3) bs (40 * (kn - 1)) D.mh mln (QMd D kn g bs k0 k1 k2 mln) := by
  intro i tp ft ff fc hQ
  obtain ⟨f, x, An, fb, rfl, hf, hg, rfl, hb, hfl, hch, hA⟩ := hQ
  obtain ⟨E, En, hab, h17, hvc, h32⟩ := hO.2.2.2.2 g hg
  have hy := hO.1
  obtain ⟨s, hs, ha, hib, hi6, hN, hR, et9, h33, het9⟩ := mAt_b hO hg hA
  have hfl0 := hfl s hs
  have h40 := mE_n E
  rw [show f + 1 - 1 = f by omega]
  have htop : tp < 2 ^ 31 := by omega
  have htl : tp ≤ mln := by omega
  have ne1 : ∀ {v T : Nat}, D.FG g 15 v = nI T → T < 3040 → D.FG g 15 v ≠ -1 := fun {v T} e h => by rw [e]; exact nI_ne1 (by omega)
  have mk : ∀ (o : Nat) (gt : Nat → Int32) (gc : Nat → Int64) (tp2 : Nat), D.FG g 0 i = nI o → o < 33 → (o ≠ 15 ∧ o ≠ 16 ∧ o ≠ 20 ∧ o ≠ 22 ∧ o ≠ 32) → mAt D g f x An fb (i + 1) gt gc tp2 ff → QMd D (f + 1) g (fb f) k0 k1 k2 mln (i + 1) gt gc tp2 ff := fun o gt gc tp2 ho h33 hn h => QM_mk hO hf hg hb (fl_0 E ha hib hs ho h33 hn hfl0) hch (fun _ _ => rfl) h
  -- one variable's bits change
  have mv : ∀ (o v : Nat) (w : Int32) (gt : Nat → Int32) (gc : Nat → Int64) (tp2 : Nat), D.FG g 0 i = nI o → o < 33 → (o ≠ 15 ∧ o ≠ 16 ∧ o ≠ 20 ∧ o ≠ 22 ∧ o ≠ 32) → v < 40 → (w ≠ 0 → D.FG g 15 v ≠ -1 ∧ (((8, v, 0) : tE) ∈ s ∨ ((o = 24 ∨ o = 25 ∨ o = 29 ∨ o = 30) ∧ D.FG g 1 i = nI v))) → mAt D g f x An fb (i + 1) gt gc tp2 (upd ff (40 * f + v) w) → QMd D (f + 1) g (fb f) k0 k1 k2 mln (i + 1) gt gc tp2 (upd ff (40 * f + v) w) := fun o v w gt gc tp2 ho h33 hn hv hw h => by
    refine QM_mk hO hf hg hb (fl_S E ha hib hs ho h33 ⟨hn.1, hn.2.1, hn.2.2.1, hn.2.2.2.1⟩ (fun u h1 h2 => ?_)) hch (fun k hk => pk_un (by omega)) h
    by_cases e : u = v
    · rw [e, pk_us] at h2
      obtain ⟨z1, z2⟩ := hw h2
      rw [e]
      exact ⟨z1, z2.imp (fun z => ⟨z, fun q => absurd q hn.2.2.2.2⟩) id⟩
    · rw [pk_un (by omega)] at h2
      obtain ⟨z1, z2⟩ := hfl0 u h1 h2
      exact ⟨z2, Or.inl ⟨z1, fun q => absurd q hn.2.2.2.2⟩⟩
  refine ⟨⟨hi6, by omega⟩, fun ho => ?_, fun ho => ?_, fun ho => ?_, fun ho => ?_, fun ho => ?_, fun ho => ?_, fun ho => ?_, fun ho => ?_, fun ho => ?_⟩
  · obtain ⟨v, T, m, q1, q2, q3, q4, q5, q6, q7, q8, q9, q10⟩ := s_let E hy hA ho
    have hv4 : v < 40 := by omega
    refine ⟨v, T, m, D.vo g v, q1, hv4, (het v hv4 (ne1 q3 q4)).trans q3, q4, q5, h17 v hv4 (ne1 q3 q4), by omega, q8, by omega, mv 24 v _ _ _ _ ho (by decide) (by decide) hv4 (fun _ => ⟨ne1 q3 q4, Or.inr ⟨by omega, q1⟩⟩) (q10 _ _ (fun q hq => cp_in hq) (fun k hk => cp_out hk) (fun j w hjw => fil_ne hv4 hjw))⟩
  · obtain ⟨v, q1, q2, q3⟩ := s_let0 E hy hA ho
    have hv4 : v < 40 := by omega
    refine ⟨v, q1, by omega, mv 25 v _ _ _ _ ho (by decide) (by decide) hv4 (fun q => absurd rfl q) (q3 _ (fun j w hjw => fil_ne hv4 hjw) (fun q hq => ?_))⟩
    have := (fil_eq hq).2.2
    rw [ibit_0] at this
    exact absurd this (by decide)
  · obtain ⟨p, v, T, m, nd, ds, os, o, pa, ro, p1, p2, p3, p4, P, B, p5, p6, p7⟩ := s_asg E hy htop hA ho
    have hv4 := p3.2.2.2.1
    have hvn := sg_pv E hs ha hib (Or.inr (Or.inr (Or.inr ho))) p1 p3.2.2.1 p3.2.1 hv4
    obtain ⟨c1, c2, c3⟩ := pl_C p3 (h17 v hv4 hvn) htl (by omega)
    have h8 : ((8, v, 0) : tE) ∈ s := E.1.2.2.2.2.2.2 i 26 p v s hR hs ho (by omega) p1 p3.2.1 p3.2.2.1 hv4
    have hos : os.length = 0 → os = [] := fun q => List.length_eq_zero_iff.mp q
    have hos2 : 0 < os.length → os ≠ [] := fun q e => by rw [e] at q; exact absurd q (by decide)
    have hnib : os = [] → (D.FG g 9 p >>> ((4 : Int32) &&& 31)) &&& 15 = nI o := fun e => by
      obtain ⟨-, -, -, -, w4, -, -, -, -, -, ⟨-, -, -, w5, -, -, w7⟩, -⟩ := p3
      rw [w4, w5, e]
      have e9 := rt_nib (L := 0) (D := dgP ([] ++ [o])) (k := 0) (by omega) (by show 0 + 16 * (o + 16 * 0) < _; omega) (by omega)
      refine e9.trans ?_
      show nI ((o + 16 * 0) / 16 ^ 0 % 16) = nI o
      rw [Nat.pow_zero, Nat.div_one, show (o + 16 * 0) % 16 = o by omega]
    have ho15 : o ≤ 15 := p3.2.2.2.2.2.2.2.2.2.2.1.2.2.2.2.2.2
    refine ⟨p, v, T, m, os.length, _, _, B, p1, c1, p4, by omega, Q_dr hO hg hak htl p5, fun q0 h23 => ?_, fun q0 h23 => ?_, fun gt gf hgt hgf => ?_⟩
    · obtain ⟨z1, z2, z3⟩ := p6 h23
      refine ⟨h23, z1, z2, ?_⟩
      show P T (adL (cI fc) (fb f + D.vo g v) os o os.length) _
      rw [c2, hnib (hos q0)]
      refine z3 _ (fun _ q hq hb9 => ?_)
      rw [ibit_shr _ (by omega), ibit_and, Bool.and_eq_true] at hb9
      have hoq : o + q < 16 := by
        rcases Nat.lt_or_ge (o + q) 16 with z | z
        · exact z
        · exfalso
          have hpc := sg_pc hO.2.2.2.1 E hs ha hib ho p1 p3.2.1 (show o + q < 32 by omega) hb9.2
          omega
      exact ⟨hv4, hoq, hb9.1⟩
    · obtain ⟨z1, z2, z3⟩ := p6 h23
      refine ⟨h23, z1, z2, ?_⟩
      show P T (adL (cI fc) (fb f + D.vo g v) os o os.length) _
      rw [c2]
      exact z3 _ (fun e => absurd e (hos2 q0))
    · have hcg := fun (gf : Nat → Int32) (z1 : ∀ j w : Nat, (j, w) ≠ (f, v) → filP gf j w = filP ff j w) (z2 : ∀ q : Nat, filP gf f v q → filP ff f v q ∨ (os = [] ∧ q < 16 ∧ ibit (D.FG g 12 p) q = true)) => p7 (tkP gt) (cI (va_cpy fc fc (tp - m) (adL (cI fc) (fb f + D.vo g v) os o os.length) m)) (filP gf) (gtB_tk hgt) (fun q hq => by rw [c2]; exact cp_in hq) (fun k hk => by rw [c2]; exact cp_out hk) z1 z2
      rcases hgf with ⟨q0, rfl⟩ | ⟨q0, rfl⟩
      · refine mv 26 v _ _ _ _ ho (by decide) (by decide) hv4 (fun _ => ⟨hvn, Or.inl h8⟩) (hcg _ (fun j w hjw => fil_ne hv4 hjw) (fun q hq => ?_))
        obtain ⟨z1, z2, z3⟩ := fil_eq hq
        rw [ibit_or, Bool.or_eq_true] at z3
        rcases z3 with z3 | z3
        · exact Or.inl ⟨z1, z2, z3⟩
        · exact Or.inr ⟨hos q0, z2, z3⟩
      · exact mk 26 _ _ _ ho (by decide) (by decide) (hcg _ (fun _ _ _ => rfl) (fun q hq => Or.inl hq))
  · obtain ⟨T, m, q1, q2, q3, q4, q5, P, B, q6, q7, q8⟩ := s_drp E hy hA ho
    refine ⟨T, m, _, B, q1, q2, q3, q5, Q_dr hO hg hak htl q6, fun h23 => ?_, fun gt hgt => mk 27 _ _ _ ho (by decide) (by decide) (q8 _ (gtB_tk hgt))⟩
    obtain ⟨z1, z2, z3⟩ := q7 h23
    exact ⟨h23, z1, z2, z3 _⟩
  · obtain ⟨q1, -, q2⟩ := s_prt E hA ho
    exact ⟨q1, mk 28 _ _ _ ho (by decide) (by decide) q2⟩
  · obtain ⟨v, T, m, off, sz, q1, q2, q3, q4, q5, q6, q7, q8, q9, q10, q11, q12, q13, q14⟩ := s_bnd E hy hA ho
    have hv4 : v < 40 := by omega
    exact ⟨v, T, m, D.vo g v, off, sz, q1, hv4, (het v hv4 (ne1 q3 q4)).trans q3, q4, q5, h17 v hv4 (ne1 q3 q4), by omega, q8, q9, q10, q12, by omega, mv 29 v _ _ _ _ ho (by decide) (by decide) hv4 (fun _ => ⟨ne1 q3 q4, Or.inr ⟨by omega, q1⟩⟩) (q14 _ _ (fun q hq => cp_in hq) (fun k hk => cp_out hk) (fun j w hjw => fil_ne hv4 hjw))⟩
  · have hA0 := hA
    obtain ⟨v, off, q1, q2, q3, q4, q5, q6, q7⟩ := s_bndR E hy hA ho
    have hv4 : v < 40 := by omega
    obtain ⟨v9, sh, gg, j, n9, T, b9, q, r, z1, z2, -, -, -, -, -, -, zq, z3, z4, -, -, -, -, -, -, zs, -⟩ := ce_op E.2.1 ha hib hs ho (by decide)
    have ev : v9 = v := (nI_eq (by omega) (by omega)).mp (z2.symm.trans q1)
    subst ev
    obtain ⟨s2, R, hs2, -, -, -, -, hk⟩ := hA0
    rw [hs] at hs2
    obtain rfl := Option.some.inj hs2
    obtain ⟨ad, a1, a2⟩ := kS_mark (r := r) hy hk (q := q + 4) (r0 := sh * 12 + gg) (m := b9 + 1 + 64 * j) (by omega) (by rw [kUx_eq]; exact zs)
    rw [kUx_eq] at a1
    have a1 : cI fc (fb f + D.vc g + khs D.z r) = (ad : Int) := a1
    have e9 : fb f + D.vc g + khs D.z r = tp - 1 := by
      rw [zs] at et9
      have et9 : tp = fb f + D.vc g + (khs D.z r + kes D.z (q + 4, sh * 12 + gg, b9 + 1 + 64 * j)) := et9
      rw [show kes D.z (q + 4, sh * 12 + gg, b9 + 1 + 64 * j) = 1 by rcases zq with rfl | rfl <;> rfl] at et9
      omega
    rw [e9] at a1
    refine ⟨v9, D.vo g v9, off, q1, hv4, h17 v9 hv4 (ne1 z3 z4), by omega, q3, q5, by omega, mv 30 v9 _ _ _ _ ho (by decide) (by decide) hv4 (fun _ => ⟨ne1 z3 z4, Or.inr ⟨by omega, q1⟩⟩) (q7 _ _ ?_ (fun k hk => up_out hk) (fun j w hjw => fil_ne hv4 hjw))⟩
    rw [up_in, i64_a a1 (by omega) (by omega), a1]
  · obtain ⟨m, q1, q2, q3, q4⟩ := s_popM E hA ho
    exact ⟨m, q1, q3, mk 31 _ _ _ ho (by decide) (by decide) q4⟩
  · obtain ⟨v0, v1, q1, q2, q3, q4, P, B, q5, q6, q7⟩ := s_scp E hy hA ho
    have hv1 := h32 i v1 ha hib (by rw [hs]; simp) ho q2 q4
    refine ⟨v0, v1, _, B, q1, q2, q3, q4, by omega, Q_dr hO hg hak htl q5, fun v h1 h2 h3 => ?_, fun gt gf hgt hgf => ?_⟩
    · obtain ⟨w1, w2⟩ := hfl0 v (by omega) h3
      obtain ⟨T, t1, t2, t3, t4, -⟩ := Q_ty E (show v < 40 by omega) w2
      refine ⟨T, D.vo g v, (het v (by omega) w2).trans t1, t2, h17 v (by omega) w2, fun h23 => ?_⟩
      have hN9 := ad_N E.1.1 t3 h23
      refine ⟨h23, hN9, t3.2, ?_⟩
      have h9 := q6 v (ff (40 * f + v)) s hs w1 h1 h2 (fun q hq hb9 => ⟨by omega, hq, hb9⟩)
      rw [t4, ymF_n E.1.1 hN9] at h9
      exact h9
    · have hz : ∀ j w : Nat, ¬ (j = f ∧ v0 ≤ w ∧ w < v1) → filP gf j w = filP ff j w := fun j w hn => funext fun q => by
        unfold filP
        by_cases hw : w < 40
        · rw [hgf, if_neg (by omega)]
        · exact propext ⟨fun q => absurd q.1 hw, fun q => absurd q.1 hw⟩
      refine QM_mk hO hf hg hb (fl_S E ha hib hs ho (by decide) ⟨by decide, by decide, by decide, by decide⟩ (fun u h1 h2 => ?_)) hch (fun k hk => by rw [hgf, if_neg (by omega)]) (q7 _ _ (gtB_tk hgt) hz)
      have hnr : ¬ (40 * f + v0 ≤ 40 * f + u ∧ 40 * f + u < 40 * f + v1) := fun q => h2 (by rw [hgf, if_pos q])
      rw [hgf, if_neg hnr] at h2
      obtain ⟨w1, w2⟩ := hfl0 u h1 h2
      refine ⟨w2, Or.inl ⟨w1, fun _ a b h3 h4 h5 h6 => ?_⟩⟩
      have e1 : a = v0 := (nI_eq (by omega) (by omega)).mp (h5.symm.trans q1)
      have e2 : b = v1 := (nI_eq (by omega) (by omega)).mp (h6.symm.trans q2)
      omega
end
