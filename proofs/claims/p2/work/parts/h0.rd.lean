section
variable {D : mD} {f g i j tp mln : Nat} {x : Nat → kFm} {An : Nat → lLc → Nat → Prop} {fb : Nat → Nat} {ft ff gt gf : Nat → Int32} {fc gc : Nat → Int64} {k0 : Nat → Option Nat} {k1 k2 : Nat → Int32}
/-- a return -/
theorem Q_R (hO : mOk D) {nc : Nat → Nat → Int32} {nr : Nat → Nat → Nat → Int32} (hR : mRw D nc nr) {ak : Nat → Int32} (hak : ∀ t : Nat, t < D.yt → ak t = D.FG g 20 t) (hrow : ∀ g0 : Nat, g0 < D.nb → D.FG g 20 = D.FG g0 20 ∧ D.FG g 21 = D.FG g0 21) {kn bs : Nat} (hQ : QMd D kn g bs k0 k1 k2 mln i ft fc tp ff) (ho : D.FG g 0 i = nI 22) : ∃ (T m : Nat) (P : Nat → Nat → Int32 → Prop) (B : Nat → Prop), D.FG g 1 i = nI T ∧ T < 3040 ∧ D.FG g 22 T = nI m ∧ m ≤ tp ∧ tp ≤ mln ∧ bs + m ≤ mln ∧ drK ak (D.FG g 21) (D.FG g 22) (D.FG g 23) (D.X 1) (D.X 2) (D.X 3) fc D.mh mln P B ∧
      (∀ v vn : Nat, nc g 7 = nI vn → vn ≤ 40 → v < vn → ff (40 * (kn - 1) + v) ≠ 0 → ∃ u o : Nat, nr g 3 v = nI u ∧ u < 3040 ∧ nr g 5 v = nI o ∧ (D.FG g 23 u ≠ 0 → P u (bs + o) (ff (40 * (kn - 1) + v)))) ∧
      (1 < kn → ∃ g0 i0 b0 : Nat, g0 < 40 ∧ k0 (kn - 1) = some (D.na g0 0) ∧ k1 (kn - 1) = nI i0 ∧ k2 (kn - 1) = nI b0 ∧ ∀ (gt gf : Nat → Int32) (vn : Nat), gtB ft gt B → nc g 7 = nI vn → vn ≤ 40 → (∀ j : Nat, gf j = if 40 * (kn - 1) ≤ j ∧ j < 40 * (kn - 1) + vn then 0 else ff j) → QMd D (kn - 1) g0 b0 k0 k1 k2 mln i0 gt (va_cpy fc fc (tp - m) bs m) (bs + m) gf) := by
  obtain ⟨f, x, An, fb, rfl, hf, hg, rfl, hb, hfl, hch, hA⟩ := hQ
  obtain ⟨E, En, hab, h17, hvc, h32⟩ := hO.2.2.2.2 g hg
  obtain ⟨-, -, -, w7, -, -, -, w8, -, w5⟩ := hR g hg
  have hy := hO.1
  obtain ⟨s, hs, ha, hib, hi6, hN, hRm, et, h33, het⟩ := mAt_b hO hg hA
  have hfl0 := hfl s hs
  have h40 := mE_n E
  have htl : tp ≤ mln := by omega
  rw [show f + 1 - 1 = f by omega]
  have hnb := hO.2.1
  -- the drops of the variables
  have drv : ∀ P : Nat → Nat → Int32 → Prop, (∀ (v : Nat) (p : Int32) (s : List tE), D.kk g i = some s → v < 40 → ((8, v, 0) : tE) ∈ s → (∀ q : Nat, q < 16 → ibit p q = true → filP ff f v q) → P (D.vt g v) (fb f + D.vo g v) p) → ∀ v vn : Nat, nc g 7 = nI vn → vn ≤ 40 → v < vn → ff (40 * f + v) ≠ 0 → ∃ u o : Nat, nr g 3 v = nI u ∧ u < 3040 ∧ nr g 5 v = nI o ∧ (D.FG g 23 u ≠ 0 → D.FG g 23 u ≠ 0 ∧ tyN D.yp (D.FG g 20) u ∧ u < D.yt ∧ P u (fb f + o) (ff (40 * f + v))) := fun P hP v vn e1 e2 e3 e4 => by
    have ev : vn = D.nv g := (nI_eq (by omega) (by omega)).mp (e1.symm.trans w7)
    subst ev
    obtain ⟨z1, z2⟩ := hfl0 v e3 e4
    obtain ⟨T, t1, t2, t3, t4, -⟩ := Q_ty E (show v < 40 by omega) z2
    refine ⟨T, D.vo g v, (w8 v (by omega) z2).trans t1, t2, by rw [w5]; exact h17 v (by omega) z2, fun h23 => ?_⟩
    have hN9 := ad_N E.1.1 t3 h23
    refine ⟨h23, hN9, t3.2, ?_⟩
    have h9 := hP v (ff (40 * f + v)) s hs (by omega) z1 (fun q hq hb9 => ⟨by omega, hq, hb9⟩)
    rw [t4, ymF_n E.1.1 hN9] at h9
    exact h9
  cases f with
  | zero =>
    obtain ⟨T, m, q1, q2, q3, q4, q5, P, B, q6, q7⟩ := s_end E hy hA ho
    exact ⟨T, m, _, B, q1, q2, q3, by omega, htl, by omega, Q_dr hO hg hak htl q6, drv P q7, fun q => absurd q (by omega)⟩
  | succ f =>
    obtain ⟨g0, i0, r, R, A0, a1, a2, a3, a4, a5, a6, a7, a8, a9⟩ := hch
    obtain ⟨E0, En0, hab0, h170, hvc0, -⟩ := hO.2.2.2.2 g0 a1
    subst a4
    have hou : ∀ q : Nat, q < D.G g 0 → (D.tb g).2.2.2.1 (ouF D.pl g q) ∧ (D.pl g q < 0 ∨ ∃ w : Nat, w < 8 ∧ D.pl g q = nI w) := fun q hq => by
      obtain ⟨P, -, -, -, -, -, -, p7, -⟩ := En
      exact ⟨(p7 q hq).1, (p7 q hq).2.2⟩
    have hrl : D.rl g < 0 ∨ ∃ w : Nat, w < 8 ∧ D.rl g = nI w := by
      obtain ⟨P, -, -, -, -, -, -, -, p8, -⟩ := En
      exact p8
    obtain ⟨T, m, q1, q2, q3, q4, q5, P, B, q6, q7, q8⟩ := s_ret E0 E (hrow g0 a1).1 (hrow g0 a1).2 rfl rfl hou hrl hy a3 a2 hA ho
    refine ⟨T, m, _, B, q1, q2, q3, by omega, htl, by omega, Q_dr hO hg hak htl q6, drv P q7, fun _ => ⟨g0, i0 + 1, fb f, by omega, a5, a6, a7.1, fun gt gf vn hgt e1 e2 hgf => ?_⟩⟩
    have ev : vn = D.nv g := (nI_eq (by omega) (by omega)).mp (e1.symm.trans w7)
    have hgf2 : ∀ j : Nat, j < 40 * (f + 1) → gf j = ff j := fun j hj => by rw [hgf j, if_neg (by omega)]
    obtain ⟨x2, z1, z2⟩ := q8 (tkP gt) (cI (va_cpy fc fc (tp - m) (fb (f + 1)) m)) (filP gf) (gtB_tk hgt) (fun q hq => by rw [cp_in hq, show tp - m = fb (f + 1) + D.vc g by omega]) (fun k hk => cp_out hk) (fun j hj => funext fun v => funext fun q => by
      unfold filP
      by_cases hv : v < 40
      · rw [hgf2 (40 * j + v) (by omega)]
      · exact propext ⟨fun z => absurd z.1 hv, fun z => absurd z.1 hv⟩)
    obtain ⟨a30, a31, -⟩ := a3
    have hb0 : fb f + D.vc g0 ≤ fb (f + 1) := by
      obtain ⟨s3, R3, -, -, -, -, -, rt, ra, V, hJ, hL⟩ := hA
      have h5 := hL.2.2.2.2.2.1 f (by omega)
      rw [show kUx x (f + 1) (Fr (D.NN g) (D.LL g) g i s3 R3 (kAo D.y (D.vt g) R (wl r) (D.G g 0) (ouF D.pl g))) f = x f from if_neg (by omega), a2] at h5
      have h5 : fb (f + 1) = fb f + D.vc g0 + khs D.z r := h5
      omega
    refine ⟨f, x2, A0, fb, rfl, by omega, a1, rfl, ⟨hb.1, hb.2.1, by omega, a7.2⟩, fun s2 hs2 v h1 h2 => ?_, ?_, z2⟩
    · rw [a31] at hs2
      obtain rfl := Option.some.inj hs2
      have h400 := mE_n E0
      rw [hgf2 _ (by omega)] at h2
      obtain ⟨y1, y2⟩ := a8 v h1 h2
      exact ⟨List.mem_cons_of_mem _ y1, y2⟩
    · exact chn_cg f (fun j hj => ⟨z1 j (by omega), rfl⟩) (fun _ _ => ⟨rfl, rfl, rfl⟩) (fun k hk hne => by rw [hgf2 k (by omega)] at hne; exact hne) rfl (fun g hg => mE_n (hO.2.2.2.2 g hg).1) a9
end
