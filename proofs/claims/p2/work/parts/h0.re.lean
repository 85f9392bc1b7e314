section
variable {D : mD}
/-- main begins -/
theorem Q_I (hO : mOk D) {nc : Nat → Nat → Int32} {nr : Nat → Nat → Nat → Int32} (hR : mRw D nc nr) {gm mln : Nat} (hg : gm < D.nb) (h0 : D.G gm 0 = 0) (hml : mln ≤ 600000 ∧ D.mh ≤ mln) {az ft ff : Nat → Int32} {fc : Nat → Int64} : ∃ cf ac vc vn np lv : Nat, caF nc nr gm cf ac vc vn np lv ∧ ac ≤ D.mh ∧ ∀ (ml2 : Nat) (gc : Nat → Int64) (gf : Nat → Int32) (g0 : Nat → Option Nat) (g1 g3 : Nat → Int32), grC fc gc mln ml2 (D.mh - ac + vc + 3600) → fiC az nr gm 0 vn np ff gf → QMd D 1 gm (D.mh - ac) g0 g1 g3 ml2 cf ft gc (D.mh - ac + vc) gf := by
  obtain ⟨lv, hca⟩ := Q_ca hO hR hg
  obtain ⟨E, En, hab, h17, hvc, -⟩ := hO.2.2.2.2 gm hg
  have hmh := hO.2.2.1
  rw [h0] at hca
  refine ⟨_, _, _, _, _, lv, hca, Nat.zero_le _, fun ml2 gc gf g0 g1 g3 hgr hfi => ?_⟩
  show QMd D 1 gm (D.mh - 0) g0 g1 g3 ml2 (D.aa gm) ft gc (D.mh - 0 + D.vc gm) gf
  have hgr : grC fc gc mln ml2 (D.mh - 0 + D.vc gm + 3600) := hgr
  rw [Nat.sub_zero] at hgr ⊢
  have hm2 : mln ≤ ml2 ∧ D.mh + D.vc gm + 3600 ≤ ml2 ∧ ml2 ≤ 600000 := by
    rcases hgr with ⟨w1, rfl, -⟩ | ⟨w1, rfl, -⟩ <;> omega
  obtain ⟨P, p1, p2, -, p4, p5, -⟩ := En
  have hP : P = [] := by
    cases P with
    | nil => rfl
    | cons e P =>
      obtain ⟨v, -, hv⟩ := (p2 e).mp (List.mem_cons_self ..)
      omega
  subst hP
  refine ⟨0, fun _ => Fr (D.NN gm) (D.LL gm) gm (D.aa gm) [] (fun _ => none) (fun _ _ _ => False), fun _ _ _ => False, fun _ => D.mh, rfl, by decide, hg, rfl, ⟨by omega, hm2.2.2, hm2.2.1, by omega⟩, fun s hs v h1 h2 => ?_, trivial, [], fun _ => none, p1, Nat.le_refl _, hab, p4, p5, kS_ini kUx_eq⟩
  rw [hfi] at h2
  have hn : 40 * 0 ≤ 40 * 0 + v ∧ 40 * 0 + v < 40 * 0 + D.nv gm := by omega
  rw [if_pos hn, if_neg (by omega)] at h2
  exact absurd rfl h2
/-- a running, by the class's rows -/
theorem Q_M (hO : mOk D) (hGb : ∀ g : Nat, g < 40 → D.G g 1 < 3040 → g < D.nb) {C : tF} {nc : Nat → Nat → Int32} {nr : Nat → Nat → Nat → Int32} (hR : mRw D nc nr) (hC : fgR C D.FG nr) {ak : Nat → Int32} (hak : ∀ g t : Nat, t < D.yt → ak t = D.FG g 20 t) (h21 : ∀ g : Nat, D.FG g 21 = C 21) (hrow : ∀ g g0 : Nat, D.FG g 20 = D.FG g0 20) : stM C D.FG D.na nc nr ak (C 21) (D.X 1) (D.X 2) (D.X 3) D.mh (QMd D) := by
  intro kn g bs mln k0 k1 k2
  obtain ⟨f0, f1, f2, f3, f5, f6, f9, f10, f12, f13, f17, f22, f23⟩ := hC g
  have hrow2 : ∀ g0 : Nat, g0 < D.nb → D.FG g 20 = D.FG g0 20 ∧ D.FG g 21 = D.FG g0 21 := fun g0 _ => ⟨hrow g g0, (h21 g).trans (h21 g0).symm⟩
  refine ⟨Q_V hO kn bs, Q_G hO kn bs, ?_, fun i ft fc tp ff hQ => ⟨?_, ?_, fun ho => ?_, fun ho => ?_⟩⟩
  · by_cases hg : g < D.nb
    · rw [← h21 g]
      exact Q_E hO (hR g hg).2.2.2.2.2.2.2.1 (hak g) kn bs
    · intro i tp ft ff fc hQ
      obtain ⟨f, x, An, fb, -, -, hg2, -⟩ := hQ
      exact absurd hg2 hg
  · obtain ⟨f, x, An, fb, rfl, hf, hg, rfl, hb, hfl, hch, hA⟩ := hQ
    obtain ⟨s, hs, ha, hib, hi6, hN, hRm, et, h33, het⟩ := mAt_b hO hg hA
    obtain ⟨E, En, hab, h17, hvc, -⟩ := hO.2.2.2.2 g hg
    obtain ⟨o, o1, o2, -⟩ := iB_o (E.2.1.1 i ha hib).1
    have hnb := hO.2.1
    have hf2 : 4056 * f ≤ 239304 := by omega
    exact ⟨by omega, by omega, by omega, hb.1, hb.2.1, by omega, o, o2, o1⟩
  · obtain ⟨f, x, An, fb, -, -, hg, -⟩ := hQ
    obtain ⟨r1, r2, r3, r4, r5, ⟨lv, r6⟩, -⟩ := hR g hg
    exact ⟨lv, _, _, r6, r5, r4, mE_n (hO.2.2.2.2 g hg).1⟩
  · rw [← f1]
    exact Q_C hO hrow2 hGb hR hQ (by rw [f0]; exact ho)
  · rw [← f1, ← f22, ← f23, ← h21 g]
    exact Q_R hO hR (hak g) hrow2 hQ (by rw [f0]; exact ho)
end
