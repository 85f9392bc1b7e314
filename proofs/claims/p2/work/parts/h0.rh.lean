/-- a program that was looked over and has no fault -/
def lkO (yp nb tt : Nat) (X : tF) (G : Nat → Nat → Nat) (lo : Nat → Nat) (fc : Nat → Nat → Int32) (fr : Nat → Nat → Nat → Int32) (Z : tgS) : Prop :=
  pgI yp nb tt nb X G lo fc fr Z ∧ nb ≤ 40 ∧ (szI yp yp (X 5) ∧ msI yp (X 7) (X 0) (X 1) (X 5) (X 2) (X 3) ∧ shQ yp (cN (X 6 0)) (X 7) X ∧ 34 ≤ cN (X 6 0)) ∧ hdI nb G fc fr ∧ (∀ g : Nat, g < nb → G g 1 = 0 ∨ tyV yp (Z.1 7) (Z.2 20) (G g 1)) ∧ (∀ g : Nat, g < 40 → G g 1 < 3040 → g < nb) ∧
  (∀ g : Nat, g < nb → (∀ q : Nat, q < G g 0 → fr g 1 q < 0 ∨ ∃ w : Nat, w < 8 ∧ fr g 1 q = nI w) ∧ (fc g 6 < 0 ∨ ∃ w : Nat, w < 8 ∧ fc g 6 = nI w) ∧ ∃ lv : Nat, fc g 2 = nI lv) ∧
  ∃ (T : Nat → tgS) (aa bb lf lt : Nat → Nat) (kk : Nat → Nat → Option (List tE)), (∀ g : Nat, g < nb → gC yp X G g (fc g) (fr g) Z (T g) (aa g) (bb g) (lf g) (lt g) (kk g)) ∧ ∀ g : Nat, g < nb → ∃ (em : Nat → Int32) (r8 r9 : Int32), mvF (gF Z (T g)) (kk g) (aa g) (bb g) ((T g).1 4) (G g 0) ((T g).2 15) em (Z.2 22) r8 ∧ r8 < 0 ∧ lnFa (gF Z (T g)) (kk g) (aa g) (bb g) ((T g).1 4) (G g 0) ((T g).1 5) nb (Z.2 20) ((T g).2 15) ((T g).2 18) ((T g).2 19) (fr g 1) (nI (G g 1)) (fc g 6) fc fr r9 ∧ r9 < 0
theorem lk_run {yp nb tt mh : Nat} {X : tF} {G : Nat → Nat → Nat} {lo : Nat → Nat} {fc : Nat → Nat → Int32} {fr : Nat → Nat → Nat → Int32} {Z : tgS} (h : lkO yp nb tt X G lo fc fr Z) (hmh : mh ≤ 4000) (na : Nat → Nat → Nat) : ∃ (FG : Nat → tF) (QM : qmT), stM Z.2 FG na fc fr (Z.2 20) (Z.2 21) (X 1) (X 2) (X 3) mh QM ∧ fgR Z.2 FG fr ∧ ∀ (gm mln : Nat) (ft ff az : Nat → Int32) (cc : Nat → Int64), gm < nb → G gm 0 = 0 → mln ≤ 600000 → mh ≤ mln → ∃ cf ac vc vn np lv : Nat, caF fc fr gm cf ac vc vn np lv ∧ ac ≤ mh ∧ ∀ (ml2 : Nat) (gc : Nat → Int64) (gf : Nat → Int32) (g0 : Nat → Option Nat) (g1 g3 : Nat → Int32), grC cc gc mln ml2 (mh - ac + vc + 3600) → fiC az fr gm 0 vn np ff gf → QM 1 gm (mh - ac) g0 g1 g3 ml2 cf ft gc (mh - ac + vc) gf := by
  obtain ⟨hp, hnb, ⟨s1, s2, s3, s4⟩, hd, hG, hGb, hlf, T, aa, bb, lf, lt, kk, hC, hF⟩ := h
  have htb : ∀ T : tgS, tbO (gF Z T) X yp (Z.1 7) := fun T => gF_tb hp s1 s2 s3 s4
  have h7 : Z.1 7 ≤ 3040 := hp.1.2.1
  have hX : ∀ g : Nat, ∃ w : lK × (Nat → Nat → lLc → Prop) × (Nat → Prop) × lTb, g < nb → gX yp X G (fun g => fc g 6) (fun g => fr g 1) Z g (T g) (aa g) (bb g) (kk g) w.1 w.2.1 w.2.2.1 w.2.2.2 := fun g => by
    by_cases hg : g < nb
    · obtain ⟨em, r8, r9, f1, f2, f3, f4⟩ := hF g hg
      obtain ⟨N, L, Rm, tb, hx⟩ := gX_of hp (hC g hg) (htb _) hd hg hG hGb hnb (hlf g hg).1 (hlf g hg).2.1 f1 f2 f3 f4
      exact ⟨(N, L, Rm, tb), fun _ => hx⟩
    · exact ⟨((fun _ _ _ => True, fun _ _ => True, fun _ => True), fun _ _ _ => True, fun _ => True, tb0 (gF Z Z)), fun q => absurd q hg⟩
  obtain ⟨w, hw⟩ := Classical.axiomOfChoice hX
  refine ⟨_, _, mD_M (NN := fun g => (w g).1) (LL := fun g => (w g).2.1) (RR := fun g => (w g).2.2.1) (tb := fun g => (w g).2.2.2) (na := na) hnb hmh h7 htb hd (fun g hg => (hlf g hg).2.2) hGb hC hw, mD_fg hC, fun gm mln ft ff az cc hgm h0 hm1 hm2 => ?_⟩
  exact Q_I (D := gD yp nb mh X G fc fr Z T aa bb kk (fun g => (w g).1) (fun g => (w g).2.1) (fun g => (w g).2.2.1) (fun g => (w g).2.2.2) na) (mD_ok hnb hmh h7 htb hC hw na) (mD_rw h7 htb hd (fun g hg => (hlf g hg).2.2) hC) hgm h0 ⟨hm1, hm2⟩
