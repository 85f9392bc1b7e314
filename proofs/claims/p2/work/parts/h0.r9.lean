-- h0.r9.lean.txt
section
/-- what a program's running rests on -/
abbrev mD := (qY) × (qZ) × (Nat → Nat → Nat) × (Nat → Nat → Nat) × (Nat → Nat) × (Nat → lTb) × (Nat → tF) × (tF) × (Nat → Nat → Nat) × (Nat → Int32) × (Nat → Nat → Int32) × (Nat) × (Nat) × (Nat) × (Nat) × (Nat → Nat) × (Nat → Nat) × (Nat → Nat) × (Nat → Nat → Option (List tE)) × (Nat → lK) × (Nat → Nat → Nat → lLc → Prop) × (Nat → Nat → Prop) × (Nat → Nat → Nat)
def mD.y (D : mD) : qY := D.1
def mD.z (D : mD) : qZ := D.2.1
def mD.vt (D : mD) : Nat → Nat → Nat := D.2.2.1
def mD.vo (D : mD) : Nat → Nat → Nat := D.2.2.2.1
def mD.vc (D : mD) : Nat → Nat := D.2.2.2.2.1
def mD.tb (D : mD) : Nat → lTb := D.2.2.2.2.2.1
def mD.FG (D : mD) : Nat → tF := D.2.2.2.2.2.2.1
def mD.X (D : mD) : tF := D.2.2.2.2.2.2.2.1
def mD.G (D : mD) : Nat → Nat → Nat := D.2.2.2.2.2.2.2.2.1
def mD.rl (D : mD) : Nat → Int32 := D.2.2.2.2.2.2.2.2.2.1
def mD.pl (D : mD) : Nat → Nat → Int32 := D.2.2.2.2.2.2.2.2.2.2.1
def mD.yp (D : mD) : Nat := D.2.2.2.2.2.2.2.2.2.2.2.1
def mD.yt (D : mD) : Nat := D.2.2.2.2.2.2.2.2.2.2.2.2.1
def mD.nb (D : mD) : Nat := D.2.2.2.2.2.2.2.2.2.2.2.2.2.1
def mD.mh (D : mD) : Nat := D.2.2.2.2.2.2.2.2.2.2.2.2.2.2.1
def mD.aa (D : mD) : Nat → Nat := D.2.2.2.2.2.2.2.2.2.2.2.2.2.2.2.1
def mD.bb (D : mD) : Nat → Nat := D.2.2.2.2.2.2.2.2.2.2.2.2.2.2.2.2.1
def mD.nv (D : mD) : Nat → Nat := D.2.2.2.2.2.2.2.2.2.2.2.2.2.2.2.2.2.1
def mD.kk (D : mD) : Nat → Nat → Option (List tE) := D.2.2.2.2.2.2.2.2.2.2.2.2.2.2.2.2.2.2.1
def mD.NN (D : mD) : Nat → lK := D.2.2.2.2.2.2.2.2.2.2.2.2.2.2.2.2.2.2.2.1
def mD.LL (D : mD) : Nat → Nat → Nat → lLc → Prop := D.2.2.2.2.2.2.2.2.2.2.2.2.2.2.2.2.2.2.2.2.1
def mD.RR (D : mD) : Nat → Nat → Prop := D.2.2.2.2.2.2.2.2.2.2.2.2.2.2.2.2.2.2.2.2.2.1
def mD.na (D : mD) : Nat → Nat → Nat := D.2.2.2.2.2.2.2.2.2.2.2.2.2.2.2.2.2.2.2.2.2.2
/-- function g -/
def mEf (D : mD) (g : Nat) : Prop := sgE D.y D.z (D.FG g) D.X D.G (D.G g 1) (D.aa g) (D.bb g) (D.nv g) D.yp D.yt (D.kk g) (D.NN g) (D.LL g) (D.RR g) (D.tb g) D.rl D.pl (D.rl g) (D.vt g)
def mEn (D : mD) (g : Nat) : Prop := enF D.y D.z (D.FG g) D.G D.yp D.yt (D.aa g) (D.kk g) (D.NN g) (D.RR g) (D.tb g) D.rl D.pl (D.rl g) D.vt D.vo g
def mAt (D : mD) (g f : Nat) (x : Nat → kFm) (An : Nat → lLc → Nat → Prop) (fb : Nat → Nat) (i : Nat) (ft : Nat → Int32) (fc : Nat → Int64) (tp : Nat) (ff : Nat → Int32) : Prop := At D.y D.z D.vt D.vo D.vc D.tb D.mh (D.aa g) (D.bb g) (D.kk g) (D.NN g) (D.LL g) (D.RR g) g f x An fb i (tkP ft) (cI fc) tp (filP ff)
/-- all that is known of the functions -/
def mOk (D : mD) : Prop := kYs D.y D.z D.vt D.vo D.vc ∧ D.nb ≤ 40 ∧ D.mh ≤ 4000 ∧ (∀ t : Nat, D.z.1 t ≤ 16) ∧ ∀ g : Nat, g < D.nb → mEf D g ∧ mEn D g ∧ D.aa g < D.bb g ∧ (∀ v : Nat, v < 40 → D.FG g 15 v ≠ -1 → D.FG g 17 v = nI (D.vo g v)) ∧ D.vc g ≤ 680 ∧ ∀ i v1 : Nat, D.aa g ≤ i → i < D.bb g → D.kk g i ≠ none → D.FG g 0 i = nI 32 → D.FG g 2 i = nI v1 → v1 ≤ 40 → v1 ≤ D.nv g
/-- filled variables are in scope -/
def fvI (D : mD) (ff : Nat → Int32) (j g : Nat) (s : List tE) : Prop := ∀ v : Nat, v < D.nv g → ff (40 * j + v) ≠ 0 → ((8, v, 0) : tE) ∈ s ∧ D.FG g 15 v ≠ -1
/-- the callers -/
def chn (D : mD) (x : Nat → kFm) (fb : Nat → Nat) (k0 : Nat → Option Nat) (k1 k2 ff : Nat → Int32) : Nat → Nat → (Nat → lLc → Nat → Prop) → Prop
  | 0, _, _ => True
  | j + 1, g, An => ∃ (g0 i0 : Nat) (r : List tE) (R : Nat → Option lLc) (A0 : Nat → lLc → Nat → Prop), g0 < D.nb ∧ x j = Cf (D.NN g0) (D.LL g0) g0 i0 r (D.G g 0) R A0 ∧ Wt (D.FG g0) D.G (D.aa g0) (D.bb g0) (D.kk g0) (D.NN g0) (D.RR g0) i0 g r ∧ An = kAo D.y (D.vt g) R (wl r) (D.G g 0) (ouF D.pl g) ∧ k0 (j + 1) = some (D.na g0 0) ∧ k1 (j + 1) = nI (i0 + 1) ∧ (k2 (j + 1) = nI (fb j) ∧ fb j ≤ 4000 + 4056 * j) ∧ fvI D ff j g0 r ∧ chn D x fb k0 k1 k2 ff j g0 A0
theorem chn_cg {D : mD} {x x2 : Nat → kFm} {fb fb2 : Nat → Nat} {k0 l0 : Nat → Option Nat} {k1 k2 l1 l2 ff f2 : Nat → Int32} : ∀ (j : Nat) {g : Nat} {An : Nat → lLc → Nat → Prop}, (∀ i : Nat, i < j → x2 i = x i ∧ fb2 i = fb i) → (∀ i : Nat, i ≤ j → l0 i = k0 i ∧ l1 i = k1 i ∧ l2 i = k2 i) → (∀ i : Nat, i < 40 * j → f2 i ≠ 0 → ff i ≠ 0) → D.nb = D.nb → (∀ g : Nat, g < D.nb → D.nv g ≤ 40) → chn D x fb k0 k1 k2 ff j g An → chn D x2 fb2 l0 l1 l2 f2 j g An
  | 0, _, _, _, _, _, _, _, _ => trivial
  | j + 1, g, An, h1, h2, h3, h4, h5, h => by
    obtain ⟨g0, i0, r, R, A0, a1, a2, a3, a4, a5, a6, a7, a8, a9⟩ := h
    have hv := h5 g0 a1
    refine ⟨g0, i0, r, R, A0, a1, (h1 j (by omega)).1.trans a2, a3, a4, (h2 (j + 1) (by omega)).1.trans a5, (h2 (j + 1) (by omega)).2.1.trans a6, ⟨(h2 (j + 1) (by omega)).2.2.trans (by rw [(h1 j (by omega)).2]; exact a7.1), by rw [(h1 j (by omega)).2]; exact a7.2⟩, fun v hv9 hne => a8 v hv9 (h3 _ (by omega) hne), ?_⟩
    exact chn_cg j (fun i hi => h1 i (by omega)) (fun i hi => h2 i (by omega)) (fun i hi => h3 i (by omega)) rfl h5 a9
/-- where a running stands -/
def QMd (D : mD) : qmT := fun kn g bs k0 k1 k2 mln i ft fc tp ff => ∃ (f : Nat) (x : Nat → kFm) (An : Nat → lLc → Nat → Prop) (fb : Nat → Nat), kn = f + 1 ∧ f < 60 ∧ g < D.nb ∧ bs = fb f ∧ (D.mh ≤ mln ∧ mln ≤ 600000 ∧ fb f + D.vc g + 3600 ≤ mln ∧ fb f ≤ 4000 + 4056 * f) ∧ (∀ s : List tE, D.kk g i = some s → fvI D ff f g s) ∧ chn D x fb k0 k1 k2 ff f g An ∧ mAt D g f x An fb i ft fc tp ff
section
variable {D : mD} {f g i j tp mln : Nat} {x : Nat → kFm} {An : Nat → lLc → Nat → Prop} {fb : Nat → Nat} {ft ff gt gf : Nat → Int32} {fc gc : Nat → Int64} {k0 : Nat → Option Nat} {k1 k2 : Nat → Int32}
theorem mE_n (h : mEf D g) : D.nv g ≤ 40 := h.2.2.2.2.1
/-- bounds of a state -/
theorem mAt_b (hO : mOk D) (hg : g < D.nb) (h : mAt D g f x An fb i ft fc tp ff) : ∃ s : List tE, D.kk g i = some s ∧ D.aa g ≤ i ∧ i < D.bb g ∧ i < 6000 ∧ (D.NN g).2.2 i ∧ D.RR g i ∧ tp = fb f + D.vc g + khs D.z s ∧ khs D.z s ≤ 3376 ∧ fb f + D.vc g ≤ tp := by
  obtain ⟨E, -⟩ := hO.2.2.2.2 g hg
  obtain ⟨s, R, hs, ha, hb, hN, hR, hk⟩ := h
  obtain ⟨et, -⟩ := At_s hk
  have h1 := khs_vl hO.2.2.2.1 s
  have h2 := E.2.2.1 i s ha hb hs
  have h3 : D.bb g ≤ 6000 := E.2.1.2.1
  exact ⟨s, hs, ha, hb, by omega, hN, hR, et, by omega, by omega⟩
/-- the next state, in the same call -/
theorem QM_mk (hO : mOk D) (hf : f < 60) (hg : g < D.nb) (hb : D.mh ≤ mln ∧ mln ≤ 600000 ∧ fb f + D.vc g + 3600 ≤ mln ∧ fb f ≤ 4000 + 4056 * f) (hfl : ∀ s : List tE, D.kk g j = some s → fvI D gf f g s) (hch : chn D x fb k0 k1 k2 ff f g An) (hff : ∀ i : Nat, i < 40 * f → gf i = ff i) (h : mAt D g f x An fb j gt gc tp gf) : QMd D (f + 1) g (fb f) k0 k1 k2 mln j gt gc tp gf :=
  ⟨f, x, An, fb, rfl, hf, hg, rfl, hb, hfl, chn_cg f (fun _ _ => ⟨rfl, rfl⟩) (fun _ _ => ⟨rfl, rfl, rfl⟩) (fun i hi hne => by rw [hff i hi] at hne; exact hne) rfl (fun g hg => mE_n (hO.2.2.2.2 g hg).1) hch, h⟩
/-- filled variables, behind an instruction -/
theorem fl_S {o : Nat} {s : List tE} (E : mEf D g) (ha : D.aa g ≤ i) (hb : i < D.bb g) (hs : D.kk g i = some s) (ho : D.FG g 0 i = nI o) (h33 : o < 33) (hn : o ≠ 15 ∧ o ≠ 16 ∧ o ≠ 20 ∧ o ≠ 22) (hv : ∀ v : Nat, v < D.nv g → gf (40 * f + v) ≠ 0 → D.FG g 15 v ≠ -1 ∧ ((((8, v, 0) : tE) ∈ s ∧ (o = 32 → ∀ v0 v1 : Nat, v0 ≤ 40 → v1 ≤ 40 → D.FG g 1 i = nI v0 → D.FG g 2 i = nI v1 → ¬ (v0 ≤ v ∧ v < v1))) ∨ ((o = 24 ∨ o = 25 ∨ o = 29 ∨ o = 30) ∧ D.FG g 1 i = nI v))) : ∀ s2 : List tE, D.kk g (i + 1) = some s2 → fvI D gf f g s2 := fun s2 hs2 v h1 h2 => by
  obtain ⟨s3, e1, e2⟩ := e8_f o (ce_op E.2.1 ha hb hs ho h33) hn
  rw [hs2] at e1
  obtain rfl := Option.some.inj e1
  have h40 := mE_n E
  refine ⟨?_, (hv v h1 h2).1⟩
  rcases (hv v h1 h2).2 with ⟨q1, q2⟩ | ⟨q1, q2⟩
  · exact e2.1 v q1 q2
  · exact e2.2 q1 v (by omega) q2
/-- .. that leaves the bits alone -/
theorem fl_0 {o : Nat} {s : List tE} (E : mEf D g) (ha : D.aa g ≤ i) (hb : i < D.bb g) (hs : D.kk g i = some s) (ho : D.FG g 0 i = nI o) (h33 : o < 33) (hn : o ≠ 15 ∧ o ≠ 16 ∧ o ≠ 20 ∧ o ≠ 22 ∧ o ≠ 32) (hfl : fvI D ff f g s) : ∀ s2 : List tE, D.kk g (i + 1) = some s2 → fvI D ff f g s2 := fl_S E ha hb hs ho h33 ⟨hn.1, hn.2.1, hn.2.2.1, hn.2.2.2.1⟩ (fun v h1 h2 => ⟨(hfl v h1 h2).2, Or.inl ⟨(hfl v h1 h2).1, fun q => absurd q hn.2.2.2.2⟩⟩)
/-- the variable of a place has a type -/
theorem sg_pv (E : mEf D g) {s : List tE} {p v : Nat} (hs : D.kk g i = some s) (ha : D.aa g ≤ i) (hb : i < D.bb g) (ho : D.FG g 0 i = nI 2 ∨ D.FG g 0 i = nI 3 ∨ D.FG g 0 i = nI 4 ∨ D.FG g 0 i = nI 26) (h1 : D.FG g 1 i = nI p) (h6 : D.FG g 6 p = nI v) (hp : p < 3001) (hv : v < 40) : D.FG g 15 v ≠ -1 := by
  have key : ∀ (p9 v9 n T : Nat) (pa ro mu : Int32), D.FG g 1 i = nI p9 → plI (D.FG g) D.X p9 v9 n T pa ro mu → D.FG g 15 v ≠ -1 := fun p9 v9 n T pa ro mu q1 q2 => by
    have e1 : p9 = p := (nI_eq (by have := q2.1.1; omega) (by omega)).mp (q1.symm.trans h1)
    subst e1
    have e2 : v9 = v := (nI_eq (by have := q2.2.1; omega) (by omega)).mp (q2.2.2.2.2.1.symm.trans h6)
    subst e2
    exact pl_ne n pa ro T mu q2.2.2.2.1 q2.2.2.2.2.2.2.2.2.2.2
  rcases ho with ho | ho | ho | ho
  · obtain ⟨p9, T, mu, q1, ⟨v9, n, pa, ro, q2⟩, -⟩ := ce_op E.2.1 ha hb hs ho (by decide)
    exact key p9 v9 n T pa ro mu q1 q2
  · obtain ⟨p9, T, q1, ⟨v9, n, pa, ro, mu, q2, -⟩, -⟩ := ce_op E.2.1 ha hb hs ho (by decide)
    exact key p9 v9 n T pa ro mu q1 q2
  · obtain ⟨p9, T, c, m, mu, q1, ⟨v9, n, pa, ro, q2⟩, -⟩ := ce_op E.2.1 ha hb hs ho (by decide)
    exact key p9 v9 n T pa ro mu q1 q2
  · obtain ⟨p9, v9, n, T, pa, ro, mu, r, q1, q2, -⟩ := ce_op E.2.1 ha hb hs ho (by decide)
    exact key p9 v9 n T pa ro mu q1 q2
/-- instructions that work on values -/
theorem Q_V (hO : mOk D) (kn bs : Nat) : stV (D.FG g) bs (40 * (kn - 1)) D.mh mln (QMd D kn g bs k0 k1 k2 mln) := by
  intro i tp ft ff fc hQ
  obtain ⟨f, x, An, fb, rfl, hf, hg, rfl, hb, hfl, hch, hA⟩ := hQ
  obtain ⟨E, En, hab, h17, hvc, h32⟩ := hO.2.2.2.2 g hg
  have hy := hO.1
  obtain ⟨s, hs, ha, hib, hi6, hN, hR, et, h33, het⟩ := mAt_b hO hg hA
  have hfl0 := hfl s hs
  rw [show f + 1 - 1 = f by omega]
  have htop : tp < 2 ^ 31 := by omega
  have htl : tp ≤ mln := by omega
  have mk : ∀ (o : Nat) (gt : Nat → Int32) (gc : Nat → Int64) (tp2 : Nat), D.FG g 0 i = nI o → o < 13 → mAt D g f x An fb (i + 1) gt gc tp2 ff → QMd D (f + 1) g (fb f) k0 k1 k2 mln (i + 1) gt gc tp2 ff := fun o gt gc tp2 ho h13 h => QM_mk hO hf hg hb (fl_0 E ha hib hs ho (by omega) ⟨by omega, by omega, by omega, by omega, by omega⟩ hfl0) hch (fun _ _ => rfl) h
  refine ⟨⟨hi6, by omega⟩, fun ho gc hgc => ?_, fun ho => ?_, fun ho => ?_, fun ho => ?_, fun ho => ?_, fun ho => ?_, fun ho => ?_, fun ho => ?_, fun ho => ?_, fun ho => ?_⟩
  · have q := s_num (c2 := cI gc) E hy hA ho (fun k hk => by unfold cI; rw [hgc k hk])
    rcases ho with ho | ho
    · exact mk 0 _ _ _ ho (by decide) q
    · exact mk 1 _ _ _ ho (by decide) q
  · obtain ⟨p, v, T, m, nd, ds, os, o, pa, ro, p1, p2, p3⟩ := s_cpy E hy htop hA ho
    have hvn := sg_pv E hs ha hib (Or.inl ho) p1 p2.2.2.1 p2.2.1 p2.2.2.2.1
    obtain ⟨c1, c2, -⟩ := pl_C p2 (h17 v p2.2.2.2.1 hvn) htl (by omega)
    refine ⟨p, v, T, m, os.length, _, p1, c1, mk 2 _ _ _ ho (by decide) (p3 _ (fun k hk => cp_out (by omega)) (fun q hq => ?_))⟩
    rw [cp_in hq, c2]
  · obtain ⟨p, v, T, m, nd, ds, os, o, pa, ro, p1, p2, p3, p4⟩ := s_mov E hy htop hA ho
    have hvn := sg_pv E hs ha hib (Or.inr (Or.inl ho)) p1 p2.2.2.1 p2.2.1 p2.2.2.2.1
    obtain ⟨c1, c2, c3⟩ := pl_C p2 (h17 v p2.2.2.2.1 hvn) htl (by omega)
    have hv4 := p2.2.2.2.1
    refine ⟨p, v, T, m, os.length, _, p1, c1, fun hq => by rw [c2]; exact p3 (fun e => by rw [e] at hq; exact absurd hq (by decide)), by omega, fun gt hgt => ?_⟩
    have hz : ∀ w : Nat, ff (40 * f + w) = 0 → upd ff (40 * f + v) (ff (40 * f + v) &&& (D.FG g 12 p ^^^ -1)) (40 * f + w) = 0 := fun w q => by
      by_cases e : w = v
      · rw [e, pk_us]; rw [e] at q; rw [q]; exact Int32.zero_and
      · rw [pk_un (by omega)]; exact q
    refine QM_mk hO hf hg hb (fl_S E ha hib hs ho (by decide) ⟨by decide, by decide, by decide, by decide⟩ (fun w h1 h2 => ?_)) hch (fun k hk => pk_un (by omega)) ?_
    · have h3 := hfl0 w h1 (fun q => h2 (hz w q))
      exact ⟨h3.2, Or.inl ⟨h3.1, fun q => absurd q (by decide)⟩⟩
    · refine p4 _ _ _ (fun k hk hno => ?_) (fun q hq => by rw [cp_in hq, c2]) (fun k hk => cp_out hk) (fun j w hjw => fil_ne hv4 hjw) (fun q hq => ?_)
      · show gt k ≠ 0
        rcases hgt with ⟨-, e⟩ | ⟨e1, e2⟩
        · rw [e]; exact hk
        · rw [e2 k, c2, if_neg (hno (fun e => by rw [e] at e1; exact absurd e1 (by decide)))]; exact hk
      · obtain ⟨q1, q3, q2⟩ := fil_eq hq
        rw [ibit_and, Bool.and_eq_true] at q2
        refine ⟨⟨q1, q3, q2.1⟩, fun h16 => ?_⟩
        have := q2.2
        rw [ibit_not _ _ (by omega)] at this
        cases e : ibit (D.FG g 12 p) q with
        | false => rfl
        | true => rw [e] at this; exact absurd this (by decide)
  · obtain ⟨p, v, T, m, nd, ds, os, o, pa, ro, p1, p2, p3⟩ := s_bor E hy htop hA ho
    have hvn := sg_pv E hs ha hib (Or.inr (Or.inr (Or.inl ho))) p1 p2.2.2.1 p2.2.1 p2.2.2.2.1
    obtain ⟨c1, c2, -⟩ := pl_C p2 (h17 v p2.2.2.2.1 hvn) htl (by omega)
    have hra := p2.2.2.2.2.2.2.2.2.2.2.2.2.2
    refine ⟨p, v, T, m, os.length, _, p1, c1, mk 4 _ _ _ ho (by decide) (p3 _ (fun k hk => up_out (by omega)) ?_)⟩
    rw [up_in, c2, i64_n (by omega)]
  · have q := s_un E hy hA ho
    refine ⟨q.1, fun gc hgc => ?_⟩
    have q2 := q.2 (cI gc) (fun k hk => by unfold cI; rw [hgc k hk])
    rcases ho with ho | ho
    · exact mk 5 _ _ _ ho (by decide) q2
    · exact mk 6 _ _ _ ho (by decide) q2
  · have q := s_op2 E hy hA ho
    exact ⟨q.1, fun gc hgc => mk 7 _ _ _ ho (by decide) (q.2 (cI gc) (fun k hk => by unfold cI; rw [hgc k hk]))⟩
  · obtain ⟨T, m, q1, q2, q3, q4, q5, q6, q7⟩ := s_box E hy hA ho
    obtain ⟨q6, q66⟩ := q6
    refine ⟨T, m, q1, q2, q3, q4, q5, q6, fun a gt h1 h2 h3 => mk 8 _ _ _ ho (by decide) (q7 _ _ a h1 (fun k k1 k2 => ⟨?_, fun q => q (h2 k k1 k2)⟩) (fun k hk => ?_) (fun o ho9 => ?_) ?_ (fun k k1 k2 => ?_))⟩
    · show gt k ≠ 0
      rw [h3, if_pos ⟨k1, k2⟩]; decide
    · show gt k ≠ 0
      have hk : ft k ≠ 0 := hk
      rw [h3]
      split
      · decide
      · exact hk
    · rw [up_out (by omega), cp_in ho9]
    · rw [up_in, i64_n (by have := hO.2.2.1; omega)]
    · rw [up_out k1, cp_out k2]
  · rcases ho with ho | ho
    · obtain ⟨m, q1, q2, q3⟩ := s_new E hy hA ho
      exact ⟨m, q1, q2, mk 9 _ _ _ ho (by decide) q3⟩
    · obtain ⟨m, q1, q2, q3⟩ := s_pad E hy hA ho
      exact ⟨m, q1, q2, mk 12 _ _ _ ho (by decide) q3⟩
  · obtain ⟨off, m, sz, q1, q2, q3, q4, q5, q6, q7, q8⟩ := s_fld E hy hA ho
    exact ⟨off, m, sz, q1, q2, q3, q4, q6, q7, mk 10 _ _ _ ho (by decide) (q8 _ (fun o ho9 => cp_in ho9) (fun k hk => cp_out hk))⟩
  · obtain ⟨gg, q1, q2, q3⟩ := s_tag E hy hA ho
    exact ⟨gg, q2, mk 11 _ _ _ ho (by decide) (q3 _ (fun k hk => up_out (by omega)) (by rw [up_in, i64_n (by omega)]))⟩
end
end
-- h0.ra.lean.txt
section
section
variable {D : mD} {f g i j tp mln : Nat} {x : Nat → kFm} {An : Nat → lLc → Nat → Prop} {fb : Nat → Nat} {ft ff gt gf : Nat → Int32} {fc gc : Nat → Int64} {k0 : Nat → Option Nat} {k1 k2 : Nat → Int32}
/-- filled variables, where a jump leads to -/
theorem fl_J {o l : Nat} {s : List tE} (E : mEf D g) (ha : D.aa g ≤ i) (hb : i < D.bb g) (hs : D.kk g i = some s) (ho : D.FG g 0 i = nI o) (h33 : o < 33) (hl : l < 1100) (h5 : D.FG g 5 l = nI j) (hj : j < 6000) (h : ((o = 15 ∨ o = 16 ∨ o = 17 ∨ o = 18 ∨ o = 19) ∧ D.FG g 1 i = nI l) ∨ (o = 20 ∧ ∃ tc gg n9 : Nat, D.FG g 1 i = nI tc ∧ tc < 6000 ∧ D.FG g 3 i = nI n9 ∧ n9 ≤ 12 ∧ gg < n9 ∧ D.FG g 13 (tc + gg) = nI l)) (hfl : fvI D ff f g s) : ∀ s2 : List tE, D.kk g j = some s2 → fvI D ff f g s2 := fun s2 hs2 v h1 h2 =>
  ⟨e8_j E.2.1 ha hb hs ho h33 hl h5 hj hs2 h v (hfl v h1 h2).1, (hfl v h1 h2).2⟩
/-- instructions that go elsewhere -/
theorem Q_G (hO : mOk D) (kn bs : Nat) : stG (D.FG g) mln (QMd D kn g bs k0 k1 k2 mln) := by
  intro i tp ft ff fc hQ
  obtain ⟨f, x, An, fb, rfl, hf, hg, rfl, hb, hfl, hch, hA⟩ := hQ
  obtain ⟨E, En, hab, h17, hvc, h32⟩ := hO.2.2.2.2 g hg
  have hy := hO.1
  obtain ⟨s, hs, ha, hib, hi6, hN, hR, et, h33, het⟩ := mAt_b hO hg hA
  have hfl0 := hfl s hs
  have mk : ∀ (o tp2 : Nat), D.FG g 0 i = nI o → o < 33 → (o ≠ 15 ∧ o ≠ 16 ∧ o ≠ 20 ∧ o ≠ 22 ∧ o ≠ 32) → mAt D g f x An fb (i + 1) ft fc tp2 ff → QMd D (f + 1) g (fb f) k0 k1 k2 mln (i + 1) ft fc tp2 ff := fun o tp2 ho h33 hn h => QM_mk hO hf hg hb (fl_0 E ha hib hs ho h33 hn hfl0) hch (fun _ _ => rfl) h
  have mj : ∀ (o l j tp2 : Nat), D.FG g 0 i = nI o → o < 33 → l < 1100 → D.FG g 5 l = nI j → (((o = 15 ∨ o = 16 ∨ o = 17 ∨ o = 18 ∨ o = 19) ∧ D.FG g 1 i = nI l) ∨ (o = 20 ∧ ∃ tc gg n9 : Nat, D.FG g 1 i = nI tc ∧ tc < 6000 ∧ D.FG g 3 i = nI n9 ∧ n9 ≤ 12 ∧ gg < n9 ∧ D.FG g 13 (tc + gg) = nI l)) → mAt D g f x An fb j ft fc tp2 ff → QMd D (f + 1) g (fb f) k0 k1 k2 mln j ft fc tp2 ff := fun o l j tp2 ho h33 hl h5 h1 h => by
    obtain ⟨-, -, -, -, hj6, -⟩ := mAt_b hO hg h
    exact QM_mk hO hf hg hb (fl_J E ha hib hs ho h33 hl h5 hj6 h1 hfl0) hch (fun _ _ => rfl) h
  refine ⟨⟨hi6, by omega⟩, fun ho => ?_, fun ho => ?_, fun ho => ?_, fun ho => ?_, fun ho => ?_⟩
  · rcases ho with ho | ho | ho
    · exact mk 13 _ ho (by decide) (by decide) (s_fuel E hA (Or.inr (Or.inl ho)))
    · exact mk 14 _ ho (by decide) (by decide) (s_fuel E hA (Or.inr (Or.inr ho)))
    · exact mk 23 _ ho (by decide) (by decide) (s_fuel E hA (Or.inl ho))
  · rcases ho with ho | ho
    · obtain ⟨l, j, q1, q2, q3, q4⟩ := s_jmp E hA (Or.inr ho)
      exact ⟨l, j, q1, q2, q3, mj 15 l j _ ho (by decide) q1 q3 (Or.inl ⟨by omega, q2⟩) q4⟩
    · obtain ⟨l, j, q1, q2, q3, q4⟩ := s_jmp E hA (Or.inl ho)
      exact ⟨l, j, q1, q2, q3, mj 16 l j _ ho (by decide) q1 q3 (Or.inl ⟨by omega, q2⟩) q4⟩
  · obtain ⟨q0, q9, l, j, q1, q2, q3, q4⟩ := s_unl E hA ho
    exact ⟨q0, mk 17 _ ho (by decide) (by decide) q9, l, j, q1, q2, q3, mj 17 l j _ ho (by decide) q1 q3 (Or.inl ⟨by omega, q2⟩) q4⟩
  · obtain ⟨q0, q9, l, j, q1, q2, q3, q4⟩ := s_and E hA ho
    rcases ho with ho | ho
    · exact ⟨q0, mk 18 _ ho (by decide) (by decide) q9, l, j, q1, q2, q3, mj 18 l j _ ho (by decide) q1 q3 (Or.inl ⟨by omega, q2⟩) q4⟩
    · exact ⟨q0, mk 19 _ ho (by decide) (by decide) q9, l, j, q1, q2, q3, mj 19 l j _ ho (by decide) q1 q3 (Or.inl ⟨by omega, q2⟩) q4⟩
  · obtain ⟨tc, gg, l, j, q1, ⟨q2, n9, n1, n2, n3⟩, q3, q4, q5, q6, q7, q8⟩ := s_swi E hy hA ho
    refine ⟨tc, gg, l, j, q1, q3, q4, q5, q6, ?_, mj 20 l j _ ho (by decide) q5 q6 (Or.inr ⟨rfl, tc, gg, n9, q1, by omega, n1, n2, n3, q4⟩) q8⟩
    rcases q7 with ⟨sz, w1, w2, w3, w4, w5⟩ | ⟨w1, w2, ad, w3, w4, w5⟩
    · exact Or.inl ⟨sz, w1, w2, w3, w4, i32_n w5 (by omega)⟩
    · exact Or.inr ⟨w1, w2, ad, i32_n w3 (by omega), by omega, i32_n w5 (by omega)⟩
/-- what is matched by a reference leads to a place below the top -/
theorem kS_mark {y : qY} {z : qZ} {vt vo : Nat → Nat → Nat} {vc : Nat → Nat} {tb : Nat → lTb} {hp top q r0 m : Nat} {tk : Nat → Prop} {c : Nat → Int} {fil : Nat → Nat → Nat → Prop} {r : List tE} (hy : kYs y z vt vo vc) (h : kS y z vt vo vc tb hp tk c f x fb top fil) (hq : q = 5 ∨ q = 6) (hS : (x f).2.1 = (q, r0, m) :: r) : ∃ ad : Nat, c (fb f + vc (x f).1 + khs z r) = (ad : Int) ∧ ad < top := by
  obtain ⟨rt, ra, V, hJ, hL⟩ := h
  have hf := Nat.le_refl f
  have hmem : (q, r0, m) ∈ (x f).2.1 := by rw [hS]; exact List.mem_cons_self ..
  have pm : ∃ (a0 : Nat × Nat) (π : lLc), kR (x f) 300 = some (a0 :: π) ∧ ∃ w : Nat × Nat, V a0 π = some w := by
    rcases hq with rfl | rfl
    · obtain ⟨a0, π, p1, -, -, e, -⟩ := ((hJ.2.2.2.2.2.2.2.1 f hf r0 m).1 hmem).2
      exact ⟨a0, π, p1, _, e⟩
    · obtain ⟨a0, π, p1, -, -, e, -⟩ := ((hJ.2.2.2.2.2.2.2.1 f hf r0 m).2 hmem).2
      exact ⟨a0, π, p1, _, e⟩
  obtain ⟨a0, π, p1, w, e⟩ := pm
  have hK := hJ.2.2.2.2.1 f hf
  rw [hS] at hK
  have hw3 : ∃ w : Nat × Nat, V (f, 300) [] = some w := by
    rcases hq with rfl | rfl
    · exact hK.1.2
    · exact hK.1.2
  have hA := hL.2.2.1 f hf
  rw [hS] at hA
  have a1 : ra (f, 300) = fb f + vc (x f).1 + khs z r := by
    rcases hq with rfl | rfl
    · exact hA.1
    · exact hA.1
  have hla := hL.2.1 f hf 300 _ (Or.inr rfl) p1 hw3
  exact ⟨qA y z c (rt a0) (ra a0) π, by rw [← a1]; exact hla, kLt hy hJ hL e⟩
/-- a type that is dropped is no reference -/
theorem ad_N {F X : tF} {yp yt T : Nat} (tb : tbO F X yp yt) (hT : tyV yp yt (F 20) T) (h : F 23 T ≠ 0) : tyN yp (F 20) T := by
  rcases hT.1 with q | ⟨q1, q2⟩
  · exact q
  · obtain ⟨-, -, h3, -⟩ := tb.1.2.2.2.2.2.2.2.1 T q1 hT.2
    have h3 : F 23 T = if F 20 T = 4 then 1 else 0 := h3
    rw [if_neg (by rcases q2 with q | q <;> (rw [q]; decide))] at h3
    exact absurd h3 h
end
end
-- h0.rb.lean.txt
section
section
variable {D : mD} {f g i j tp mln : Nat} {x : Nat → kFm} {An : Nat → lLc → Nat → Prop} {fb : Nat → Nat} {ft ff gt gf : Nat → Int32} {fc gc : Nat → Int64} {k0 : Nat → Option Nat} {k1 k2 : Nat → Int32}
theorem mE_y (E : mEf D g) : tbO (D.FG g) D.X D.yp D.yt ∧ D.y = yF (D.FG g) D.X D.yp D.yt ∧ D.z = zF (D.FG g) D.X D.yt := ⟨E.1.1, E.1.2.1, E.1.2.2.1⟩
/-- drops, by the class's rows -/
theorem Q_dr {ak : Nat → Int32} {P : Nat → Nat → Int32 → Prop} {B : Nat → Prop} (hO : mOk D) (hg : g < D.nb) (hak : ∀ t : Nat, t < D.yt → ak t = D.FG g 20 t) (htl : tp ≤ mln) (h : drC D.y D.z (cI fc) D.mh tp P B) : drK ak (D.FG g 21) (D.FG g 22) (D.FG g 23) (D.X 1) (D.X 2) (D.X 3) fc D.mh mln (fun t a p => D.FG g 23 t ≠ 0 ∧ tyN D.yp (D.FG g 20) t ∧ t < D.yt ∧ P t a p) B := by
  obtain ⟨E, -⟩ := hO.2.2.2.2 g hg
  obtain ⟨e1, e2, e3⟩ := mE_y E
  rw [e2, e3] at h
  exact drK_of e1 hak (Nat.le_refl _) hO.2.2.1 htl h
/-- a typed variable -/
theorem Q_ty (E : mEf D g) {v : Nat} (hv : v < 40) (h : D.FG g 15 v ≠ -1) : ∃ T : Nat, D.FG g 15 v = nI T ∧ T < 3040 ∧ tyV D.yp D.yt (D.FG g 20) T ∧ D.vt g v = ymF (D.FG g) T ∧ v < D.nv g := by
  obtain ⟨h1, T, h2, h3, h4⟩ := E.2.2.2.2.2.1 v hv h
  have h5 : D.yt ≤ 3040 := E.1.1.1.2.1
  have h6 := h3.2
  exact ⟨T, h2, by omega, h3, h4, h1⟩
theorem gtB_tk {B : Nat → Prop} (h : gtB ft gt B) : ∀ k : Nat, tkP ft k → ¬ B k → tkP gt k := fun k hk hb => by
  rcases h k with q | ⟨-, q⟩
  · show gt k ≠ 0
    rw [q]; exact hk
  · exact absurd q hb
/-- the cells of a place are among the first 16 -/
theorem sg_pc (hz16 : ∀ t : Nat, D.z.1 t ≤ 16) (E : mEf D g) {s : List tE} {p c : Nat} (hs : D.kk g i = some s) (ha : D.aa g ≤ i) (hb : i < D.bb g) (ho : D.FG g 0 i = nI 26) (h1 : D.FG g 1 i = nI p) (hp : p < 3001) (hc : c < 32) (hbit : ibit (D.FG g 12 p) c = true) : c < 16 := by
  obtain ⟨p9, v9, n, T, pa, ro, mu, r, q1, q2, -⟩ := ce_op E.2.1 ha hb hs ho (by decide)
  have e1 : p9 = p := (nI_eq (by have := q2.1.1; omega) (by omega)).mp (q1.symm.trans h1)
  subst e1
  obtain ⟨T0, ds, os, o, -, -, -, -, -, w, -, h⟩ := sg_pl E q2
  have hn := q2.2.2.1
  have key : ∀ z9 : Nat, o + z9 ≤ 16 → D.FG g 12 p9 = pCells ro (nI z9) → c < 16 := fun z9 hz h12 => by
    rw [h12, pc_bit w hn hz hc] at hbit
    by_cases e : os = []
    · rw [if_pos e, Bool.and_eq_true] at hbit
      have := of_decide_eq_true hbit.2
      omega
    · rw [if_neg e] at hbit
      have h9 := of_decide_eq_true hbit
      cases os with
      | nil => exact absurd rfl e
      | cons a os =>
        have h9 : c = a := h9
        have := w.2.2.2.2.2.1 a (List.mem_cons_self ..)
        omega
  rcases h with ⟨-, -, -, hz, h12, -⟩ | ⟨-, -, h0, -, -, h12⟩
  · exact key _ hz h12
  · exact key _ (by have := hz16 (D.vt g v9); omega) h12
/-- instructions that work on variables -/
theorem Q_E (hO : mOk D) {et ak : Nat → Int32} (het : ∀ v : Nat, v < 40 → D.FG g 15 v ≠ -1 → et v = D.FG g 15 v) (hak : ∀ t : Nat, t < D.yt → ak t = D.FG g 20 t) (kn bs : Nat) : stE (D.FG g) et ak (D.FG g 21) (D.X 1) (D.X 2) (D.X 3) bs (40 * (kn - 1)) D.mh mln (QMd D kn g bs k0 k1 k2 mln) := by
  intro i tp ft ff fc hQ
  obtain ⟨f, x, An, fb, rfl, hf, hg, rfl, hb, hfl, hch, hA⟩ := hQ
  obtain ⟨E, En, hab, h17, hvc, h32⟩ := hO.2.2.2.2 g hg
  have hy := hO.1
  obtain ⟨s, hs, ha, hib, hi6, hN, hR, et9, h33, het9⟩ := mAt_b hO hg hA
  have hfl0 := hfl s hs
  have h40 := mE_n E
  rw [show f + 1 - 1 = f by omega]
  have htop : tp < 2 ^ 31 := by omega
  have htl : tp ≤ mln := by omega
  have ne1 : ∀ {v T : Nat}, D.FG g 15 v = nI T → T < 3040 → D.FG g 15 v ≠ -1 := fun {v T} e h => by rw [e]; exact nI_ne1 (by omega)
  have mk : ∀ (o : Nat) (gt : Nat → Int32) (gc : Nat → Int64) (tp2 : Nat), D.FG g 0 i = nI o → o < 33 → (o ≠ 15 ∧ o ≠ 16 ∧ o ≠ 20 ∧ o ≠ 22 ∧ o ≠ 32) → mAt D g f x An fb (i + 1) gt gc tp2 ff → QMd D (f + 1) g (fb f) k0 k1 k2 mln (i + 1) gt gc tp2 ff := fun o gt gc tp2 ho h33 hn h => QM_mk hO hf hg hb (fl_0 E ha hib hs ho h33 hn hfl0) hch (fun _ _ => rfl) h
  -- one variable's bits change
  have mv : ∀ (o v : Nat) (w : Int32) (gt : Nat → Int32) (gc : Nat → Int64) (tp2 : Nat), D.FG g 0 i = nI o → o < 33 → (o ≠ 15 ∧ o ≠ 16 ∧ o ≠ 20 ∧ o ≠ 22 ∧ o ≠ 32) → v < 40 → (w ≠ 0 → D.FG g 15 v ≠ -1 ∧ (((8, v, 0) : tE) ∈ s ∨ ((o = 24 ∨ o = 25 ∨ o = 29 ∨ o = 30) ∧ D.FG g 1 i = nI v))) → mAt D g f x An fb (i + 1) gt gc tp2 (upd ff (40 * f + v) w) → QMd D (f + 1) g (fb f) k0 k1 k2 mln (i + 1) gt gc tp2 (upd ff (40 * f + v) w) := fun o v w gt gc tp2 ho h33 hn hv hw h => by
    refine QM_mk hO hf hg hb (fl_S E ha hib hs ho h33 ⟨hn.1, hn.2.1, hn.2.2.1, hn.2.2.2.1⟩ (fun u h1 h2 => ?_)) hch (fun k hk => pk_un (by omega)) h
    by_cases e : u = v
    · rw [e, pk_us] at h2
      obtain ⟨z1, z2⟩ := hw h2
      rw [e]
      exact ⟨z1, z2.imp (fun z => ⟨z, fun q => absurd q hn.2.2.2.2⟩) id⟩
    · rw [pk_un (by omega)] at h2
      obtain ⟨z1, z2⟩ := hfl0 u h1 h2
      exact ⟨z2, Or.inl ⟨z1, fun q => absurd q hn.2.2.2.2⟩⟩
  refine ⟨⟨hi6, by omega⟩, fun ho => ?_, fun ho => ?_, fun ho => ?_, fun ho => ?_, fun ho => ?_, fun ho => ?_, fun ho => ?_, fun ho => ?_, fun ho => ?_⟩
  · obtain ⟨v, T, m, q1, q2, q3, q4, q5, q6, q7, q8, q9, q10⟩ := s_let E hy hA ho
    have hv4 : v < 40 := by omega
    refine ⟨v, T, m, D.vo g v, q1, hv4, (het v hv4 (ne1 q3 q4)).trans q3, q4, q5, h17 v hv4 (ne1 q3 q4), by omega, q8, by omega, mv 24 v _ _ _ _ ho (by decide) (by decide) hv4 (fun _ => ⟨ne1 q3 q4, Or.inr ⟨by omega, q1⟩⟩) (q10 _ _ (fun q hq => cp_in hq) (fun k hk => cp_out hk) (fun j w hjw => fil_ne hv4 hjw))⟩
  · obtain ⟨v, q1, q2, q3⟩ := s_let0 E hy hA ho
    have hv4 : v < 40 := by omega
    refine ⟨v, q1, by omega, mv 25 v _ _ _ _ ho (by decide) (by decide) hv4 (fun q => absurd rfl q) (q3 _ (fun j w hjw => fil_ne hv4 hjw) (fun q hq => ?_))⟩
    have := (fil_eq hq).2.2
    rw [ibit_0] at this
    exact absurd this (by decide)
  · obtain ⟨p, v, T, m, nd, ds, os, o, pa, ro, p1, p2, p3, p4, P, B, p5, p6, p7⟩ := s_asg E hy htop hA ho
    have hv4 := p3.2.2.2.1
    have hvn := sg_pv E hs ha hib (Or.inr (Or.inr (Or.inr ho))) p1 p3.2.2.1 p3.2.1 hv4
    obtain ⟨c1, c2, c3⟩ := pl_C p3 (h17 v hv4 hvn) htl (by omega)
    have h8 : ((8, v, 0) : tE) ∈ s := E.1.2.2.2.2.2.2 i 26 p v s hR hs ho (by omega) p1 p3.2.1 p3.2.2.1 hv4
    have hos : os.length = 0 → os = [] := fun q => List.length_eq_zero_iff.mp q
    have hos2 : 0 < os.length → os ≠ [] := fun q e => by rw [e] at q; exact absurd q (by decide)
    have hnib : os = [] → (D.FG g 9 p >>> ((4 : Int32) &&& 31)) &&& 15 = nI o := fun e => by
      obtain ⟨-, -, -, -, w4, -, -, -, -, -, ⟨-, -, -, w5, -, -, w7⟩, -⟩ := p3
      rw [w4, w5, e]
      have e9 := rt_nib (L := 0) (D := dgP ([] ++ [o])) (k := 0) (by omega) (by show 0 + 16 * (o + 16 * 0) < _; omega) (by omega)
      refine e9.trans ?_
      show nI ((o + 16 * 0) / 16 ^ 0 % 16) = nI o
      rw [Nat.pow_zero, Nat.div_one, show (o + 16 * 0) % 16 = o by omega]
    have ho15 : o ≤ 15 := p3.2.2.2.2.2.2.2.2.2.2.1.2.2.2.2.2.2
    refine ⟨p, v, T, m, os.length, _, _, B, p1, c1, p4, by omega, Q_dr hO hg hak htl p5, fun q0 h23 => ?_, fun q0 h23 => ?_, fun gt gf hgt hgf => ?_⟩
    · obtain ⟨z1, z2, z3⟩ := p6 h23
      refine ⟨h23, z1, z2, ?_⟩
      show P T (adL (cI fc) (fb f + D.vo g v) os o os.length) _
      rw [c2, hnib (hos q0)]
      refine z3 _ (fun _ q hq hb9 => ?_)
      rw [ibit_shr _ (by omega), ibit_and, Bool.and_eq_true] at hb9
      have hoq : o + q < 16 := by
        rcases Nat.lt_or_ge (o + q) 16 with z | z
        · exact z
        · exfalso
          have hpc := sg_pc hO.2.2.2.1 E hs ha hib ho p1 p3.2.1 (show o + q < 32 by omega) hb9.2
          omega
      exact ⟨hv4, hoq, hb9.1⟩
    · obtain ⟨z1, z2, z3⟩ := p6 h23
      refine ⟨h23, z1, z2, ?_⟩
      show P T (adL (cI fc) (fb f + D.vo g v) os o os.length) _
      rw [c2]
      exact z3 _ (fun e => absurd e (hos2 q0))
    · have hcg := fun (gf : Nat → Int32) (z1 : ∀ j w : Nat, (j, w) ≠ (f, v) → filP gf j w = filP ff j w) (z2 : ∀ q : Nat, filP gf f v q → filP ff f v q ∨ (os = [] ∧ q < 16 ∧ ibit (D.FG g 12 p) q = true)) => p7 (tkP gt) (cI (va_cpy fc fc (tp - m) (adL (cI fc) (fb f + D.vo g v) os o os.length) m)) (filP gf) (gtB_tk hgt) (fun q hq => by rw [c2]; exact cp_in hq) (fun k hk => by rw [c2]; exact cp_out hk) z1 z2
      rcases hgf with ⟨q0, rfl⟩ | ⟨q0, rfl⟩
      · refine mv 26 v _ _ _ _ ho (by decide) (by decide) hv4 (fun _ => ⟨hvn, Or.inl h8⟩) (hcg _ (fun j w hjw => fil_ne hv4 hjw) (fun q hq => ?_))
        obtain ⟨z1, z2, z3⟩ := fil_eq hq
        rw [ibit_or, Bool.or_eq_true] at z3
        rcases z3 with z3 | z3
        · exact Or.inl ⟨z1, z2, z3⟩
        · exact Or.inr ⟨hos q0, z2, z3⟩
      · exact mk 26 _ _ _ ho (by decide) (by decide) (hcg _ (fun _ _ _ => rfl) (fun q hq => Or.inl hq))
  · obtain ⟨T, m, q1, q2, q3, q4, q5, P, B, q6, q7, q8⟩ := s_drp E hy hA ho
    refine ⟨T, m, _, B, q1, q2, q3, q5, Q_dr hO hg hak htl q6, fun h23 => ?_, fun gt hgt => mk 27 _ _ _ ho (by decide) (by decide) (q8 _ (gtB_tk hgt))⟩
    obtain ⟨z1, z2, z3⟩ := q7 h23
    exact ⟨h23, z1, z2, z3 _⟩
  · obtain ⟨q1, -, q2⟩ := s_prt E hA ho
    exact ⟨q1, mk 28 _ _ _ ho (by decide) (by decide) q2⟩
  · obtain ⟨v, T, m, off, sz, q1, q2, q3, q4, q5, q6, q7, q8, q9, q10, q11, q12, q13, q14⟩ := s_bnd E hy hA ho
    have hv4 : v < 40 := by omega
    exact ⟨v, T, m, D.vo g v, off, sz, q1, hv4, (het v hv4 (ne1 q3 q4)).trans q3, q4, q5, h17 v hv4 (ne1 q3 q4), by omega, q8, q9, q10, q12, by omega, mv 29 v _ _ _ _ ho (by decide) (by decide) hv4 (fun _ => ⟨ne1 q3 q4, Or.inr ⟨by omega, q1⟩⟩) (q14 _ _ (fun q hq => cp_in hq) (fun k hk => cp_out hk) (fun j w hjw => fil_ne hv4 hjw))⟩
  · have hA0 := hA
    obtain ⟨v, off, q1, q2, q3, q4, q5, q6, q7⟩ := s_bndR E hy hA ho
    have hv4 : v < 40 := by omega
    obtain ⟨v9, sh, gg, j, n9, T, b9, q, r, z1, z2, -, -, -, -, -, -, zq, z3, z4, -, -, -, -, -, -, zs, -⟩ := ce_op E.2.1 ha hib hs ho (by decide)
    have ev : v9 = v := (nI_eq (by omega) (by omega)).mp (z2.symm.trans q1)
    subst ev
    obtain ⟨s2, R, hs2, -, -, -, -, hk⟩ := hA0
    rw [hs] at hs2
    obtain rfl := Option.some.inj hs2
    obtain ⟨ad, a1, a2⟩ := kS_mark (r := r) hy hk (q := q + 4) (r0 := sh * 12 + gg) (m := b9 + 1 + 64 * j) (by omega) (by rw [kUx_eq]; exact zs)
    rw [kUx_eq] at a1
    have a1 : cI fc (fb f + D.vc g + khs D.z r) = (ad : Int) := a1
    have e9 : fb f + D.vc g + khs D.z r = tp - 1 := by
      rw [zs] at et9
      have et9 : tp = fb f + D.vc g + (khs D.z r + kes D.z (q + 4, sh * 12 + gg, b9 + 1 + 64 * j)) := et9
      rw [show kes D.z (q + 4, sh * 12 + gg, b9 + 1 + 64 * j) = 1 by rcases zq with rfl | rfl <;> rfl] at et9
      omega
    rw [e9] at a1
    refine ⟨v9, D.vo g v9, off, q1, hv4, h17 v9 hv4 (ne1 z3 z4), by omega, q3, q5, by omega, mv 30 v9 _ _ _ _ ho (by decide) (by decide) hv4 (fun _ => ⟨ne1 z3 z4, Or.inr ⟨by omega, q1⟩⟩) (q7 _ _ ?_ (fun k hk => up_out hk) (fun j w hjw => fil_ne hv4 hjw))⟩
    rw [up_in, i64_a a1 (by omega) (by omega), a1]
  · obtain ⟨m, q1, q2, q3, q4⟩ := s_popM E hA ho
    exact ⟨m, q1, q3, mk 31 _ _ _ ho (by decide) (by decide) q4⟩
  · obtain ⟨v0, v1, q1, q2, q3, q4, P, B, q5, q6, q7⟩ := s_scp E hy hA ho
    have hv1 := h32 i v1 ha hib (by rw [hs]; simp) ho q2 q4
    refine ⟨v0, v1, _, B, q1, q2, q3, q4, by omega, Q_dr hO hg hak htl q5, fun v h1 h2 h3 => ?_, fun gt gf hgt hgf => ?_⟩
    · obtain ⟨w1, w2⟩ := hfl0 v (by omega) h3
      obtain ⟨T, t1, t2, t3, t4, -⟩ := Q_ty E (show v < 40 by omega) w2
      refine ⟨T, D.vo g v, (het v (by omega) w2).trans t1, t2, h17 v (by omega) w2, fun h23 => ?_⟩
      have hN9 := ad_N E.1.1 t3 h23
      refine ⟨h23, hN9, t3.2, ?_⟩
      have h9 := q6 v (ff (40 * f + v)) s hs w1 h1 h2 (fun q hq hb9 => ⟨by omega, hq, hb9⟩)
      rw [t4, ymF_n E.1.1 hN9] at h9
      exact h9
    · have hz : ∀ j w : Nat, ¬ (j = f ∧ v0 ≤ w ∧ w < v1) → filP gf j w = filP ff j w := fun j w hn => funext fun q => by
        unfold filP
        by_cases hw : w < 40
        · rw [hgf, if_neg (by omega)]
        · exact propext ⟨fun q => absurd q.1 hw, fun q => absurd q.1 hw⟩
      refine QM_mk hO hf hg hb (fl_S E ha hib hs ho (by decide) ⟨by decide, by decide, by decide, by decide⟩ (fun u h1 h2 => ?_)) hch (fun k hk => by rw [hgf, if_neg (by omega)]) (q7 _ _ (gtB_tk hgt) hz)
      have hnr : ¬ (40 * f + v0 ≤ 40 * f + u ∧ 40 * f + u < 40 * f + v1) := fun q => h2 (by rw [hgf, if_pos q])
      rw [hgf, if_neg hnr] at h2
      obtain ⟨w1, w2⟩ := hfl0 u h1 h2
      refine ⟨w2, Or.inl ⟨w1, fun _ a b h3 h4 h5 h6 => ?_⟩⟩
      have e1 : a = v0 := (nI_eq (by omega) (by omega)).mp (h5.symm.trans q1)
      have e2 : b = v1 := (nI_eq (by omega) (by omega)).mp (h6.symm.trans q2)
      omega
end
end
-- h0.rc.lean.txt
section
section
variable {y : qY} {z : qZ} {vt vo : Nat → Nat → Nat} {vc : Nat → Nat} {tb : Nat → lTb} {hp top : Nat} {tk : Nat → Prop} {c c2 : Nat → Int} {f : Nat} {x : Nat → kFm} {fb : Nat → Nat} {fil : Nat → Nat → Nat → Prop}
/-- cells above the top don't matter -/
theorem kS_cc (hy : kYs y z vt vo vc) (h : kS y z vt vo vc tb hp tk c f x fb top fil) (hc : ∀ k : Nat, k < top → c2 k = c k) : kS y z vt vo vc tb hp tk c2 f x fb top fil := by
  obtain ⟨rt, ra, V, hJ, hL⟩ := h
  have hL0 := hL
  obtain ⟨l0, l1, l2, l3, l4, l5, l6, l7, l8, l9⟩ := hL
  have hcc := kTopC hy hJ hL0 hc
  have own : ∀ (r : Nat × Nat) (w : Nat × Nat), V r [] = some w → c2 (ra r) = c (ra r) := fun r w hw => hcc r [] w hw
  have ads : ∀ (a : lLc) (T : Nat), qTg y rt V a T → qAd y z c2 rt ra a = qAd y z c rt ra a := fun a T ha => qAd_pl hJ.1 ha (fun _ _ _ => ⟨rfl, rfl⟩) (fun r2 π2 π1 w e2 hw _ _ => hcc r2 π1 w hw)
  refine ⟨rt, ra, V, hJ, qMm_c l0 hcc, fun j hj u a hu ha hw => ?_, fun j hj => kAk_cg (hJ.2.2.2.2.1 j hj) (l2 j hj) (fun _ _ => rfl) (fun u w _ _ hw => own (j, u) w hw), l3, l4, l5, l6, fun j hj v v4 hv π t g1 g2 g3 g4 => l7 j hj v v4 hv π t g1 g2 g3 ?_, l8, l9⟩
  · have l1u := l1 j hj u a hu ha hw
    obtain ⟨w, hw⟩ := hw
    rw [own (j, u) w hw, l1u]
    rcases hu with hu | hu
    · rw [ads a _ (hJ.2.2.1 j hj u a hu ha).2]
    · subst hu
      have h7 : ∃ q2 r2 m : Nat, kPm y rt V j (tb (x j).1) (x j) q2 r2 m := by
        rcases (hJ.2.2.2.2.2.1 j 300 [] w hw).2.1 with ⟨b1, b2⟩ | ⟨b1, b2⟩ | ⟨b1, r2, m, b2⟩ | ⟨r2, m2, i, b1, b2, b3⟩
        · omega
        · have := hJ.2.2.2.2.2.2.2.2 j hj
          omega
        · have h7 := hJ.2.2.2.2.2.2.2.1 j hj r2 m
          rcases b2 with b2 | b2
          · exact ⟨5, r2, m, (h7.1 b2).2⟩
          · exact ⟨6, r2, m, (h7.2 b2).2⟩
        · omega
      obtain ⟨q2, r2, m, a0, π0, p1, p2, p3, p4, -⟩ := h7
      obtain rfl := Option.some.inj (p1.symm.trans ha)
      refine congrArg Int.ofNat (?_ : qAd y z c2 rt ra (a0 :: π0) = qAd y z c rt ra (a0 :: π0)).symm
      exact qA_pl (hJ.1 a0) (qPl_of p4) p3 (fun π1 w hw _ _ => hcc a0 π1 w hw)
  · have e := qA_sh (z := z) (c := c2) (c2 := c) (a := 0) (b := 0) g2 (qN_M g1)
    have e9 : qA y z c2 (vt (x j).1 v) 0 π = qA y z c (vt (x j).1 v) 0 π := by omega
    rw [← e9]; exact g4
end
section
variable {D : mD} {f g i j tp mln : Nat} {x : Nat → kFm} {An : Nat → lLc → Nat → Prop} {fb : Nat → Nat} {ft ff gt gf : Nat → Int32} {fc gc : Nat → Int64} {k0 : Nat → Option Nat} {k1 k2 : Nat → Int32}
/-- what the class's rows tell of the functions -/
def mRw (D : mD) (nc : Nat → Nat → Int32) (nr : Nat → Nat → Nat → Int32) : Prop := ∀ g : Nat, g < D.nb → nc g 9 = nI (D.aa g) ∧ nc g 4 = nI (psum D.z (D.vt g) (D.G g 0)) ∧ nc g 8 = nI (D.vc g) ∧ nc g 7 = nI (D.nv g) ∧ nc g 3 = nI (D.G g 0) ∧ (∃ lv : Nat, nc g 2 = nI lv) ∧ D.G g 0 ≤ D.nv g ∧ (∀ v : Nat, v < 40 → D.FG g 15 v ≠ -1 → nr g 3 v = D.FG g 15 v) ∧ (∀ v : Nat, v < D.G g 0 → D.FG g 15 v ≠ -1) ∧ nr g 5 = D.FG g 17
theorem psum_le {z : qZ} {p : Nat → Nat} (hz : ∀ t : Nat, z.1 t ≤ 16) : ∀ n : Nat, psum z p n ≤ 16 * n
  | 0 => Nat.le_refl _
  | n + 1 => by
    show psum z p n + z.1 (p n) ≤ 16 * (n + 1)
    have := psum_le hz (p := p) n
    have := hz (p n)
    omega
/-- a function that is called -/
theorem Q_ca (hO : mOk D) {nc : Nat → Nat → Int32} {nr : Nat → Nat → Nat → Int32} (hR : mRw D nc nr) {g2 : Nat} (hg2 : g2 < D.nb) : ∃ lv : Nat, caF nc nr g2 (D.aa g2) (psum D.z (D.vt g2) (D.G g2 0)) (D.vc g2) (D.nv g2) (D.G g2 0) lv := by
  obtain ⟨r1, r2, r3, r4, r5, ⟨lv, r6⟩, r7, r8, r9, -⟩ := hR g2 hg2
  obtain ⟨E, En, hab, h17, hvc, -⟩ := hO.2.2.2.2 g2 hg2
  have h40 := mE_n E
  have hnb := hO.2.1
  refine ⟨lv, by omega, r1, r2, r3, ⟨r4, h40⟩, ⟨r5, by omega⟩, r6, fun v hv => ?_, by omega⟩
  obtain ⟨T, t1, t2, -⟩ := Q_ty E (show v < 40 by omega) (r9 v hv)
  exact ⟨T, (r8 v (by omega) (r9 v hv)).trans t1, t2⟩
theorem enF_cg {y : qY} {z : qZ} {F F2 : tF} {G : Nat → Nat → Nat} {yp yt a : Nat} {k : Nat → Option (List tE)} {N : lK} {Rm : Nat → Prop} {tb : lTb} {rl : Nat → Int32} {pl : Nat → Nat → Int32} {me : Int32} {vt vo : Nat → Nat → Nat} {g : Nat} (h20 : F2 20 = F 20) (h21 : F2 21 = F 21) (h : enF y z F G yp yt a k N Rm tb rl pl me vt vo g) : enF y z F2 G yp yt a k N Rm tb rl pl me vt vo g := by
  obtain ⟨P, p1, p2, p3, p4, p5, p6, p7⟩ := h
  refine ⟨P, p1, p2, p3, p4, p5, fun q hq => ?_, p7⟩
  obtain ⟨z1, z2, z3⟩ := p6 q hq
  refine ⟨by rw [h20]; exact z1, ?_, z3⟩
  rw [z2]
  unfold ymF
  rw [h20, h21]
/-- a call -/
theorem Q_C (hO : mOk D) (hrow : ∀ g0 : Nat, g0 < D.nb → D.FG g 20 = D.FG g0 20 ∧ D.FG g 21 = D.FG g0 21) (hGb : ∀ g : Nat, g < 40 → D.G g 1 < 3040 → g < D.nb) {nc : Nat → Nat → Int32} {nr : Nat → Nat → Nat → Int32} (hR : mRw D nc nr) {az : Nat → Int32} {kn bs : Nat} (hQ : QMd D kn g bs k0 k1 k2 mln i ft fc tp ff) (ho : D.FG g 0 i = nI 21) : ∃ g2 cf ac vc vn np lv : Nat, D.FG g 1 i = nI g2 ∧ caF nc nr g2 cf ac vc vn np lv ∧ ac ≤ tp ∧ ∀ (ml2 : Nat) (gc : Nat → Int64) (gf : Nat → Int32) (g0 : Nat → Option Nat) (g1 g3 : Nat → Int32), kn < 60 → grC fc gc mln ml2 (tp - ac + vc + 3600) → (∀ j : Nat, g0 j = if j = kn then some (D.na g 0) else k0 j) → (∀ j : Nat, g1 j = if j = kn then nI (i + 1) else k1 j) → (∀ j : Nat, g3 j = if j = kn then nI bs else k2 j) → fiC az nr g2 kn vn np ff gf → QMd D (kn + 1) g2 (tp - ac) g0 g1 g3 ml2 cf ft gc (tp - ac + vc) gf := by
  obtain ⟨f, x, An, fb, rfl, hf, hg, rfl, hb, hfl, hch, hA⟩ := hQ
  obtain ⟨E, En, hab, h17, hvc, h32⟩ := hO.2.2.2.2 g hg
  have hy := hO.1
  obtain ⟨s, hs, ha, hib, hi6, hN, hRm, et, h33, het⟩ := mAt_b hO hg hA
  have hfl0 := hfl s hs
  obtain ⟨g2, r9, ⟨c1, c2⟩, c3, c4, c5⟩ := ce_op E.2.1 ha hib hs ho (by decide)
  have hg2 := hGb g2 c1 c2
  obtain ⟨E2, En2, hab2, h172, hvc2, -⟩ := hO.2.2.2.2 g2 hg2
  have En3 : enF D.y D.z (D.FG g) D.G D.yp D.yt (D.aa g2) (D.kk g2) (D.NN g2) (D.RR g2) (D.tb g2) D.rl D.pl (D.rl g2) D.vt D.vo g2 := enF_cg (hrow g2 hg2).1 (hrow g2 hg2).2 En2
  have q1 := (s_call (L2 := D.LL g2) E hy hA ho c3 c1 hab2 En3).1
  obtain ⟨lv, hca⟩ := Q_ca hO hR hg2
  have h402 := mE_n E2
  refine ⟨g2, _, _, _, _, _, lv, c3, hca, q1, fun ml2 gc gf g0 g1 g3 hk60 hgr hg0 hg1 hg3 hfi => ?_⟩
  have hgf : ∀ j : Nat, j < 40 * (f + 1) → gf j = ff j := fun j hj => by rw [hfi j, if_neg (by omega)]
  have hml : mln ≤ ml2 ∧ tp - psum D.z (D.vt g2) (D.G g2 0) + D.vc g2 + 3600 ≤ ml2 ∧ ml2 ≤ 600000 ∧ ∀ k : Nat, k < mln → gc k = fc k := by
    rcases hgr with ⟨w1, rfl, rfl⟩ | ⟨w1, rfl, w3⟩
    · exact ⟨Nat.le_refl _, w1, hb.2.1, fun _ _ => rfl⟩
    · exact ⟨by omega, by omega, by omega, w3⟩
  have hA2 : mAt D g f x An fb i ft gc tp ff := by
    obtain ⟨s3, R3, z1, z2, z3, z4, z5, z6⟩ := hA
    refine ⟨s3, R3, z1, z2, z3, z4, z5, kS_cc hy z6 (fun k hk => ?_)⟩
    unfold cI
    rw [hml.2.2.2 k (by omega)]
  obtain ⟨-, r, R, q2, q3, q4, q5, q6, q7, q8, q9, q10⟩ := s_call (L2 := D.LL g2) E hy hA2 ho c3 c1 hab2 En3
  have hAt := q10 (filP gf) (fun j hj => funext fun v => funext fun q => by
    unfold filP
    by_cases hv : v < 40
    · rw [hgf (40 * j + v) (by omega)]
    · exact propext ⟨fun z => absurd z.1 hv, fun z => absurd z.1 hv⟩)
  obtain ⟨fb2, hfb⟩ : ∃ fb2 : Nat → Nat, fb2 = fun j => if j = f + 1 then tp - psum D.z (D.vt g2) (D.G g2 0) else fb j := ⟨_, rfl⟩
  have b1 : fb2 (f + 1) = tp - psum D.z (D.vt g2) (D.G g2 0) := by rw [hfb]; exact if_pos rfl
  have b0 : ∀ j : Nat, j ≤ f → fb2 j = fb j := fun j hj => by rw [hfb]; exact if_neg (by omega)
  rw [← hfb] at hAt
  refine ⟨f + 1, kUx x f (Cf (D.NN g) (D.LL g) g i r (D.G g2 0) R An), kAo D.y (D.vt g2) R (wl r) (D.G g2 0) (ouF D.pl g2), fb2, rfl, by omega, hg2, b1.symm, ⟨by omega, hml.2.2.1, by rw [b1]; exact hml.2.1, by rw [b1]; omega⟩, fun s2 hs2 v h1 h2 => ?_, ?_, ?_⟩
  · rw [hfi] at h2
    have hn : 40 * (f + 1) ≤ 40 * (f + 1) + v ∧ 40 * (f + 1) + v < 40 * (f + 1) + D.nv g2 := by omega
    rw [if_pos hn, show 40 * (f + 1) + v - 40 * (f + 1) = v by omega] at h2
    have hv : v < D.G g2 0 := by
      rcases Nat.lt_or_ge v (D.G g2 0) with z | z
      · exact z
      · rw [if_neg (by omega)] at h2; exact absurd rfl h2
    obtain ⟨P, p1, p2, -⟩ := En2
    rw [hs2] at p1
    obtain rfl := Option.some.inj p1
    exact ⟨(p2 _).mpr ⟨v, rfl, hv⟩, (hR g2 hg2).2.2.2.2.2.2.2.2.1 v hv⟩
  · refine ⟨g, i, r, R, An, hg, kUx_eq, ⟨q2, q3, q4, q5, q6, q7, q8, ho, c3, c1⟩, rfl, (hg0 (f + 1)).trans (if_pos rfl), (hg1 (f + 1)).trans (if_pos rfl), ⟨(hg3 (f + 1)).trans ((if_pos rfl).trans (by rw [b0 f (Nat.le_refl _)])), by rw [b0 f (Nat.le_refl _)]; exact hb.2.2.2⟩, fun v h1 h2 => ?_, ?_⟩
    · rw [hgf _ (by have := mE_n E; omega)] at h2
      obtain ⟨z1, z2⟩ := hfl0 v h1 h2
      rw [hs] at q2
      have q2 := Option.some.inj q2
      rw [q2] at z1
      exact ⟨e8_A _ z1, z2⟩
    · refine chn_cg f (fun j hj => ⟨?_, b0 j (by omega)⟩) (fun j hj => ⟨(hg0 j).trans (if_neg (by omega)), (hg1 j).trans (if_neg (by omega)), (hg3 j).trans (if_neg (by omega))⟩) (fun k hk hne => by rw [hgf k (by omega)] at hne; exact hne) rfl (fun g hg => mE_n (hO.2.2.2.2 g hg).1) hch
      unfold kUx
      rw [if_neg (by omega)]
  · exact hAt
end
end
-- h0.rd.lean.txt
section
section
variable {D : mD} {f g i j tp mln : Nat} {x : Nat → kFm} {An : Nat → lLc → Nat → Prop} {fb : Nat → Nat} {ft ff gt gf : Nat → Int32} {fc gc : Nat → Int64} {k0 : Nat → Option Nat} {k1 k2 : Nat → Int32}
/-- a return -/
theorem Q_R (hO : mOk D) {nc : Nat → Nat → Int32} {nr : Nat → Nat → Nat → Int32} (hR : mRw D nc nr) {ak : Nat → Int32} (hak : ∀ t : Nat, t < D.yt → ak t = D.FG g 20 t) (hrow : ∀ g0 : Nat, g0 < D.nb → D.FG g 20 = D.FG g0 20 ∧ D.FG g 21 = D.FG g0 21) {kn bs : Nat} (hQ : QMd D kn g bs k0 k1 k2 mln i ft fc tp ff) (ho : D.FG g 0 i = nI 22) : ∃ (T m : Nat) (P : Nat → Nat → Int32 → Prop) (B : Nat → Prop), D.FG g 1 i = nI T ∧ T < 3040 ∧ D.FG g 22 T = nI m ∧ m ≤ tp ∧ tp ≤ mln ∧ bs + m ≤ mln ∧ drK ak (D.FG g 21) (D.FG g 22) (D.FG g 23) (D.X 1) (D.X 2) (D.X 3) fc D.mh mln P B ∧
      (∀ v vn : Nat, nc g 7 = nI vn → vn ≤ 40 → v < vn → ff (40 * (kn - 1) + v) ≠ 0 → ∃ u o : Nat, nr g 3 v = nI u ∧ u < 3040 ∧ nr g 5 v = nI o ∧ (D.FG g 23 u ≠ 0 → P u (bs + o) (ff (40 * (kn - 1) + v)))) ∧
      (1 < kn → ∃ g0 i0 b0 : Nat, g0 < 40 ∧ k0 (kn - 1) = some (D.na g0 0) ∧ k1 (kn - 1) = nI i0 ∧ k2 (kn - 1) = nI b0 ∧ ∀ (gt gf : Nat → Int32) (vn : Nat), gtB ft gt B → nc g 7 = nI vn → vn ≤ 40 → (∀ j : Nat, gf j = if 40 * (kn - 1) ≤ j ∧ j < 40 * (kn - 1) + vn then 0 else ff j) → QMd D (kn - 1) g0 b0 k0 k1 k2 mln i0 gt (va_cpy fc fc (tp - m) bs m) (bs + m) gf) := by
  obtain ⟨f, x, An, fb, rfl, hf, hg, rfl, hb, hfl, hch, hA⟩ := hQ
  obtain ⟨E, En, hab, h17, hvc, h32⟩ := hO.2.2.2.2 g hg
  obtain ⟨-, -, -, w7, -, -, -, w8, -, w5⟩ := hR g hg
  have hy := hO.1
  obtain ⟨s, hs, ha, hib, hi6, hN, hRm, et, h33, het⟩ := mAt_b hO hg hA
  have hfl0 := hfl s hs
  have h40 := mE_n E
  have htl : tp ≤ mln := by omega
  rw [show f + 1 - 1 = f by omega]
  have hnb := hO.2.1
  -- the drops of the variables
  have drv : ∀ P : Nat → Nat → Int32 → Prop, (∀ (v : Nat) (p : Int32) (s : List tE), D.kk g i = some s → v < 40 → ((8, v, 0) : tE) ∈ s → (∀ q : Nat, q < 16 → ibit p q = true → filP ff f v q) → P (D.vt g v) (fb f + D.vo g v) p) → ∀ v vn : Nat, nc g 7 = nI vn → vn ≤ 40 → v < vn → ff (40 * f + v) ≠ 0 → ∃ u o : Nat, nr g 3 v = nI u ∧ u < 3040 ∧ nr g 5 v = nI o ∧ (D.FG g 23 u ≠ 0 → D.FG g 23 u ≠ 0 ∧ tyN D.yp (D.FG g 20) u ∧ u < D.yt ∧ P u (fb f + o) (ff (40 * f + v))) := fun P hP v vn e1 e2 e3 e4 => by
    have ev : vn = D.nv g := (nI_eq (by omega) (by omega)).mp (e1.symm.trans w7)
    subst ev
    obtain ⟨z1, z2⟩ := hfl0 v e3 e4
    obtain ⟨T, t1, t2, t3, t4, -⟩ := Q_ty E (show v < 40 by omega) z2
    refine ⟨T, D.vo g v, (w8 v (by omega) z2).trans t1, t2, by rw [w5]; exact h17 v (by omega) z2, fun h23 => ?_⟩
    have hN9 := ad_N E.1.1 t3 h23
    refine ⟨h23, hN9, t3.2, ?_⟩
    have h9 := hP v (ff (40 * f + v)) s hs (by omega) z1 (fun q hq hb9 => ⟨by omega, hq, hb9⟩)
    rw [t4, ymF_n E.1.1 hN9] at h9
    exact h9
  cases f with
  | zero =>
    obtain ⟨T, m, q1, q2, q3, q4, q5, P, B, q6, q7⟩ := s_end E hy hA ho
    exact ⟨T, m, _, B, q1, q2, q3, by omega, htl, by omega, Q_dr hO hg hak htl q6, drv P q7, fun q => absurd q (by omega)⟩
  | succ f =>
    obtain ⟨g0, i0, r, R, A0, a1, a2, a3, a4, a5, a6, a7, a8, a9⟩ := hch
    obtain ⟨E0, En0, hab0, h170, hvc0, -⟩ := hO.2.2.2.2 g0 a1
    subst a4
    have hou : ∀ q : Nat, q < D.G g 0 → (D.tb g).2.2.2.1 (ouF D.pl g q) ∧ (D.pl g q < 0 ∨ ∃ w : Nat, w < 8 ∧ D.pl g q = nI w) := fun q hq => by
      obtain ⟨P, -, -, -, -, -, -, p7, -⟩ := En
      exact ⟨(p7 q hq).1, (p7 q hq).2.2⟩
    have hrl : D.rl g < 0 ∨ ∃ w : Nat, w < 8 ∧ D.rl g = nI w := by
      obtain ⟨P, -, -, -, -, -, -, -, p8, -⟩ := En
      exact p8
    obtain ⟨T, m, q1, q2, q3, q4, q5, P, B, q6, q7, q8⟩ := s_ret E0 E (hrow g0 a1).1 (hrow g0 a1).2 rfl rfl hou hrl hy a3 a2 hA ho
    refine ⟨T, m, _, B, q1, q2, q3, by omega, htl, by omega, Q_dr hO hg hak htl q6, drv P q7, fun _ => ⟨g0, i0 + 1, fb f, by omega, a5, a6, a7.1, fun gt gf vn hgt e1 e2 hgf => ?_⟩⟩
    have ev : vn = D.nv g := (nI_eq (by omega) (by omega)).mp (e1.symm.trans w7)
    have hgf2 : ∀ j : Nat, j < 40 * (f + 1) → gf j = ff j := fun j hj => by rw [hgf j, if_neg (by omega)]
    obtain ⟨x2, z1, z2⟩ := q8 (tkP gt) (cI (va_cpy fc fc (tp - m) (fb (f + 1)) m)) (filP gf) (gtB_tk hgt) (fun q hq => by rw [cp_in hq, show tp - m = fb (f + 1) + D.vc g by omega]) (fun k hk => cp_out hk) (fun j hj => funext fun v => funext fun q => by
      unfold filP
      by_cases hv : v < 40
      · rw [hgf2 (40 * j + v) (by omega)]
      · exact propext ⟨fun z => absurd z.1 hv, fun z => absurd z.1 hv⟩)
    obtain ⟨a30, a31, -⟩ := a3
    have hb0 : fb f + D.vc g0 ≤ fb (f + 1) := by
      obtain ⟨s3, R3, -, -, -, -, -, rt, ra, V, hJ, hL⟩ := hA
      have h5 := hL.2.2.2.2.2.1 f (by omega)
      rw [show kUx x (f + 1) (Fr (D.NN g) (D.LL g) g i s3 R3 (kAo D.y (D.vt g) R (wl r) (D.G g 0) (ouF D.pl g))) f = x f from if_neg (by omega), a2] at h5
      have h5 : fb (f + 1) = fb f + D.vc g0 + khs D.z r := h5
      omega
    refine ⟨f, x2, A0, fb, rfl, by omega, a1, rfl, ⟨hb.1, hb.2.1, by omega, a7.2⟩, fun s2 hs2 v h1 h2 => ?_, ?_, z2⟩
    · rw [a31] at hs2
      obtain rfl := Option.some.inj hs2
      have h400 := mE_n E0
      rw [hgf2 _ (by omega)] at h2
      obtain ⟨y1, y2⟩ := a8 v h1 h2
      exact ⟨List.mem_cons_of_mem _ y1, y2⟩
    · exact chn_cg f (fun j hj => ⟨z1 j (by omega), rfl⟩) (fun _ _ => ⟨rfl, rfl, rfl⟩) (fun k hk hne => by rw [hgf2 k (by omega)] at hne; exact hne) rfl (fun g hg => mE_n (hO.2.2.2.2 g hg).1) a9
end
end
-- h0.re.lean.txt
section
section
variable {D : mD}
/-- main begins -/
theorem Q_I (hO : mOk D) {nc : Nat → Nat → Int32} {nr : Nat → Nat → Nat → Int32} (hR : mRw D nc nr) {gm mln : Nat} (hg : gm < D.nb) (h0 : D.G gm 0 = 0) (hml : mln ≤ 600000 ∧ D.mh ≤ mln) {az ft ff : Nat → Int32} {fc : Nat → Int64} : ∃ cf ac vc vn np lv : Nat, caF nc nr gm cf ac vc vn np lv ∧ ac ≤ D.mh ∧ ∀ (ml2 : Nat) (gc : Nat → Int64) (gf : Nat → Int32) (g0 : Nat → Option Nat) (g1 g3 : Nat → Int32), grC fc gc mln ml2 (D.mh - ac + vc + 3600) → fiC az nr gm 0 vn np ff gf → QMd D 1 gm (D.mh - ac) g0 g1 g3 ml2 cf ft gc (D.mh - ac + vc) gf := by
  obtain ⟨lv, hca⟩ := Q_ca hO hR hg
  obtain ⟨E, En, hab, h17, hvc, -⟩ := hO.2.2.2.2 gm hg
  have hmh := hO.2.2.1
  rw [h0] at hca
  refine ⟨_, _, _, _, _, lv, hca, Nat.zero_le _, fun ml2 gc gf g0 g1 g3 hgr hfi => ?_⟩
  show QMd D 1 gm (D.mh - 0) g0 g1 g3 ml2 (D.aa gm) ft gc (D.mh - 0 + D.vc gm) gf
  have hgr : grC fc gc mln ml2 (D.mh - 0 + D.vc gm + 3600) := hgr
  rw [Nat.sub_zero] at hgr ⊢
  have hm2 : mln ≤ ml2 ∧ D.mh + D.vc gm + 3600 ≤ ml2 ∧ ml2 ≤ 600000 := by
    rcases hgr with ⟨w1, rfl, -⟩ | ⟨w1, rfl, -⟩ <;> omega
  obtain ⟨P, p1, p2, -, p4, p5, -⟩ := En
  have hP : P = [] := by
    cases P with
    | nil => rfl
    | cons e P =>
      obtain ⟨v, -, hv⟩ := (p2 e).mp (List.mem_cons_self ..)
      omega
  subst hP
  refine ⟨0, fun _ => Fr (D.NN gm) (D.LL gm) gm (D.aa gm) [] (fun _ => none) (fun _ _ _ => False), fun _ _ _ => False, fun _ => D.mh, rfl, by decide, hg, rfl, ⟨by omega, hm2.2.2, hm2.2.1, by omega⟩, fun s hs v h1 h2 => ?_, trivial, [], fun _ => none, p1, Nat.le_refl _, hab, p4, p5, kS_ini kUx_eq⟩
  rw [hfi] at h2
  have hn : 40 * 0 ≤ 40 * 0 + v ∧ 40 * 0 + v < 40 * 0 + D.nv gm := by omega
  rw [if_pos hn, if_neg (by omega)] at h2
  exact absurd rfl h2
/-- a running, by the class's rows -/
theorem Q_M (hO : mOk D) (hGb : ∀ g : Nat, g < 40 → D.G g 1 < 3040 → g < D.nb) {C : tF} {nc : Nat → Nat → Int32} {nr : Nat → Nat → Nat → Int32} (hR : mRw D nc nr) (hC : fgR C D.FG nr) {ak : Nat → Int32} (hak : ∀ g t : Nat, t < D.yt → ak t = D.FG g 20 t) (h21 : ∀ g : Nat, D.FG g 21 = C 21) (hrow : ∀ g g0 : Nat, D.FG g 20 = D.FG g0 20) : stM C D.FG D.na nc nr ak (C 21) (D.X 1) (D.X 2) (D.X 3) D.mh (QMd D) := by
  intro kn g bs mln k0 k1 k2
  obtain ⟨f0, f1, f2, f3, f5, f6, f9, f10, f12, f13, f17, f22, f23⟩ := hC g
  have hrow2 : ∀ g0 : Nat, g0 < D.nb → D.FG g 20 = D.FG g0 20 ∧ D.FG g 21 = D.FG g0 21 := fun g0 _ => ⟨hrow g g0, (h21 g).trans (h21 g0).symm⟩
  refine ⟨Q_V hO kn bs, Q_G hO kn bs, ?_, fun i ft fc tp ff hQ => ⟨?_, ?_, fun ho => ?_, fun ho => ?_⟩⟩
  · by_cases hg : g < D.nb
    · rw [← h21 g]
      exact Q_E hO (hR g hg).2.2.2.2.2.2.2.1 (hak g) kn bs
    · intro i tp ft ff fc hQ
      obtain ⟨f, x, An, fb, -, -, hg2, -⟩ := hQ
      exact absurd hg2 hg
  · obtain ⟨f, x, An, fb, rfl, hf, hg, rfl, hb, hfl, hch, hA⟩ := hQ
    obtain ⟨s, hs, ha, hib, hi6, hN, hRm, et, h33, het⟩ := mAt_b hO hg hA
    obtain ⟨E, En, hab, h17, hvc, -⟩ := hO.2.2.2.2 g hg
    obtain ⟨o, o1, o2, -⟩ := iB_o (E.2.1.1 i ha hib).1
    have hnb := hO.2.1
    have hf2 : 4056 * f ≤ 239304 := by omega
    exact ⟨by omega, by omega, by omega, hb.1, hb.2.1, by omega, o, o2, o1⟩
  · obtain ⟨f, x, An, fb, -, -, hg, -⟩ := hQ
    obtain ⟨r1, r2, r3, r4, r5, ⟨lv, r6⟩, -⟩ := hR g hg
    exact ⟨lv, _, _, r6, r5, r4, mE_n (hO.2.2.2.2 g hg).1⟩
  · rw [← f1]
    exact Q_C hO hrow2 hGb hR hQ (by rw [f0]; exact ho)
  · rw [← f1, ← f22, ← f23, ← h21 g]
    exact Q_R hO hR (hak g) hrow2 hQ (by rw [f0]; exact ho)
end
end
-- h0.rf.lean.txt
section
/-- the rows of function g: T g, or nothing beyond nb -/
def gTT (nb : Nat) (fr : Nat → Nat → Nat → Int32) (T : Nat → tgS) (g : Nat) : tgS := if g < nb then T g else (fun _ => 0, fun k => fr g (k - 12))
/-- a program that was looked over, as it runs -/
def gD (yp nb mh : Nat) (X : tF) (G : Nat → Nat → Nat) (fc : Nat → Nat → Int32) (fr : Nat → Nat → Nat → Int32) (Z : tgS) (T : Nat → tgS) (aa bb : Nat → Nat) (kk : Nat → Nat → Option (List tE)) (NN : Nat → lK) (LL : Nat → Nat → Nat → lLc → Prop) (RR : Nat → Nat → Prop) (tb : Nat → lTb) (na : Nat → Nat → Nat) : mD :=
  (yF (gF Z (gTT nb fr T 0)) X yp (Z.1 7), zF (gF Z (gTT nb fr T 0)) X (Z.1 7), fun g => gvt Z (gTT nb fr T g), fun g v => cN ((gTT nb fr T g).2 17 v), fun g => (gTT nb fr T g).1 6, tb, fun g => gF Z (gTT nb fr T g), X, G, fun g => fc g 6, fun g => fr g 1, yp, Z.1 7, nb, mh, aa, bb, fun g => (gTT nb fr T g).1 4, kk, NN, LL, RR, na)
theorem gTT_lt {nb : Nat} {fr : Nat → Nat → Nat → Int32} {T : Nat → tgS} {g : Nat} (h : g < nb) : gTT nb fr T g = T g := if_pos h
theorem gTT_ge {nb : Nat} {fr : Nat → Nat → Nat → Int32} {T : Nat → tgS} {g : Nat} (h : ¬ g < nb) : gTT nb fr T g = (fun _ => 0, fun k => fr g (k - 12)) := if_neg h
theorem yF_T {Z S T : tgS} {X : tF} {yp yt : Nat} : yF (gF Z S) X yp yt = yF (gF Z T) X yp yt := rfl
theorem zF_T {Z S T : tgS} {X : tF} {yt : Nat} : zF (gF Z S) X yt = zF (gF Z T) X yt := rfl
theorem ymF_T {Z S T : tgS} {u : Nat} : ymF (gF Z S) u = ymF (gF Z T) u := rfl
section
variable {yp nb tt mh : Nat} {X : tF} {G : Nat → Nat → Nat} {lo : Nat → Nat} {fc : Nat → Nat → Int32} {fr : Nat → Nat → Nat → Int32} {Z : tgS} {T : Nat → tgS} {aa bb lf lt : Nat → Nat} {kk : Nat → Nat → Option (List tE)}
/-- the variables of a frame lie apart -/
theorem gv_sz {T : tgS} {g a b lf lt : Nat} {k : Nat → Option (List tE)} (hC : gC yp X G g (fc g) (fr g) Z T a b lf lt k) (htb : tbO (gF Z T) X yp (Z.1 7)) (h7 : Z.1 7 ≤ 3040) {v : Nat} (h : gvt Z T v ≠ 0) : v < T.1 4 ∧ T.2 15 v ≠ -1 ∧ (zF (gF Z T) X (Z.1 7)).1 (gvt Z T v) = cN (Z.2 22 (cN (T.2 15 v))) := by
  unfold gvt at h ⊢
  by_cases e : v < T.1 4 ∧ T.2 15 v ≠ -1
  · rw [if_pos e]
    refine ⟨e.1, e.2, ?_⟩
    have h15 : gF Z T 15 v ≠ -1 := by rw [gF_15 e.1]; exact e.2
    obtain ⟨-, T0, t1, t2⟩ := gC_v hC h7 v (by have := hC.1.2.2.2.2.1; omega) h15
    rw [gF_15 e.1] at t1
    have h9 := t2.2
    obtain ⟨s1, -, -⟩ := ty_sz htb t2
    rw [t1, cN_nI (by omega), s1]
    rfl
  · rw [if_neg e] at h
    exact absurd rfl h
theorem mD_ok (hnb : nb ≤ 40) (hmh : mh ≤ 4000) (h7 : Z.1 7 ≤ 3040) (htb : ∀ T : tgS, tbO (gF Z T) X yp (Z.1 7)) (hC : ∀ g : Nat, g < nb → gC yp X G g (fc g) (fr g) Z (T g) (aa g) (bb g) (lf g) (lt g) (kk g)) {NN : Nat → lK} {LL : Nat → Nat → Nat → lLc → Prop} {RR : Nat → Nat → Prop} {tb : Nat → lTb} (hX : ∀ g : Nat, g < nb → gX yp X G (fun g => fc g 6) (fun g => fr g 1) Z g (T g) (aa g) (bb g) (kk g) (NN g) (LL g) (RR g) (tb g)) (na : Nat → Nat → Nat) : mOk (gD yp nb mh X G fc fr Z T aa bb kk NN LL RR tb na) := by
  obtain ⟨a1, a2, a3, a4⟩ := htb (gTT nb fr T 0)
  obtain ⟨y1, y2, y3, y4⟩ := yz_ok a1 a2 a3 a4
  refine ⟨⟨y1, y2, ⟨fun g v hv hne => ?_, fun g v w hv hw hvw h1 h2 => ?_⟩, y3, y4⟩, hnb, hmh, fun t => zF_le, fun g hg => ?_⟩
  · have hne : gvt Z (gTT nb fr T g) v ≠ 0 := hne
    show cN ((gTT nb fr T g).2 17 v) + (zF (gF Z (gTT nb fr T g)) X (Z.1 7)).1 (gvt Z (gTT nb fr T g) v) ≤ (gTT nb fr T g).1 6
    by_cases hg : g < nb
    · rw [gTT_lt hg] at hne ⊢
      obtain ⟨q1, q2, q3⟩ := gv_sz (hC g hg) (htb _) h7 hne
      obtain ⟨o, o1, o2⟩ := (hC g hg).2.2.2.2.2.2.2.2.2.1.1 v q1 q2
      have h6 := (hC g hg).1.2.2.2.2.2.2
      rw [q3, o1, cN_nI (by omega)]
      exact o2
    · rw [gTT_ge hg] at hne
      exact absurd (if_neg (fun q => absurd q.1 (Nat.not_lt_zero _))) hne
  · have h1 : gvt Z (gTT nb fr T g) v ≠ 0 := h1
    have h2 : gvt Z (gTT nb fr T g) w ≠ 0 := h2
    show cN ((gTT nb fr T g).2 17 v) + (zF (gF Z (gTT nb fr T g)) X (Z.1 7)).1 (gvt Z (gTT nb fr T g) v) ≤ cN ((gTT nb fr T g).2 17 w) ∨ cN ((gTT nb fr T g).2 17 w) + (zF (gF Z (gTT nb fr T g)) X (Z.1 7)).1 (gvt Z (gTT nb fr T g) w) ≤ cN ((gTT nb fr T g).2 17 v)
    by_cases hg : g < nb
    · rw [gTT_lt hg] at h1 h2 ⊢
      obtain ⟨q1, q2, q3⟩ := gv_sz (hC g hg) (htb _) h7 h1
      obtain ⟨w1, w2, w3⟩ := gv_sz (hC g hg) (htb _) h7 h2
      rw [q3, w3]
      exact (hC g hg).2.2.2.2.2.2.2.2.2.1.2 v w q1 w1 hvw q2 w2
    · rw [gTT_ge hg] at h1
      exact absurd (if_neg (fun q => absurd q.1 (Nat.not_lt_zero _))) h1
  · have hg : g < nb := hg
    have eT := gTT_lt (fr := fr) (T := T) hg
    have hCg := hC g hg
    obtain ⟨x1, x2⟩ := hX g hg (fun g => gvt Z (gTT nb fr T g)) (fun g v => cN ((gTT nb fr T g).2 17 v)) (fun v => by rw [eT]) (fun v => by rw [eT])
    refine ⟨?_, ?_, hCg.1.1, fun v hv hne => ?_, ?_, fun i v1 ha hb hk ho h2 h40 => ?_⟩
    · show sgE (yF (gF Z (gTT nb fr T g)) X yp (Z.1 7)) (zF (gF Z (gTT nb fr T g)) X (Z.1 7)) (gF Z (gTT nb fr T g)) X G (G g 1) (aa g) (bb g) ((gTT nb fr T g).1 4) yp (Z.1 7) (kk g) (NN g) (LL g) (RR g) (tb g) (fun g => fc g 6) (fun g => fr g 1) (fc g 6) (gvt Z (gTT nb fr T g))
      rw [eT]
      have x1 : sgE (yF (gF Z (T g)) X yp (Z.1 7)) (zF (gF Z (T g)) X (Z.1 7)) (gF Z (T g)) X G (G g 1) (aa g) (bb g) ((T g).1 4) yp (Z.1 7) (kk g) (NN g) (LL g) (RR g) (tb g) (fun g => fc g 6) (fun g => fr g 1) (fc g 6) (gvt Z (gTT nb fr T g)) := x1
      rw [eT] at x1
      exact x1
    · show enF (yF (gF Z (gTT nb fr T g)) X yp (Z.1 7)) (zF (gF Z (gTT nb fr T g)) X (Z.1 7)) (gF Z (gTT nb fr T g)) G yp (Z.1 7) (aa g) (kk g) (NN g) (RR g) (tb g) (fun g => fc g 6) (fun g => fr g 1) (fc g 6) (fun g => gvt Z (gTT nb fr T g)) (fun g v => cN ((gTT nb fr T g).2 17 v)) g
      rw [show gF Z (gTT nb fr T g) = gF Z (T g) by rw [eT]]
      exact x2
    · have hne : gF Z (gTT nb fr T g) 15 v ≠ -1 := hne
      show (gTT nb fr T g).2 17 v = nI (cN ((gTT nb fr T g).2 17 v))
      rw [eT] at hne ⊢
      have hv4 := gF_15n hne
      rw [gF_15 hv4] at hne
      obtain ⟨o, o1, o2⟩ := hCg.2.2.2.2.2.2.2.2.2.1.1 v hv4 hne
      have h6 := hCg.1.2.2.2.2.2.2
      rw [o1, cN_nI (by omega)]
    · show (gTT nb fr T g).1 6 ≤ 680
      rw [eT]; exact hCg.1.2.2.2.2.2.2
    · have hk : kk g i ≠ none := hk
      have ho : gF Z (gTT nb fr T g) 0 i = nI 32 := ho
      have h2 : gF Z (gTT nb fr T g) 2 i = nI v1 := h2
      show v1 ≤ (gTT nb fr T g).1 4
      rw [eT] at ho h2 ⊢
      cases es : kk g i with
      | none => exact absurd es hk
      | some s =>
        obtain ⟨-, vs⟩ := hCg.2.2.2.1 i s ha hb es
        rcases Nat.eq_zero_or_pos v1 with e | e
        · omega
        · have h3 := vs.2.2 ho v1 h2 h40 e
          rcases Nat.lt_or_ge (v1 - 1) ((T g).1 4) with c | c
          · omega
          · have e9 : gF Z (T g) 16 (v1 - 1) = -1 := if_neg (by omega)
            rw [e9] at h3
            rcases h3 with q | q <;> exact absurd q (by decide)
/-- the class's rows of the functions -/
theorem mD_rw (h7 : Z.1 7 ≤ 3040) (htb : ∀ T : tgS, tbO (gF Z T) X yp (Z.1 7)) (hd : hdI nb G fc fr) (hlv : ∀ g : Nat, g < nb → ∃ lv : Nat, fc g 2 = nI lv) (hC : ∀ g : Nat, g < nb → gC yp X G g (fc g) (fr g) Z (T g) (aa g) (bb g) (lf g) (lt g) (kk g)) {NN : Nat → lK} {LL : Nat → Nat → Nat → lLc → Prop} {RR : Nat → Nat → Prop} {tb : Nat → lTb} {na : Nat → Nat → Nat} : mRw (gD yp nb mh X G fc fr Z T aa bb kk NN LL RR tb na) fc fr := fun g hg => by
  have hg : g < nb := hg
  have eT := gTT_lt (fr := fr) (T := T) hg
  have hCg := hC g hg
  obtain ⟨x9, -, -, -, x7, -, x8, xr⟩ := hCg.2.1
  obtain ⟨p1, p2, p3⟩ := hCg.2.2.2.2.2.2.2.2.2.2
  refine ⟨x9, ?_, ?_, ?_, (hd g hg).2.2.1, hlv g hg, ?_, fun v hv hne => ?_, fun v hv => ?_, ?_⟩
  · show fc g 4 = nI (psum (zF (gF Z (gTT nb fr T g)) X (Z.1 7)) (gvt Z (gTT nb fr T g)) (G g 0))
    rw [eT, ← gvt_s hCg (htb _) h7 (fun _ => rfl) _ (Nat.le_refl _)]
    exact p2
  · show fc g 8 = nI ((gTT nb fr T g).1 6)
    rw [eT]; exact x8
  · show fc g 7 = nI ((gTT nb fr T g).1 4)
    rw [eT]; exact x7
  · show G g 0 ≤ (gTT nb fr T g).1 4
    rw [eT]; exact p1
  · have hne : gF Z (gTT nb fr T g) 15 v ≠ -1 := hne
    show fr g 3 v = gF Z (gTT nb fr T g) 15 v
    rw [eT] at hne ⊢
    rw [gF_15 (gF_15n hne), xr 3 (by decide) (by decide)]
  · have hv : v < G g 0 := hv
    show gF Z (gTT nb fr T g) 15 v ≠ -1
    rw [eT, gF_15 (by omega), (p3 v hv).1]
    have := (p3 v hv).2.2
    exact nI_ne1 (by omega)
  · show fr g 5 = (gTT nb fr T g).2 17
    rw [eT]; exact xr 5 (by decide) (by decide)
theorem mD_fg (hC : ∀ g : Nat, g < nb → gC yp X G g (fc g) (fr g) Z (T g) (aa g) (bb g) (lf g) (lt g) (kk g)) {NN : Nat → lK} {LL : Nat → Nat → Nat → lLc → Prop} {RR : Nat → Nat → Prop} {tb : Nat → lTb} {na : Nat → Nat → Nat} : fgR Z.2 (gD yp nb mh X G fc fr Z T aa bb kk NN LL RR tb na).FG fr := fun g => by
  refine ⟨rfl, rfl, rfl, rfl, rfl, rfl, rfl, rfl, rfl, rfl, ?_, rfl, rfl⟩
  show (gTT nb fr T g).2 17 = fr g 5
  by_cases hg : g < nb
  · rw [gTT_lt hg]
    exact ((hC g hg).2.1.2.2.2.2.2.2.2 5 (by decide) (by decide)).symm
  · rw [gTT_ge hg]
/-- a program that was looked over runs -/
theorem mD_M (hnb : nb ≤ 40) (hmh : mh ≤ 4000) (h7 : Z.1 7 ≤ 3040) (htb : ∀ T : tgS, tbO (gF Z T) X yp (Z.1 7)) (hd : hdI nb G fc fr) (hlv : ∀ g : Nat, g < nb → ∃ lv : Nat, fc g 2 = nI lv) (hGb : ∀ g : Nat, g < 40 → G g 1 < 3040 → g < nb) (hC : ∀ g : Nat, g < nb → gC yp X G g (fc g) (fr g) Z (T g) (aa g) (bb g) (lf g) (lt g) (kk g)) {NN : Nat → lK} {LL : Nat → Nat → Nat → lLc → Prop} {RR : Nat → Nat → Prop} {tb : Nat → lTb} (hX : ∀ g : Nat, g < nb → gX yp X G (fun g => fc g 6) (fun g => fr g 1) Z g (T g) (aa g) (bb g) (kk g) (NN g) (LL g) (RR g) (tb g)) {na : Nat → Nat → Nat} : stM Z.2 (gD yp nb mh X G fc fr Z T aa bb kk NN LL RR tb na).FG na fc fr (Z.2 20) (Z.2 21) (X 1) (X 2) (X 3) mh (QMd (gD yp nb mh X G fc fr Z T aa bb kk NN LL RR tb na)) :=
  Q_M (D := gD yp nb mh X G fc fr Z T aa bb kk NN LL RR tb na) (mD_ok hnb hmh h7 htb hC hX na) hGb (mD_rw h7 htb hd hlv hC) (mD_fg hC) (fun g t ht => (gF_20 (T := gTT nb fr T g) ht).symm) (fun _ => rfl) (fun _ _ => rfl)
end
end
-- h0.rg.lean.txt
section
/-- the functions' heads, as the class's rows tell them; beyond nb a result that is no type -/
def gG (nb : Nat) (fc : Nat → Nat → Int32) (fr : Nat → Nat → Nat → Int32) (g k : Nat) : Nat := if g < nb then (if k = 0 then cN (fc g 3) else if k = 1 then cN (fc g 5) else cN (fr g 3 (k - 2))) else 5000
section
variable {fk fi fn lF : Nat → Int32} {ps : Nat → Nat} {nq tt mq yp nb yt : Nat} {fm fst fv fpa fpt fof ak ao az ad ab ah au : Nat → Int32} {fc : Nat → Nat → Int32} {fr : Nat → Nat → Nat → Int32} {mi : Int32}
/-- a shape's item -/
theorem nSg_on : ∀ (mq s : Nat), (∀ j : Nat, j < mq → fi j = nI (ps j) ∧ ps j < 3002) → s + nFn fk fi mq < mq → ∃ j : Nat, j < mq ∧ fk (ps j) ≠ 7 ∧ j - nFn fk fi j = s
  | 0, s, _, h => absurd h (Nat.not_lt_zero _)
  | m + 1, s, hf, h => by
    have e := nFn_at (fk := fk) (fi := fi) (ps := ps) (j := m) (hf m (by omega)).1 (hf m (by omega)).2
    have h0 := nFn_0 (fk := fk) (fi := fi) m
    by_cases c : fk (ps m) = 7
    · rw [if_pos c] at e
      obtain ⟨j, j1, j2, j3⟩ := nSg_on m s (fun j hj => hf j (by omega)) (by omega)
      exact ⟨j, by omega, j2, j3⟩
    · rw [if_neg c] at e
      by_cases e2 : s = m - nFn fk fi m
      · exact ⟨m, by omega, c, e2.symm⟩
      · obtain ⟨j, j1, j2, j3⟩ := nSg_on m s (fun j hj => hf j (by omega)) (by omega)
        exact ⟨j, by omega, j2, j3⟩
theorem gG_0 {g : Nat} (h : g < nb) : gG nb fc fr g 0 = cN (fc g 3) := by unfold gG; rw [if_pos h, if_pos rfl]
theorem gG_1 {g : Nat} (h : g < nb) : gG nb fc fr g 1 = cN (fc g 5) := by unfold gG; rw [if_pos h, if_neg (by decide), if_pos rfl]
theorem gG_2 {g j : Nat} (h : g < nb) : gG nb fc fr g (j + 2) = cN (fr g 3 j) := by unfold gG; rw [if_pos h, if_neg (by omega), if_neg (by omega), show j + 2 - 2 = j by omega]
theorem gG_b {g : Nat} (h : gG nb fc fr g 1 < 3040) : g < nb := by
  rcases Nat.lt_or_ge g nb with q | q
  · exact q
  · have e : gG nb fc fr g 1 = 5000 := by unfold gG; rw [if_neg (by omega)]
    rw [e] at h; omega
/-- what Declarations tell of function g -/
theorem dc_fn (h : dcI fk fi fn lF ps nq tt mq yp nb yt fm fst fv fpa fpt fof ak ao az ad ab ah au fc fr mi) (hps : ∀ j : Nat, j < mq → fi j = nI (ps j) ∧ ps j + 1 < tt) (htt : tt ≤ 3001) {g : Nat} (hg : g < nb) : ∃ j : Nat, j < mq ∧ nFn fk fi j = g ∧ itF yp yt (ps (j + 1) + 1) ak fk lF (fc g) (fr g) (ps j + 1) := by
  obtain ⟨⟨r1, r2, r3, r4⟩, -⟩ := h
  obtain ⟨j, j1, j2, j3⟩ := nFn_on (fk := fk) (fi := fi) (ps := ps) mq g (fun j hj => ⟨(hps j hj).1, by have := (hps j hj).2; omega⟩) (by omega)
  obtain ⟨kn, a1, a2, a3⟩ := r4 j j1
  refine ⟨j, j1, j3, ?_⟩
  rcases a3 with ⟨-, -, a3⟩ | ⟨q, -⟩
  · rw [if_pos j1, j3] at a3; exact a3
  · exact absurd j2 q
theorem dc_ok (h : dcI fk fi fn lF ps nq tt mq yp nb yt fm fst fv fpa fpt fof ak ao az ad ab ah au fc fr mi) (hps : ∀ j : Nat, j < mq → fi j = nI (ps j) ∧ ps j + 1 < tt) (hin : ∀ j : Nat, j < mq → ps j < ps (j + 1)) (hend : ps mq < tt) (htt : tt ≤ 3001) : hdI nb (gG nb fc fr) fc fr ∧
    (∀ g : Nat, g < nb → (gG nb fc fr g 1 = 0 ∨ tyV yp yt ak (gG nb fc fr g 1)) ∧ ∀ j : Nat, j < gG nb fc fr g 0 → tyV yp yt ak (gG nb fc fr g (j + 2))) ∧
    (∃ lo hi : Nat → Nat, (∀ g : Nat, g < nb → ∃ p q b v lv : Nat, fc g 1 = nI p ∧ lo g < p ∧ q ≤ hi g ∧ b ≤ 54 ∧ gG nb fc fr g 0 + v ≤ 40 ∧ gBlk fk 16 lF p q b v ∧ fc g 2 = nI lv ∧ fc g 7 = nI (gG nb fc fr g 0) ∧ fc g 8 = 0 ∧ fc g 13 = 0 ∧ opI (gG nb fc fr g 0) (fr g 7)) ∧ (∀ g g2 : Nat, g < g2 → g2 < nb → hi g ≤ lo g2) ∧ ∀ g : Nat, g < nb → hi g < tt) ∧
    (∀ g : Nat, g < nb → (∀ q : Nat, q < gG nb fc fr g 0 → fr g 1 q < 0 ∨ ∃ w : Nat, w < 8 ∧ fr g 1 q = nI w) ∧ (fc g 6 < 0 ∨ ∃ w : Nat, w < 8 ∧ fc g 6 = nI w)) ∧
    (∃ m9 : Nat, m9 < nb ∧ mi = nI m9 ∧ gG nb fc fr m9 0 = 0) ∧ ∀ X : tF, X 0 = fv → X 1 = fpa → X 2 = fpt → shQ yp yt ak X := by
  have hyt : yt ≤ 3040 := h.2.1.2.1
  -- a function's numbers
  have key : ∀ g : Nat, g < nb → ∃ j lv np : Nat, j < mq ∧ nFn fk fi j = g ∧ fnG (fc g) (ps j + 1) lv np ∧ fnH yp yt (ps j + 1 - 1) (ps (j + 1) + 1) ak fk lF lv np (fr g 3) (fr g 1) (fc g 5) (fc g 6) (fc g 1) ∧ opI np (fr g 7) ∧ gG nb fc fr g 0 = np := fun g hg => by
    obtain ⟨j, j1, j2, lv, np, f1, f2, f3⟩ := dc_fn h hps htt hg
    have h12 := f2.2.1
    exact ⟨j, lv, np, j1, j2, f1, f2, f3, by rw [gG_0 hg, f1.2.2.1, cN_nI (by omega)]⟩
  have lf8 : ∀ (lv : Nat) (x : Int32), lv ≤ 8 → lfI lv x → x < 0 ∨ ∃ w : Nat, w < 8 ∧ x = nI w := fun lv x h8 hx => by
    rcases hx with q | ⟨w, w1, w2⟩
    · left; rw [q]; decide
    · exact Or.inr ⟨w, by omega, w2⟩
  refine ⟨fun g hg => ?_, fun g hg => ?_, ?_, fun g hg => ?_, ?_, fun X x0 x1 x2 sh hsh => ?_⟩
  · obtain ⟨j, lv, np, j1, j2, f1, ⟨g1, g2, g3, g4, -⟩, f3, e0⟩ := key g hg
    refine ⟨by rw [e0]; exact g2, ?_, by rw [e0]; exact f1.2.2.1, ?_, fun q hq => ?_⟩
    · rw [gG_1 hg]
      rcases g4 with ⟨q, -⟩ | ⟨⟨u, q, q2⟩, -⟩
      · rw [q]; decide
      · have := q2.2
        rw [q, cN_nI (by omega)]; omega
    · rw [gG_1 hg]
      rcases g4 with ⟨q, -⟩ | ⟨⟨u, q, q2⟩, -⟩
      · rw [q]; rfl
      · have := q2.2
        rw [q, cN_nI (by omega)]
    · rw [e0] at hq
      obtain ⟨⟨u, q1, q2⟩, -⟩ := g3 q hq
      have := q2.2
      rw [gG_2 hg, q1, cN_nI (by omega)]
      exact ⟨by omega, rfl⟩
  · obtain ⟨j, lv, np, j1, j2, f1, ⟨g1, g2, g3, g4, -⟩, f3, e0⟩ := key g hg
    refine ⟨?_, fun q hq => ?_⟩
    · rw [gG_1 hg]
      rcases g4 with ⟨q, -⟩ | ⟨⟨u, q, q2⟩, -⟩
      · left; rw [q]; rfl
      · right
        have := q2.2
        rw [q, cN_nI (by omega)]; exact q2
    · rw [e0] at hq
      obtain ⟨⟨u, q1, q2⟩, -⟩ := g3 q hq
      have := q2.2
      rw [gG_2 hg, q1, cN_nI (by omega)]; exact q2
  · have hch : ∀ g : Nat, ∃ j : Nat, g < nb → j < mq ∧ nFn fk fi j = g ∧ ∃ lv np : Nat, fnG (fc g) (ps j + 1) lv np ∧ fnH yp yt (ps j + 1 - 1) (ps (j + 1) + 1) ak fk lF lv np (fr g 3) (fr g 1) (fc g 5) (fc g 6) (fc g 1) ∧ opI np (fr g 7) ∧ gG nb fc fr g 0 = np := fun g => by
      by_cases hg : g < nb
      · obtain ⟨j, lv, np, j1, j2, f1, f2, f3, e0⟩ := key g hg
        exact ⟨j, fun _ => ⟨j1, j2, lv, np, f1, f2, f3, e0⟩⟩
      · exact ⟨0, fun q => absurd q hg⟩
    obtain ⟨jj, hj⟩ := Classical.axiomOfChoice hch
    have mono : ∀ a b : Nat, a ≤ b → b ≤ mq → ps a ≤ ps b := fun a b => by
      induction b with
      | zero => intro h1 _; rw [show a = 0 by omega]; exact Nat.le_refl _
      | succ b ih =>
        intro h1 h2
        by_cases e : a = b + 1
        · rw [e]; exact Nat.le_refl _
        · have := ih (by omega) (by omega)
          have := hin b (by omega)
          omega
    refine ⟨fun g => ps (jj g), fun g => ps (jj g + 1), fun g hg => ?_, fun g g2 h1 h2 => ?_, fun g hg => ?_⟩
    · obtain ⟨j1, j2, lv, np, f1, ⟨-, -, -, -, p, q, b, v, b1, b2, b3, b4, b5, b6, b7⟩, f3, e0⟩ := hj g hg
      rw [e0]
      exact ⟨p, q, b, v, lv, b1, (show ps (jj g) < p by omega), (show q ≤ ps (jj g + 1) by omega), b5, b6, b7, f1.2.1, f1.2.2.2.1, f1.2.2.2.2.1, f1.2.2.2.2.2, f3⟩
    · obtain ⟨j1, j2, -⟩ := hj g (by omega)
      obtain ⟨k1, k2, -⟩ := hj g2 h2
      have hlt : jj g < jj g2 := by
        rcases Nat.lt_or_ge (jj g) (jj g2) with q | q
        · exact q
        · have := (nFn_up (fk := fk) (fi := fi) q).1
          omega
      exact mono _ _ (by omega) (by omega)
    · obtain ⟨j1, -⟩ := hj g hg
      have := mono (jj g + 1) mq (by omega) (Nat.le_refl _)
      show ps (jj g + 1) < tt
      omega
  · obtain ⟨j, lv, np, j1, j2, f1, ⟨g1, g2, g3, g4, -⟩, f3, e0⟩ := key g hg
    refine ⟨fun q hq => ?_, ?_⟩
    · rw [e0] at hq
      exact lf8 lv _ g1 (g3 q hq).2
    · rcases g4 with ⟨-, q⟩ | ⟨-, q⟩
      · left; rw [q]; decide
      · exact lf8 lv _ g1 q
  · obtain ⟨m9, m1, m2, -, m4, -⟩ := h.2.2.2.2
    exact ⟨m9, m1, m2, by rw [gG_0 m1, m4]; rfl⟩
  · obtain ⟨⟨r1, r2, r3, r4⟩, hty, -⟩ := h
    obtain ⟨j, j1, j2, j3⟩ := nSg_on (fk := fk) (fi := fi) (ps := ps) mq sh (fun j hj => ⟨(hps j hj).1, by have := (hps j hj).2; omega⟩) (by omega)
    obtain ⟨kn, -, -, a3⟩ := r4 j j1
    rcases a3 with ⟨q, -⟩ | ⟨-, -, -, b1, b2⟩
    · exact absurd q j2
    · rw [if_pos j1, j3] at b2
      rw [j3] at b1
      obtain ⟨n, ⟨n1, n2⟩, n3, n4, n5⟩ := b2
      refine ⟨n, by rw [x0]; exact n4, n1, n3, fun h2 => n2 ?_, fun g hg => ?_⟩
      · by_cases c : fk (ps j) = 5
        · exact c
        · rw [if_neg c, h2] at b1; exact absurd b1 (by decide)
      · obtain ⟨m, m1, m2, m3⟩ := n5 g hg
        exact ⟨m, by rw [x1]; exact m2, m1, fun q hq => by rw [x2]; exact m3 q hq⟩
end
end
-- h0.rh.lean.txt
section
/-- a program that was looked over and has no fault -/
def lkO (yp nb tt : Nat) (X : tF) (G : Nat → Nat → Nat) (lo : Nat → Nat) (fc : Nat → Nat → Int32) (fr : Nat → Nat → Nat → Int32) (Z : tgS) : Prop :=
  pgI yp nb tt nb X G lo fc fr Z ∧ nb ≤ 40 ∧ (szI yp yp (X 5) ∧ msI yp (X 7) (X 0) (X 1) (X 5) (X 2) (X 3) ∧ shQ yp (cN (X 6 0)) (X 7) X ∧ 34 ≤ cN (X 6 0)) ∧ hdI nb G fc fr ∧ (∀ g : Nat, g < nb → G g 1 = 0 ∨ tyV yp (Z.1 7) (Z.2 20) (G g 1)) ∧ (∀ g : Nat, g < 40 → G g 1 < 3040 → g < nb) ∧
  (∀ g : Nat, g < nb → (∀ q : Nat, q < G g 0 → fr g 1 q < 0 ∨ ∃ w : Nat, w < 8 ∧ fr g 1 q = nI w) ∧ (fc g 6 < 0 ∨ ∃ w : Nat, w < 8 ∧ fc g 6 = nI w) ∧ ∃ lv : Nat, fc g 2 = nI lv) ∧
  ∃ (T : Nat → tgS) (aa bb lf lt : Nat → Nat) (kk : Nat → Nat → Option (List tE)), (∀ g : Nat, g < nb → gC yp X G g (fc g) (fr g) Z (T g) (aa g) (bb g) (lf g) (lt g) (kk g)) ∧ ∀ g : Nat, g < nb → ∃ (em : Nat → Int32) (r8 r9 : Int32), mvF (gF Z (T g)) (kk g) (aa g) (bb g) ((T g).1 4) (G g 0) ((T g).2 15) em (Z.2 22) r8 ∧ r8 < 0 ∧ lnFa (gF Z (T g)) (kk g) (aa g) (bb g) ((T g).1 4) (G g 0) ((T g).1 5) nb (Z.2 20) ((T g).2 15) ((T g).2 18) ((T g).2 19) (fr g 1) (nI (G g 1)) (fc g 6) fc fr r9 ∧ r9 < 0
theorem lk_run {yp nb tt mh : Nat} {X : tF} {G : Nat → Nat → Nat} {lo : Nat → Nat} {fc : Nat → Nat → Int32} {fr : Nat → Nat → Nat → Int32} {Z : tgS} (h : lkO yp nb tt X G lo fc fr Z) (hmh : mh ≤ 4000) (na : Nat → Nat → Nat) : ∃ (FG : Nat → tF) (QM : qmT), stM Z.2 FG na fc fr (Z.2 20) (Z.2 21) (X 1) (X 2) (X 3) mh QM ∧ fgR Z.2 FG fr ∧ ∀ (gm mln : Nat) (ft ff az : Nat → Int32) (cc : Nat → Int64), gm < nb → G gm 0 = 0 → mln ≤ 600000 → mh ≤ mln → ∃ cf ac vc vn np lv : Nat, caF fc fr gm cf ac vc vn np lv ∧ ac ≤ mh ∧ ∀ (ml2 : Nat) (gc : Nat → Int64) (gf : Nat → Int32) (g0 : Nat → Option Nat) (g1 g3 : Nat → Int32), grC cc gc mln ml2 (mh - ac + vc + 3600) → fiC az fr gm 0 vn np ff gf → QM 1 gm (mh - ac) g0 g1 g3 ml2 cf ft gc (mh - ac + vc) gf := by
  obtain ⟨hp, hnb, ⟨s1, s2, s3, s4⟩, hd, hG, hGb, hlf, T, aa, bb, lf, lt, kk, hC, hF⟩ := h
  have htb : ∀ T : tgS, tbO (gF Z T) X yp (Z.1 7) := fun T => gF_tb hp s1 s2 s3 s4
  have h7 : Z.1 7 ≤ 3040 := hp.1.2.1
  have hX : ∀ g : Nat, ∃ w : lK × (Nat → Nat → lLc → Prop) × (Nat → Prop) × lTb, g < nb → gX yp X G (fun g => fc g 6) (fun g => fr g 1) Z g (T g) (aa g) (bb g) (kk g) w.1 w.2.1 w.2.2.1 w.2.2.2 := fun g => by
    by_cases hg : g < nb
    · obtain ⟨em, r8, r9, f1, f2, f3, f4⟩ := hF g hg
      obtain ⟨N, L, Rm, tb, hx⟩ := gX_of hp (hC g hg) (htb _) hd hg hG hGb hnb (hlf g hg).1 (hlf g hg).2.1 f1 f2 f3 f4
      exact ⟨(N, L, Rm, tb), fun _ => hx⟩
    · exact ⟨((fun _ _ _ => True, fun _ _ => True, fun _ => True), fun _ _ _ => True, fun _ => True, tb0 (gF Z Z)), fun q => absurd q hg⟩
  obtain ⟨w, hw⟩ := Classical.axiomOfChoice hX
  refine ⟨_, _, mD_M (NN := fun g => (w g).1) (LL := fun g => (w g).2.1) (RR := fun g => (w g).2.2.1) (tb := fun g => (w g).2.2.2) (na := na) hnb hmh h7 htb hd (fun g hg => (hlf g hg).2.2) hGb hC hw, mD_fg hC, fun gm mln ft ff az cc hgm h0 hm1 hm2 => ?_⟩
  exact Q_I (D := gD yp nb mh X G fc fr Z T aa bb kk (fun g => (w g).1) (fun g => (w g).2.1) (fun g => (w g).2.2.1) (fun g => (w g).2.2.2) na) (mD_ok hnb hmh h7 htb hC hw na) (mD_rw h7 htb hd (fun g hg => (hlf g hg).2.2) hC) hgm h0 ⟨hm1, hm2⟩
end
-- h0.ri.lean.txt
section
/-- one function was looked over -/
def lkD (nb : Nat) (G : Nat → Nat → Nat) (fc : Nat → Nat → Int32) (fr : Nat → Nat → Nat → Int32) (Z T : tgS) (a b : Nat) (k : Nat → Option (List tE)) (g : Nat) : Prop := ∃ (em : Nat → Int32) (r8 r9 : Int32), mvF (gF Z T) k a b (T.1 4) (G g 0) (T.2 15) em (Z.2 22) r8 ∧ r8 < 0 ∧ lnFa (gF Z T) k a b (T.1 4) (G g 0) (T.1 5) nb (Z.2 20) (T.2 15) (T.2 18) (T.2 19) (fr g 1) (nI (G g 1)) (fc g 6) fc fr r9 ∧ r9 < 0
/-- what is known while the functions are looked over, up to i -/
def lkP (yp nb tt : Nat) (X : tF) (G : Nat → Nat → Nat) (lo : Nat → Nat) (fc : Nat → Nat → Int32) (fr : Nat → Nat → Nat → Int32) (Z : tgS) (T : Nat → tgS) (aa bb lf lt : Nat → Nat) (kk : Nat → Nat → Option (List tE)) (i : Nat) : Prop :=
  (pgI yp nb tt nb X G lo fc fr Z ∧ nb ≤ 40 ∧ (szI yp yp (X 5) ∧ msI yp (X 7) (X 0) (X 1) (X 5) (X 2) (X 3) ∧ shQ yp (cN (X 6 0)) (X 7) X ∧ 34 ≤ cN (X 6 0)) ∧ hdI nb G fc fr ∧ (∀ g : Nat, g < nb → G g 1 = 0 ∨ tyV yp (Z.1 7) (Z.2 20) (G g 1)) ∧ (∀ g : Nat, g < 40 → G g 1 < 3040 → g < nb)) ∧
  (∀ g : Nat, g < nb → (∀ q : Nat, q < G g 0 → fr g 1 q < 0 ∨ ∃ w : Nat, w < 8 ∧ fr g 1 q = nI w) ∧ (fc g 6 < 0 ∨ ∃ w : Nat, w < 8 ∧ fc g 6 = nI w) ∧ ∃ lv : Nat, fc g 2 = nI lv) ∧
  (∀ g : Nat, g < nb → gC yp X G g (fc g) (fr g) Z (T g) (aa g) (bb g) (lf g) (lt g) (kk g)) ∧ i ≤ nb ∧ ∀ g : Nat, g < i → lkD nb G fc fr Z (T g) (aa g) (bb g) (kk g) g
section
variable {yp nb tt i : Nat} {X : tF} {G : Nat → Nat → Nat} {lo : Nat → Nat} {fc : Nat → Nat → Int32} {fr : Nat → Nat → Nat → Int32} {Z : tgS} {T : Nat → tgS} {aa bb lf lt : Nat → Nat} {kk : Nat → Nat → Option (List tE)}
theorem lkP_O (h : lkP yp nb tt X G lo fc fr Z T aa bb lf lt kk nb) : lkO yp nb tt X G lo fc fr Z := by
  obtain ⟨⟨h1, h2, h3, h4, h5, h6⟩, h7, h8, -, h9⟩ := h
  exact ⟨h1, h2, h3, h4, h5, h6, h7, T, aa, bb, lf, lt, kk, h8, h9⟩
theorem lkP_S (h : lkP yp nb tt X G lo fc fr Z T aa bb lf lt kk i) (hi : i < nb) (hd : lkD nb G fc fr Z (T i) (aa i) (bb i) (kk i) i) : lkP yp nb tt X G lo fc fr Z T aa bb lf lt kk (i + 1) := by
  obtain ⟨h1, h7, h8, -, h9⟩ := h
  refine ⟨h1, h7, h8, hi, fun g hg => ?_⟩
  by_cases e : g = i
  · rw [e]; exact hd
  · exact h9 g (by omega)
/-- reached calls and variants, for Loans -/
theorem lk_12 {F : tF} {rs a b : Nat} {k : Nat → Option (List tE)} (hc : ceI F X G rs a b k) (hGb : ∀ g : Nat, g < 40 → G g 1 < 3040 → g < nb) : ∀ i : Nat, a ≤ i → i < b → (∃ r : List tE, k i = some r) → (F 0 i = 12 → ∃ n : Nat, n ≤ 12 ∧ F 2 i = nI n) ∧ (F 0 i = 21 → ∃ g : Nat, F 1 i = nI g ∧ g < nb) := fun i ha hb hk => by
  obtain ⟨s, hs⟩ := hk
  refine ⟨fun ho => ?_, fun ho => ?_⟩
  · obtain ⟨sh, g, n, r, -, -, -, -, -, h12, h2, -⟩ := ce_op hc ha hb hs (show F 0 i = nI 12 from ho) (by decide)
    exact ⟨n, h12, h2⟩
  · obtain ⟨g, r, ⟨h1, h2⟩, h3, -⟩ := ce_op hc ha hb hs (show F 0 i = nI 21 from ho) (by decide)
    exact ⟨g, h3, hGb g h1 h2⟩
/-- the functions' codes, chosen -/
theorem lk_beg (hp : pgI yp nb tt nb X G lo fc fr Z) (htt : tt ≤ 1300) (hnb : nb ≤ 40) (hs : szI yp yp (X 5) ∧ msI yp (X 7) (X 0) (X 1) (X 5) (X 2) (X 3) ∧ shQ yp (cN (X 6 0)) (X 7) X ∧ 34 ≤ cN (X 6 0)) (hd : hdI nb G fc fr) (hG : ∀ g : Nat, g < nb → G g 1 = 0 ∨ tyV yp (cN (X 6 0)) (X 7) (G g 1)) (hGb : ∀ g : Nat, g < 40 → G g 1 < 3040 → g < nb) (hlf : ∀ g : Nat, g < nb → (∀ q : Nat, q < G g 0 → fr g 1 q < 0 ∨ ∃ w : Nat, w < 8 ∧ fr g 1 q = nI w) ∧ (fc g 6 < 0 ∨ ∃ w : Nat, w < 8 ∧ fc g 6 = nI w) ∧ ∃ lv : Nat, fc g 2 = nI lv) : ∃ (T : Nat → tgS) (aa bb lf lt : Nat → Nat) (kk : Nat → Nat → Option (List tE)), lkP yp nb tt X G lo fc fr Z T aa bb lf lt kk 0 := by
  have hch : ∀ g : Nat, ∃ w : tgS × Nat × Nat × Nat × Nat × (Nat → Option (List tE)), g < nb → gC yp X G g (fc g) (fr g) Z w.1 w.2.1 w.2.2.1 w.2.2.2.1 w.2.2.2.2.1 w.2.2.2.2.2 := fun g => by
    by_cases hg : g < nb
    · obtain ⟨T, a, b, lf, lt, k, h, -⟩ := gC_of hp htt hg
      exact ⟨(T, a, b, lf, lt, k), fun _ => h⟩
    · exact ⟨(Z, 0, 0, 0, 0, fun _ => none), fun q => absurd q hg⟩
  obtain ⟨w, hw⟩ := Classical.axiomOfChoice hch
  have hp2 := hp
  obtain ⟨-, -, -, -, -, -, z1, z2⟩ := hp2
  refine ⟨fun g => (w g).1, fun g => (w g).2.1, fun g => (w g).2.2.1, fun g => (w g).2.2.2.1, fun g => (w g).2.2.2.2.1, fun g => (w g).2.2.2.2.2, ⟨hp, hnb, hs, hd, fun g hg => (hG g hg).imp id (fun q => tyV_up q (fun t ht => (z2 t ht).2) z1), hGb⟩, hlf, hw, Nat.zero_le _, fun g hg => absurd hg (Nat.not_lt_zero _)⟩
end
end
-- h0.rj.lean.txt
section
/-- a number between 0 and k -/
theorem i32_le {x : Int32} {k : Nat} (h0 : ¬ x < 0) (hk : k < 2 ^ 31) (h : ¬ nI k < x) : ∃ n : Nat, n ≤ k ∧ x = nI n := by
  have h1 : 0 ≤ x.toInt := by
    have := Int32.not_lt.mp h0
    have h2 : (0 : Int32).toInt ≤ x.toInt := Int32.le_iff_toInt_le.mp this
    rw [show (0 : Int32).toInt = 0 from rfl] at h2
    exact h2
  have h3 : x.toInt ≤ (k : Int) := by
    have := Int32.le_iff_toInt_le.mp (Int32.not_lt.mp h)
    rw [show (nI k).toInt = (k : Int) from Int32.toInt_ofNat_of_lt hk] at this
    exact this
  refine ⟨x.toInt.toNat, by omega, ?_⟩
  refine Int32.toInt_inj.mp ?_
  rw [show (nI x.toInt.toNat).toInt = (x.toInt.toNat : Int) from Int32.toInt_ofNat_of_lt (by omega)]
  omega
end
