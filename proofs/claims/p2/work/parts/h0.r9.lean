/-- what a program's running rests on -/
abbrev mD := (qY) × (qZ) × (Nat → Nat → Nat) × (Nat → Nat → Nat) × (Nat → Nat) × (Nat → lTb) × (Nat → tF) × (tF) × (Nat → Nat → Nat) × (Nat → Int32) × (Nat → Nat → Int32) × (Nat) × (Nat) × (Nat) × (Nat) × (Nat → Nat) × (Nat → Nat) × (Nat → Nat) × (Nat → Nat → Option (List tE)) × (Nat → lK) × (Nat → Nat → Nat → lLc → Prop) × (Nat → Nat → Prop) × (Nat → Nat → Nat)
def mD.y (D : mD) : qY := D.1
def mD.z (D : mD) : qZ := D.2.1
def mD.vt (D : mD) : Nat → Nat → Nat := D.2.2.1
def mD.vo (D : mD) : Nat → Nat → Nat := D.2.2.2.1
def mD.vc (D : mD) : Nat → Nat := D.2.2.2.2.1
def mD.tb (D : mD) : Nat → lTb := D.2.2.2.2.2.1
def mD.FG (D : mD) : Nat → tF := D.2.2.2.2.2.2.1
def mD.X (D : mD) : tF := D.2.2.2.2.2.2.2.1
def mD.G (D : mD) : Nat → Nat → Nat := D.2.2.2.2.2.2.2.2.1
def mD.rl (D : mD) : Nat → Int32 := D.2.2.2.2.2.2.2.2.2.1
def mD.pl (D : mD) : Nat → Nat → Int32 := D.2.2.2.2.2.2.2.2.2.2.1
def mD.yp (D : mD) : Nat := D.2.2.2.2.2.2.2.2.2.2.2.1
def mD.yt (D : mD) : Nat := D.2.2.2.2.2.2.2.2.2.2.2.2.1
def mD.nb (D : mD) : Nat := D.2.2.2.2.2.2.2.2.2.2.2.2.2.1
def mD.mh (D : mD) : Nat := D.2.2.2.2.2.2.2.2.2.2.2.2.2.2.1
def mD.aa (D : mD) : Nat → Nat := D.2.2.2.2.2.2.2.2.2.2.2.2.2.2.2.1
def mD.bb (D : mD) : Nat → Nat := D.2.2.2.2.2.2.2.2.2.2.2.2.2.2.2.2.1
def mD.nv (D : mD) : Nat → Nat := D.2.2.2.2.2.2.2.2.2.2.2.2.2.2.2.2.2.1
def mD.kk (D : mD) : Nat → Nat → Option (List tE) := D.2.2.2.2.2.2.2.2.2.2.2.2.2.2.2.2.2.2.1
def mD.NN (D : mD) : Nat → lK := D.2.2.2.2.2.2.2.2.2.2.2.2.2.2.2.2.2.2.2.1
def mD.LL (D : mD) : Nat → Nat → Nat → lLc → Prop := D.2.2.2.2.2.2.2.2.2.2.2.2.2.2.2.2.2.2.2.2.1
def mD.RR (D : mD) : Nat → Nat → Prop := D.2.2.2.2.2.2.2.2.2.2.2.2.2.2.2.2.2.2.2.2.2.1
def mD.na (D : mD) : Nat → Nat → Nat := D.2.2.2.2.2.2.2.2.2.2.2.2.2.2.2.2.2.2.2.2.2.2
/-- function g -/
def mEf (D : mD) (g : Nat) : Prop := sgE D.y D.z (D.FG g) D.X D.G (D.G g 1) (D.aa g) (D.bb g) (D.nv g) D.yp D.yt (D.kk g) (D.NN g) (D.LL g) (D.RR g) (D.tb g) D.rl D.pl (D.rl g) (D.vt g)
def mEn (D : mD) (g : Nat) : Prop := enF D.y D.z (D.FG g) D.G D.yp D.yt (D.aa g) (D.kk g) (D.NN g) (D.RR g) (D.tb g) D.rl D.pl (D.rl g) D.vt D.vo g
def mAt (D : mD) (g f : Nat) (x : Nat → kFm) (An : Nat → lLc → Nat → Prop) (fb : Nat → Nat) (i : Nat) (ft : Nat → Int32) (fc : Nat → Int64) (tp : Nat) (ff : Nat → Int32) : Prop := At D.y D.z D.vt D.vo D.vc D.tb D.mh (D.aa g) (D.bb g) (D.kk g) (D.NN g) (D.LL g) (D.RR g) g f x An fb i (tkP ft) (cI fc) tp (filP ff)
/-- all that is known of the functions -/
def mOk (D : mD) : Prop := kYs D.y D.z D.vt D.vo D.vc ∧ D.nb ≤ 40 ∧ D.mh ≤ 4000 ∧ (∀ t : Nat, D.z.1 t ≤ 16) ∧ ∀ g : Nat, g < D.nb → mEf D g ∧ mEn D g ∧ D.aa g < D.bb g ∧ (∀ v : Nat, v < 40 → D.FG g 15 v ≠ -1 → D.FG g 17 v = nI (D.vo g v)) ∧ D.vc g ≤ 680 ∧ ∀ i v1 : Nat, D.aa g ≤ i → i < D.bb g → D.kk g i ≠ none → D.FG g 0 i = nI 32 → D.FG g 2 i = nI v1 → v1 ≤ 40 → v1 ≤ D.nv g
/-- filled variables are in scope -/
def fvI (D : mD) (ff : Nat → Int32) (j g : Nat) (s : List tE) : Prop := ∀ v : Nat, v < D.nv g → ff (40 * j + v) ≠ 0 → ((8, v, 0) : tE) ∈ s ∧ D.FG g 15 v ≠ -1
/-- the callers -/
def chn (D : mD) (x : Nat → kFm) (fb : Nat → Nat) (k0 : Nat → Option Nat) (k1 k2 ff : Nat → Int32) : Nat → Nat → (Nat → lLc → Nat → Prop) → Prop
  | 0, _, _ => True
  | j + 1, g, An => ∃ (g0 i0 : Nat) (r : List tE) (R : Nat → Option lLc) (A0 : Nat → lLc → Nat → Prop), g0 < D.nb ∧ x j = Cf (D.NN g0) (D.LL g0) g0 i0 r (D.G g 0) R A0 ∧ Wt (D.FG g0) D.G (D.aa g0) (D.bb g0) (D.kk g0) (D.NN g0) (D.RR g0) i0 g r ∧ An = kAo D.y (D.vt g) R (wl r) (D.G g 0) (ouF D.pl g) ∧ k0 (j + 1) = some (D.na g0 0) ∧ k1 (j + 1) = nI (i0 + 1) ∧ (k2 (j + 1) = nI (fb j) ∧ fb j ≤ 4000 + 4056 * j) ∧ fvI D ff j g0 r ∧ chn D x fb k0 k1 k2 ff j g0 A0
theorem chn_cg {D : mD} {x x2 : Nat → kFm} {fb fb2 : Nat → Nat} {k0 l0 : Nat → Option Nat} {k1 k2 l1 l2 ff f2 : Nat → Int32} : ∀ (j : Nat) {g : Nat} {An : Nat → lLc → Nat → Prop}, (∀ i : Nat, i < j → x2 i = x i ∧ fb2 i = fb i) → (∀ i : Nat, i ≤ j → l0 i = k0 i ∧ l1 i = k1 i ∧ l2 i = k2 i) → (∀ i : Nat, i < 40 * j → f2 i ≠ 0 → ff i ≠ 0) → D.nb = D.nb → (∀ g : Nat, g < D.nb → D.nv g ≤ 40) → chn D x fb k0 k1 k2 ff j g An → chn D x2 fb2 l0 l1 l2 f2 j g An
  | 0, _, _, _, _, _, _, _, _ => trivial
  | j + 1, g, An, h1, h2, h3, h4, h5, h => by
    obtain ⟨g0, i0, r, R, A0, a1, a2, a3, a4, a5, a6, a7, a8, a9⟩ := h
    have hv := h5 g0 a1
    refine ⟨g0, i0, r, R, A0, a1, (h1 j (by omega)).1.trans a2, a3, a4, (h2 (j + 1) (by omega)).1.trans a5, (h2 (j + 1) (by omega)).2.1.trans a6, ⟨(h2 (j + 1) (by omega)).2.2.trans (by rw [(h1 j (by omega)).2]; exact a7.1), by rw [(h1 j (by omega)).2]; exact a7.2⟩, fun v hv9 hne => a8 v hv9 (h3 _ (by omega) hne), ?_⟩
    exact chn_cg j (fun i hi => h1 i (by omega)) (fun i hi => h2 i (by omega)) (fun i hi => h3 i (by omega)) rfl h5 a9
/-- where a running stands -/
def QMd (D : mD) : qmT := fun kn g bs k0 k1 k2 mln i ft fc tp ff => ∃ (f : Nat) (x : Nat → kFm) (An : Nat → lLc → Nat → Prop) (fb : Nat → Nat), kn = f + 1 ∧ f < 60 ∧ g < D.nb ∧ bs = fb f ∧ (D.mh ≤ mln ∧ mln ≤ 600000 ∧ fb f + D.vc g + 3600 ≤ mln ∧ fb f ≤ 4000 + 4056 * f) ∧ (∀ s : List tE, D.kk g i = some s → fvI D ff f g s) ∧ chn D x fb k0 k1 k2 ff f g An ∧ mAt D g f x An fb i ft fc tp ff
section
variable {D : mD} {f g i j tp mln : Nat} {x : Nat → kFm} {An : Nat → lLc → Nat → Prop} {fb : Nat → Nat} {ft ff gt gf : Nat → Int32} {fc gc : Nat → Int64} {k0 : Nat → Option Nat} {k1 k2 : Nat → Int32}
theorem mE_n (h : mEf D g) : D.nv g ≤ 40 := h.2.2.2.2.1
/-- bounds of a state -/
theorem mAt_b (hO : mOk D) (hg : g < D.nb) (h : mAt D g f x An fb i ft fc tp ff) : ∃ s : List tE, D.kk g i = some s ∧ D.aa g ≤ i ∧ i < D.bb g ∧ i < 6000 ∧ (D.NN g).2.2 i ∧ D.RR g i ∧ tp = fb f + D.vc g + khs D.z s ∧ khs D.z s ≤ 3376 ∧ fb f + D.vc g ≤ tp := by
  obtain ⟨E, -⟩ := hO.2.2.2.2 g hg
  obtain ⟨s, R, hs, ha, hb, hN, hR, hk⟩ := h
  obtain ⟨et, -⟩ := At_s hk
  have h1 := khs_vl hO.2.2.2.1 s
  have h2 := E.2.2.1 i s ha hb hs
  have h3 : D.bb g ≤ 6000 := E.2.1.2.1
  exact ⟨s, hs, ha, hb, by omega, hN, hR, et, by omega, by omega⟩
/-- the next state, in the same call -/
theorem QM_mk (hO : mOk D) (hf : f < 60) (hg : g < D.nb) (hb : D.mh ≤ mln ∧ mln ≤ 600000 ∧ fb f + D.vc g + 3600 ≤ mln ∧ fb f ≤ 4000 + 4056 * f) (hfl : ∀ s : List tE, D.kk g j = some s → fvI D gf f g s) (hch : chn D x fb k0 k1 k2 ff f g An) (hff : ∀ i : Nat, i < 40 * f → gf i = ff i) (h : mAt D g f x An fb j gt gc tp gf) : QMd D (f + 1) g (fb f) k0 k1 k2 mln j gt gc tp gf :=
  ⟨f, x, An, fb, rfl, hf, hg, rfl, hb, hfl, chn_cg f (fun _ _ => ⟨rfl, rfl⟩) (fun _ _ => ⟨rfl, rfl, rfl⟩) (fun i hi hne => by rw [hff i hi] at hne; exact hne) rfl (fun g hg => mE_n (hO.2.2.2.2 g hg).1) hch, h⟩
/-- filled variables, behind an instruction -/
theorem fl_S {o : Nat} {s : List tE} (E : mEf D g) (ha : D.aa g ≤ i) (hb : i < D.bb g) (hs : D.kk g i = some s) (ho : D.FG g 0 i = nI o) (h33 : o < 33) (hn : o ≠ 15 ∧ o ≠ 16 ∧ o ≠ 20 ∧ o ≠ 22) (hv : ∀ v : Nat, v < D.nv g → gf (40 * f + v) ≠ 0 → D.FG g 15 v ≠ -1 ∧ ((((8, v, 0) : tE) ∈ s ∧ (o = 32 → ∀ v0 v1 : Nat, v0 ≤ 40 → v1 ≤ 40 → D.FG g 1 i = nI v0 → D.FG g 2 i = nI v1 → ¬ (v0 ≤ v ∧ v < v1))) ∨ ((o = 24 ∨ o = 25 ∨ o = 29 ∨ o = 30) ∧ D.FG g 1 i = nI v))) : ∀ s2 : List tE, D.kk g (i + 1) = some s2 → fvI D gf f g s2 := fun s2 hs2 v h1 h2 => by
  obtain ⟨s3, e1, e2⟩ := e8_f o (ce_op E.2.1 ha hb hs ho h33) hn
  rw [hs2] at e1
  obtain rfl := Option.some.inj e1
  have h40 := mE_n E
  refine ⟨?_, (hv v h1 h2).1⟩
  rcases (hv v h1 h2).2 with ⟨q1, q2⟩ | ⟨q1, q2⟩
  · exact e2.1 v q1 q2
  · exact e2.2 q1 v (by omega) q2
/-- .. that leaves the bits alone -/
theorem fl_0 {o : Nat} {s : List tE} (E : mEf D g) (ha : D.aa g ≤ i) (hb : i < D.bb g) (hs : D.kk g i = some s) (ho : D.FG g 0 i = nI o) (h33 : o < 33) (hn : o ≠ 15 ∧ o ≠ 16 ∧ o ≠ 20 ∧ o ≠ 22 ∧ o ≠ 32) (hfl : fvI D ff f g s) : ∀ s2 : List tE, D.kk g (i + 1) = some s2 → fvI D ff f g s2 := fl_S E ha hb hs ho h33 ⟨hn.1, hn.2.1, hn.2.2.1, hn.2.2.2.1⟩ (fun v h1 h2 => ⟨(hfl v h1 h2).2, Or.inl ⟨(hfl v h1 h2).1, fun q => absurd q hn.2.2.2.2⟩⟩)
/-- the variable of a place has a type -/
theorem sg_pv (E : mEf D g) {s : List tE} {p v : Nat} (hs : D.kk g i = some s) (ha : D.aa g ≤ i) (hb : i < D.bb g) (ho : D.FG g 0 i = nI 2 ∨ D.FG g 0 i = nI 3 ∨ D.FG g 0 i = nI 4 ∨ D.FG g 0 i = nI 26) (h1 : D.FG g 1 i = nI p) (h6 : D.FG g 6 p = nI v) (hp : p < 3001) (hv : v < 40) : D.FG g 15 v ≠ -1 := by
  have key : ∀ (p9 v9 n T : Nat) (pa ro mu : Int32), D.FG g 1 i = nI p9 → plI (D.FG g) D.X p9 v9 n T pa ro mu → D.FG g 15 v ≠ -1 := fun p9 v9 n T pa ro mu q1 q2 => by
    have e1 : p9 = p := (nI_eq (by have := q2.1.1; omega) (by omega)).mp (q1.symm.trans h1)
    subst e1
    have e2 : v9 = v := (nI_eq (by have := q2.2.1; omega) (by omega)).mp (q2.2.2.2.2.1.symm.trans h6)
    subst e2
    exact pl_ne n pa ro T mu q2.2.2.2.1 q2.2.2.2.2.2.2.2.2.2.2
  rcases ho with ho | ho | ho | ho
  · obtain ⟨p9, T, mu, q1, ⟨v9, n, pa, ro, q2⟩, -⟩ := ce_op E.2.1 ha hb hs ho (by decide)
    exact key p9 v9 n T pa ro mu q1 q2
  · obtain ⟨p9, T, q1, ⟨v9, n, pa, ro, mu, q2, -⟩, -⟩ := ce_op E.2.1 ha hb hs ho (by decide)
    exact key p9 v9 n T pa ro mu q1 q2
  · obtain ⟨p9, T, c, m, mu, q1, ⟨v9, n, pa, ro, q2⟩, -⟩ := ce_op E.2.1 ha hb hs ho (by decide)
    exact key p9 v9 n T pa ro mu q1 q2
  · obtain ⟨p9, v9, n, T, pa, ro, mu, r, q1, q2, -⟩ := ce_op E.2.1 ha hb hs ho (by decide)
    exact key p9 v9 n T pa ro mu q1 q2
/-- instructions that work on values -/
theorem Q_V (hO : mOk D) (kn bs : Nat) : stV (D.FG g) bs (40 * (kn - 1)) D.mh mln (QMd D kn g bs k0 k1 k2 mln) := by
  intro i tp ft ff fc hQ
  obtain ⟨f, x, An, fb, rfl, hf, hg, rfl, hb, hfl, hch, hA⟩ := hQ
  obtain ⟨E, En, hab, h17, hvc, h32⟩ := hO.2.2.2.2 g hg
  have hy := hO.1
  obtain ⟨s, hs, ha, hib, hi6, hN, hR, et, h33, het⟩ := mAt_b hO hg hA
  have hfl0 := hfl s hs
  rw [show f + 1 - 1 = f by omega]
  have htop : tp < 2 ^ 31 := by omega
  have htl : tp ≤ mln := by omega
  have mk : ∀ (o : Nat) (gt : Nat → Int32) (gc : Nat → Int64) (tp2 : Nat), D.FG g 0 i = nI o → o < 13 → mAt D g f x An fb (i + 1) gt gc tp2 ff → QMd D (f + 1) g (fb f) k0 k1 k2 mln (i + 1) gt gc tp2 ff := fun o gt gc tp2 ho h13 h => QM_mk hO hf hg hb (fl_0 E ha hib hs ho (by omega) ⟨by omega, by omega, by omega, by omega, by omega⟩ hfl0) hch (fun _ _ => rfl) h
  refine ⟨⟨hi6, by omega⟩, fun ho gc hgc => ?_, fun ho => ?_, fun ho => ?_, fun ho => ?_, fun ho => ?_, fun ho => ?_, fun ho => ?_, fun ho => ?_, fun ho => ?_, fun ho => ?_⟩
  · have q := s_num (c2 := cI gc) E hy hA ho (fun k hk => by unfold cI; rw [hgc k hk])
    rcases ho with ho | ho
    · exact mk 0 _ _ _ ho (by decide) q
    · exact mk 1 _ _ _ ho (by decide) q
  · obtain ⟨p, v, T, m, nd, ds, os, o, pa, ro, p1, p2, p3⟩ := s_cpy E hy htop hA ho
    have hvn := sg_pv E hs ha hib (Or.inl ho) p1 p2.2.2.1 p2.2.1 p2.2.2.2.1
    obtain ⟨c1, c2, -⟩ := pl_C p2 (h17 v p2.2.2.2.1 hvn) htl (by omega)
    refine ⟨p, v, T, m, os.length, _, p1, c1, mk 2 _ _ _ ho (by decide) (p3 _ (fun k hk => cp_out (by omega)) (fun q hq => ?_))⟩
    rw [cp_in hq, c2]
  · obtain ⟨p, v, T, m, nd, ds, os, o, pa, ro, p1, p2, p3, p4⟩ := s_mov E hy htop hA ho
    have hvn := sg_pv E hs ha hib (Or.inr (Or.inl ho)) p1 p2.2.2.1 p2.2.1 p2.2.2.2.1
    obtain ⟨c1, c2, c3⟩ := pl_C p2 (h17 v p2.2.2.2.1 hvn) htl (by omega)
    have hv4 := p2.2.2.2.1
    refine ⟨p, v, T, m, os.length, _, p1, c1, fun hq => by rw [c2]; exact p3 (fun e => by rw [e] at hq; exact absurd hq (by decide)), by omega, fun gt hgt => ?_⟩
    have hz : ∀ w : Nat, ff (40 * f + w) = 0 → upd ff (40 * f + v) (ff (40 * f + v) &&& (D.FG g 12 p ^^^ -1)) (40 * f + w) = 0 := fun w q => by
      by_cases e : w = v
      · rw [e, pk_us]; rw [e] at q; rw [q]; exact Int32.zero_and
      · rw [pk_un (by omega)]; exact q
    refine QM_mk hO hf hg hb (fl_S E ha hib hs ho (by decide) ⟨by decide, by decide, by decide, by decide⟩ (fun w h1 h2 => ?_)) hch (fun k hk => pk_un (by omega)) ?_
    · have h3 := hfl0 w h1 (fun q => h2 (hz w q))
      exact ⟨h3.2, Or.inl ⟨h3.1, fun q => absurd q (by decide)⟩⟩
    · refine p4 _ _ _ (fun k hk hno => ?_) (fun q hq => by rw [cp_in hq, c2]) (fun k hk => cp_out hk) (fun j w hjw => fil_ne hv4 hjw) (fun q hq => ?_)
      · show gt k ≠ 0
        rcases hgt with ⟨-, e⟩ | ⟨e1, e2⟩
        · rw [e]; exact hk
        · rw [e2 k, c2, if_neg (hno (fun e => by rw [e] at e1; exact absurd e1 (by decide)))]; exact hk
      · obtain ⟨q1, q3, q2⟩ := fil_eq hq
        rw [ibit_and, Bool.and_eq_true] at q2
        refine ⟨⟨q1, q3, q2.1⟩, fun h16 => ?_⟩
        have := q2.2
        rw [ibit_not _ _ (by omega)] at this
        cases e : ibit (D.FG g 12 p) q with
        | false => rfl
        | true => rw [e] at this; exact absurd this (by decide)
  · obtain ⟨p, v, T, m, nd, ds, os, o, pa, ro, p1, p2, p3⟩ := s_bor E hy htop hA ho
    have hvn := sg_pv E hs ha hib (Or.inr (Or.inr (Or.inl ho))) p1 p2.2.2.1 p2.2.1 p2.2.2.2.1
    obtain ⟨c1, c2, -⟩ := pl_C p2 (h17 v p2.2.2.2.1 hvn) htl (by omega)
    have hra := p2.2.2.2.2.2.2.2.2.2.2.2.2.2
    refine ⟨p, v, T, m, os.length, _, p1, c1, mk 4 _ _ _ ho (by decide) (p3 _ (fun k hk => up_out (by omega)) ?_)⟩
    rw [up_in, c2, i64_n (by omega)]
  · have q := s_un E hy hA ho
    refine ⟨q.1, fun gc hgc => ?_⟩
    have q2 := q.2 (cI gc) (fun k hk => by unfold cI; rw [hgc k hk])
    rcases ho with ho | ho
    · exact mk 5 _ _ _ ho (by decide) q2
    · exact mk 6 _ _ _ ho (by decide) q2
  · have q := s_op2 E hy hA ho
    exact ⟨q.1, fun gc hgc => mk 7 _ _ _ ho (by decide) (q.2 (cI gc) (fun k hk => by unfold cI; rw [hgc k hk]))⟩
  · obtain ⟨T, m, q1, q2, q3, q4, q5, q6, q7⟩ := s_box E hy hA ho
    obtain ⟨q6, q66⟩ := q6
    refine ⟨T, m, q1, q2, q3, q4, q5, q6, fun a gt h1 h2 h3 => mk 8 _ _ _ ho (by decide) (q7 _ _ a h1 (fun k k1 k2 => ⟨?_, fun q => q (h2 k k1 k2)⟩) (fun k hk => ?_) (fun o ho9 => ?_) ?_ (fun k k1 k2 => ?_))⟩
    · show gt k ≠ 0
      rw [h3, if_pos ⟨k1, k2⟩]; decide
    · show gt k ≠ 0
      have hk : ft k ≠ 0 := hk
      rw [h3]
      split
      · decide
      · exact hk
    · rw [up_out (by omega), cp_in ho9]
    · rw [up_in, i64_n (by have := hO.2.2.1; omega)]
    · rw [up_out k1, cp_out k2]
  · rcases ho with ho | ho
    · obtain ⟨m, q1, q2, q3⟩ := s_new E hy hA ho
      exact ⟨m, q1, q2, mk 9 _ _ _ ho (by decide) q3⟩
    · obtain ⟨m, q1, q2, q3⟩ := s_pad E hy hA ho
      exact ⟨m, q1, q2, mk 12 _ _ _ ho (by decide) q3⟩
  · obtain ⟨off, m, sz, q1, q2, q3, q4, q5, q6, q7, q8⟩ := s_fld E hy hA ho
    exact ⟨off, m, sz, q1, q2, q3, q4, q6, q7, mk 10 _ _ _ ho (by decide) (q8 _ (fun o ho9 => cp_in ho9) (fun k hk => cp_out hk))⟩
  · obtain ⟨gg, q1, q2, q3⟩ := s_tag E hy hA ho
    exact ⟨gg, q2, mk 11 _ _ _ ho (by decide) (q3 _ (fun k hk => up_out (by omega)) (by rw [up_in, i64_n (by omega)]))⟩
end
