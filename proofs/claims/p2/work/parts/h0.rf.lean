/-- the rows of function g: T g, or nothing beyond nb -/
def gTT (nb : Nat) (fr : Nat → Nat → Nat → Int32) (T : Nat → tgS) (g : Nat) : tgS := if g < nb then T g else (fun _ => 0, fun k => fr g (k - 12))
/-- a program that was looked over, as it runs -/
def gD (yp nb mh : Nat) (X : tF) (G : Nat → Nat → Nat) (fc : Nat → Nat → Int32) (fr : Nat → Nat → Nat → Int32) (Z : tgS) (T : Nat → tgS) (aa bb : Nat → Nat) (kk : Nat → Nat → Option (List tE)) (NN : Nat → lK) (LL : Nat → Nat → Nat → lLc → Prop) (RR : Nat → Nat → Prop) (tb : Nat → lTb) (na : Nat → Nat → Nat) : mD :=
  (yF (gF Z (gTT nb fr T 0)) X yp (Z.1 7), zF (gF Z (gTT nb fr T 0)) X (Z.1 7), fun g => gvt Z (gTT nb fr T g), fun g v => cN ((gTT nb fr T g).2 17 v), fun g => (gTT nb fr T g).1 6, tb, fun g => gF Z (gTT nb fr T g), X, G, fun g => fc g 6, fun g => fr g 1, yp, Z.1 7, nb, mh, aa, bb, fun g => (gTT nb fr T g).1 4, kk, NN, LL, RR, na)
theorem gTT_lt {nb : Nat} {fr : Nat → Nat → Nat → Int32} {T : Nat → tgS} {g : Nat} (h : g < nb) : gTT nb fr T g = T g := if_pos h
theorem gTT_ge {nb : Nat} {fr : Nat → Nat → Nat → Int32} {T : Nat → tgS} {g : Nat} (h : ¬ g < nb) : gTT nb fr T g = (fun _ => 0, fun k => fr g (k - 12)) := if_neg h
theorem yF_T {Z S T : tgS} {X : tF} {yp yt : Nat} : yF (gF Z S) X yp yt = yF (gF Z T) X yp yt := rfl
theorem zF_T {Z S T : tgS} {X : tF} {yt : Nat} : zF (gF Z S) X yt = zF (gF Z T) X yt := rfl
theorem ymF_T {Z S T : tgS} {u : Nat} : ymF (gF Z S) u = ymF (gF Z T) u := rfl
section
variable {yp nb tt mh : Nat} {X : tF} {G : Nat → Nat → Nat} {lo : Nat → Nat} {fc : Nat → Nat → Int32} {fr : Nat → Nat → Nat → Int32} {Z : tgS} {T : Nat → tgS} {aa bb lf lt : Nat → Nat} {kk : Nat → Nat → Option (List tE)}
/-- the variables of a frame lie apart -/
theorem gv_sz {T : tgS} {g a b lf lt : Nat} {k : Nat → Option (List tE)} (hC : gC yp X G g (fc g) (fr g) Z T a b lf lt k) (htb : tbO (gF Z T) X yp (Z.1 7)) (h7 : Z.1 7 ≤ 3040) {v : Nat} (h : gvt Z T v ≠ 0) : v < T.1 4 ∧ T.2 15 v ≠ -1 ∧ (zF (gF Z T) X (Z.1 7)).1 (gvt Z T v) = cN (Z.2 22 (cN (T.2 15 v))) := by
  unfold gvt at h ⊢
  by_cases e : v < T.1 4 ∧ T.2 15 v ≠ -1
  · rw [if_pos e]
    refine ⟨e.1, e.2, ?_⟩
    have h15 : gF Z T 15 v ≠ -1 := by rw [gF_15 e.1]; exact e.2
    obtain ⟨-, T0, t1, t2⟩ := gC_v hC h7 v (by have := hC.1.2.2.2.2.1; omega) h15
    rw [gF_15 e.1] at t1
    have h9 := t2.2
    obtain ⟨s1, -, -⟩ := ty_sz htb t2
    rw [t1, cN_nI (by omega), s1]
    rfl
  · rw [if_neg e] at h
    exact absurd rfl h
theorem mD_ok (hnb : nb ≤ 40) (hmh : mh ≤ 4000) (h7 : Z.1 7 ≤ 3040) (htb : ∀ T : tgS, tbO (gF Z T) X yp (Z.1 7)) (hC : ∀ g : Nat, g < nb → gC yp X G g (fc g) (fr g) Z (T g) (aa g) (bb g) (lf g) (lt g) (kk g)) {NN : Nat → lK} {LL : Nat → Nat → Nat → lLc → Prop} {RR : Nat → Nat → Prop} {tb : Nat → lTb} (hX : ∀ g : Nat, g < nb → gX yp X G (fun g => fc g 6) (fun g => fr g 1) Z g (T g) (aa g) (bb g) (kk g) (NN g) (LL g) (RR g) (tb g)) (na : Nat → Nat → Nat) : mOk (gD yp nb mh X G fc fr Z T aa bb kk NN LL RR tb na) := by
  obtain ⟨a1, a2, a3, a4⟩ := htb (gTT nb fr T 0)
  obtain ⟨y1, y2, y3, y4⟩ := yz_ok a1 a2 a3 a4
  refine ⟨⟨y1, y2, ⟨fun g v hv hne => ?_, fun g v w hv hw hvw h1 h2 => ?_⟩, y3, y4⟩, hnb, hmh, fun t => zF_le, fun g hg => ?_⟩
  · have hne : gvt Z (gTT nb fr T g) v ≠ 0 := hne
    show cN ((gTT nb fr T g).2 17 v) + (zF (gF Z (gTT nb fr T g)) X (Z.1 7)).1 (gvt Z (gTT nb fr T g) v) ≤ (gTT nb fr T g).1 6
    by_cases hg : g < nb
    · rw [gTT_lt hg] at hne ⊢
      obtain ⟨q1, q2, q3⟩ := gv_sz (hC g hg) (htb _) h7 hne
      obtain ⟨o, o1, o2⟩ := (hC g hg).2.2.2.2.2.2.2.2.2.1.1 v q1 q2
      have h6 := (hC g hg).1.2.2.2.2.2.2
      rw [q3, o1, cN_nI (by omega)]
      exact o2
    · rw [gTT_ge hg] at hne
      exact absurd (if_neg (fun q => absurd q.1 (Nat.not_lt_zero _))) hne
  · have h1 : gvt Z (gTT nb fr T g) v ≠ 0 := h1
    have h2 : gvt Z (gTT nb fr T g) w ≠ 0 := h2
    show cN ((gTT nb fr T g).2 17 v) + (zF (gF Z (gTT nb fr T g)) X (Z.1 7)).1 (gvt Z (gTT nb fr T g) v) ≤ cN ((gTT nb fr T g).2 17 w) ∨ cN ((gTT nb fr T g).2 17 w) + (zF (gF Z (gTT nb fr T g)) X (Z.1 7)).1 (gvt Z (gTT nb fr T g) w) ≤ cN ((gTT nb fr T g).2 17 v)
    by_cases hg : g < nb
    · rw [gTT_lt hg] at h1 h2 ⊢
      obtain ⟨q1, q2, q3⟩ := gv_sz (hC g hg) (htb _) h7 h1
      obtain ⟨w1, w2, w3⟩ := gv_sz (hC g hg) (htb _) h7 h2
      rw [q3, w3]
      exact (hC g hg).2.2.2.2.2.2.2.2.2.1.2 v w q1 w1 hvw q2 w2
    · rw [gTT_ge hg] at h1
      exact absurd (if_neg (fun q => absurd q.1 (Nat.not_lt_zero _))) h1
  · have hg : g < nb := hg
    have eT := gTT_lt (fr := fr) (T := T) hg
    have hCg := hC g hg
    obtain ⟨x1, x2⟩ := hX g hg (fun g => gvt Z (gTT nb fr T g)) (fun g v => cN ((gTT nb fr T g).2 17 v)) (fun v => by rw [eT]) (fun v => by rw [eT])
    refine ⟨?_, ?_, hCg.1.1, fun v hv hne => ?_, ?_, fun i v1 ha hb hk ho h2 h40 => ?_⟩
    · show sgE (yF (gF Z (gTT nb fr T g)) X yp (Z.1 7)) (zF (gF Z (gTT nb fr T g)) X (Z.1 7)) (gF Z (gTT nb fr T g)) X G (G g 1) (aa g) (bb g) ((gTT nb fr T g).1 4) yp (Z.1 7) (kk g) (NN g) (LL g) (RR g) (tb g) (fun g => fc g 6) (fun g => fr g 1) (fc g 6) (gvt Z (gTT nb fr T g))
      rw [eT]
      have x1 : sgE (yF (gF Z (T g)) X yp (Z.1 7)) (zF (gF Z (T g)) X (Z.1 7)) (gF Z (T g)) X G (G g 1) (aa g) (bb g) ((T g).1 4) yp (Z.1 7) (kk g) (NN g) (LL g) (RR g) (tb g) (fun g => fc g 6) (fun g => fr g 1) (fc g 6) (gvt Z (gTT nb fr T g)) := x1
      rw [eT] at x1
      exact x1
    · show enF (yF (gF Z (gTT nb fr T g)) X yp (Z.1 7)) (zF (gF Z (gTT nb fr T g)) X (Z.1 7)) (gF Z (gTT nb fr T g)) G yp (Z.1 7) (aa g) (kk g) (NN g) (RR g) (tb g) (fun g => fc g 6) (fun g => fr g 1) (fc g 6) (fun g => gvt Z (gTT nb fr T g)) (fun g v => cN ((gTT nb fr T g).2 17 v)) g
      rw [show gF Z (gTT nb fr T g) = gF Z (T g) by rw [eT]]
      exact x2
    · have hne : gF Z (gTT nb fr T g) 15 v ≠ -1 := hne
      show (gTT nb fr T g).2 17 v = nI (cN ((gTT nb fr T g).2 17 v))
      rw [eT] at hne ⊢
      have hv4 := gF_15n hne
      rw [gF_15 hv4] at hne
      obtain ⟨o, o1, o2⟩ := hCg.2.2.2.2.2.2.2.2.2.1.1 v hv4 hne
      have h6 := hCg.1.2.2.2.2.2.2
      rw [o1, cN_nI (by omega)]
    · show (gTT nb fr T g).1 6 ≤ 680
      rw [eT]; exact hCg.1.2.2.2.2.2.2
    · have hk : kk g i ≠ none := hk
      have ho : gF Z (gTT nb fr T g) 0 i = nI 32 := ho
      have h2 : gF Z (gTT nb fr T g) 2 i = nI v1 := h2
      show v1 ≤ (gTT nb fr T g).1 4
      rw [eT] at ho h2 ⊢
      cases es : kk g i with
      | none => exact absurd es hk
      | some s =>
        obtain ⟨-, vs⟩ := hCg.2.2.2.1 i s ha hb es
        rcases Nat.eq_zero_or_pos v1 with e | e
        · omega
        · have h3 := vs.2.2 ho v1 h2 h40 e
          rcases Nat.lt_or_ge (v1 - 1) ((T g).1 4) with c | c
          · omega
          · have e9 : gF Z (T g) 16 (v1 - 1) = -1 := if_neg (by omega)
            rw [e9] at h3
            rcases h3 with q | q <;> exact absurd q (by decide)
/-- the class's rows of the functions -/
theorem mD_rw (h7 : Z.1 7 ≤ 3040) (htb : ∀ T : tgS, tbO (gF Z T) X yp (Z.1 7)) (hd : hdI nb G fc fr) (hlv : ∀ g : Nat, g < nb → ∃ lv : Nat, fc g 2 = nI lv) (hC : ∀ g : Nat, g < nb → gC yp X G g (fc g) (fr g) Z (T g) (aa g) (bb g) (lf g) (lt g) (kk g)) {NN : Nat → lK} {LL : Nat → Nat → Nat → lLc → Prop} {RR : Nat → Nat → Prop} {tb : Nat → lTb} {na : Nat → Nat → Nat} : mRw (gD yp nb mh X G fc fr Z T aa bb kk NN LL RR tb na) fc fr := fun g hg => by
  have hg : g < nb := hg
  have eT := gTT_lt (fr := fr) (T := T) hg
  have hCg := hC g hg
  obtain ⟨x9, -, -, -, x7, -, x8, xr⟩ := hCg.2.1
  obtain ⟨p1, p2, p3⟩ := hCg.2.2.2.2.2.2.2.2.2.2
  refine ⟨x9, ?_, ?_, ?_, (hd g hg).2.2.1, hlv g hg, ?_, fun v hv hne => ?_, fun v hv => ?_, ?_⟩
  · show fc g 4 = nI (psum (zF (gF Z (gTT nb fr T g)) X (Z.1 7)) (gvt Z (gTT nb fr T g)) (G g 0))
    rw [eT, ← gvt_s hCg (htb _) h7 (fun _ => rfl) _ (Nat.le_refl _)]
    exact p2
  · show fc g 8 = nI ((gTT nb fr T g).1 6)
    rw [eT]; exact x8
  · show fc g 7 = nI ((gTT nb fr T g).1 4)
    rw [eT]; exact x7
  · show G g 0 ≤ (gTT nb fr T g).1 4
    rw [eT]; exact p1
  · have hne : gF Z (gTT nb fr T g) 15 v ≠ -1 := hne
    show fr g 3 v = gF Z (gTT nb fr T g) 15 v
    rw [eT] at hne ⊢
    rw [gF_15 (gF_15n hne), xr 3 (by decide) (by decide)]
  · have hv : v < G g 0 := hv
    show gF Z (gTT nb fr T g) 15 v ≠ -1
    rw [eT, gF_15 (by omega), (p3 v hv).1]
    have := (p3 v hv).2.2
    exact nI_ne1 (by omega)
  · show fr g 5 = (gTT nb fr T g).2 17
    rw [eT]; exact xr 5 (by decide) (by decide)
theorem mD_fg (hC : ∀ g : Nat, g < nb → gC yp X G g (fc g) (fr g) Z (T g) (aa g) (bb g) (lf g) (lt g) (kk g)) {NN : Nat → lK} {LL : Nat → Nat → Nat → lLc → Prop} {RR : Nat → Nat → Prop} {tb : Nat → lTb} {na : Nat → Nat → Nat} : fgR Z.2 (gD yp nb mh X G fc fr Z T aa bb kk NN LL RR tb na).FG fr := fun g => by
  refine ⟨rfl, rfl, rfl, rfl, rfl, rfl, rfl, rfl, rfl, rfl, ?_, rfl, rfl⟩
  show (gTT nb fr T g).2 17 = fr g 5
  by_cases hg : g < nb
  · rw [gTT_lt hg]
    exact ((hC g hg).2.1.2.2.2.2.2.2.2 5 (by decide) (by decide)).symm
  · rw [gTT_ge hg]
/-- a program that was looked over runs -/
theorem mD_M (hnb : nb ≤ 40) (hmh : mh ≤ 4000) (h7 : Z.1 7 ≤ 3040) (htb : ∀ T : tgS, tbO (gF Z T) X yp (Z.1 7)) (hd : hdI nb G fc fr) (hlv : ∀ g : Nat, g < nb → ∃ lv : Nat, fc g 2 = nI lv) (hGb : ∀ g : Nat, g < 40 → G g 1 < 3040 → g < nb) (hC : ∀ g : Nat, g < nb → gC yp X G g (fc g) (fr g) Z (T g) (aa g) (bb g) (lf g) (lt g) (kk g)) {NN : Nat → lK} {LL : Nat → Nat → Nat → lLc → Prop} {RR : Nat → Nat → Prop} {tb : Nat → lTb} (hX : ∀ g : Nat, g < nb → gX yp X G (fun g => fc g 6) (fun g => fr g 1) Z g (T g) (aa g) (bb g) (kk g) (NN g) (LL g) (RR g) (tb g)) {na : Nat → Nat → Nat} : stM Z.2 (gD yp nb mh X G fc fr Z T aa bb kk NN LL RR tb na).FG na fc fr (Z.2 20) (Z.2 21) (X 1) (X 2) (X 3) mh (QMd (gD yp nb mh X G fc fr Z T aa bb kk NN LL RR tb na)) :=
  Q_M (D := gD yp nb mh X G fc fr Z T aa bb kk NN LL RR tb na) (mD_ok hnb hmh h7 htb hC hX na) hGb (mD_rw h7 htb hd hlv hC) (mD_fg hC) (fun g t ht => (gF_20 (T := gTT nb fr T g) ht).symm) (fun _ => rfl) (fun _ _ => rfl)
end
