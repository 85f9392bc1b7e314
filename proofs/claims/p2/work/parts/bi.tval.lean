/-- the shapes' tables: X: variants, parts, partType, partOffset -/
def shQ (yp yt : Nat) (ak : Nat → Int32) (X : tF) : Prop := ∀ sh : Nat, sh < yp → ∃ n : Nat, X 0 sh = nI n ∧ 1 ≤ n ∧ n ≤ 12 ∧ (ak (4 + sh) = 2 → n = 1) ∧ ∀ g : Nat, g < n → ∃ m : Nat, X 1 (sh * 12 + g) = nI m ∧ m ≤ 12 ∧ ∀ j : Nat, j < m → ∃ u : Nat, X 2 ((sh * 12 + g) * 12 + j) = nI u ∧ tyN yp ak u ∧ u < yt
/-- the cells of the variable's type -/
def vSz (s : tgS) (v : Nat) : Nat := cN (s.2 22 (cN (s.2 15 v)))
/-- how many of the first n variables are settled -/
def vcN (f : Nat → Int32) : Nat → Nat
  | 0 => 0
  | n + 1 => vcN f n + if f n = -1 then 0 else 1
/-- settled variables lie apart -/
def vcI (s : tgS) : Prop := (∀ v : Nat, v < s.1 4 → s.2 15 v ≠ -1 → ∃ o : Nat, s.2 17 v = nI o ∧ o + vSz s v ≤ s.1 6) ∧ (∀ v w : Nat, v < s.1 4 → w < s.1 4 → v ≠ w → s.2 15 v ≠ -1 → s.2 15 w ≠ -1 → cN (s.2 17 v) + vSz s v ≤ cN (s.2 17 w) ∨ cN (s.2 17 w) + vSz s w ≤ cN (s.2 17 v)) ∧ s.1 6 ≤ 17 * vcN (s.2 15) (s.1 4)
theorem vcI_of {s t : tgS} (h : vcI s) (h4 : t.1 4 = s.1 4) (h6 : t.1 6 = s.1 6) (h15 : t.2 15 = s.2 15) (h17 : t.2 17 = s.2 17) (hz : ∀ v : Nat, v < s.1 4 → s.2 15 v ≠ -1 → vSz t v = vSz s v) : vcI t := by
  obtain ⟨a, b, c⟩ := h
  unfold vcI
  rw [h4, h6, h15, h17]
  refine ⟨fun v hv hn => ?_, fun v w hv hw hne hnv hnw => ?_, c⟩
  · rw [hz v hv hn]; exact a v hv hn
  · rw [hz v hv hnv, hz w hw hnw]; exact b v w hv hw hne hnv hnw
/-- each loan of the function (its code begins at counter 8) has one borrow; an end that is set lies in the code -/
def brI (s : tgS) : Prop := (∀ v : Nat, v < s.1 4 → s.2 19 v = 1073741824 ∨ ∃ e : Nat, s.2 19 v = nI e ∧ e ≤ s.1 0) ∧ (∀ i : Nat, 10000 - s.1 8 ≤ i → i < s.1 0 → s.2 0 i = 4 → ∃ b : Nat, s.2 2 i = nI b ∧ b < s.1 5) ∧ ∀ i j : Nat, 10000 - s.1 8 ≤ i → i < s.1 0 → 10000 - s.1 8 ≤ j → j < s.1 0 → s.2 0 i = 4 → s.2 0 j = 4 → s.2 2 i = s.2 2 j → i = j
theorem brI_same {s t : tgS} (h : brI s) (h0 : t.1 0 = s.1 0) (h5 : s.1 5 ≤ t.1 5) (h8 : t.1 8 = s.1 8) (r0 : t.2 0 = s.2 0) (r2 : t.2 2 = s.2 2) (h4 : t.1 4 = s.1 4) (r19 : t.2 19 = s.2 19) : brI t := by
  unfold brI
  rw [h0, h8, r0, r2, h4, r19]
  refine ⟨h.1, fun i q1 q2 q3 => ?_, h.2.2⟩
  obtain ⟨b, x, y⟩ := h.2.1 i q1 q2 q3
  exact ⟨b, x, by omega⟩
theorem brI_ins {s t : tgS} {x0 x2 : Int32} (h : brI s) (b0 : insA (s.1 0) (t.1 0) (s.2 0) (t.2 0) x0) (b2 : insA (s.1 0) (t.1 0) (s.2 2) (t.2 2) x2) (hc : s.1 0 < 6000) (h5 : s.1 5 ≤ t.1 5) (h8 : t.1 8 = s.1 8) (h4 : t.1 4 = s.1 4) (r19 : t.2 19 = s.2 19) (hx : x0 = 4 → ∃ b : Nat, x2 = nI b ∧ s.1 5 ≤ b ∧ b < t.1 5 ∧ b < 2 ^ 31) : brI t := by
  obtain ⟨e, b0⟩ := insA_lt b0 hc
  have b2 := (insA_lt b2 hc).2
  refine ⟨fun v hv => ?_, fun i h1 h2 h3 => ?_, fun i j h1 h2 h3 h4 h6 h7 hq => ?_⟩
  · rw [r19]
    rcases h.1 v (by omega) with q | ⟨b, q1, q2⟩
    · exact Or.inl q
    · exact Or.inr ⟨b, q1, by omega⟩
  · by_cases z : i = s.1 0
    · subst z
      rw [b0, pk_us] at h3
      obtain ⟨b, q1, q2, q3, -⟩ := hx h3
      exact ⟨b, by rw [b2, pk_us]; exact q1, q3⟩
    · rw [b0, pk_un z] at h3
      obtain ⟨b, q1, q2⟩ := h.2.1 i (by omega) (by omega) h3
      exact ⟨b, by rw [b2, pk_un z]; exact q1, by omega⟩
  · by_cases z : i = s.1 0
    · by_cases y : j = s.1 0
      · omega
      · subst z
        rw [b0, pk_us] at h6
        rw [b0, pk_un y] at h7
        rw [b2, pk_us, pk_un y] at hq
        obtain ⟨b, q1, q2, q3, q4⟩ := hx h6
        obtain ⟨c, r1, r2⟩ := h.2.1 j (by omega) (by omega) h7
        have := (nI_eq (a := b) (b := c) (by omega) (by omega)).mp (q1.symm.trans (hq.trans r1))
        omega
    · by_cases y : j = s.1 0
      · subst y
        rw [b0, pk_un z] at h6
        rw [b0, pk_us] at h7
        rw [b2, pk_us, pk_un z] at hq
        obtain ⟨b, q1, q2, q3, q4⟩ := hx h7
        obtain ⟨c, r1, r2⟩ := h.2.1 i (by omega) (by omega) h6
        have := (nI_eq (a := c) (b := b) (by omega) (by omega)).mp (r1.symm.trans (hq.trans q1))
        omega
      · rw [b0, pk_un z] at h6
        rw [b0, pk_un y] at h7
        rw [b2, pk_un z, pk_un y] at hq
        exact h.2.2 i j (by omega) (by omega) (by omega) (by omega) h6 h7 hq
/-- what holds while there is no fault -/
def tI (yp : Nat) (X : tF) (s : tgS) : Prop := tyOK yp (tTy s) ∧ lbI s ∧ (∀ v : Nat, v < s.1 4 → s.2 15 v = -1 ∨ ∃ k : Nat, s.2 15 v = nI k ∧ tyV yp (s.1 7) (s.2 20) k) ∧ shQ yp (s.1 7) (s.2 20) X ∧ vcI s ∧ brI s
/-- the place read last -/
def plV (yp : Nat) (X : tF) (s : tgS) (v n : Nat) (pa ro : Int32) (T : Nat) (mu : Int32) : Prop := v < s.1 4 ∧ (s.2 15 v ≠ -1 ∧ s.2 19 v = 1073741824) ∧ plS s.2 X (s.1 7) v n pa ro T mu ∧ tyV yp (s.1 7) (s.2 20) T
theorem plS_F {X F : tF} {s : tgS} {v : Nat} (hv : v < s.1 4) (hu : s.2 15 v ≠ -1) (hF : tFu s F) (h7 : s.1 7 ≤ 3040) : ∀ (n : Nat) (pa ro : Int32) (T : Nat) (mu : Int32), plS s.2 X (s.1 7) v n pa ro T mu → plS F X 3040 v n pa ro T mu
  | 0, pa, ro, T, mu, h => ⟨h.1, h.2.1, ((hF.2 v hv).1 hu).1.trans h.2.2.1, h.2.2.2.trans (hF.2 v hv).2.1.symm⟩
  | n + 1, pa, ro, T, mu, h => by
    obtain ⟨pa1, ro1, T1, mu1, h1, h2, h3, h4⟩ := h
    have e0 := hF.1 20 (by decide) (by decide) T1 h3
    have e1 := hF.1 21 (by decide) (by decide) T1 h3
    refine ⟨pa1, ro1, T1, mu1, plS_F hv hu hF h7 n pa1 ro1 T1 mu1 h1, h2, by omega, ?_⟩
    rw [e0, e1]; exact h4
/-- kinds of types that are there -/
theorem ty_hi {yp u : Nat} {s : tgS} (h : tyOK yp (tTy s)) (hu : u < s.1 7) (hk : s.2 20 u = 4 ∨ s.2 20 u = 5 ∨ s.2 20 u = 6) (hV : tyV yp (s.1 7) (s.2 20) u ∨ u = 0) : 34 ≤ u := by
  obtain ⟨a1, a2, a3, ⟨b0, b1, b2, b3⟩, -, -, e1, -⟩ := h
  rcases Nat.lt_or_ge u 34 with z | z
  · exfalso
    have low : ∀ x : Int32, s.2 20 u = x → x ≠ 4 → x ≠ 5 → x ≠ 6 → False := fun x q q4 q5 q6 => by
      rw [q] at hk
      rcases hk with hk | hk | hk
      · exact q4 hk
      · exact q5 hk
      · exact q6 hk
    rcases hV with ⟨hV | ⟨hV, -⟩, -⟩ | rfl
    · rcases hV with (rfl | rfl | rfl) | ⟨h1, h2⟩ | ⟨h1, -⟩
      · exact low _ b1 (by decide) (by decide) (by decide)
      · exact low _ b2 (by decide) (by decide) (by decide)
      · exact low _ b3 (by decide) (by decide) (by decide)
      · have := e1 (u - 4) (by omega)
        rw [show 4 + (u - 4) = u by omega] at this
        rcases this with q | q
        · exact low _ q (by decide) (by decide) (by decide)
        · exact low _ q (by decide) (by decide) (by decide)
      · omega
    · omega
    · exact low _ b0 (by decide) (by decide) (by decide)
  · exact z
theorem ty_2 {yp u : Nat} {s : tgS} (h : tyOK yp (tTy s)) (hV : tyV yp (s.1 7) (s.2 20) u) (hk : s.2 20 u = 2) : 4 ≤ u ∧ u < 4 + yp := by
  obtain ⟨a1, a2, a3, ⟨b0, b1, b2, b3⟩, -, -, e1, f1, -⟩ := h
  rcases hV with ⟨hV | ⟨hV, hV2⟩, -⟩
  · rcases hV with (rfl | rfl | rfl) | hV | ⟨h1, h2⟩
    · exact absurd (b1.symm.trans hk) (by decide)
    · exact absurd (b2.symm.trans hk) (by decide)
    · exact absurd (b3.symm.trans hk) (by decide)
    · exact hV
    · exact absurd (h2.symm.trans hk) (by decide)
  · rcases hV2 with q | q
    · exact absurd (q.symm.trans hk) (by decide)
    · exact absurd (q.symm.trans hk) (by decide)
theorem plV_0 {yp : Nat} {X : tF} {s : tgS} {na wh : Int32} {qt qv ql : Nat} {qp qa qr qm qf : Int32} (hI : tI yp X s) (h7 : s.1 7 ≤ 3040) (hq : qt < 3040) (h : tVn s na wh qt qv ql qp qa qr qm qf) : plV yp X s qv ql qa qr qt qm := by
  obtain ⟨h1, h2, h3, h4, h5, h6, h8, h9, h10, h11⟩ := h
  have hne : s.2 15 qv ≠ -1 := by rw [h4]; exact fun q => absurd (show nI qt < 0 by rw [q]; decide) (nI_pos (by omega))
  refine ⟨h1, ⟨hne, h3⟩, ?_, ?_⟩
  · rw [h6]; exact ⟨h8, h9, h4, h10⟩
  · rcases hI.2.2.1 qv h1 with q | ⟨k, q1, q2⟩
    · exact absurd q hne
    · have hk7 := q2.2
      have : k = qt := (nI_eq (by omega) (by omega)).mp (q1.symm.trans h4)
      rw [← this]; exact q2
theorem plV_st {yp : Nat} {X : tF} {s : tgS} {v n : Nat} {pa ro : Int32} {T T2 : Nat} {mu mu2 qp : Int32} (hI : tI yp X s) (h7 : s.1 7 ≤ 3040) (hT2 : T2 < 3040) (h : plV yp X s v n pa ro T mu) (hs : tSt s T qp n mu T2 mu2) : plV yp X s v (n + 1) (pa ||| ((13 : Int32) <<< (nI (n * 4) &&& 31))) (ro + 1) T2 mu2 := by
  obtain ⟨h1, h2, h3, h4⟩ := h
  obtain ⟨s1, s2, s3, s4⟩ := hs
  have hT : T < s.1 7 := h4.2
  have h34 : 34 ≤ T := ty_hi hI.1 hT (by rcases s4 with q | q | q <;> simp [q.1]) (Or.inl h4)
  obtain ⟨-, -, -, u, u1, u2, u3⟩ := hI.1.2.2.2.2.2.2.2.1 T h34 hT
  have : u = T2 := (nI_eq (by omega) (by omega)).mp (u2.symm.trans s3)
  subst this
  exact ⟨h1, h2, ⟨pa, ro, T, mu, h3, s2, hT, Or.inl ⟨rfl, rfl, s3, s4⟩⟩, Or.inl u3, by omega⟩
theorem plV_me {yp : Nat} {X : tF} {s : tgS} {v n : Nat} {pa ro : Int32} {T T2 n2 j : Nat} {mu qp pa2 ro2 : Int32} (hI : tI yp X s) (h7 : s.1 7 ≤ 3040) (hT2 : T2 < 3040) (h : plV yp X s v n pa ro T mu) (hs : tMe s (X 1) (X 2) (X 3) T n qp pa ro T2 n2 pa2 ro2 j) : plV yp X s v n2 pa2 ro2 T2 mu := by
  obtain ⟨h1, h2, h3, h4⟩ := h
  obtain ⟨s1, s2, s3, s4, s5, s6, s7, s8, s9⟩ := hs
  have hT : T < s.1 7 := h4.2
  obtain ⟨t1, t2⟩ := ty_2 hI.1 h4 s2
  have hyp : yp ≤ 30 := hI.1.2.2.1
  obtain ⟨m, m1, m2, m3, m4, m5⟩ := hI.2.2.2.1 (T - 4) (by omega)
  have hm : m = 1 := m4 (by rw [show 4 + (T - 4) = T by omega]; exact s2)
  obtain ⟨w, w1, w2, w3⟩ := m5 0 (by omega)
  rw [Nat.add_zero] at w1 w3
  rw [w1] at s5
  have hjw : j < w := (nI_ltI (by omega) (by omega)).mp s5
  obtain ⟨u, u1, u2, u3⟩ := w3 j hjw
  have : u = T2 := (nI_eq (by omega) (by omega)).mp (u1.symm.trans s9)
  subst this
  rw [s7]
  exact ⟨h1, h2, ⟨pa, ro, T, mu, h3, s3, hT, Or.inr ⟨j, s2, s4, by rw [w1]; exact s5, s6, s8, s9, rfl⟩⟩, Or.inl u2, u3⟩
/-- the code of a value of type T -/
def tVl (nv : Nat) (X : tF) (G : Nat → Nat → Nat) (rs T : Nat) : tR := fun F a b => ∀ (J : Int32 → List tE → Prop) (st : List tE), scX nv F a st → vl st + rB rs ≤ 211 → sgw (wl st) F X G (rT rs) J a b (some st) (some (tNf F T :: st))
theorem tVl_up {nv : Nat} {X F : tF} {G : Nat → Nat → Nat} {rs T a b : Nat} (h : tVl nv X G rs T F a b) : tVl nv X G (rs + 4096) T F a b := fun J st hsc hst => by
  rw [rT_up]
  exact h J st hsc (by rw [rB_up] at hst; omega)
theorem v_use {lo yp rs : Nat} {X : tF} {G : Nat → Nat → Nat} {s t : tgS} {qt qv ql : Nat} {qa qr qf qm : Int32} (hI : tI yp X s) (hJ : tJ s) (hp : plV yp X s qv ql qa qr qt qm) (hv : qv < 40) (hql : ql ≤ 4) (hc : s.1 0 < 6000) (hc2 : s.1 2 < 3001) (h : tUs s t qt qv ql qa qr qf) : tOK lo 1 0 1 0 0 s t (tVl (s.1 4) X G rs qt) := by
  obtain ⟨S1, p1, o, ho, a1⟩ := h
  have e0 : S1.1 0 = s.1 0 := p1.1 0 (by decide)
  have q1 := tOK_pl (lo := lo) p1 hc2
  have q2 := tOK_ad (lo := lo) a1 (by rw [e0]; exact hc) (by rcases ho with ⟨rfl, -⟩ | ⟨rfl, -⟩ <;> unfold isL <;> decide)
  have q3 := tOK_seq q1 q2
  refine tOK_mn q3 (Nat.le_refl _) (by omega) (fun F hF9 hR J st hsc hst => ?_)
  have hF := hF9.2.2.2
  obtain ⟨m, -, -, ⟨rfl, f6, f7, f8, f9, f10, f11, f12⟩, ⟨e9, g0, g1, g2, g3, g4⟩⟩ := hR
  have hm9 : (8, qv, 0) ∈ st := sc_mem hsc q3.1 q3.2.1.2 hF hp.1 (Nat.le_refl _) hp.2.1.2 (by omega)
  rw [e9]
  have hFs := tFu_dn hF q3.1
  have h7 : s.1 7 ≤ 3040 := hJ.2.2.2.2.2.2.1
  have hT : qt < s.1 7 := hp.2.2.2.2
  have k20 := hFs.1 20 (by decide) (by decide) qt hT
  have k22 := hFs.1 22 (by decide) (by decide) qt hT
  have hpl : plI F X (s.1 2) qv ql qt qa qr qm := ⟨⟨hc2, by rw [f11]; exact aN_ge _⟩, hv, hql, by omega, f6, f7, f8, f9, f10, by rw [f12, k22], plS_F hp.1 hp.2.1.1 hFs h7 _ _ _ _ _ hp.2.2.1⟩
  rcases ho with ⟨rfl, hk⟩ | ⟨rfl, hk1, hk2, hm⟩
  · exact sgw_one (o := 2) (Nat.le_refl _) g0 ⟨s.1 2, qv, g1, hc2, f6, hv⟩ (vb0 hst) (vb1 hst) (fun k hk' => ⟨s.1 2, qt, qm, g1, ⟨qv, ql, qa, qr, hpl⟩, by rw [k20]; exact hk, hk'⟩) (hvi := Or.inr (vIs_pl (o := 2) g0 (Or.inl rfl) g1 hc2 f6 hv hm9))
  · refine sgw_one (o := 3) (Nat.le_refl _) g0 ⟨s.1 2, qv, g1, hc2, f6, hv⟩ (vb0 hst) (vb1 hst) (fun k hk' => ⟨s.1 2, qt, g1, ⟨qv, ql, qa, qr, qm, hpl, ?_⟩, by rw [k20]; exact hk1, by rw [k20]; exact hk2, hk'⟩) (hvi := Or.inr (vIs_pl (o := 3) g0 (Or.inr (Or.inl rfl)) g1 hc2 f6 hv hm9))
    rcases hm with hm | ⟨m1, m2, m3, m4⟩
    · exact Or.inl hm
    · refine Or.inr ⟨m1, m2, m3, fun k hk hk2 => ?_⟩
      rcases hI.2.2.1 qv hp.1 with z | ⟨u, z1, z2⟩
      · exact absurd z hp.2.1.1
      · have e15 := ((hFs.2 qv hp.1).1 hp.2.1.1).1
        have hu := z2.2
        obtain rfl : u = k := (nI_eq (by omega) (by omega)).mp (z1.symm.trans (e15.symm.trans hk2))
        rw [hFs.1 20 (by decide) (by decide) u hu]
        exact m4 u hk z1
theorem tOK_up5 {lo : Nat} {s t : tgS} (h : tUp s t 5) : tOK lo 0 0 0 0 0 s t (fun _ a b => b = a) := by
  obtain ⟨a1, a2, a3⟩ := h
  have e : t.2 = s.2 := a1
  refine ⟨⟨fun k hk => ?_, fun k hk i hi => by rw [e], fun k h1 h2 i hi => by rw [e], fun i hi => by rw [e], fun k h1 h2 i hi => by rw [e], fun v hv => ⟨by rw [e], by rw [e], by rw [e], fun _ => ⟨by rw [e], by rw [e]⟩, Or.inl (by rw [e])⟩⟩, ⟨fun i h1 h2 h3 => absurd h2 (by rw [a3 0 (by decide)]; omega), fun v _ => by rw [e]⟩, ⟨by rw [a3 0 (by decide)]; omega, by rw [a3 1 (by decide)]; omega, by rw [a3 2 (by decide)]; omega, by rw [a3 3 (by decide)]; omega, by rw [a3 7 (by decide)]; omega⟩, fun F hF => a3 0 (by decide)⟩
  by_cases z : k = 5
  · subst z; omega
  · rw [a3 k z]; exact Nat.le_refl _
theorem tOK_up1 {lo : Nat} {s t : tgS} (h : tUp s t 1) : tOK lo 0 2 0 0 0 s t (fun _ a b => b = a) := by
  obtain ⟨a1, a2, a3⟩ := h
  have e : t.2 = s.2 := a1
  refine ⟨⟨fun k hk => ?_, fun k hk i hi => by rw [e], fun k h1 h2 i hi => by rw [e], fun i hi => by rw [e], fun k h1 h2 i hi => by rw [e], fun v hv => ⟨by rw [e], by rw [e], by rw [e], fun _ => ⟨by rw [e], by rw [e]⟩, Or.inl (by rw [e])⟩⟩, ⟨fun i h1 h2 h3 => absurd h2 (by rw [a3 0 (by decide)]; omega), fun v _ => by rw [e]⟩, ⟨by rw [a3 0 (by decide)]; omega, by omega, by rw [a3 2 (by decide)]; omega, by rw [a3 3 (by decide)]; omega, by rw [a3 7 (by decide)]; omega⟩, fun F hF => a3 0 (by decide)⟩
  by_cases z : k = 1
  · subst z; omega
  · rw [a3 k z]; exact Nat.le_refl _
theorem tOK_mk {lo yp k ri : Nat} {kd : Int32} {s t : tgS} (h : tMk kd k ri s t) (hty : tyOK yp (tTy s)) (hN : tyN yp (s.2 20) k) (hk : k < s.1 7) (h7 : s.1 7 < 3040) : tOK lo 0 0 0 0 1 s t (fun F a b => b = a ∧ F 20 ri = kd ∧ F 21 ri = nI k) ∧ tyOK yp (tTy t) ∧ 34 ≤ ri ∧ ri < t.1 7 ∧ t.2 20 ri = kd := by
  obtain ⟨a1, a2, -, -, a5⟩ := h
  obtain ⟨c1, c2, c3, c4, c5, c6, c7⟩ := a5 yp hty hN hk h7
  obtain ⟨d1, d2⟩ := c2
  refine ⟨⟨⟨fun k hk => ?_, fun k hk i hi => by rw [a2 k (by omega)], fun k h1 h2 i hi => by rw [a2 k (by omega)], fun i hi => by rw [a2 13 (by decide)], fun k h1 h2 i hi => ?_, fun v hv => ⟨by rw [a2 14 (by decide)], by rw [a2 16 (by decide)], by rw [a2 18 (by decide)], fun _ => ⟨by rw [a2 15 (by decide)], by rw [a2 17 (by decide)]⟩, Or.inl (by rw [a2 19 (by decide)])⟩⟩, ⟨fun i h1 h2 h3 => absurd h2 (by rw [a1 0 (by decide)]; omega), fun v _ => by rw [a2 19 (by decide)]⟩, ⟨by rw [a1 0 (by decide)]; omega, by rw [a1 1 (by decide)]; omega, by rw [a1 2 (by decide)]; omega, by rw [a1 3 (by decide)]; omega, by omega⟩, fun F hF => ⟨a1 0 (by decide), ?_, ?_⟩⟩, c1, c4, c5, c6⟩
  · by_cases z : k = 7
    · subst z; exact d1
    · rw [a1 k z]; exact Nat.le_refl _
  · obtain ⟨e1, e2, e3, e4⟩ := d2 i hi
    have hk9 : k = 20 ∨ k = 21 ∨ k = 22 ∨ k = 23 := by omega
    rcases hk9 with rfl | rfl | rfl | rfl
    · exact e1
    · exact e2
    · exact e3
    · exact e4
  · rw [hF.2.2.2.1 20 (by decide) (by decide) ri c5]; exact c6
  · rw [hF.2.2.2.1 21 (by decide) (by decide) ri c5]; exact c7
theorem tNf_0 {F : tF} {T : Nat} (h3 : T ≠ 3) (h5 : F 20 T ≠ 5) (h6 : F 20 T ≠ 6) : tNf F T = (0, T, 0) := by unfold tNf; rw [if_neg h3, if_neg h5, if_neg h6]
theorem tNf_5 {F : tF} {T k : Nat} (h3 : T ≠ 3) (h5 : F 20 T = 5) (hk : F 21 T = nI k) (hk2 : k < 2 ^ 31) : tNf F T = (1, k, 0) := by unfold tNf; rw [if_neg h3, if_pos h5, hk, cN_nI hk2]
theorem tNf_6 {F : tF} {T k : Nat} (h3 : T ≠ 3) (h6 : F 20 T = 6) (hk : F 21 T = nI k) (hk2 : k < 2 ^ 31) : tNf F T = (2, k, 0) := by unfold tNf; rw [if_neg h3, if_neg (by rw [h6]; decide), if_pos h6, hk, cN_nI hk2]
theorem v_borrow {lo yp rs : Nat} {X : tF} {G : Nat → Nat → Nat} {s S1 t : tgS} {qt qt2 qv ql : Nat} {qa qr qf qm un : Int32} (hI : tI yp X s) (hJ : tJ s) (hp : plV yp X s qv ql qa qr qt qm) (hv : qv < 40) (hql : ql ≤ 4) (hc : s.1 0 < 6000) (hc2 : s.1 2 < 3001) (h7 : s.1 7 < 3040) (hb : s.1 5 < 54) (h5 : s.2 20 qt ≠ 5) (h6 : s.2 20 qt ≠ 6) (hun : un = 0 ∨ un = 1) (hmu : un = 0 ∨ qm ≠ 0) (h : tLn s S1 qt qv ql qa qr qf un) (hm : tMk (if un = 1 then 6 else 5) qt qt2 S1 t) : tOK lo 1 0 1 0 1 s t (tVl (s.1 4) X G rs qt2) ∧ tyOK yp (tTy t) ∧ tyV yp (t.1 7) (t.2 20) qt2 := by
  obtain ⟨S0, S2, u1, p1, a1⟩ := h
  have hN : tyN yp (s.2 20) qt := by
    rcases hp.2.2.2.1 with q | ⟨-, q | q⟩
    · exact q
    · exact absurd q h5
    · exact absurd q h6
  have hT : qt < s.1 7 := hp.2.2.2.2
  have e0 : S0.2 = s.2 := u1.1
  have n2 : S0.1 2 = s.1 2 := u1.2.2 2 (by decide)
  have n0 : S0.1 0 = s.1 0 := u1.2.2 0 (by decide)
  have m0 : S2.1 0 = S0.1 0 := p1.1 0 (by decide)
  have r20 : S1.2 20 = s.2 20 := by rw [a1.2.1 20 (by decide), p1.2.1 20 (by decide), e0]
  have r7 : S1.1 7 = s.1 7 := by rw [a1.1 7 (by decide), p1.1 7 (by decide), u1.2.2 7 (by decide)]
  have rT : tTy S1 = tTy s := by
    unfold tTy
    rw [r7, r20, a1.2.1 21 (by decide), p1.2.1 21 (by decide), a1.2.1 22 (by decide), p1.2.1 22 (by decide), a1.2.1 23 (by decide), p1.2.1 23 (by decide), a1.2.1 24 (by decide), p1.2.1 24 (by decide), a1.2.1 25 (by decide), p1.2.1 25 (by decide), a1.2.1 26 (by decide), p1.2.1 26 (by decide), e0]
  obtain ⟨q4, q5, q6, q7, q8⟩ := tOK_mk (lo := lo) hm (by rw [rT]; exact hI.1) (by rw [r20]; exact hN) (by rw [r7]; exact hT) (by rw [r7]; exact h7)
  have q1 := tOK_up5 (lo := lo) u1
  have q2 := tOK_pl (lo := lo) p1 (by rw [n2]; exact hc2)
  have q3 := tOK_ad (lo := lo) a1 (by rw [m0, n0]; exact hc) (by unfold isL; decide)
  have q := tOK_seq q1 (tOK_seq q2 (tOK_seq q3 q4))
  refine ⟨tOK_mn q (Nat.le_refl _) (by omega) (fun F hF9 hR J st hsc hst => ?_), q5, Or.inr ⟨q6, by rw [q8]; rcases hun with rfl | rfl <;> simp⟩, q7⟩
  have hF := hF9.2.2.2
  obtain ⟨m, -, -, rfl, m1, -, -, ⟨rfl, f6, f7, f8, f9, f10, f11, f12⟩, m2, -, -, ⟨rfl, g0, g1, g2, g3, g4⟩, e9, k1, k2⟩ := hR
  have hm9 : (8, qv, 0) ∈ st := sc_mem hsc q.1 q.2.1.2 hF hp.1 (Nat.le_refl _) hp.2.1.2 (by omega)
  rw [e9]
  rw [n2] at f6 f7 f8 f9 f10 f11 f12
  have hFs := tFu_dn hF q.1
  have k20 := hFs.1 20 (by decide) (by decide) qt hT
  have k22 := hFs.1 22 (by decide) (by decide) qt hT
  have hpl : plI F X (s.1 2) qv ql qt qa qr qm := ⟨⟨hc2, by rw [f11]; exact aN_ge _⟩, hv, hql, by omega, f6, f7, f8, f9, f10, by rw [f12, k22], plS_F hp.1 hp.2.1.1 hFs (Nat.le_of_lt h7) _ _ _ _ _ hp.2.2.1⟩
  refine sgw_one (o := 4) (Nat.le_refl _) g0 ⟨s.1 2, qv, s.1 5, g1, hc2, f6, hv, g2, hb⟩ (vb0 hst) (vb1 hst) (fun k hk' => ⟨s.1 2, qt, s.1 5, 0, qm, g1, ⟨qv, ql, qa, qr, hpl⟩, by rw [k20]; exact h5, by rw [k20]; exact h6, g2, hb, Or.inl rfl, ?_⟩) (hvi := Or.inr (vIs_pl (o := 4) g0 (Or.inr (Or.inr (Or.inl rfl))) g1 hc2 f6 hv hm9))
  rcases hun with rfl | rfl
  · rw [if_neg (by decide)] at k1
    exact Or.inl ⟨g3, by rw [hk', tNf_5 (by omega) k1 k2 (by omega)]⟩
  · rw [if_pos rfl] at k1
    exact Or.inr ⟨g3, hmu.elim (fun z => absurd z (by decide)) id, by rw [hk', tNf_6 (by omega) k1 k2 (by omega)]⟩
theorem tF_low {yp T : Nat} {s t : tgS} {F : tF} (hI : tyOK yp (tTy s)) (hF : tFu s F) (hT : T = 0 ∨ T = 1 ∨ T = 2) : tNf F T = (0, T, 0) := by
  have hyt : 34 ≤ s.1 7 := hI.1
  have e := hF.1 20 (by decide) (by decide) T (by omega)
  obtain ⟨b0, b1, b2, b3⟩ := hI.2.2.2.1
  have : F 20 T = 0 := by
    rw [e]
    rcases hT with rfl | rfl | rfl
    · exact b0
    · exact b1
    · exact b2
  exact tNf_0 (by omega) (by rw [this]; decide) (by rw [this]; decide)
theorem v_num {lo yp rs T nv : Nat} {X : tF} {G : Nat → Nat → Nat} {s t : tgS} {x1 x2 : Int32} (hI : tyOK yp (tTy s)) (hT : T = 1 ∨ T = 2) (hc : s.1 0 < 6000) (h : tAd s t 0 x1 x2 0 (-1)) : tOK lo 1 0 0 0 0 s t (tVl nv X G rs T) := by
  have q := tOK_ad (lo := lo) h hc (by unfold isL; decide)
  refine tOK_mono q (Nat.le_refl _) (by omega) (fun F a b hab hF hR J st hsc hst => ?_)
  obtain ⟨rfl, g0, -⟩ := hR
  have hFs := tFu_dn hF q.1
  refine sgw_one (o := 0) (Nat.le_refl _) g0 (show 0 < 33 by decide) (vb0 hst) (vb1 hst) (fun k hk' => ⟨T, hT, ?_⟩)
  rw [hk', tF_low (t := t) hI hFs (Or.inr hT)]
theorem lbI_ad {s t : tgS} {x0 x1 x2 x3 x4 : Int32} (h : lbI s) (ha : tAd s t x0 x1 x2 x3 x4) (hc : s.1 0 < 6000) (hL : ¬ isL x0) : lbI t := by
  obtain ⟨a1, a2, b0, b1, -⟩ := ha
  obtain ⟨e, b0⟩ := insA_lt b0 hc
  have b1 := (insA_lt b1 hc).2
  intro i hi hj
  by_cases z : i = s.1 0
  · subst z; rw [b0, pk_us] at hj; exact absurd hj hL
  · rw [b0, pk_un z] at hj
    obtain ⟨L, q1, q2, q3⟩ := h i (by omega) hj
    exact ⟨L, by rw [a1 1 (by decide)]; exact q1, by rw [b1, pk_un z]; exact q2, by rw [a2 5 (by decide)]; exact q3⟩
theorem lbI_same {s t : tgS} (h : lbI s) (h0 : t.1 0 = s.1 0) (h1 : s.1 1 ≤ t.1 1) (r0 : t.2 0 = s.2 0) (r1 : t.2 1 = s.2 1) (r5 : t.2 5 = s.2 5) : lbI t := by
  intro i hi hj
  rw [r0] at hj
  obtain ⟨L, q1, q2, q3⟩ := h i (by omega) hj
  exact ⟨L, by omega, by rw [r1]; exact q2, by rw [r5]; exact q3⟩
theorem tI_of {yp : Nat} {X : tF} {s t : tgS} (h : tI yp X s) (hT : tTy t = tTy s) (h4 : t.1 4 = s.1 4) (h15 : t.2 15 = s.2 15) (h6 : t.1 6 = s.1 6) (h17 : t.2 17 = s.2 17) (hl : lbI t) (hb : brI t) : tI yp X t := by
  have h7 : t.1 7 = s.1 7 := congrArg Prod.fst hT
  have h20 : t.2 20 = s.2 20 := congrArg (fun x : tyT => x.2.1) hT
  have h22 : t.2 22 = s.2 22 := congrArg (fun x : tyT => x.2.2.2.1) hT
  refine ⟨by rw [hT]; exact h.1, hl, fun v hv => ?_, by rw [h7, h20]; exact h.2.2.2.1, vcI_of h.2.2.2.2.1 h4 h6 h15 h17 (fun v _ _ => by unfold vSz; rw [h15, h22]), hb⟩
  rw [h15, h7, h20]; exact h.2.2.1 v (by omega)
theorem tTy_ad {s t : tgS} {x0 x1 x2 x3 x4 : Int32} (ha : tAd s t x0 x1 x2 x3 x4) : tTy t = tTy s := by
  unfold tTy
  rw [ha.1 7 (by decide), ha.2.1 20 (by decide), ha.2.1 21 (by decide), ha.2.1 22 (by decide), ha.2.1 23 (by decide), ha.2.1 24 (by decide), ha.2.1 25 (by decide), ha.2.1 26 (by decide)]
theorem tTy_pl {s t : tgS} {x1 x2 x3 x4 x5 x6 x7 : Int32} (ha : tPl s t x1 x2 x3 x4 x5 x6 x7) : tTy t = tTy s := by
  unfold tTy
  rw [ha.1 7 (by decide), ha.2.1 20 (by decide), ha.2.1 21 (by decide), ha.2.1 22 (by decide), ha.2.1 23 (by decide), ha.2.1 24 (by decide), ha.2.1 25 (by decide), ha.2.1 26 (by decide)]
theorem tI_ad {yp : Nat} {X : tF} {s t : tgS} {x0 x1 x2 x3 x4 : Int32} (h : tI yp X s) (ha : tAd s t x0 x1 x2 x3 x4) (hc : s.1 0 < 6000) (hL : ¬ isL x0) (h4 : x0 ≠ 4 := by decide) : tI yp X t := tI_of h (tTy_ad ha) (ha.1 4 (by decide)) (ha.2.1 15 (by decide)) (ha.1 6 (by decide)) (ha.2.1 17 (by decide)) (lbI_ad h.2.1 ha hc hL) (brI_ins h.2.2.2.2.2 ha.2.2.1 ha.2.2.2.2.1 hc (Nat.le_of_eq (ha.1 5 (by decide)).symm) (ha.1 8 (by decide)) (ha.1 4 (by decide)) (ha.2.1 19 (by decide)) (fun z => absurd z h4))
theorem tI_pl {yp : Nat} {X : tF} {s t : tgS} {x1 x2 x3 x4 x5 x6 x7 : Int32} (h : tI yp X s) (ha : tPl s t x1 x2 x3 x4 x5 x6 x7) : tI yp X t := tI_of h (tTy_pl ha) (ha.1 4 (by decide)) (ha.2.1 15 (by decide)) (ha.1 6 (by decide)) (ha.2.1 17 (by decide)) (lbI_same h.2.1 (ha.1 0 (by decide)) (Nat.le_of_eq (ha.1 1 (by decide)).symm) (ha.2.1 0 (by decide)) (ha.2.1 1 (by decide)) (ha.2.1 5 (by decide))) (brI_same h.2.2.2.2.2 (ha.1 0 (by decide)) (Nat.le_of_eq (ha.1 5 (by decide)).symm) (ha.1 8 (by decide)) (ha.2.1 0 (by decide)) (ha.2.1 2 (by decide)) (ha.1 4 (by decide)) (ha.2.1 19 (by decide)))
theorem tTy_up {i : Nat} {s t : tgS} (ha : tUp s t i) (h7 : i ≠ 7) : tTy t = tTy s := by
  unfold tTy
  rw [ha.2.2 7 (fun q => h7 q.symm), ha.1]
theorem tI_up {yp i : Nat} {X : tF} {s t : tgS} (h : tI yp X s) (ha : tUp s t i) (hi : i = 5 ∨ i = 1 ∨ i = 3) : tI yp X t := by
  have h5 : s.1 5 ≤ t.1 5 := by
    by_cases z : i = 5
    · subst z; rw [ha.2.1]; omega
    · rw [ha.2.2 5 (fun q => z q.symm)]; exact Nat.le_refl _
  refine tI_of h (tTy_up ha (by omega)) (ha.2.2 4 (by omega)) (by rw [ha.1]) (ha.2.2 6 (by omega)) (by rw [ha.1]) (lbI_same h.2.1 (ha.2.2 0 (by omega)) ?_ (by rw [ha.1]) (by rw [ha.1]) (by rw [ha.1])) (brI_same h.2.2.2.2.2 (ha.2.2 0 (by omega)) h5 (ha.2.2 8 (by omega)) (by rw [ha.1]) (by rw [ha.1]) (ha.2.2 4 (by omega)) (by rw [ha.1]))
  by_cases z : i = 1
  · subst z; rw [ha.2.1]; omega
  · rw [ha.2.2 1 (fun q => z q.symm)]; exact Nat.le_refl _
theorem shQ_up {yp yt yt2 : Nat} {ak gk : Nat → Int32} {X : tF} (h : shQ yp yt ak X) (hy : yt ≤ yt2) (he : ∀ j : Nat, j < yt → gk j = ak j) (h34 : 34 ≤ yt) (hp : yp ≤ 30) : shQ yp yt2 gk X := fun sh hsh => by
  obtain ⟨n, a1, a2, a3, a4, a5⟩ := h sh hsh
  refine ⟨n, a1, a2, a3, fun q => a4 (by rw [← he (4 + sh) (by omega)]; exact q), fun g hg => ?_⟩
  obtain ⟨m, b1, b2, b3⟩ := a5 g hg
  refine ⟨m, b1, b2, fun j hj => ?_⟩
  obtain ⟨u, c1, c2, c3⟩ := b3 j hj
  exact ⟨u, c1, tyN_up c2 c3 he, by omega⟩
theorem tI_mk {yp k ri : Nat} {kd : Int32} {X : tF} {s t : tgS} (h : tI yp X s) (hm : tMk kd k ri s t) (hN : tyN yp (s.2 20) k) (hk : k < s.1 7) (h7 : s.1 7 < 3040) : tI yp X t := by
  obtain ⟨a1, a2, -, -, a5⟩ := hm
  obtain ⟨c1, c2, -⟩ := a5 yp h.1 hN hk h7
  have he : ∀ j : Nat, j < s.1 7 → t.2 20 j = s.2 20 j := fun j hj => (c2.2 j hj).1
  have hvc : ∀ v : Nat, v < s.1 4 → s.2 15 v ≠ -1 → vSz t v = vSz s v := fun v hv hn => by
    unfold vSz
    rw [a2 15 (by decide)]
    rcases h.2.2.1 v hv with q | ⟨u, q1, q2⟩
    · exact absurd q hn
    · have hu : u < s.1 7 := q2.2
      have e22 : t.2 22 u = s.2 22 u := (c2.2 u hu).2.2.1
      rw [q1, cN_nI (by omega), e22]
  refine ⟨c1, lbI_same h.2.1 (a1 0 (by decide)) (Nat.le_of_eq (a1 1 (by decide)).symm) (a2 0 (by decide)) (a2 1 (by decide)) (a2 5 (by decide)), fun v hv => ?_, shQ_up h.2.2.2.1 c2.1 he h.1.1 h.1.2.2.1, vcI_of h.2.2.2.2.1 (a1 4 (by decide)) (a1 6 (by decide)) (a2 15 (by decide)) (a2 17 (by decide)) hvc, brI_same h.2.2.2.2.2 (a1 0 (by decide)) (Nat.le_of_eq (a1 5 (by decide)).symm) (a1 8 (by decide)) (a2 0 (by decide)) (a2 2 (by decide)) (a1 4 (by decide)) (a2 19 (by decide))⟩
  rw [a2 15 (by decide)]
  rcases h.2.2.1 v (by rw [← a1 4 (by decide)]; exact hv) with q | ⟨u, q1, q2⟩
  · exact Or.inl q
  · exact Or.inr ⟨u, q1, tyV_up q2 he c2.1⟩
/-- setLabel -/
def t6 (s : tgS) (n : Nat) (g0 g1 g2 g3 g4 g5 : Nat → Int32) : tgS := (fun k => match k with | 0 => n | k + 1 => s.1 (k + 1), fun k => match k with | 0 => g0 | 1 => g1 | 2 => g2 | 3 => g3 | 4 => g4 | 5 => g5 | k + 6 => s.2 (k + 6))
def tSb (s t : tgS) (x0 : Int32) (L : Nat) : Prop := (∀ k : Nat, 1 ≤ k → t.1 k = s.1 k) ∧ (∀ k : Nat, 6 ≤ k → t.2 k = s.2 k) ∧ t.2 5 = upd (s.2 5) L (nI (s.1 0)) ∧ insA (s.1 0) (t.1 0) (s.2 0) (t.2 0) x0 ∧ insA (s.1 0) (t.1 0) (s.2 1) (t.2 1) (nI L) ∧ insA (s.1 0) (t.1 0) (s.2 2) (t.2 2) 0 ∧ insA (s.1 0) (t.1 0) (s.2 3) (t.2 3) 0 ∧ insA (s.1 0) (t.1 0) (s.2 4) (t.2 4) (-1)
theorem tSb_mk {s : tgS} {n L : Nat} {g0 g1 g2 g3 g4 g5 : Nat → Int32} {x0 : Int32} (h0 : insA (s.1 0) n (s.2 0) g0 x0) (h1 : insA (s.1 0) n (s.2 1) g1 (nI L)) (h2 : insA (s.1 0) n (s.2 2) g2 0) (h3 : insA (s.1 0) n (s.2 3) g3 0) (h4 : insA (s.1 0) n (s.2 4) g4 (-1)) (h5 : g5 = upd (s.2 5) L (nI (s.1 0))) : tSb s (t6 s n g0 g1 g2 g3 g4 g5) x0 L := by
  refine ⟨fun k hk => ?_, fun k hk => ?_, h5, h0, h1, h2, h3, h4⟩
  · match k, hk with
    | k + 1, _ => rfl
  · match k, hk with
    | k + 6, _ => rfl
theorem tJ_sb {s t : tgS} {x0 : Int32} {L : Nat} (h : tJ s) (ha : tSb s t x0 L) : tJ t := by
  obtain ⟨a1, a2, -, a3, -⟩ := ha
  unfold tJ at *
  rw [a1 1 (by decide), a1 2 (by decide), a1 3 (by decide), a1 4 (by decide), a1 5 (by decide), a1 7 (by decide), a2 21 (by decide), a2 22 (by decide), a2 24 (by decide), a2 25 (by decide), a2 26 (by decide), a2 15 (by decide), a2 16 (by decide)]
  exact ⟨insA_le a3 h.1, h.2⟩
theorem tTy_sb {s t : tgS} {x0 : Int32} {L : Nat} (ha : tSb s t x0 L) : tTy t = tTy s := by
  unfold tTy
  rw [ha.1 7 (by decide), ha.2.1 20 (by decide), ha.2.1 21 (by decide), ha.2.1 22 (by decide), ha.2.1 23 (by decide), ha.2.1 24 (by decide), ha.2.1 25 (by decide), ha.2.1 26 (by decide)]
theorem lbI_sb {s t : tgS} {x0 : Int32} {L : Nat} (h : lbI s) (hU : lbU s L) (ha : tSb s t x0 L) (hc : s.1 0 < 6000) (hb : s.1 1 ≤ 1100) : lbI t := by
  obtain ⟨a1, a2, a5, b0, b1, -⟩ := ha
  obtain ⟨e, b0⟩ := insA_lt b0 hc
  have b1 := (insA_lt b1 hc).2
  intro i hi hj
  by_cases z : i = s.1 0
  · subst z
    exact ⟨L, by rw [a1 1 (by decide)]; exact hU.1, by rw [b1, pk_us], by rw [a5, pk_us]⟩
  · rw [b0, pk_un z] at hj
    obtain ⟨M, q1, q2, q3⟩ := h i (by omega) hj
    have hne : M ≠ L := fun q => hU.2 i (by omega) hj (by rw [q2, q])
    exact ⟨M, by rw [a1 1 (by decide)]; exact q1, by rw [b1, pk_un z]; exact q2, by rw [a5, pk_un hne]; exact q3⟩
theorem tI_sb {yp : Nat} {X : tF} {s t : tgS} {x0 : Int32} {L : Nat} (h : tI yp X s) (hU : lbU s L) (ha : tSb s t x0 L) (hc : s.1 0 < 6000) (hb : s.1 1 ≤ 1100) (h4 : x0 ≠ 4 := by decide) : tI yp X t := tI_of h (tTy_sb ha) (ha.1 4 (by decide)) (ha.2.1 15 (by decide)) (ha.1 6 (by decide)) (ha.2.1 17 (by decide)) (lbI_sb h.2.1 hU ha hc hb) (brI_ins h.2.2.2.2.2 ha.2.2.2.1 ha.2.2.2.2.2.1 hc (Nat.le_of_eq (ha.1 5 (by decide)).symm) (ha.1 8 (by decide)) (ha.1 4 (by decide)) (ha.2.1 19 (by decide)) (fun z => absurd z h4))
theorem tOK_sb {lo L : Nat} {s t : tgS} {x0 : Int32} (h : tSb s t x0 L) (hc : s.1 0 < 6000) (hL : lo ≤ L) (hL2 : L < s.1 1) : tOK lo 1 0 0 0 0 s t (tIn x0 (nI L) 0 0 (-1)) := by
  obtain ⟨a1, a2, a5, b0, b1, b2, b3, b4⟩ := h
  obtain ⟨e, b0⟩ := insA_lt b0 hc
  have b1 := (insA_lt b1 hc).2; have b2 := (insA_lt b2 hc).2; have b3 := (insA_lt b3 hc).2; have b4 := (insA_lt b4 hc).2
  refine ⟨⟨fun k hk => ?_, fun k hk i hi => ?_, fun k h1 h2 i hi => by rw [a2 k (by omega)], fun i hi => by rw [a2 13 (by decide)], fun k h1 h2 i hi => by rw [a2 k (by omega)], fun v hv => ⟨by rw [a2 14 (by decide)], by rw [a2 16 (by decide)], by rw [a2 18 (by decide)], fun _ => ⟨by rw [a2 15 (by decide)], by rw [a2 17 (by decide)]⟩, Or.inl (by rw [a2 19 (by decide)])⟩⟩, ⟨fun i h1 h2 h3 => ?_, fun v _ => by rw [a2 19 (by decide)]⟩, ⟨by omega, by rw [a1 1 (by decide)]; omega, by rw [a1 2 (by decide)]; omega, by rw [a1 3 (by decide)]; omega, by rw [a1 7 (by decide)]; omega⟩, fun F hF => ⟨e, ?_, ?_, ?_, ?_, ?_⟩⟩
  · rcases Nat.eq_zero_or_pos k with z | z
    · subst z; omega
    · rw [a1 k z]; exact Nat.le_refl _
  · match k, hk with
    | 0, _ => rw [b0]; exact pk_un (by omega)
    | 1, _ => rw [b1]; exact pk_un (by omega)
    | 2, _ => rw [b2]; exact pk_un (by omega)
    | 3, _ => rw [b3]; exact pk_un (by omega)
    | 4, _ => rw [b4]; exact pk_un (by omega)
  · obtain rfl : i = s.1 0 := by omega
    exact ⟨L, hL, by rw [a1 1 (by decide)]; exact hL2, by rw [b1, pk_us]⟩
  · rw [hF.1 0 (by decide) _ (Nat.le_refl _) (by omega), b0, pk_us]
  · rw [hF.1 1 (by decide) _ (Nat.le_refl _) (by omega), b1, pk_us]
  · rw [hF.1 2 (by decide) _ (Nat.le_refl _) (by omega), b2, pk_us]
  · rw [hF.1 3 (by decide) _ (Nat.le_refl _) (by omega), b3, pk_us]
  · rw [hF.1 4 (by decide) _ (Nat.le_refl _) (by omega), b4, pk_us]
theorem lbU_new {s t : tgS} (h : lbI s) (ha : tUp s t 1) (hb : t.1 1 ≤ 1100) : lbU t (s.1 1) := by
  refine ⟨by rw [ha.2.1]; omega, fun i hi hj q => ?_⟩
  rw [ha.2.2 0 (by decide)] at hi
  rw [ha.1] at hj q
  obtain ⟨L, q1, q2, q3⟩ := h i hi hj
  have hh := ha.2.1
  have := (nI_eq (a := L) (b := s.1 1) (by omega) (by omega)).mp (q2.symm.trans q)
  omega
/-- two values and a sign -/
theorem v_op {yp rs rs1 a b z x m n nv : Nat} {X F : tF} {G : Nat → Nat → Nat} {s t : tgS} {g : Int32} (hI : tyOK yp (tTy s)) (hF : tFu s F) (ha : a = 1 ∨ a = 2) (hb : b = 1 ∨ b = 2) (hz : z = 1 ∨ z = 2) (hrs : rs = rs1 + 4096) (h1 : tVl nv X G rs a F x m) (h2 : tVl nv X G rs1 b F m n) (h3 : F 0 n = 7) (hxm : x ≤ m) (hmn : m ≤ n) : tVl nv X G rs z F x (n + 1) := fun J st hsc hst => by
  subst hrs
  have ea : tNf F a = (0, a, 0) := tF_low (t := t) hI hF (Or.inr ha)
  have eb : tNf F b = (0, b, 0) := tF_low (t := t) hI hF (Or.inr hb)
  have ez : tNf F z = (0, z, 0) := tF_low (t := t) hI hF (Or.inr hz)
  have y1 := h1 J st hsc hst
  have y2 := sgw_mono (h2 J (tNf F a :: st) (scX_c hsc hxm) (vb3 hst)) (wl_le (e := tNf F a) (s := st))
  rw [rT_up] at y1 ⊢
  have y3 := sgw_app y1 y2 hxm hmn
  refine sgw_app y3 (sgw_one (o := 7) (by rw [wl_t, wl_t]; show wl st + 1 ≤ wl st + 1 + 1; omega) h3 (show 7 < 33 by decide) (sgw_end y3 (by omega)) (vb1 hst) (fun k hk => ?_)) (by omega) (by omega)
  rw [ea, eb]
  exact ⟨b, a, z, st, hb, ha, hz, rfl, by rw [hk, ez]⟩
/-- && and || -/
theorem v_and {yp rs x m n L nv : Nat} {X F : tF} {G : Nat → Nat → Nat} {s t : tgS} (hI : tyOK yp (tTy s)) (hF : tFu s F) (h1 : tVl nv X G rs 2 F x m) (h2 : F 0 m = 18 ∨ F 0 m = 19) (h3 : F 1 m = nI L) (h4 : tVl nv X G rs 2 F (m + 1) n) (h5 : F 0 n = 13) (h6 : F 1 n = nI L) (hL : L < 1100) (hxm : x ≤ m) (hmn : m + 1 ≤ n) : tVl nv X G rs 2 F x (n + 1) := fun J st hsc hst => by
  have e2 : tNf F 2 = (0, 2, 0) := tF_low (t := t) hI hF (Or.inr (Or.inr rfl))
  refine sgw_lab (j := n) (L := nI L) (r := tNf F 2 :: st) (sgw_app (sgw_app (h1 _ st hsc hst) ?_ hxm (Nat.le_succ m)) (h4 _ st (scX_m hsc (by omega)) hst) (by omega) hmn) (sgw_one (o := 13) (by rw [wl_t]; show wl st + 0 ≤ wl st + 1; omega) h5 ⟨L, h6, hL⟩ (vb2 hst) (vb1 hst) (fun k hk => hk)) (by omega) (by omega) h5 h6 (by rw [wl_t]; exact Nat.le_refl _)
  rw [e2]
  rcases h2 with h2 | h2
  · exact sgw_one (o := 18) (by rw [wl_n (e := (0, 2, 0)) (by decide)]; exact Nat.le_refl _) h2 ⟨L, h3, hL⟩ (vb2 hst) (vs (vb0 hst)) (fun k hk => ⟨st, rfl, hk, Or.inr ⟨h3, rfl⟩⟩)
  · exact sgw_one (o := 19) (by rw [wl_n (e := (0, 2, 0)) (by decide)]; exact Nat.le_refl _) h2 ⟨L, h3, hL⟩ (vb2 hst) (vs (vb0 hst)) (fun k hk => ⟨st, rfl, hk, Or.inr ⟨h3, rfl⟩⟩)
