/-- a variable was declared -/
def t8 (s : tgS) (g0 g1 g2 g3 g4 g5 : Nat → Int32) : tgS := (fun k => if k = 4 then s.1 4 + 1 else s.1 k, fun k => if k = 14 then g0 else if k = 15 then g1 else if k = 16 then g2 else if k = 17 then g3 else if k = 18 then g4 else if k = 19 then g5 else s.2 k)
def tDe (s t : tgS) (na mu cd : Int32) : Prop := t.1 4 = s.1 4 + 1 ∧ (∀ k : Nat, k ≠ 4 → t.1 k = s.1 k) ∧ (∀ k : Nat, k < 14 ∨ 20 ≤ k → t.2 k = s.2 k) ∧ t.2 14 = upd (s.2 14) (s.1 4) na ∧ t.2 15 = upd (s.2 15) (s.1 4) (-1) ∧ t.2 16 = upd (s.2 16) (s.1 4) mu ∧ t.2 17 = upd (s.2 17) (s.1 4) 0 ∧ t.2 18 = upd (s.2 18) (s.1 4) cd ∧ t.2 19 = upd (s.2 19) (s.1 4) 1073741824
theorem tDe_mk {s : tgS} {g0 g1 g2 g3 g4 g5 : Nat → Int32} {na mu cd : Int32} (h0 : g0 = upd (s.2 14) (s.1 4) na) (h1 : g1 = upd (s.2 15) (s.1 4) (-1)) (h2 : g2 = upd (s.2 16) (s.1 4) mu) (h3 : g3 = upd (s.2 17) (s.1 4) 0) (h4 : g4 = upd (s.2 18) (s.1 4) cd) (h5 : g5 = upd (s.2 19) (s.1 4) 1073741824) : tDe s (t8 s g0 g1 g2 g3 g4 g5) na mu cd := by
  refine ⟨show (if (4 : Nat) = 4 then s.1 4 + 1 else s.1 4) = s.1 4 + 1 from if_pos rfl, fun k hk => if_neg hk, fun k hk => ?_, h0, h1, h2, h3, h4, h5⟩
  show (if k = 14 then g0 else if k = 15 then g1 else if k = 16 then g2 else if k = 17 then g3 else if k = 18 then g4 else if k = 19 then g5 else s.2 k) = s.2 k
  rw [if_neg (by omega), if_neg (by omega), if_neg (by omega), if_neg (by omega), if_neg (by omega), if_neg (by omega)]
theorem tJ_de {s t : tgS} {na mu cd : Int32} (h : tJ s) (ha : tDe s t na mu cd) (h4 : s.1 4 < 40) (hm : mu = 0 ∨ mu = 1) : tJ t := by
  obtain ⟨a0, a1, a2, b14, b15, b16, b17, b18, b19⟩ := ha
  obtain ⟨c0, c1, c2, c3, c4, c5, c7, cy, cv, cm⟩ := h
  refine ⟨by rw [a1 0 (by decide)]; exact c0, by rw [a1 1 (by decide)]; exact c1, by rw [a1 2 (by decide)]; exact c2, by rw [a1 3 (by decide)]; exact c3, by omega, by rw [a1 5 (by decide)]; exact c5, by rw [a1 7 (by decide)]; exact c7, by rw [a2 21 (by decide), a2 22 (by decide), a2 24 (by decide), a2 25 (by decide), a2 26 (by decide)]; exact cy, fun v hv => ?_, fun v hv => ?_⟩
  · rw [b15]
    by_cases z : v = s.1 4
    · subst z; rw [pk_us]; exact Or.inl rfl
    · rw [pk_un z]; exact cv v hv
  · rw [b16]
    by_cases z : v = s.1 4
    · subst z; rw [pk_us]; exact hm
    · rw [pk_un z]; exact cm v hv
theorem vcN_un {f : Nat → Int32} {n : Nat} {x : Int32} : ∀ m : Nat, m ≤ n → vcN (upd f n x) m = vcN f m
  | 0, _ => rfl
  | m + 1, h => by
    show vcN (upd f n x) m + (if upd f n x m = -1 then 0 else 1) = vcN f m + (if f m = -1 then 0 else 1)
    rw [vcN_un m (by omega), pk_un (show m ≠ n by omega)]
theorem vcN_us {f : Nat → Int32} {n : Nat} {x : Int32} (hf : f n = -1) (hx : x ≠ -1) : ∀ m : Nat, n < m → vcN (upd f n x) m = vcN f m + 1
  | 0, h => absurd h (by omega)
  | m + 1, h => by
    show vcN (upd f n x) m + (if upd f n x m = -1 then 0 else 1) = vcN f m + (if f m = -1 then 0 else 1) + 1
    rcases Nat.lt_or_ge n m with c | c
    · rw [vcN_us hf hx m c, pk_un (show m ≠ n by omega)]; omega
    · have e : n = m := by omega
      subst e
      have e1 := vcN_un (f := f) (n := n) (x := x) n (Nat.le_refl _)
      rw [e1, pk_us, if_neg hx, if_pos hf, Nat.add_zero]
theorem vcN_le {f : Nat → Int32} : ∀ n : Nat, vcN f n ≤ n
  | 0 => Nat.le_refl _
  | n + 1 => by
    have := vcN_le (f := f) n
    show vcN f n + (if f n = -1 then 0 else 1) ≤ n + 1
    split <;> omega
theorem tI_de {yp : Nat} {X : tF} {s t : tgS} {na mu cd : Int32} (h : tI yp X s) (ha : tDe s t na mu cd) : tI yp X t := by
  obtain ⟨a0, a1, a2, b14, b15, b16, b17, b18, b19⟩ := ha
  have hT : tTy t = tTy s := by
    unfold tTy
    rw [a1 7 (by decide), a2 20 (by decide), a2 21 (by decide), a2 22 (by decide), a2 23 (by decide), a2 24 (by decide), a2 25 (by decide), a2 26 (by decide)]
  obtain ⟨c1, c2, c3, c4, ⟨d1, d2, d3⟩, e1, e2, e3⟩ := h
  have k0 := a1 0 (by decide); have k7 := a1 7 (by decide); have k6 := a1 6 (by decide); have k5 := a1 5 (by decide); have k8 := a1 8 (by decide)
  have r15 : ∀ v : Nat, v < s.1 4 → t.2 15 v = s.2 15 v := fun v hv => by rw [b15, pk_un (by omega)]
  have r17 : ∀ v : Nat, v < s.1 4 → t.2 17 v = s.2 17 v := fun v hv => by rw [b17, pk_un (by omega)]
  have hn : t.2 15 (s.1 4) = -1 := by rw [b15, pk_us]
  have hz : ∀ v : Nat, v < s.1 4 → vSz t v = vSz s v := fun v hv => by unfold vSz; rw [r15 v hv, a2 22 (by decide)]
  have lt : ∀ v : Nat, v < t.1 4 → t.2 15 v ≠ -1 → v < s.1 4 := fun v hv hne => by
    rcases Nat.lt_or_ge v (s.1 4) with c | c
    · exact c
    · exact absurd (show t.2 15 v = -1 by rw [show v = s.1 4 by omega]; exact hn) hne
  refine ⟨by rw [hT]; exact c1, lbI_same c2 k0 (Nat.le_of_eq (a1 1 (by decide)).symm) (a2 0 (by decide)) (a2 1 (by decide)) (a2 5 (by decide)), fun v hv => ?_, by rw [k7, a2 20 (by decide)]; exact c4, ⟨fun v hv hne => ?_, fun v w hv hw hvw hnv hnw => ?_, ?_⟩, ⟨fun v hv => ?_, ?_, ?_⟩⟩
  · rw [k7, a2 20 (by decide)]
    rcases Nat.lt_or_ge v (s.1 4) with c | c
    · rw [r15 v c]; exact c3 v c
    · exact Or.inl (by rw [show v = s.1 4 by omega]; exact hn)
  · have c := lt v hv hne
    rw [r15 v c] at hne
    rw [hz v c, r17 v c, k6]; exact d1 v c hne
  · have cv := lt v hv hnv
    have cw := lt w hw hnw
    rw [r15 v cv] at hnv
    rw [r15 w cw] at hnw
    rw [hz v cv, hz w cw, r17 v cv, r17 w cw]; exact d2 v w cv cw hvw hnv hnw
  · rw [k6, a0]
    show s.1 6 ≤ 17 * (vcN (t.2 15) (s.1 4) + (if t.2 15 (s.1 4) = -1 then 0 else 1))
    rw [if_pos hn, b15, vcN_un (s.1 4) (Nat.le_refl _)]; exact d3
  · rcases Nat.lt_or_ge v (s.1 4) with c | c
    · rw [b19, pk_un (by omega), k0]; exact e1 v c
    · exact Or.inl (by rw [show v = s.1 4 by omega, b19, pk_us])
  · rw [k0, k8, k5, a2 0 (by decide), a2 2 (by decide)]; exact e2
  · rw [k0, k8, a2 0 (by decide), a2 2 (by decide)]; exact e3
theorem tXt_de {s t : tgS} {na mu cd : Int32} (ha : tDe s t na mu cd) : tXt s t := by
  obtain ⟨a0, a1, a2, b14, b15, b16, b17, b18, b19⟩ := ha
  refine ⟨fun k hk => ?_, fun k hk i hi => by rw [a2 k (by omega)], fun k h1 h2 i hi => by rw [a2 k (by omega)], fun i hi => by rw [a2 13 (by decide)], fun k h1 h2 i hi => by rw [a2 k (by omega)], fun v hv => ⟨by rw [b14, pk_un (by omega)], by rw [b16, pk_un (by omega)], by rw [b18, pk_un (by omega)], fun _ => ⟨by rw [b15, pk_un (by omega)], by rw [b17, pk_un (by omega)]⟩, Or.inl (by rw [b19, pk_un (by omega)])⟩⟩
  by_cases z : k = 4
  · subst z; omega
  · rw [a1 k z]; exact Nat.le_refl _
theorem tOK_de {lo : Nat} {s t : tgS} {na mu cd : Int32} (ha : tDe s t na mu cd) : tOK lo 0 0 0 0 0 s t (fun _ a b => b = a) := by
  have hx := tXt_de ha
  obtain ⟨a0, a1, a2, b14, b15, b16, b17, b18, b19⟩ := ha
  exact ⟨hx, ⟨fun i h1 h2 h3 => absurd h2 (by rw [a1 0 (by decide)]; omega), fun v hv => by rw [b19, pk_un (by omega)]⟩, ⟨by rw [a1 0 (by decide)]; omega, by rw [a1 1 (by decide)]; omega, by rw [a1 2 (by decide)]; omega, by rw [a1 3 (by decide)]; omega, by rw [a1 7 (by decide)]; omega⟩, fun F hF => a1 0 (by decide)⟩
/-- a variable was settled -/
def t9 (s : tgS) (z : Nat) (g1 g3 : Nat → Int32) : tgS := (fun k => if k = 6 then s.1 6 + z else s.1 k, fun k => if k = 15 then g1 else if k = 17 then g3 else s.2 k)
def tSe (s t : tgS) (v T z : Nat) : Prop := t.1 6 = s.1 6 + z ∧ (∀ k : Nat, k ≠ 6 → t.1 k = s.1 k) ∧ (∀ k : Nat, k ≠ 15 → k ≠ 17 → t.2 k = s.2 k) ∧ t.2 15 = upd (s.2 15) v (nI T) ∧ t.2 17 = upd (s.2 17) v (nI (s.1 6))
theorem tSe_mk {s : tgS} {v T z : Nat} {g1 g3 : Nat → Int32} (h1 : g1 = upd (s.2 15) v (nI T)) (h3 : g3 = upd (s.2 17) v (nI (s.1 6))) : tSe s (t9 s z g1 g3) v T z := by
  refine ⟨show (if (6 : Nat) = 6 then s.1 6 + z else s.1 6) = s.1 6 + z from if_pos rfl, fun k hk => if_neg hk, fun k h15 h17 => ?_, h1, h3⟩
  show (if k = 15 then g1 else if k = 17 then g3 else s.2 k) = s.2 k
  rw [if_neg h15, if_neg h17]
theorem tJ_se {s t : tgS} {v T z : Nat} (h : tJ s) (ha : tSe s t v T z) (hT : T < 3040) : tJ t := by
  obtain ⟨a0, a1, a2, b15, b17⟩ := ha
  obtain ⟨c0, c1, c2, c3, c4, c5, c7, cy, cv, cm⟩ := h
  refine ⟨by rw [a1 0 (by decide)]; exact c0, by rw [a1 1 (by decide)]; exact c1, by rw [a1 2 (by decide)]; exact c2, by rw [a1 3 (by decide)]; exact c3, by rw [a1 4 (by decide)]; exact c4, by rw [a1 5 (by decide)]; exact c5, by rw [a1 7 (by decide)]; exact c7, by rw [a2 21 (by decide) (by decide), a2 22 (by decide) (by decide), a2 24 (by decide) (by decide), a2 25 (by decide) (by decide), a2 26 (by decide) (by decide)]; exact cy, fun w hw => ?_, fun w hw => by rw [a2 16 (by decide) (by decide)]; exact cm w hw⟩
  rw [b15]
  by_cases y : w = v
  · subst y; rw [pk_us]; exact Or.inr ⟨T, hT, rfl⟩
  · rw [pk_un y]; exact cv w hw
theorem nI_ne1 {T : Nat} (h : T < 2 ^ 31) : nI T ≠ -1 := fun q => nI_pos h (show nI T < 0 by rw [q]; decide)
theorem tI_se {yp : Nat} {X : tF} {s t : tgS} {v T z : Nat} (h : tI yp X s) (ha : tSe s t v T z) (hv : v < s.1 4) (hu : s.2 15 v = -1) (hT : tyV yp (s.1 7) (s.2 20) T) (hz : s.2 22 T = nI z) (hz17 : z ≤ 17) (h40 : s.1 4 ≤ 40) : tI yp X t := by
  obtain ⟨a0, a1, a2, b15, b17⟩ := ha
  have hT7 : T < s.1 7 := hT.2
  have hT2 : tTy t = tTy s := by
    unfold tTy
    rw [a1 7 (by decide), a2 20 (by decide) (by decide), a2 21 (by decide) (by decide), a2 22 (by decide) (by decide), a2 23 (by decide) (by decide), a2 24 (by decide) (by decide), a2 25 (by decide) (by decide), a2 26 (by decide) (by decide)]
  obtain ⟨c1, c2, c3, c4, ⟨d1, d2, d3⟩, hb⟩ := h
  have h30 : s.1 7 ≤ 3040 := c1.2.1
  have hTn : nI T ≠ -1 := nI_ne1 (by omega)
  have k0 := a1 0 (by decide); have k7 := a1 7 (by decide); have k4 := a1 4 (by decide); have k5 := a1 5 (by decide); have k8 := a1 8 (by decide)
  have r15 : ∀ w : Nat, w ≠ v → t.2 15 w = s.2 15 w := fun w hw => by rw [b15, pk_un hw]
  have r17 : ∀ w : Nat, w ≠ v → t.2 17 w = s.2 17 w := fun w hw => by rw [b17, pk_un hw]
  have v15 : t.2 15 v = nI T := by rw [b15, pk_us]
  have v17 : t.2 17 v = nI (s.1 6) := by rw [b17, pk_us]
  have hzw : ∀ w : Nat, w ≠ v → vSz t w = vSz s w := fun w hw => by unfold vSz; rw [r15 w hw, a2 22 (by decide) (by decide)]
  have hzv : vSz t v = z := by unfold vSz; rw [v15, a2 22 (by decide) (by decide), cN_nI (by omega), hz, cN_nI (by omega)]
  have hle := vcN_le (f := s.2 15) (s.1 4)
  have h6 : s.1 6 < 2 ^ 31 := by omega
  have hc6 : cN (nI (s.1 6)) = s.1 6 := cN_nI h6
  have hd : ∀ w : Nat, w < s.1 4 → s.2 15 w ≠ -1 → cN (s.2 17 w) + vSz s w ≤ s.1 6 := fun w hw hn => by
    obtain ⟨o, q1, q2⟩ := d1 w hw hn
    rw [q1, cN_nI (by omega)]; exact q2
  refine ⟨by rw [hT2]; exact c1, lbI_same c2 k0 (Nat.le_of_eq (a1 1 (by decide)).symm) (a2 0 (by decide) (by decide)) (a2 1 (by decide) (by decide)) (a2 5 (by decide) (by decide)), fun w hw => ?_, by rw [k7, a2 20 (by decide) (by decide)]; exact c4, ⟨fun w hw hne => ?_, fun w x hw hx hwx hnw hnx => ?_, ?_⟩, brI_same hb k0 (Nat.le_of_eq k5.symm) k8 (a2 0 (by decide) (by decide)) (a2 2 (by decide) (by decide)) k4 (a2 19 (by decide) (by decide))⟩
  · rw [k7, a2 20 (by decide) (by decide)]
    by_cases y : w = v
    · subst y; exact Or.inr ⟨T, v15, hT⟩
    · rw [r15 w y]; exact c3 w (by omega)
  · by_cases y : w = v
    · subst y; exact ⟨s.1 6, v17, by rw [hzv, a0]; omega⟩
    · rw [r15 w y] at hne
      obtain ⟨o, q1, q2⟩ := d1 w (by omega) hne
      exact ⟨o, by rw [r17 w y]; exact q1, by rw [hzw w y, a0]; omega⟩
  · by_cases y : w = v
    · have y2 : x ≠ v := fun q => hwx (y.trans q.symm)
      rw [r15 x y2] at hnx
      have q := hd x (by omega) hnx
      rw [y, v17, hc6, r17 x y2, hzw x y2]
      exact Or.inr q
    · rw [r15 w y] at hnw
      have q := hd w (by omega) hnw
      by_cases y2 : x = v
      · rw [y2, v17, hc6, r17 w y, hzw w y]
        exact Or.inl q
      · rw [r15 x y2] at hnx
        rw [r17 w y, hzw w y, r17 x y2, hzw x y2]
        exact d2 w x (by omega) (by omega) hwx hnw hnx
  · rw [a0, b15, k4, vcN_us hu hTn (s.1 4) hv]; omega
theorem tXt_se {s t : tgS} {v T z : Nat} (ha : tSe s t v T z) (hu : s.2 15 v = -1) : tXt s t := by
  obtain ⟨a0, a1, a2, b15, b17⟩ := ha
  refine ⟨fun k hk => ?_, fun k hk i hi => by rw [a2 k (by omega) (by omega)], fun k h1 h2 i hi => by rw [a2 k (by omega) (by omega)], fun i hi => by rw [a2 13 (by decide) (by decide)], fun k h1 h2 i hi => by rw [a2 k (by omega) (by omega)], fun w hw => ⟨by rw [a2 14 (by decide) (by decide)], by rw [a2 16 (by decide) (by decide)], by rw [a2 18 (by decide) (by decide)], fun hn => ?_, Or.inl (by rw [a2 19 (by decide) (by decide)])⟩⟩
  · by_cases y : k = 6
    · subst y; omega
    · rw [a1 k y]; exact Nat.le_refl _
  · have y : w ≠ v := fun q => hn (by rw [q]; exact hu)
    exact ⟨by rw [b15, pk_un y], by rw [b17, pk_un y]⟩
theorem tOK_se {lo : Nat} {s t : tgS} {v T z : Nat} (ha : tSe s t v T z) (hu : s.2 15 v = -1) : tOK lo 0 0 0 0 0 s t (fun _ a b => b = a) := by
  have hx := tXt_se ha hu
  obtain ⟨a0, a1, a2, b15, b17⟩ := ha
  exact ⟨hx, ⟨fun i h1 h2 h3 => absurd h2 (by rw [a1 0 (by decide)]; omega), fun w hw => by rw [a2 19 (by decide) (by decide)]⟩, ⟨by rw [a1 0 (by decide)]; omega, by rw [a1 1 (by decide)]; omega, by rw [a1 2 (by decide)]; omega, by rw [a1 3 (by decide)]; omega, by rw [a1 7 (by decide)]; omega⟩, fun F hF => a1 0 (by decide)⟩
/-- the variables from v0 on were closed -/
def t10 (s : tgS) (g5 : Nat → Int32) : tgS := (s.1, fun k => if k = 19 then g5 else s.2 k)
def tCl (s t : tgS) (v0 : Nat) : Prop := t.1 = s.1 ∧ (∀ k : Nat, k ≠ 19 → t.2 k = s.2 k) ∧ clO v0 (s.1 4) (nI (s.1 0)) (s.2 19) (t.2 19)
theorem tCl_mk {s : tgS} {v0 : Nat} {g5 : Nat → Int32} (h : clO v0 (s.1 4) (nI (s.1 0)) (s.2 19) g5) : tCl s (t10 s g5) v0 := ⟨rfl, fun k hk => if_neg hk, h⟩
theorem tJ_cl {s t : tgS} {v0 : Nat} (h : tJ s) (ha : tCl s t v0) : tJ t := by
  obtain ⟨a1, a2, -⟩ := ha
  unfold tJ
  rw [a1, a2 21 (by decide), a2 22 (by decide), a2 24 (by decide), a2 25 (by decide), a2 26 (by decide), a2 15 (by decide), a2 16 (by decide)]
  exact h
/-- those that have no end yet end here, others stay -/
theorem cl_val {s t : tgS} {v0 v : Nat} (ha : tCl s t v0) (hb : brI s) (h0 : s.1 0 ≤ 6000) (hv : v < s.1 4) : (s.2 19 v = 1073741824 ∧ v0 ≤ v → t.2 19 v = nI (s.1 0)) ∧ (s.2 19 v ≠ 1073741824 ∨ v < v0 → t.2 19 v = s.2 19 v) := by
  obtain ⟨-, -, a3⟩ := ha
  obtain ⟨a4, a5⟩ := a3 v
  refine ⟨fun q => ?_, fun q => ?_⟩
  · have hl : nI (s.1 0) < (1073741824 : Int32) := nI_lt (a := s.1 0) (b := 1073741824) (by omega) (by decide)
    rw [a4 ⟨q.2, hv⟩, q.1, if_pos hl]
  · by_cases c : v0 ≤ v
    · have q2 : s.2 19 v ≠ 1073741824 := by
        rcases q with q | q
        · exact q
        · omega
      rcases hb.1 v hv with z | ⟨e, z1, z2⟩
      · exact absurd z q2
      · rw [a4 ⟨c, hv⟩, z1, if_neg]
        intro z3
        have := (nI_ltI (a := s.1 0) (b := e) (by omega) (by omega)).mp z3
        omega
    · exact a5 (fun z => c z.1)
theorem tXt_cl {s t : tgS} {v0 : Nat} (ha : tCl s t v0) (hb : brI s) (h0 : s.1 0 ≤ 6000) : tXt s t := by
  have hc := fun v hv => cl_val (v := v) ha hb h0 hv
  obtain ⟨a1, a2, -⟩ := ha
  refine ⟨fun k hk => by rw [a1]; exact Nat.le_refl _, fun k hk i hi => by rw [a2 k (by omega)], fun k h1 h2 i hi => by rw [a2 k (by omega)], fun i hi => by rw [a2 13 (by decide)], fun k h1 h2 i hi => by rw [a2 k (by omega)], fun v hv => ⟨by rw [a2 14 (by decide)], by rw [a2 16 (by decide)], by rw [a2 18 (by decide)], fun _ => ⟨by rw [a2 15 (by decide)], by rw [a2 17 (by decide)]⟩, ?_⟩⟩
  by_cases c : s.2 19 v = 1073741824 ∧ v0 ≤ v
  · exact Or.inr ⟨c.1, s.1 0, (hc v hv).1 c, Nat.le_refl _, by omega⟩
  · refine Or.inl ((hc v hv).2 ?_)
    by_cases c2 : s.2 19 v = 1073741824
    · exact Or.inr (Nat.lt_of_not_le (fun q => c ⟨c2, q⟩))
    · exact Or.inl c2
theorem tI_cl {yp v0 : Nat} {X : tF} {s t : tgS} (h : tI yp X s) (ha : tCl s t v0) (h0 : s.1 0 ≤ 6000) : tI yp X t := by
  have hc := fun v hv => cl_val (v := v) ha h.2.2.2.2.2 h0 hv
  obtain ⟨a1, a2, -⟩ := ha
  have hT : tTy t = tTy s := by
    unfold tTy
    rw [a1, a2 20 (by decide), a2 21 (by decide), a2 22 (by decide), a2 23 (by decide), a2 24 (by decide), a2 25 (by decide), a2 26 (by decide)]
  refine tI_of h hT (by rw [a1]) (a2 15 (by decide)) (by rw [a1]) (a2 17 (by decide)) (lbI_same h.2.1 (by rw [a1]) (by rw [a1]; exact Nat.le_refl _) (a2 0 (by decide)) (a2 1 (by decide)) (a2 5 (by decide))) ?_
  unfold brI
  rw [a1, a2 0 (by decide), a2 2 (by decide)]
  refine ⟨fun v hv => ?_, h.2.2.2.2.2.2⟩
  by_cases c : s.2 19 v = 1073741824 ∧ v0 ≤ v
  · exact Or.inr ⟨s.1 0, (hc v hv).1 c, Nat.le_refl _⟩
  · rw [(hc v hv).2 (by
      by_cases c2 : s.2 19 v = 1073741824
      · exact Or.inr (Nat.lt_of_not_le (fun q => c ⟨c2, q⟩))
      · exact Or.inl c2)]
    exact h.2.2.2.2.2.1 v hv
