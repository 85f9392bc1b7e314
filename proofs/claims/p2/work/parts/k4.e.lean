theorem set3 {l : List Value} {a b c a2 b2 c2 : Value} : (((((l.set 9 a).set 10 b).set 11 c).set 9 a2).set 10 b2).set 11 c2 = ((l.set 9 a2).set 10 b2).set 11 c2 := by
  refine List.ext_getElem? (fun i => ?_)
  by_cases h1 : 11 = i
  · subst h1; simp [List.getElem?_set]
  · by_cases h2 : 10 = i
    · subst h2; simp [List.getElem?_set]
    · by_cases h3 : 9 = i
      · subst h3; simp [List.getElem?_set]
      · simp [List.getElem?_set, h1, h2, h3]
/-- the exps of e that were read since S: n of them, closed cells L -/
def RD (K : Ky) (N kq z : Nat) (S S1 : Sg) (e : Nat) (fs : List Value) (n cp p0 q0 bb b1 : Nat) : Prop := ∃ (f : Nat → Option Nat) (g : Nat → Int32) (L : List Nat) (fs1 : List Value), e ∈ ZL S1 ∧ ZF S1 e = .inr (15, fs1) ∧ e ∉ L ∧ ((n = 0 ∧ cp = 0 ∧ fs1 = fs) ∨ ∃ la sa : Nat, fs1 = ((fs.set 9 (.ref la)).set 10 (.ref sa)).set 11 (.int (nI n)) ∧ rwS K S1 la sa cp f g ∧ 1 ≤ n ∧ n ≤ cp ∧ Zz S ≤ la ∧ Zz S ≤ sa ∧ la ∉ L ∧ sa ∉ L) ∧ cp ≤ 4 + 2 * n ∧ (∀ a ∈ L, Zz S ≤ a ∧ a < Zz S1) ∧ (∀ i : Nat, i < n → ∃ y : Nat, f i = some y ∧ okO S1 15 (some y) = true) ∧ (Zi S1 3 = 0 → chP z (isE L (ZF S1) (K.1 9) (K.1 0) N kq) f g n p0 q0 bb b1)
section RDL
variable {K : Ky} {T N kq z n cp p0 q0 bb b1 e x pp1 pp2 ns vv b2 N1 : Nat} {S S1 S2 : Sg} {fs : List Value} {X : Nat → Prop} {sg : Int32}
/-- one exp more -/
theorem rstep (hX : e < Zz S → X e) (hl : fs.length = 14) (h9 : fs[9]? = some .null) (h10 : fs[10]? = some .null) (h11 : fs[11]? = some (.int (nI 0))) (hR : RD K N kq z S S1 e fs n cp p0 q0 bb b1) (hg : GR X S S1) (hz1 : ∀ a ∈ ZL S1, a < Zz S1) (z2 : RZ S2 T pp2 ns vv b2) (g2 : GR nX S1 S2) (hx : Zz S1 ≤ x ∧ x < Zz S2 ∧ ∃ vs : List Value, ZF S2 x = .inr (15, vs)) (hxE : Zi S2 3 = 0 → isE (iv (Zz S1) (Zz S2)) (ZF S2) (K.1 9) (K.1 0) N1 kq x pp1 pp2 b1 b2) (hN : N1 ≤ N) (hs : Zi S2 3 = 0 → q0 < pp1 ∧ ∃ s : Nat, sg = nI s ∧ ((s = 0 ∧ z = 0) ∨ (q0 ≤ s ∧ s < pp1))) (hn : n ≤ 3000) (r1 : Zz S2 + 2 ≤ K.2.1) (r2 : Zn S2 + 8 + 4 * n ≤ K.2.2) : Rt (f_add K S2 (some e) (some x) sg) (fun S3 _ => ∃ cp3 : Nat, RD K N kq z S S3 e fs (n + 1) cp3 p0 pp2 bb b2 ∧ GR X S S3 ∧ RZ S3 T pp2 ns vv b2 ∧ Zi S3 = Zi S2 ∧ Zz S3 ≤ Zz S2 + 2 ∧ Zn S3 + 4 * cp ≤ Zn S2 + 4 * cp3 ∧ cp ≤ cp3) := by
  obtain ⟨f, g, L, fs1, he1, hF1, heL, hrow, hcp, hL, hy, hch⟩ := hR
  have hez := hz1 e he1
  have he2 := g2.in he1
  have hF2 : ZF S2 e = .inr (15, fs1) := (g2.2.2.1 e hez (fun q => q)).trans hF1
  have h12 := g2.2.2.2.2.1.1
  have h01 := hg.2.2.2.2.1.1
  have hl1 : fs1.length = 14 := by
    rcases hrow with ⟨_, _, q⟩ | ⟨la, sa, q, _⟩
    · rw [q]; exact hl
    · rw [q, List.length_set, List.length_set, List.length_set]; exact hl
  have h111 : fs1[11]? = some (.int (nI n)) := by
    rcases hrow with ⟨q0, _, q⟩ | ⟨la, sa, q, _⟩
    · rw [q, q0]; exact h11
    · rw [q, List.getElem?_set_self (by rw [List.length_set, List.length_set, hl]; decide)]
  have hxo : okO S2 15 (some x) = true := by
    obtain ⟨vs, hv⟩ := hx.2.2
    exact okO_mk ((g2.2.2.2.1 x).mpr (Or.inr ⟨hx.1, hx.2.1⟩)) hv
  have hy2 : ∀ i : Nat, i < n → ∃ y : Nat, f i = some y ∧ okO S2 15 (some y) = true := fun i hi => by
    obtain ⟨y, y1, y2⟩ := hy i hi
    obtain ⟨y3, vs, y4⟩ := okO_of y2
    exact ⟨y, y1, okO_mk (g2.in y3) ((g2.2.2.1 y (hz1 y y3) (fun q => q)).trans y4)⟩
  -- cells that add may write
  let Y : Nat → Prop := fun b => b = e ∨ fs1[9]? = some (.ref b) ∨ fs1[10]? = some (.ref b)
  have hrow2 : (n = 0 ∧ cp = 0 ∧ fs1[9]? = some .null) ∨ (∃ la sa : Nat, fs1[9]? = some (.ref la) ∧ fs1[10]? = some (.ref sa) ∧ rwS K S2 la sa cp f g ∧ n ≤ cp ∧ 1 ≤ n ∧ Y la ∧ Y sa) := by
    rcases hrow with ⟨q1, q2, q3⟩ | ⟨la, sa, q1, q2, q3, q4, q5, q6, q7, q8⟩
    · exact Or.inl ⟨q1, q2, by rw [q3]; exact h9⟩
    · have e9 : fs1[9]? = some (.ref la) := by rw [q1, List.getElem?_set_ne (by decide), List.getElem?_set_ne (by decide), List.getElem?_set_self (by rw [hl]; decide)]
      have e10 : fs1[10]? = some (.ref sa) := by rw [q1, List.getElem?_set_ne (by decide), List.getElem?_set_self (by rw [List.length_set, hl]; decide)]
      obtain ⟨t1, t2, t3, t4⟩ := q2
      exact Or.inr ⟨la, sa, e9, e10, ⟨g2.in t1, g2.in t2, (g2.2.2.1 la (hz1 _ t1) (fun q => q)).trans t3, (g2.2.2.1 sa (hz1 _ t2) (fun q => q)).trans t4⟩, q4, q3, Or.inr (Or.inl e9), Or.inr (Or.inr e10)⟩
  -- such a cell is no closed one
  have hYL : ∀ b : Nat, Y b → b ∉ L ∧ b < Zz S1 ∧ (b = e ∨ Zz S ≤ b) := fun b hb => by
    rcases hb with rfl | hb | hb
    · exact ⟨heL, hez, Or.inl rfl⟩
    · rcases hrow with ⟨q1, q2, q3⟩ | ⟨la, sa, q1, q2, q3, q4, q5, q6, q7, q8⟩
      · rw [q3, h9] at hb; cases hb
      · rw [q1, List.getElem?_set_ne (by decide), List.getElem?_set_ne (by decide), List.getElem?_set_self (by rw [hl]; decide)] at hb
        cases hb; exact ⟨q7, hz1 _ q2.1, Or.inr q5⟩
    · rcases hrow with ⟨q1, q2, q3⟩ | ⟨la, sa, q1, q2, q3, q4, q5, q6, q7, q8⟩
      · rw [q3, h10] at hb; cases hb
      · rw [q1, List.getElem?_set_ne (by decide), List.getElem?_set_self (by rw [List.length_set, hl]; decide)] at hb
        cases hb; exact ⟨q8, hz1 _ q2.2.1, Or.inr q6⟩
  refine Rt.mo (add_ (X := Y) z2.2.2.2.2 he2 hF2 hl1 h111 (by omega) hxo (Or.inl rfl) hrow2 hy2 hcp r1 r2) (fun S3 _ q => ?_)
  obtain ⟨la, sa, cp3, f2, g3, a1, a2, a3, a4, a5, a6, a7, a8, a9, a10, a11, a12, a13, a14⟩ := q
  have h23 := a2.2.2.2.2.1.1
  have hne : ∀ {b : Nat} {r : ClassId × vp_A}, ZF S3 b = .inl r → b ≠ e := fun hb q => by rw [q, a3] at hb; cases hb
  have hXX : ∀ b : Nat, b < Zz S → Y b → X b := fun b hb q => by
    rcases (hYL b q).2.2 with rfl | h
    · exact hX hb
    · omega
  have hbase : ∀ {b : Nat}, (Y b ∨ Zz S2 ≤ b) → b ≠ e → Zz S ≤ b ∧ b ∉ L ++ iv (Zz S1) (Zz S2) := fun {b} h hne => by
    rcases h with h | h
    · obtain ⟨c1, c2, c3⟩ := hYL b h
      refine ⟨c3.resolve_left hne, fun q => ?_⟩
      rcases List.mem_append.mp q with q | q
      · exact c1 q
      · have := (iv_m.mp q).1; omega
    · refine ⟨by omega, fun q => ?_⟩
      rcases List.mem_append.mp q with q | q
      · have := (hL b q).2; omega
      · have := (iv_m.mp q).2; omega
  have hcl : ∀ b ∈ L ++ iv (Zz S1) (Zz S2), ZF S3 b = ZF S2 b := fun b hb => by
    refine a2.2.2.1 b ?_ (fun q => ?_)
    · rcases List.mem_append.mp hb with q | q
      · have := (hL b q).2; omega
      · exact (iv_m.mp q).2
    · obtain ⟨c1, c2, _⟩ := hYL b q
      rcases List.mem_append.mp hb with q | q
      · exact c1 q
      · have := (iv_m.mp q).1; omega
  refine ⟨cp3, ⟨f2, g3, L ++ iv (Zz S1) (Zz S2), _, a2.in he2, a3, fun q => ?_, Or.inr ⟨la, sa, ?_, a4, by omega, a5, (hbase a11 (hne a4.2.2.1)).1, (hbase a12 (hne a4.2.2.2)).1, (hbase a11 (hne a4.2.2.1)).2, (hbase a12 (hne a4.2.2.2)).2⟩, by omega, fun a ha => ?_, fun i hi => ?_, fun q3 => ?_⟩, (hg.n g2).tr a2 hXX, ?_, a1, a13, a14, a7⟩
  · rcases List.mem_append.mp q with q | q
    · exact heL q
    · have := (iv_m.mp q).1; omega
  · rcases hrow with ⟨_, _, q⟩ | ⟨la1, sa1, q, _⟩
    · rw [q]
    · rw [q, set3]
  · rcases List.mem_append.mp ha with q | q
    · have := hL a q; exact ⟨this.1, by omega⟩
    · have := iv_m.mp q; exact ⟨by omega, by omega⟩
  · have key : ∀ {y : Nat}, okO S2 15 (some y) = true → okO S3 15 (some y) = true := fun {y} h => by
      obtain ⟨y1, vs, y2⟩ := okO_of h
      by_cases ey : y = e
      · subst ey; exact okO_mk (a2.in y1) a3
      · refine okO_mk (a2.in y1) ((a2.2.2.1 y (z2.2.2.2.2 y y1) (fun q => ?_)).trans y2)
        rcases q with q | q | q
        · exact ey q
        · rcases hrow2 with ⟨_, _, w⟩ | ⟨la1, sa1, w1, w2, w3, _⟩
          · rw [w] at q; cases q
          · rw [w1] at q; cases q; exact ne_or y2 w3.2.2.1 rfl
        · rcases hrow2 with ⟨w0, _, w⟩ | ⟨la1, sa1, w1, w2, w3, _⟩
          · rcases hrow with ⟨_, _, w5⟩ | ⟨_, _, _, _, w5, _⟩
            · rw [w5, h10] at q; cases q
            · omega
          · rw [w2] at q; cases q; exact ne_or y2 w3.2.2.2 rfl
    by_cases ei : i = n
    · subst ei; exact ⟨x, a9, key hxo⟩
    · obtain ⟨y, y1, y2⟩ := hy2 i (by omega)
      exact ⟨y, (a8 i (by omega)).1.trans y1, key y2⟩
  · have q2 : Zi S2 3 = 0 := by rw [← a1]; exact q3
    have q1 : Zi S1 3 = 0 := g2.2.2.2.2.2 q2
    obtain ⟨c1, s, c2, c3⟩ := hs q2
    have hx1 : exS L (ZF S1) (L ++ iv (Zz S1) (Zz S2)) (ZF S3) := fun b hb => ⟨List.mem_append_left _ hb, (hcl b (List.mem_append_left _ hb)).trans (g2.2.2.1 b (hL b hb).2 (fun q => q))⟩
    have hx2 : exS (iv (Zz S1) (Zz S2)) (ZF S2) (L ++ iv (Zz S1) (Zz S2)) (ZF S3) := fun b hb => ⟨List.mem_append_right _ hb, hcl b (List.mem_append_right _ hb)⟩
    exact chP_add (chP_im (fun x p q b c w => isE_im hx1 _ (Nat.le_refl _) w) (hch q1)) a8 a9 (a10.trans c2) c1 (isE_im hx2 _ hN (hxE q2)) c3
  · exact ⟨⟨by rw [a1]; exact z2.1.1, z2.1.2.1, z2.1.2.2.1, by rw [a2.2.1.1]; exact z2.1.2.2.2⟩, by rw [a1]; exact z2.2.1, by rw [a1]; exact z2.2.2.1, by rw [a1]; exact z2.2.2.2.1, a2.lt z2.2.2.2.2⟩
end RDL
