/-- of all but counters and fault nothing has changed -/
def PF (S S2 : Sg) : Prop := (ZF S2 = ZF S ∧ ZL S2 = ZL S ∧ Zz S2 = Zz S ∧ Zn S2 = Zn S) ∧ (Zr S2 = Zr S ∧ Zl S2 = Zl S ∧ Zq S2 = Zq S ∧ Zf S2 = Zf S) ∧ (∀ j : Nat, j ≠ 3 → j ≠ 4 → j ≠ 13 → j ≠ 14 → Zi S2 j = Zi S j) ∧ (Zi S2 3 = 0 → Zi S 3 = 0)
theorem PF.fl {S : Sg} {wh x : Int32} : PF S (flS S wh x) := ⟨⟨flS_st.2.1, flS_st.1, flS_st.2.2.1, flS_st.2.2.2.1⟩, SS.fl.1.2.1, fun _ a b _ _ => flS_i a b, SS.fl.1.2.2.2.2.2⟩
theorem PF.cu {S S1 : Sg} {k : Nat} {v : Int32} (h : PF S S1) (hk : k = 13 ∨ k = 14) : PF S (Ui S1 k v) := ⟨h.1, h.2.1, fun j a b c d => (Zi_n (by rcases hk with w | w <;> rw [w] <;> assumption)).trans (h.2.2.1 j a b c d), fun q => h.2.2.2 (by rwa [Zi_n (by rcases hk with w | w <;> rw [w] <;> decide)] at q)⟩
theorem PF.rf {S : Sg} : PF S S := ⟨⟨rfl, rfl, rfl, rfl⟩, ⟨rfl, rfl, rfl, rfl⟩, fun _ _ _ _ _ => rfl, id⟩
theorem RZ.cu {S : Sg} {T pp ns vv bb k : Nat} {v : Int32} (h : RZ S T pp ns vv bb) (hk : k = 13 ∨ k = 14) : RZ (Ui S k v) T pp ns vv bb := ⟨⟨(Zi_n (by rcases hk with w | w <;> rw [w] <;> decide)).trans h.1.1, h.1.2⟩, (Zi_n (by rcases hk with w | w <;> rw [w] <;> decide)).trans h.2.1, (Zi_n (by rcases hk with w | w <;> rw [w] <;> decide)).trans h.2.2.1, (Zi_n (by rcases hk with w | w <;> rw [w] <;> decide)).trans h.2.2.2.1, h.2.2.2.2⟩
/-- what an item's reading gives: its counter k, at most mx, has gone up -/
def ItC (K : Ky) (T : Nat) (S : Sg) (pp e k : Nat) (mx : Int32) (S2 : Sg) : Prop := ∃ S1 : Sg, PF S S1 ∧ ItP K T S1 pp e S2 ∧ (Zi S2 3 = 0 → Zi S k ≠ mx ∧ S1 = Ui S k (Zi S k + 1))
section FND
variable {K : Ky} {T e pp ns vv bb : Nat} {S : Sg}
/-- function, behind its count -/
theorem fun18 {S1 : Sg} (hS1 : Ui S1 14 (Zi S1 14 + 1) = S) (h : RZ S T pp ns vv bb) (hs : Zz S = e + 2) (he : e ∈ ZL S) (hF : ZF S e = .inr (16, itV pp 0 12 0 0 (e + 1) .null .null .null .null .null .null .null .null 0)) {g1 : Nat → Int32} (hna : e + 1 ∈ ZL S) (hN : ZF S (e + 1) = .inl (K.1 0, 13, .inl g1)) (hk : Zr S 5 pp = 12) (r1 : Zz S + 8 * (T - pp) + 30 ≤ K.2.1) (r2 : Zn S + 120 * (T - pp) + 700 ≤ K.2.2) : Rt (f_function_18 K S1 (some e)) (fun S2 _ => ItP K T S pp e S2) := by
    have hp := h.1.2.1; have hT := h.1.2.2.1
    unfold f_function_18
    refine Rt.bd (v := S) (by rw [← hS1]; rfl) ?_
    have z2 := h
    refine Rt.pi z2 (z2.nx (k := 12) hk (by decide)) (fun S4 g4 z4 i4 => ?_)
    have g04 := g4
    have s4 : St (fun b => b = e) S S4 e (.inr (16, itV pp 0 12 0 0 (e + 1) .null .null .null .null .null .null .null .null 0)) 0 0 := St.ss ⟨GR.rf, fun _ => rfl, he, hF, Nat.le_refl _, Nat.le_refl _⟩ g04
    have y1 := g04.2.2.2.1; have y2 := g04.2.2.2.2
    -- its rows, against S4
    have s44 : St (fun b => b = e) S4 S4 e (.inr (16, itV pp 0 12 0 0 (e + 1) .null .null .null .null .null .null .null .null 0)) 0 0 := ⟨GR.rf, fun _ => rfl, s4.2.2.1, s4.2.2.2.1, Nat.le_refl _, Nat.le_refl _⟩
    refine fnA_ (S := S4) (by omega) SS.rf s44 z4 rfl (by omega) (by omega) (fun S3 hA z3 => ?_)
    obtain ⟨a1, a2, a3, a4, a5, a6, a7, a8, a9⟩ := hA
    refine Rt.bn (name_ z3) (fun S5 r5 q5 => ?_)
    obtain ⟨p5, z5, g5, w1, w2, w3⟩ := q5
    refine Rt.pv (a1.ss g5) z5 (Nat.le_of_ble_eq_true rfl) rfl (fun S7 s7 z7 u7 => ?_)
    have hzr : Zr S7 = Zr S := by rw [s7.1.2.1.1, g04.1.2.1.1]
    have e7 : Zz S7 = e + 7 := u7.2.2.1.trans (g5.2.2.2.1.trans a2)
    have x7 := s7.2.2.2.2.2
    have hx : ∀ b : Nat, b ≠ e → ZF S7 b = ZF S3 b := fun b hb => by rw [u7.1 b hb, g5.2.1]
    have mm : ∀ b : Nat, b ∈ ZL S3 → b ∈ ZL S7 := fun b hb => by rw [u7.2.1, g5.2.2.1]; exact hb
    have hg7 : GR (fun b => b = e ∨ b = e + 1) S S7 := (g04.1.mo (fun _ _ q => q.elim)).tr s7.1 (fun b _ q => Or.inl q)
    have hB : FB K S S7 e pp 0 p5 (pp + 1) 0 r5 := by
      refine ⟨⟨fun _ => none, g1, [], ⟨s7.2.2.1, s7.2.2.2.1, rfl, rfl, rfl, rfl⟩, ⟨s7.1.in (by rw [g04.2.2.1]; exact hna), ?_⟩, ⟨mm _ a5.1, (hx _ (by omega)).trans a5.2, by omega, List.not_mem_nil⟩, fun a ha => absurd ha List.not_mem_nil, fun q => ⟨by omega, fun i hi => absurd hi (by omega), chT_0, ?_⟩⟩, hg7, ⟨mm _ a6.1, (hx _ (by omega)).trans a6.2⟩, ⟨mm _ a7.1, (hx _ (by omega)).trans a7.2⟩, ⟨mm _ a9.1, (hx _ (by omega)).trans a9.2⟩, fun _ => 0, mm _ a8.1, (hx _ (by omega)).trans a8.2, fun q => ?_⟩
      · rw [hx _ (by omega), a4 _ (by omega) (by omega), g04.2.1]; exact hN
      · have := w3 (by rw [← u7.2.2.2.2.1]; exact q); omega
      · obtain ⟨c1, c2, c3⟩ := w3 (by rw [← u7.2.2.2.2.1]; exact q)
        exact ⟨c3, by omega, by omega, fun i hi => absurd hi (by omega)⟩
    refine Rt.bn (takes_ z7 (by decide)) (fun S8 r8 q8 => ?_)
    obtain ⟨p8, z8, g8, i8, q8⟩ := q8
    have hp8 : p5 ≤ p8 := by rcases q8 with ⟨_, w, _⟩ | ⟨_, w, _⟩ <;> omega
    have hB8 := hB.ss g8 hp8
    have y8 := g8.2.2.2.1; have m8 := g8.2.2.2.2
    have hno := fn103 hs r1 r2 hB8 z8 (by omega) (by omega) (by omega)
    refine Rt.it (fun _ => hno) (fun hr => ?_)
    obtain ⟨hFI, hg, m3, m4, m6, gl, m5, f5, h7⟩ := hB8
    obtain ⟨f, g0, L, ⟨h1, h2', h3, h4, h5, h6⟩, ⟨h7', h8⟩, ⟨h9, h10, h11, h12⟩, h13, h14⟩ := hFI
    refine Rt.bn (tlv_ (lf := e + 5) (pp := pp) rfl rfl rfl (by omega) z8 h1 m5 h2' f5) (fun S9 _ q9 => ?_)
    obtain ⟨p9, lv, gl9, z9, g9, ⟨y9, m9⟩, c9, l9, k9, t9⟩ := q9
    have hz := z8.2.2.2.2
    have hx9 : ∀ b : Nat, b ≠ e → b ≠ e + 5 → b < Zz S8 → ZF S9 b = ZF S8 b := fun b e1 e2 e3 => g9.2.2.1 b e3 (fun w => by rcases w with w | w <;> contradiction)
    refine fn103 (lv := lv) (q0 := pp + 1) hs r1 r2 ⟨⟨f, g0, L, ⟨g9.in h1, c9, rfl, rfl, rfl, rfl⟩, ⟨g9.in h7', (hx9 _ (by omega) (by omega) (hz _ h7')).trans h8⟩, ⟨g9.in h9, (hx9 _ (by omega) (by omega) (hz _ h9)).trans h10, h11, h12⟩, by rw [y9]; exact h13, fun q => ?_⟩, hg.tr g9 (fun b hb q => by rcases q with q | q; exact Or.inl q; omega), ⟨g9.in m3.1, (hx9 _ (by omega) (by omega) (hz _ m3.1)).trans m3.2⟩, ⟨g9.in m4.1, (hx9 _ (by omega) (by omega) (hz _ m4.1)).trans m4.2⟩, ⟨g9.in m6.1, (hx9 _ (by omega) (by omega) (hz _ m6.1)).trans m6.2⟩, gl9, g9.in m5, l9, fun q => ?_⟩ z9 (by omega) (by omega) (by omega)
    · have q8 := g9.2.2.2.2.2 q
      obtain ⟨c1, c2, c3, c4⟩ := h14 q8
      exact ⟨c1, fun i hi => absurd hi (by omega), chT_0, by omega⟩
    · have q8 := g9.2.2.2.2.2 q
      obtain ⟨d1, d2, d3, d4⟩ := h7 q8
      obtain ⟨t1, t2⟩ := t9 q
      exact ⟨d1, by omega, t1, t2⟩
/-- function -/
theorem fun_ (h : RZ S T pp ns vv bb) (hs : Zz S = e + 2) (he : e ∈ ZL S) (hF : ZF S e = .inr (16, itV pp 0 12 0 0 (e + 1) .null .null .null .null .null .null .null .null 0)) {g1 : Nat → Int32} (hna : e + 1 ∈ ZL S) (hN : ZF S (e + 1) = .inl (K.1 0, 13, .inl g1)) (hk : Zr S 5 pp = 12) (r1 : Zz S + 8 * (T - pp) + 30 ≤ K.2.1) (r2 : Zn S + 120 * (T - pp) + 700 ≤ K.2.2) : Rt (f_function K S (some e)) (fun S2 _ => ItC K T S pp e 14 40 S2) := by
  have hp := h.1.2.1; have hT := h.1.2.2.1
  have hg : ∀ S1 : Sg, PF S S1 → RZ S1 T pp ns vv bb → Rt (f_function_18 K S1 (some e)) (fun S2 _ => ItP K T (Ui S1 14 (Zi S1 14 + 1)) pp e S2) := fun S1 f1 z1 => fun18 (S := Ui S1 14 (Zi S1 14 + 1)) rfl (z1.cu (Or.inr rfl)) (f1.1.2.2.1.trans hs) (by show e ∈ ZL S1; rw [f1.1.2.1]; exact he) (by show ZF S1 e = _; rw [f1.1.1]; exact hF) (by show e + 1 ∈ ZL S1; rw [f1.1.2.1]; exact hna) (by show ZF S1 (e + 1) = _; rw [f1.1.1]; exact hN) (by show Zr S1 5 pp = _; rw [f1.2.1.1]; exact hk) (by show Zz S1 + 8 * (T - pp) + 30 ≤ _; rw [f1.1.2.2.1]; exact r1) (by show Zn S1 + 120 * (T - pp) + 700 ≤ _; rw [f1.1.2.2.2]; exact r2)
  unfold f_function
  refine Rt.it (fun _ => ?_) (fun w => (hg S PF.rf h).mo (fun S2 _ q => ⟨_, PF.rf.cu (Or.inr rfl), q, fun _ => ⟨w, rfl⟩⟩))
  rw [h.1.1]
  refine Rt.be (fail_ (by omega)) ((hg _ PF.fl h.fl).mo (fun S2 _ q => ⟨_, PF.fl.cu (Or.inr rfl), q, fun z => ?_⟩))
  obtain ⟨_, _, _, _, _, _, g, _⟩ := q
  have := g.2.2.2.2.2 z
  rw [Zi_n (by decide)] at this
  exact absurd this (flS_n0 (by decide))
end FND
