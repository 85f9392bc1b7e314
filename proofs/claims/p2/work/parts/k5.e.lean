section TIU
variable {K : Ky} {T e pp vv bb : Nat} {S : Sg}
/-- typeItem, behind its count -/
theorem tit18 {kd : Int32} {S1 : Sg} (hS1 : Ui S1 13 (Zi S1 13 + 1) = S) (h : RZ S T pp 0 vv bb) (hs : Zz S = e + 2) (he : e ∈ ZL S) (hF : ZF S e = .inr (16, itV pp 0 kd 0 0 (e + 1) .null .null .null .null .null .null .null .null 0)) {g1 : Nat → Int32} (hna : e + 1 ∈ ZL S) (hN : ZF S (e + 1) = .inl (K.1 0, 13, .inl g1)) (hkd : kd = 10 ∨ kd = 11) (hk : Zr S 5 pp = kd) (r1 : Zz S + 8 * (T - pp) + 30 ≤ K.2.1) (r2 : Zn S + 120 * (T - pp) + 700 ≤ K.2.2) : Rt (f_typeItem_18 K S1 (some e)) (fun S2 _ => ItP K T S pp e S2) := by
    have hp := h.1.2.1; have hT := h.1.2.2.1
    unfold f_typeItem_18
    refine Rt.bd (v := S) (by rw [← hS1]; rfl) ?_
    have z2 := h
    refine Rt.pi z2 (z2.nx (k := kd) hk (by rcases hkd with w | w <;> rw [w] <;> decide)) (fun S4 g4 z4 i4 => ?_)
    have g04 := g4
    have y4 := g04.2.2.2.1; have x4 := g04.2.2.2.2
    have s4 : St (fun b => b = e) S S4 e (.inr (16, itV pp 0 kd 0 0 (e + 1) .null .null .null .null .null .null .null .null 0)) 0 0 := St.ss ⟨GR.rf, fun _ => rfl, he, hF, Nat.le_refl _, Nat.le_refl _⟩ g04
    -- name and brace, then the loop
    have hend : ∀ (S8 : Sg) (ty vr wr : Value) (zz nn : Nat) (P : Sg → Unit → Prop), St (fun b => b = e) S S8 e (.inr (16, itV pp 0 kd 0 0 (e + 1) wr ty vr .null .null .null .null .null 0)) zz nn → RZ S8 T (pp + 1) 0 vv bb → (∀ (S9 : Sg) (p9 : Nat) (nm : Int32), St (fun b => b = e) S S9 e (.inr (16, itV pp nm kd 0 0 (e + 1) wr ty vr .null .null .null .null .null 0)) zz nn → RZ S9 T p9 0 vv bb → (∀ b : Nat, b ≠ e → ZF S9 b = ZF S8 b) → ZL S9 = ZL S8 → Zz S9 = Zz S8 → pp < p9 → (Zi S9 3 = 0 → nm = nI (pp + 1) ∧ pp + 3 ≤ p9) → Rt (f_typeItem_120 K bigN S9 (some e) 1) P) → Rt (bnd (f_name K S8) fun S17 v18 => (pV S17 16 (some e) 1 (.int v18)).bind fun S19 => bnd (f_take K S19 63) fun S20 v21 => f_typeItem_120 K bigN S20 (some e) 1) P := fun S8 ty vr wr zz nn P s8 z8 kk => by
      refine Rt.bn (name_ z8) (fun S9 r9 q9 => ?_)
      obtain ⟨p9, z9, g9, w1, w2, w3⟩ := q9
      refine Rt.pv (s8.ss g9) z9 (Nat.le_of_ble_eq_true rfl) rfl (fun S10 s10 z10 u10 => ?_)
      refine Rt.bn (take_ z10 (by decide)) (fun S11 _ q11 => ?_)
      obtain ⟨p11, z11, g11, w4, w5, w6⟩ := q11
      refine kk S11 p11 r9 (s10.ss g11) z11 (fun b hb => by rw [g11.2.1, u10.1 b hb, g9.2.1]) (by rw [g11.2.2.1, u10.2.1, g9.2.2.1]) (by rw [g11.2.2.2.1, u10.2.2.1, g9.2.2.2.1]) (by omega) (fun q => ?_)
      obtain ⟨d1, d2, d3⟩ := w3 (by rw [← u10.2.2.2.2.1]; exact g11.1.2.2.2.2.2 q)
      have := (w6 q).2
      exact ⟨d3, by omega⟩
    rcases hkd with hkd | hkd
    · subst hkd
      refine Rt.bd (oI_mk (v := 10) s4.2.2.1 s4.2.2.2.1 rfl) (Rt.ip rfl ?_)
      unfold f_typeItem_57 f_typeItem_79 f_typeItem_101
      refine Rt.nqp (n := 13) s4 z4 (Nat.le_of_ble_eq_true rfl) (by decide) (by omega) (by omega) (fun S5 s5 z5 n5 => ?_)
      have y5 := n5.2.2.2.1; have x5 := s5.2.2.2.2.2
      refine Rt.bd (oI_mk (v := 10) s5.2.2.1 s5.2.2.2.1 rfl) (Rt.ip rfl ?_)
      refine Rt.nqp (n := 13) s5 z5 (Nat.le_of_ble_eq_true rfl) (by decide) (by omega) (by omega) (fun S6 s6 z6 n6 => ?_)
      have y6 := n6.2.2.2.1; have x6 := s6.2.2.2.2.2
      refine Rt.bd (oI_mk (v := 10) s6.2.2.1 s6.2.2.2.1 rfl) (Rt.iq (by decide) ?_)
      refine Rt.pv s6 z6 (Nat.le_of_ble_eq_true rfl) (show va_rf none = .null from rfl) (fun S7 s7 z7 u7 => ?_)
      have e1 : Zz S4 = e + 2 := by omega
      have e2 : Zz S5 = e + 3 := by omega
      rw [e1, e2] at s7
      unfold NR at n5 n6
      rw [e1] at n5; rw [e2] at n6
      refine hend S7 (.ref (e + 3)) .null (.ref (e + 2)) _ _ _ s7 z7 (fun S9 p9 nm s9 z9 f9 l9 q9 hp9 hgd => ?_)
      have y9 : Zz S9 = e + 4 := by rw [q9, u7.2.2.1]; omega
      have x9 := s9.2.2.2.2.2
      have hF9 : ∀ b : Nat, b ≠ e → ZF S9 b = ZF S6 b := fun b hb => by rw [f9 b hb, u7.1 b hb]
      have m2 : e + 2 ∈ ZL S9 := (s9.1.2.2.2.1 _).mpr (Or.inr ⟨by omega, by omega⟩)
      have m3 : e + 3 ∈ ZL S9 := (s9.1.2.2.2.1 _).mpr (Or.inr ⟨by omega, by omega⟩)
      refine tiS (nm := nm) hs r1 r2 bigN (n := 0) (q0 := pp + 1) (by decide) (Or.inl (by decide)) (fun _ => by show T + 1 ≤ p9 + 1000000000000; omega) ⟨fun _ => none, g1, [], ⟨s9.2.2.1, s9.2.2.2.1, rfl, rfl, rfl, rfl⟩, ⟨s9.1.in hna, ?_⟩, ⟨m2, ?_, by omega, List.not_mem_nil⟩, fun a ha => absurd ha List.not_mem_nil, fun q => ⟨by omega, fun i hi => absurd hi (by omega), chT_0, by have := hgd q; omega⟩⟩ ⟨m3, ?_⟩ (s9.1.mo (fun _ _ q => Or.inl q)) z9 hp9 (by omega) (by omega) (fun q => ⟨(hgd q).1, (hgd q).2, by omega, by omega⟩)
      · rw [s9.1.2.2.1 _ (by omega) (by omega)]; exact hN
      · rw [hF9 _ (by omega), n6.1 _ (by omega) (by omega)]; exact n5.2.2.1
      · rw [hF9 _ (by omega)]; exact n6.2.2.1
    · subst hkd
      refine Rt.bd (oI_mk (v := 11) s4.2.2.1 s4.2.2.2.1 rfl) (Rt.iq (by decide) ?_)
      unfold f_typeItem_57 f_typeItem_79 f_typeItem_101
      refine Rt.pv s4 z4 (Nat.le_of_ble_eq_true rfl) (show va_rf none = .null from rfl) (fun S5 s5 z5 u5 => ?_)
      refine Rt.bd (oI_mk (v := 11) s5.2.2.1 s5.2.2.2.1 rfl) (Rt.iq (by decide) ?_)
      refine Rt.pv s5 z5 (Nat.le_of_ble_eq_true rfl) (show va_rf none = .null from rfl) (fun S6 s6 z6 u6 => ?_)
      refine Rt.bd (oI_mk (v := 11) s6.2.2.1 s6.2.2.2.1 rfl) (Rt.ip rfl ?_)
      have y5 := u5.2.2.1; have y6 := u6.2.2.1; have x6 := s6.2.2.2.2.2
      refine Rt.nqp (n := 13) s6 z6 (Nat.le_of_ble_eq_true rfl) (by decide) (by omega) (by omega) (fun S7 s7 z7 n7 => ?_)
      have y7 := n7.2.2.2.1
      have e1 : Zz S6 = e + 2 := by omega
      rw [e1] at s7
      unfold NR at n7
      rw [e1] at n7
      refine hend S7 .null (.ref (e + 2)) .null _ _ _ s7 z7 (fun S9 p9 nm s9 z9 f9 l9 q9 hp9 hgd => ?_)
      have y9 : Zz S9 = e + 3 := by rw [q9]; omega
      have x9 := s9.2.2.2.2.2
      have m2 : e + 2 ∈ ZL S9 := (s9.1.2.2.2.1 _).mpr (Or.inr ⟨by omega, by omega⟩)
      refine tiE (nm := nm) hs r1 r2 bigN (n := 0) (q0 := pp + 1) (by decide) (Or.inl (by decide)) (fun _ => by show T + 1 ≤ p9 + 1000000000000; omega) ⟨fun _ => none, g1, [], ⟨s9.2.2.1, s9.2.2.2.1, rfl, rfl, rfl, rfl⟩, ⟨s9.1.in hna, ?_⟩, ⟨m2, ?_, by omega, List.not_mem_nil⟩, fun a ha => absurd ha List.not_mem_nil, fun q => ⟨by omega, fun i hi => absurd hi (by omega), chV_0, by have := hgd q; omega⟩⟩ (s9.1.mo (fun _ _ q => Or.inl q)) z9 hp9 (by omega) (by omega) (fun q => ⟨(hgd q).1, (hgd q).2, by omega, by omega⟩)
      · rw [s9.1.2.2.1 _ (by omega) (by omega)]; exact hN
      · rw [f9 _ (by omega)]; exact n7.2.2.1
/-- typeItem -/
theorem tit_ {kd : Int32} (h : RZ S T pp 0 vv bb) (hs : Zz S = e + 2) (he : e ∈ ZL S) (hF : ZF S e = .inr (16, itV pp 0 kd 0 0 (e + 1) .null .null .null .null .null .null .null .null 0)) {g1 : Nat → Int32} (hna : e + 1 ∈ ZL S) (hN : ZF S (e + 1) = .inl (K.1 0, 13, .inl g1)) (hkd : kd = 10 ∨ kd = 11) (hk : Zr S 5 pp = kd) (r1 : Zz S + 8 * (T - pp) + 30 ≤ K.2.1) (r2 : Zn S + 120 * (T - pp) + 700 ≤ K.2.2) : Rt (f_typeItem K S (some e)) (fun S2 _ => ItC K T S pp e 13 30 S2) := by
  have hp := h.1.2.1; have hT := h.1.2.2.1
  have hg : ∀ S1 : Sg, PF S S1 → RZ S1 T pp 0 vv bb → Rt (f_typeItem_18 K S1 (some e)) (fun S2 _ => ItP K T (Ui S1 13 (Zi S1 13 + 1)) pp e S2) := fun S1 f1 z1 => tit18 (S := Ui S1 13 (Zi S1 13 + 1)) rfl (z1.cu (Or.inl rfl)) (f1.1.2.2.1.trans hs) (by show e ∈ ZL S1; rw [f1.1.2.1]; exact he) (by show ZF S1 e = _; rw [f1.1.1]; exact hF) (by show e + 1 ∈ ZL S1; rw [f1.1.2.1]; exact hna) (by show ZF S1 (e + 1) = _; rw [f1.1.1]; exact hN) hkd (by show Zr S1 5 pp = _; rw [f1.2.1.1]; exact hk) (by show Zz S1 + 8 * (T - pp) + 30 ≤ _; rw [f1.1.2.2.1]; exact r1) (by show Zn S1 + 120 * (T - pp) + 700 ≤ _; rw [f1.1.2.2.2]; exact r2)
  unfold f_typeItem
  refine Rt.it (fun _ => ?_) (fun w => (hg S PF.rf h).mo (fun S2 _ q => ⟨_, PF.rf.cu (Or.inl rfl), q, fun _ => ⟨w, rfl⟩⟩))
  rw [h.1.1]
  refine Rt.be (fail_ (by omega)) ((hg _ PF.fl h.fl).mo (fun S2 _ q => ⟨_, PF.fl.cu (Or.inl rfl), q, fun z => ?_⟩))
  obtain ⟨_, _, _, _, _, _, g, _⟩ := q
  have := g.2.2.2.2.2 z
  rw [Zi_n (by decide)] at this
  exact absurd this (flS_n0 (by decide))
end TIU
