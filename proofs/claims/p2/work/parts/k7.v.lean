section EDG
variable {R : yR} {Pz : Int32 → Prop} {c nv : Nat} {S : Sg}
/-- while items' fields from 19 on are told: the table g stays -/
def EI (R : yR) (Pz : Int32 → Prop) (c nv : Nat) (S : Sg) (g : Nat → Int32) (S1 : Sg) : Prop := TS R c nv S1 ∧ ITA R S1 ∧ ROW R S1 ∧ WI R S S1 ∧ Zr S1 20 = g ∧ F20 R Pz S1
theorem F20.w {S1 : Sg} {i k : Nat} {gs : List Value} {v : Value} (h : F20 R Pz S1) (hF : ZF S1 (R.ws i) = .inr (16, gs)) (hl : gs.length = 22) (hv : k ≠ 20 ∨ ∃ u : Int32, v = .int u ∧ Pz u) : F20 R Pz (UF S1 (R.ws i) (.inr (16, gs.set k v))) := fun a ha => by
  obtain ⟨fs, u, h1, h2, h3⟩ := h a ha
  by_cases e : R.ws a = R.ws i
  · rw [e] at h1 ⊢
    have ee : gs = fs := (Prod.mk.inj (Sum.inr.inj (hF.symm.trans h1))).2
    subst ee
    by_cases ek : k = 20
    · subst ek
      rcases hv with hv | ⟨u2, hv, hv2⟩
      · exact absurd rfl hv
      · exact ⟨_, u2, ZF_s, by rw [List.getElem?_set_self (by rw [hl]; decide), hv], hv2⟩
    · exact ⟨_, u, ZF_s, by rw [List.getElem?_set_ne ek]; exact h2, h3⟩
  · exact ⟨fs, u, (ZF_n e).trans h1, h2, h3⟩
theorem EI.w (hD : RDI R) {g : Nat → Int32} {S1 : Sg} (h : EI R Pz c nv S g S1) {i k : Nat} (hi : i < R.im) (hk : wF k) (v : Value) (hv : k ≠ 20 ∨ ∃ u : Int32, v = .int u ∧ Pz u) : ∃ gs : List Value, ZF S1 (R.ws i) = .inr (16, gs) ∧ gs.length = 22 ∧ pV S1 16 (some (R.ws i)) k v = some (UF S1 (R.ws i) (.inr (16, gs.set k v))) ∧ EI R Pz c nv S g (UF S1 (R.ws i) (.inr (16, gs.set k v))) := by
  obtain ⟨h1, h2, h3, h4, h5, h6⟩ := h
  obtain ⟨gs, g1, g2, g3, g4, g5, g6⟩ := itw_ hD h1 hi hk v
  exact ⟨gs, g1, g2, g3, g4, g5 h2, g6 h3, h4.w hi hk g1, h5, h6.w g1 g2 hv⟩
theorem RDI.lt (hD : RDI R) {i j : Nat} (hij : i < j) (hj : j < R.im) : R.ws i < R.ws j := by
  obtain ⟨_, ⟨z1, _⟩, _⟩ := hD.2.2.2.2 i (by omega)
  have := (iv_m.mp z1).2
  have := (hD.2.2.1 (i + 1) j (by omega) (by omega)).2
  omega
/-- the first k items have their end told -/
def EF (R : yR) (g : Nat → Int32) (k : Nat) (S1 : Sg) : Prop := ∀ a : Nat, a < k → ∃ (fs : List Value) (v : Int32), ZF S1 (R.ws a) = .inr (16, fs) ∧ fs[19]? = some (.int 0) ∧ fs[21]? = some (.int v) ∧ (v = 0 ∨ v = 1) ∧ (v = 0 → noC R.im g a)
theorem EF.w (hD : RDI R) {g : Nat → Int32} {S1 : Sg} {i : Nat} {x : va_E} (hi : i < R.im) (h : EF R g i S1) : EF R g i (UF S1 (R.ws i) x) := fun a ha => by
  obtain ⟨fs, v, h1, h2⟩ := h a ha
  exact ⟨fs, v, (ZF_n (fun e => by have := hD.lt ha hi; omega)).trans h1, h2⟩
theorem edl205 (hD : RDI R) {g : Nat → Int32} {P : Sg → Unit → Prop} {k175 : Sg → Int32 → Option (Sg × Unit)} {i : Nat} (hi : i < R.im) (hk : ∀ S2 : Sg, EI R Pz c nv S g S2 → EF R g (i + 1) S2 → Rt (k175 S2 (nI (i + 1))) P) : ∀ (m j : Nat) {S1 : Sg}, R.im < j + m → j ≤ R.im → EI R Pz c nv S g S1 → EF R g i S1 → (∃ (fs : List Value) (v : Int32), ZF S1 (R.ws i) = .inr (16, fs) ∧ fs[21]? = some (.int v) ∧ (v = 0 ∨ v = 1) ∧ (v = 0 → ¬ hB g i i ∧ ∀ b : Nat, b < j → hB g i b → ¬ hB g b b)) → Rt (f_endless_205 R.K k175 m S1 (nI i) (nI j)) P
  | 0, j, _, h1, h2, _, _, _ => by omega
  | m + 1, j, S1, h1, h2, q1, f1, hd => by
    have hD0 := hD.1
    obtain ⟨fs, v, d1, d2, d3, d4⟩ := hd
    unfold f_endless_205
    rw [q1.1.i12 hD]
    refine Rt.it (fun w9 => ?_) (fun w9 => ?_)
    · have e : j = R.im := by have := (nI_leI (a := R.im) (b := j) (by omega) (by omega)).mp w9; omega
      subst e
      obtain ⟨gs, g1, g2, g3, g4⟩ := q1.w hD hi (k := 19) (Or.inl rfl) (.int 0) (Or.inl (by decide))
      have ee : gs = fs := (Prod.mk.inj (Sum.inr.inj (g1.symm.trans d1))).2
      subst ee
      refine Rt.bd (hD.it q1.1 hi) (Rt.bd g3 ?_)
      rw [nI_1]
      refine hk _ g4 (fun a ha => ?_)
      by_cases e : a = i
      · subst e
        exact ⟨_, v, ZF_s, by rw [List.getElem?_set_self (by rw [g2]; decide)], by rw [List.getElem?_set_ne (by decide)]; exact d2, d3, d4⟩
      · exact (f1.w hD hi (x := .inr (16, gs.set 19 (.int 0)))) a (by omega)
    have hlt : j < R.im := by
      rcases Nat.lt_or_ge j R.im with z | z
      · exact z
      · exact absurd (nI_le z (by omega)) w9
    unfold f_endless_251
    rw [nI_ij70, nI_ij70, nI_1]
    refine Rt.bd (rI_n (show 70 * i + j < rlen 20 by show _ < 4900; omega) (by decide)) ?_
    rw [q1.2.2.2.2.1]
    have hsame : (¬ hB g i j ∨ ¬ hB g j j) → Rt (f_endless_205 R.K k175 m S1 (nI i) (nI (j + 1))) P := fun hn => edl205 hD hi hk m (j + 1) (by omega) (by omega) q1 f1 ⟨fs, v, d1, d2, d3, fun z => ⟨(d4 z).1, fun b hb q => by
      by_cases e : b = j
      · subst e; exact hn.elim (fun z => absurd q z) id
      · exact (d4 z).2 b (by omega) q⟩⟩
    refine Rt.it (fun e => hsame (Or.inl (fun q => q e))) (fun e => ?_)
    refine Rt.bd (rI_n (show 70 * j + j < rlen 20 by show _ < 4900; omega) (by decide)) ?_
    rw [q1.2.2.2.2.1]
    refine Rt.it (fun e2 => hsame (Or.inr (fun q => q e2))) (fun e2 => ?_)
    obtain ⟨gs, g1, g2, g3, g4⟩ := q1.w hD hi (k := 21) (Or.inr (Or.inr rfl)) (.int 1) (Or.inl (by decide))
    refine Rt.bd (hD.it q1.1 hi) (Rt.bd (v := UF S1 (R.ws i) (.inr (16, gs.set 21 (.int 1)))) (by unfold pZ; rw [if_pos (Or.inr rfl)]; exact g3) ?_)
    exact edl205 hD hi hk m (j + 1) (by omega) (by omega) g4 (f1.w hD hi) ⟨_, 1, ZF_s, by rw [List.getElem?_set_self (by rw [g2]; decide)], Or.inr rfl, fun z => absurd z (by decide)⟩
theorem edl175 (hD : RDI R) {g : Nat → Int32} (hz : bz R.im g) : ∀ (m i : Nat) {S1 : Sg}, R.im < i + m → i ≤ R.im → EI R Pz c nv S g S1 → EF R g i S1 → Rt (f_endless_175 R.K m S1 (nI i)) (fun S2 _ => EI R Pz c nv S g S2 ∧ EF R g R.im S2)
  | 0, i, _, h1, h2, _, _ => by omega
  | m + 1, i, S1, h1, h2, q1, f1 => by
    have hD0 := hD.1
    unfold f_endless_175
    rw [q1.1.i12 hD]
    refine Rt.it (fun w9 => ?_) (fun w9 => ?_)
    · have e : i = R.im := by have := (nI_leI (a := R.im) (b := i) (by omega) (by omega)).mp w9; omega
      subst e
      exact Rt.rt ⟨q1, f1⟩
    have hlt : i < R.im := by
      rcases Nat.lt_or_ge i R.im with z | z
      · exact z
      · exact absurd (nI_le z (by omega)) w9
    rw [nI_ij70]
    obtain ⟨gs, g1, g2, g3, g4⟩ := q1.w hD hlt (k := 21) (Or.inr (Or.inr rfl)) (.int (g (70 * i + i))) (Or.inl (by decide))
    refine Rt.bd (hD.it q1.1 hlt) (Rt.bd (rI_n (show 70 * i + i < rlen 20 by show _ < 4900; omega) (by decide)) ?_)
    rw [q1.2.2.2.2.1]
    refine Rt.bd (v := UF S1 (R.ws i) (.inr (16, gs.set 21 (.int (g (70 * i + i)))))) (by unfold pZ; rw [if_pos (hz i i hlt hlt)]; exact g3) ?_
    exact edl205 hD hlt (fun S2 q2 f2 => edl175 hD hz m (i + 1) (by omega) (by omega) q2 f2) bigN 0 (by unfold bigN; omega) (Nat.zero_le _) g4 (f1.w hD hlt) ⟨_, _, ZF_s, by rw [List.getElem?_set_self (by rw [g2]; decide)], hz i i hlt hlt, fun z => ⟨fun q => q z, fun b hb => absurd hb (by omega)⟩⟩
/-- endless -/
theorem edl_ (hD : RDI R) (h : TS R c nv S) (hA : ITA R S) (hR : ROW R S) (hF : F20 R Pz S) : Rt (f_endless R.K S) (fun S2 _ => ∃ g : Nat → Int32, wC R.im R.im g ∧ (∀ a b : Nat, a < R.im → b < R.im → eD R S g a b) ∧ EI R Pz c nv S g S2 ∧ EF R g R.im S2) := by
  have hD0 := hD.1
  refine edlW hD h hA (fun g hw hd => ?_)
  exact (edl175 hD (fun a b ha hb => (hd a b ha hb).1) bigN 0 (by unfold bigN; omega) (Nat.zero_le _) ⟨h.u20, fun k hk => (hA k hk).vz (p := 0) (q := 0) (S2 := Ur S 20 g) VZ.u20, hR, WI.u20, Zr_s, hF⟩ (fun a ha => absurd ha (by omega))).mo (fun S2 _ q => ⟨g, hw, hd, q⟩)
end EDG
