section SZS
variable {R : yR} {Pz : Int32 → Prop} {c nv : Nat} {S : Sg} {g : Nat → Int32}
theorem SM.fl {S1 : Sg} {wh x : Int32} : SM R S1 (flS S1 wh x) := ⟨fun j s _ q => by
  obtain ⟨fs, q1, q2⟩ := q
  exact ⟨fs, by rw [flS_st.2.1]; exact q1, q2⟩, fun y kd ix o q => (VX.fl (R := R) (X := nX) (S := S1) (wh := wh) (x := x)).2.2.2.1 y kd ix o q⟩
/-- the items are not endless, and not too large -/
def SZD (R : yR) (g : Nat → Int32) (k : Nat) (S1 : Sg) : Prop := ∀ a : Nat, a < k → R.ik a ≠ 12 → noC R.im g a ∧ ∃ s : Nat, s ≤ 16 ∧ iSz R S1 a s
theorem SZD.mo {k : Nat} {S1 S2 : Sg} (hk : k ≤ R.im) (h : SM R S1 S2) (q : SZD R g k S1) : SZD R g k S2 := fun a ha hik => by
  obtain ⟨q1, s, q2, q3⟩ := q a ha hik
  exact ⟨q1, s, q2, h.1 a s (by omega) q3⟩
theorem SI.fl {S1 : Sg} (h : SI R Pz c nv S g S1) {wh x : Int32} : SI R Pz c nv S g (flS S1 wh x) := by
  obtain ⟨⟨h1, h2, h3, h4, h5, h7⟩, h6⟩ := h
  have hV : VX R (Xo R 0 0) S1 (flS S1 wh x) := VX.fl
  exact ⟨⟨h1.fl, h2.vx hV, h3.vx hV, h4.fl, by rw [flS_fr.2.1]; exact h5, fun a ha => by rw [flS_st.2.1]; exact h7 a ha⟩, fun a ha => by
    obtain ⟨fs, s, v, k1, k2, k3, k4, k5, k6, k7⟩ := h6 a ha
    exact ⟨fs, s, v, by rw [flS_st.2.1]; exact k1, k2, k3, k4, k5, k6, fun z => (k7 z).mo SM.fl⟩⟩
/-- sizes, behind endless -/
theorem szs6 (hD : RDI R) (hc : c ≤ 1990) (hW : wC R.im R.im g) (hE : ∀ a b : Nat, a < R.im → b < R.im → eD R S g a b) : ∀ (m k : Nat) {S1 : Sg}, R.im < k + m → k ≤ R.im → SI R Pz c nv S g S1 → (Zi S1 3 = 0 → SZD R g k S1) → Rt (f_sizes_6 R.K m S1 (nI k)) (fun S2 _ => SI R Pz c nv S g S2 ∧ (Zi S2 3 = 0 → SZD R g R.im S2))
  | 0, k, _, h1, h2, _, _ => by omega
  | m + 1, k, S1, h1, h2, q1, hd => by
    have hD0 := hD.1
    unfold f_sizes_6 f_sizes_82
    rw [q1.1.1.i12 hD]
    refine Rt.it (fun w9 => ?_) (fun w9 => ?_)
    · have e : k = R.im := by have := (nI_leI (a := R.im) (b := k) (by omega) (by omega)).mp w9; omega
      subst e
      exact Rt.rt ⟨q1, hd⟩
    have hlt : k < R.im := by
      rcases Nat.lt_or_ge k R.im with z | z
      · exact z
      · exact absurd (nI_le z (by omega)) w9
    refine Rt.ok (fun z => ?_) (fun z => Rt.rt ⟨q1, fun w => absurd w z⟩)
    obtain ⟨b1, b2, b3, fs9, gs9, b4, b5, b6, b7, b8, b9, b10, b11⟩ := hD.ob q1.1.1 hlt
    obtain ⟨fs, s, v, k1, k2, k3, k4, k5, k6, _⟩ := q1.2 k hlt
    have h62 : ∀ S2 : Sg, SI R Pz c nv S g S2 → Rt (f_sizes_62 R.K (f_sizes_6 R.K m) S2 (nI k)) (fun S2 _ => SI R Pz c nv S g S2 ∧ (Zi S2 3 = 0 → SZD R g R.im S2)) := fun S2 q2 => by
      obtain ⟨_, d2, d3, _, gs8, _, d5, _, _, _, _, d10, _⟩ := hD.ob q2.1.1 hlt
      unfold f_sizes_62 f_sizes_76
      rw [nI_1]
      exact Rt.bd (hD.it q2.1.1 hlt) (Rt.bd (oI_mk d2 d5 d10) (Rt.be (fai_ q2.1.1 d3) (szs6 hD hc hW hE m (k + 1) (by omega) (by omega) q2.fl (fun w => absurd w (flS_n0 (by decide))))))
    refine Rt.bd (hD.it q1.1.1 hlt) (Rt.bd (oI_mk b2 b5 b11) (Rt.it (fun ek => ?_) (fun ek => ?_)))
    · unfold f_sizes_76
      rw [nI_1]
      refine szs6 hD hc hW hE m (k + 1) (by omega) (by omega) q1 (fun w a ha hk => ?_)
      by_cases e : a = k
      · subst e; exact absurd ek hk
      · exact hd w a (by omega) hk
    refine Rt.bd (hD.it q1.1.1 hlt) (Rt.bd (oI_mk b2 k1 k4) (Rt.it (fun e0 => ?_) (fun _ => h62 S1 q1)))
    refine Rt.bd (hD.it q1.1.1 hlt) (Rt.bn (szi_ hD hc hW hE 80 k S1 (by have := hN_le (f := g) (i := k) R.im; omega) hlt ek (k6 e0) q1) (fun S2 r q2 => ?_))
    obtain ⟨q2, q3, _, s2, q4, q5⟩ := q2
    have hs2 := q5
    obtain ⟨_, _, _, hs3, hs4⟩ := hs2
    refine Rt.it (fun w16 => ?_) (fun _ => h62 S2 q2)
    have hle : s2 ≤ 16 := by
      rw [q4] at w16
      exact (nI_leI (a := s2) (b := 16) (by omega) (by omega)).mp w16
    unfold f_sizes_76
    rw [nI_1]
    refine szs6 hD hc hW hE m (k + 1) (by omega) (by omega) q2 (fun w a ha hk => ?_)
    by_cases e : a = k
    · subst e; exact ⟨k6 e0, s2, hle, q5⟩
    · exact (hd z).mo (by omega) q3 a (by omega) hk
/-- sizes -/
theorem szs_ (hD : RDI R) (hc : c ≤ 1990) (h : TS R c nv S) (hA : ITA R S) (hR : ROW R S) (hF : F20 R Pz S) : Rt (f_sizes R.K S) (fun S2 _ => ∃ g : Nat → Int32, wC R.im R.im g ∧ (∀ a b : Nat, a < R.im → b < R.im → eD R S g a b) ∧ SI R Pz c nv S g S2 ∧ (Zi S2 3 = 0 → SZD R g R.im S2)) := by
  have hD0 := hD.1
  unfold f_sizes
  refine Rt.bn (edl_ hD h hA hR hF) (fun S2 _ q => ?_)
  obtain ⟨g, hw, he, q1, q2⟩ := q
  exact (szs6 hD hc hw he bigN 0 (by unfold bigN; omega) (Nat.zero_le _) (EF.si q1 q2) (fun _ a ha => absurd ha (by omega))).mo (fun S3 _ q3 => ⟨g, hw, he, q3⟩)
end SZS
