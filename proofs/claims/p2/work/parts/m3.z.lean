/-- who is used behind k -/
def AB (D : fD) (k u : Nat) : Prop := rb D.lv (4 * k) u = true
section PS51
variable {R : yR} {S0 : Sg} {D : fD} {i k j u κ : Nat}
/-- a way from k to j -/
def edg (D : fD) (k j : Nat) : Prop := D.Ps ≤ k ∧ k < D.Pe ∧ D.rc k ≠ 0 ∧ j ∈ (D.I k).sc
theorem FnD.in (h : FnD R S0 i D) (e : edg D k j) : D.Ps ≤ j ∧ j < D.Pe ∧ (D.W k → D.W j) ∧ (k < j ∨ (D.I j).kd = 0) ∧ D.rc j ≠ 0 := by
  obtain ⟨e1, e2, e3, e4⟩ := e
  obtain ⟨q1, q2, q3, q4⟩ := (h.1.2.2 k e1 e2).1 j e4
  exact ⟨q1, q2, q3, q4, h.2.1.2 k e1 e2 e3 j e4⟩
theorem FnD.ab (h : FnD R S0 i D) (e : edg D k j) (hu : u < 256) (q : AL D j u) : AB D k u := h.2.2.2.1 k e.1 e.2.1 j e.2.2.2 u hu q
theorem AB.al (q : AB D k u) (h : (D.I k).ho ≠ some u) : AL D k u := Or.inr ⟨q, h⟩
theorem AL.ab (q : AL D k u) (h : u ∉ (D.I k).us) : AB D k u ∧ (D.I k).ho ≠ some u := q.resolve_left h
theorem FnD.al (h : FnD R S0 i D) (e : edg D k j) (hu : u < 256) (ho : (D.I k).ho ≠ some u) (q : AL D j u) : AL D k u := (h.ab e hu q).al ho
theorem FnD.lL (h : FnD R S0 i D) {k2 l v sh : Nat} {ρ : lLc} (h1 : D.Ps ≤ k2) (h2 : k2 < D.Pe) (q : lnI (D.I k2) l v ρ sh) : l < D.L := ((h.1.2.2 k2 h1 h2).2.2.2.1 l q.1).2.1
theorem FnD.bit (h : FnD R S0 i D) (e : edg D k j) {l : Nat} (hl : l < D.L) (hu : u < 256) (q : HBh (D.I k) (D.H l) k l u) : rb (D.H l) (4 * j) u = true := (h.2.2.2.2.1 l hl).1 k e.1 e.2.1 e.2.2.1 j e.2.2.2 u hu q
/-- what is held stays held -/
theorem FnD.hk (h : FnD R S0 i D) (e : edg D k j) (hu : u < 256) (ho : (D.I k).ho ≠ some u) (q : HK D k u κ) : HK D j u κ := by
  have h0 := h.2.2.2.2.2.1
  rcases q with ⟨q1, q2⟩ | ⟨k2, l, v, sh, ρ, q1, q2, q3, q4, q5⟩
  · refine Or.inl ⟨q1, fun w => ?_⟩
    obtain ⟨l, l1, l2, l3⟩ := q2 w
    exact ⟨l, l1, l2, h.bit e (by omega) hu (Or.inr ⟨ho, l3⟩)⟩
  · exact Or.inr ⟨k2, l, v, sh, ρ, q1, q2, q3, q4, h.bit e (h.lL q2 q3 q4) hu (Or.inr ⟨ho, q5⟩)⟩
/-- .. is handed on -/
theorem FnD.hf (h : FnD R S0 i D) (e : edg D k j) {w : Nat} (hu : u < 256) (ho : (D.I k).ho = some u) (k24 : (D.I k).kd ≠ 24) (hw : w ∈ (D.I k).fr) (q : HK D k w κ) : HK D j u κ := by
  have h0 := h.2.2.2.2.2.1
  rcases q with ⟨q1, q2⟩ | ⟨k2, l, v, sh, ρ, q1, q2, q3, q4, q5⟩
  · refine Or.inl ⟨q1, fun z => ?_⟩
    obtain ⟨l, l1, l2, l3⟩ := q2 z
    exact ⟨l, l1, l2, h.bit e (by omega) hu (Or.inl ⟨ho, Or.inr ⟨k24, w, hw, l3⟩⟩)⟩
  · exact Or.inr ⟨k2, l, v, sh, ρ, q1, q2, q3, q4, h.bit e (h.lL q2 q3 q4) hu (Or.inl ⟨ho, Or.inr ⟨k24, w, hw, q5⟩⟩)⟩
/-- .. begins -/
theorem FnD.hn (h : FnD R S0 i D) (e : edg D k j) {l v sh : Nat} {ρ : lLc} (hu : u < 256) (ho : (D.I k).ho = some u) (q : lnI (D.I k) l v ρ sh) : HK D j u (lm v ρ sh) := Or.inr ⟨k, l, v, sh, ρ, rfl, e.1, e.2.1, q, h.bit e (h.lL e.1 e.2.1 q) hu (Or.inl ⟨ho, Or.inl q.1⟩)⟩
theorem FnD.pt (h : FnD R S0 i D) (h1 : D.Ps ≤ k) (h2 : k < D.Pe) : tPt D.E k (D.W k) (D.I k) (D.st k) (fun j s => D.Ps ≤ j ∧ j < D.Pe ∧ wkS s (D.st j)) ∧ wl (D.st k) ≤ 177 := ⟨(h.1.2.2 k h1 h2).2.2.1, (h.1.2.2 k h1 h2).2.1⟩
/-- a place's variable -/
theorem tPt.ad {E : eV} {lv : Prop} {ii : iR} {s : List tE} {J : Nat → List tE → Prop} (h : tPt E k lv ii s J) {v T : Nat} {ρ : lLc} (e : ii.pa = some (v, ρ, T)) : E.ad v = ii.n2 := by
  by_cases q : ii.kd = 24
  · unfold tPt at h
    rw [q] at h
    obtain ⟨_, _, _, _, w, _, _, _, ⟨_, a⟩, _, b, _⟩ := h
    rw [b] at e; cases e; exact a
  · exact (h.pv q e).1
theorem qW_3 {y : qY} {T U : Nat} {s : Nat × Nat} {π : lLc} (h3 : y.1 T = 3) (hs : s.1 = 0 ∨ s.1 = 1) : ¬ qW y T (s :: π) U := fun h => by
  obtain ⟨a, b⟩ := s
  rcases hs with e | e
  · have e : a = 0 := e
    subst e
    have := h.1; rw [h3] at this; cases this
  · have e : a = 1 := e
    subst e
    have := h.2.1; rw [h3] at this; cases this
/-- behind an enum no further step leads -/
theorem pTy_3 {y : qY} {T0 T U : Nat} {ρ π : lLc} {s : Nat × Nat} (h : pTy y T0 ρ T) (h3 : y.1 T = 3) (g : pTy y T0 (ρ ++ s :: π) U) (hT : T < 10000) (hs : s.1 = 0 ∨ s.1 = 1) : False := by
  rcases h with ⟨a1, a2⟩ | ⟨a1, ⟨a2, a3⟩ | ⟨ρ2, a2, a3⟩⟩
  · rcases g with ⟨_, b2⟩ | ⟨b1, _⟩
    · exact qW_3 h3 hs (qW_rest b2 a2)
    · exact a1 b1
  · have := a1.1; omega
  · rcases g with ⟨b1, _⟩ | ⟨_, ⟨b2, _⟩ | ⟨ρ3, b2, b3⟩⟩
    · exact b1 a1
    · rw [a2] at b2; cases b2
    · rw [a2] at b2
      have e : ρ3 = ρ2 ++ s :: π := (List.cons.inj b2).2.symm
      rw [e] at b3
      exact qW_3 h3 hs (qW_rest b3 a3)
/-- nobody who is used behind an access holds a loan that it meets -/
theorem FnD.ck (h : FnD R S0 i D) (h1 : D.Ps ≤ k) (h2 : k < D.Pe) (hr : D.rc k ≠ 0) {v T : Nat} {ρ : lLc} (hp : (D.I k).pa = some (v, ρ, T)) (ha : (D.I k).ac ≠ 0) (hs : ¬ (((D.I k).ac = 7 ∨ (D.I k).ac = 6) ∧ ρ = [] ∧ isRf T)) (ht : ρ = [] ∨ (qMs ρ ∧ ∃ U : Nat, pTy D.E.y (D.E.vt v) ρ U)) {A2 : Nat → Prop} (hA : ∀ u κ : Nat, A2 u → HA R S0 i D k u κ → u < 256 ∧ AB D k u ∧ (D.I k).ho ≠ some u) : lCk (tbD D) (HA R S0 i D k) A2 v ρ ((D.I k).ac = 1 ∨ (D.I k).ac = 2) := fun u κ hu hκ ho hv hc => by
  obtain ⟨u1, u2, u3⟩ := hA u κ hu hκ
  have q : HK D k u κ := by
    rcases hκ with ⟨_, w⟩ | ⟨w, _⟩
    · exact w.1
    · omega
  have ho : ¬ κ < 100 := ho
  rcases q with ⟨q1, _⟩ | ⟨k2, l, v2, sh, ρ2, q1, q2, q3, q4, q5⟩
  · exact absurd q1 ho
  · subst q1
    obtain ⟨d1, d2, d3⟩ := dcd_lm (v := v2) (s := sh) (ρ := ρ2)
    have hv : (dcd (lm v2 ρ2 sh)).1 = v := hv
    have hc : lCmp (dcd (lm v2 ρ2 sh)).2.1 ρ := hc
    rw [d1] at hv
    rw [d2] at hc
    subst hv
    obtain ⟨e1, e2, e3⟩ := q4
    have key : ∀ (T2 : Nat) (ρ3 : lLc), (D.I k2).pa = some (v2, ρ3, T2) → lCmp ρ ρ3 → ((D.I k).ac = 1 ∨ (D.I k).ac = 2) ∧ (tbD D).2.2.1 (lm v2 ρ2 sh) := fun T2 ρ3 z1 z2 => by
      have := (h.2.2.2.2.1 l (h.lL q2 q3 ⟨e1, e2, e3⟩)).2 k k2 v2 T2 ρ3 h1 h2 hr q2 q3 e1 z1
      rcases this with w | w
      · have := w u u1 u3 (Or.inr ⟨u3, q5⟩)
        have u2 : rb D.lv (4 * k) u = true := u2
        rw [u2] at this; cases this
      · have hn : (D.I k).n2 = (D.I k2).n2 := ((h.pt h1 h2).1.ad hp).symm.trans ((h.pt q2 q3).1.ad z1)
        rcases w v2 T ρ hp ha hn z2 with ⟨z3, z4⟩ | z3
        · refine ⟨z3, ?_⟩
          show (dcd (lm v2 ρ2 sh)).2.2 % 2 = 1
          rw [d3, ← e2]
          have hle := ((h.1.2.2 k2 q2 q3).2.2.2.1 l e1).2.2
          have : (D.I k2).n3 ≠ 0 := fun w => z4 (by rw [w]; rfl)
          omega
        · exact absurd z3 hs
    rcases e3 with ⟨k3, T2, z⟩ | ⟨k3, g, m, T2, z⟩
    · exact key T2 ρ2 z (lCmp_sym hc)
    · refine key T2 _ z ?_
      rcases hc with ⟨σ, hc⟩ | hc
      · cases σ with
        | nil => rw [List.append_nil] at hc; rw [hc]; exact Or.inl (lP_app _ _)
        | cons s σ =>
          exfalso
          have hbd := (h.1.2.2 k2 q2 q3).2.2.1
          unfold tPt at hbd
          rw [k3] at hbd
          obtain ⟨_, v9, ρ9, w9, q9, g9, m9, r9, _, _, _, _, _, _, _, a1, a2, a3, a4, a5, a6, _, _, a7, a8, _⟩ := hbd
          rw [z] at a6
          obtain ⟨z1, z2⟩ := Prod.mk.inj (Option.some.inj a6)
          obtain ⟨z2, _⟩ := Prod.mk.inj z2
          obtain ⟨z3, _⟩ := List.append_inj' z2 rfl
          rw [← z1, ← z3] at a7
          rcases ht with ht | ⟨ht, U, hU⟩
          · rw [ht] at hc; cases ρ2 <;> cases hc
          · rw [hc] at hU ht
            exact pTy_3 a7 a3 hU (by omega) (ht s (List.mem_append_right _ (List.mem_cons_self ..)))
      · exact Or.inl (lP_tr hc (lP_app _ _))
end PS51
