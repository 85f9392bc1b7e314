/-- holders are few -/
def hBd (i : iR) : Prop := (∀ h : Nat, i.ho = some h → h < 256) ∧ (∀ u ∈ i.us, u < 256) ∧ (∀ u ∈ i.fr, u < 256) ∧ i.us.length ≤ 12 ∧ i.fr.length ≤ 12 ∧ (∀ l : Nat, i.ln = some l → l < 160) ∧ (i.ac ≠ 0 → i.pa ≠ none)
/-- a function's points, as the passes see them -/
def PCx (R : yR) (S0 S : Sg) (ws Ps Pe : Nat) (I : Nat → iR) : Prop := Ps < Pe ∧ Pe < 24000 ∧ (ws ∈ ZL S ∧ ∃ fs : List Value, ZF S ws = .inr (16, fs) ∧ fs[4]? = some (.int (nI Pe)) ∧ fs[5]? = some (.int (nI Ps))) ∧ ∀ k : Nat, Ps ≤ k → k < Pe → rz R S0 S k (I k) ∧ (∀ j ∈ (I k).sc, Ps ≤ j ∧ j < Pe) ∧ (I k).sc.length ≤ 12 ∧ hBd (I k)
/-- how many of m flags from a on are 0 -/
def cn (f : Nat → Int32) (a : Nat) : Nat → Nat
  | 0 => 0
  | m + 1 => cn f a m + (if f (a + m) = 0 then 1 else 0)
section PS1
variable {R : yR} {S0 S S1 S2 Sr : Sg} {ws Ps Pe k n : Nat} {I : Nat → iR} {f : Nat → Int32}
theorem PCx.ps (e : PSx S S2) (h : PCx R S0 S ws Ps Pe I) : PCx R S0 S2 ws Ps Pe I := by
  obtain ⟨h1, h2, ⟨h3, fs, h4, h5⟩, h6⟩ := h
  exact ⟨h1, h2, ⟨by rw [e.1]; exact h3, fs, by rw [e.2.1]; exact h4, h5⟩, fun k a b => ⟨(h6 k a b).1.ps e, (h6 k a b).2⟩⟩
theorem PCx.r4 (h : PCx R S0 S ws Ps Pe I) : oI S 16 (some ws) 4 = some (nI Pe) := by
  obtain ⟨_, _, ⟨h3, fs, h4, h5, h6⟩, _⟩ := h
  exact oI_mk h3 h4 h5
theorem PCx.r5 (h : PCx R S0 S ws Ps Pe I) : oI S 16 (some ws) 5 = some (nI Ps) := by
  obtain ⟨_, _, ⟨h3, fs, h4, h5, h6⟩, _⟩ := h
  exact oI_mk h3 h4 h6
theorem PCx.fl (h : PCx R S0 S ws Ps Pe I) (h1 : Ps ≤ k) (h2 : k < Pe) (hn : n ≤ (I k).sc.length) : f_follows R.K S (nI k) (nI n) = some (S, scN (I k).sc n) := flw_ (h.2.2.2 k h1 h2).1 (by have := h.2.1; omega) hn (by have := (h.2.2.2 k h1 h2).2.2.1; omega)
theorem PCx.sc (h : PCx R S0 S ws Ps Pe I) (h1 : Ps ≤ k) (h2 : k < Pe) : (n = (I k).sc.length → scN (I k).sc n < 0) ∧ (n < (I k).sc.length → ∃ j : Nat, (I k).sc[n]? = some j ∧ scN (I k).sc n = nI j ∧ Ps ≤ j ∧ j < Pe ∧ ¬ scN (I k).sc n < 0) := by
  refine ⟨fun e => ?_, fun e => ?_⟩
  · unfold scN; rw [e, List.getElem?_eq_none (Nat.le_refl _)]; decide
  · have hg := List.getElem?_eq_getElem e
    have hm : (I k).sc[n] ∈ (I k).sc := List.getElem_mem e
    obtain ⟨a, b⟩ := (h.2.2.2 k h1 h2).2.1 _ hm
    have hs : scN (I k).sc n = nI ((I k).sc[n]) := by unfold scN; rw [hg]
    exact ⟨_, hg, hs, a, b, by rw [hs]; exact nI_nn (by have := h.2.1; omega)⟩
theorem cn_le {g : Nat → Int32} {a : Nat} : ∀ {m : Nat}, (∀ j : Nat, g j = 0 → f j = 0) → cn g a m ≤ cn f a m
  | 0, _ => Nat.le_refl _
  | m + 1, h => by
    have := cn_le (a := a) (m := m) h
    show cn g a m + _ ≤ cn f a m + _
    by_cases e : g (a + m) = 0
    · rw [if_pos e, if_pos (h _ e)]; omega
    · rw [if_neg e]; omega
theorem cn_lt {g : Nat → Int32} {a j : Nat} : ∀ {m : Nat}, (∀ j : Nat, g j = 0 → f j = 0) → a ≤ j → j < a + m → f j = 0 → g j ≠ 0 → cn g a m < cn f a m
  | 0, _, h1, h2, _, _ => by omega
  | m + 1, h, h1, h2, h3, h4 => by
    show cn g a m + _ < cn f a m + _
    by_cases e : j = a + m
    · subst e
      have := cn_le (a := a) (m := m) h
      rw [if_neg h4, if_pos h3]; omega
    · have := cn_lt (m := m) h h1 (by omega) h3 h4
      by_cases e2 : g (a + m) = 0
      · rw [if_pos e2, if_pos (h _ e2)]; omega
      · rw [if_neg e2]; omega
theorem cn_b {a : Nat} : ∀ {m : Nat}, cn f a m ≤ m
  | 0 => Nat.le_refl _
  | m + 1 => by
    have := cn_b (a := a) (m := m)
    show cn f a m + _ ≤ m + 1
    by_cases e : f (a + m) = 0
    · rw [if_pos e]; omega
    · rw [if_neg e]; omega
/-- a round of reach, before point k (its first n successors are done) -/
def RcI (R : yR) (S0 Sr S : Sg) (ws Ps Pe : Nat) (I : Nat → iR) (x2 : Int32) (k n : Nat) : Prop := PSx Sr S ∧ PCx R S0 S ws Ps Pe I ∧ (∀ r : Nat, 53 ≤ r → r ≤ 60 → Zl S r = Zl Sr r) ∧ Zi S = Zi Sr ∧ (∀ j : Nat, Ps ≤ j → j < Pe → Zr S 52 j = 0 ∨ Zr S 52 j = 1) ∧ Zr S 52 Ps = 1 ∧ (∀ j : Nat, Zr S 52 j = 0 → Zr Sr 52 j = 0) ∧ ((x2 = 0 ∧ Zr S 52 = Zr Sr 52 ∧ (∀ k' : Nat, Ps ≤ k' → k' < k → Zr S 52 k' = 1 → ∀ j ∈ (I k').sc, Zr S 52 j = 1) ∧ (Zr S 52 k = 1 → ∀ m j : Nat, m < n → (I k).sc[m]? = some j → Zr S 52 j = 1)) ∨ (x2 = 1 ∧ cn (Zr S 52) Ps (Pe - Ps) < cn (Zr Sr 52) Ps (Pe - Ps)))
theorem rch62 {k40 : Sg → Option Nat → Int32 → Option (Sg × Unit)} {k51 : Sg → Option Nat → Int32 → Int32 → Option (Sg × Unit)} {Q : Sg → Unit → Prop} (h1 : Ps ≤ k) (h2 : k < Pe) (kn : ∀ (S2 : Sg) (y2 : Int32), RcI R S0 Sr S2 ws Ps Pe I y2 (k + 1) 0 → Rt (k51 S2 (some ws) y2 (nI (k + 1))) Q) : ∀ (d n : Nat) (S : Sg) (x2 : Int32), (I k).sc.length < n + d → n ≤ (I k).sc.length → RcI R S0 Sr S ws Ps Pe I x2 k n → Rt (f_reach_62 R.K k40 k51 d S (some ws) x2 (nI k) (nI n)) Q
  | 0, n, S, x2, hd, hn, _ => by omega
  | d + 1, n, S, x2, hd, hn, hi => by
    have hi2 := hi
    obtain ⟨e, hC, hl, hz, hb, hp, hm, hx⟩ := hi
    have hk4 : k < 24000 := by have := hC.2.1; omega
    obtain ⟨s1, s2⟩ := hC.sc (n := n) h1 h2
    have h117 : (n = (I k).sc.length ∨ Zr S 52 k = 0) → Rt (f_reach_117 R.K k40 k51 S (some ws) x2 (nI k)) Q := fun hw => by
      unfold f_reach_117
      rw [nI_1]
      refine kn S x2 ⟨e, hC, hl, hz, hb, hp, hm, hx.imp (fun ⟨a, b, c, d⟩ => ⟨a, b, fun k' q1 q2 q3 j hj => ?_, fun _ m j hm => by omega⟩) id⟩
      by_cases ek : k' = k
      · subst ek
        rcases hw with hw | hw
        · obtain ⟨m, hm2⟩ := List.mem_iff_getElem?.mp hj
          exact d q3 m j (by have := (List.getElem?_eq_some_iff.mp hm2).1; omega) hm2
        · rw [hw] at q3; exact absurd q3 (by decide)
      · exact c k' q1 (by omega) q3 j hj
    unfold f_reach_62
    refine Rt.bd (rI_n (show k < rlen 52 from hk4) (by decide)) (Rt.it (fun w => h117 (Or.inr w)) (fun w => ?_))
    have hk1 : Zr S 52 k = 1 := (hb k h1 h2).resolve_left w
    refine Rt.be (hC.fl h1 h2 hn) (Rt.it (fun w2 => ?_) (fun w2 => ?_))
    · refine h117 (Or.inl ?_)
      by_cases q : n < (I k).sc.length
      · obtain ⟨j, _, _, _, _, b⟩ := s2 q; exact absurd w2 b
      · omega
    · have hlt : n < (I k).sc.length := by
        by_cases q : n < (I k).sc.length
        · exact q
        · exact absurd (s1 (by omega)) w2
      obtain ⟨j, j1, j2, j3, j4, _⟩ := s2 hlt
      refine Rt.be (hC.fl h1 h2 hn) ?_
      rw [j2]
      have hj4 : j < 24000 := by have := hC.2.1; omega
      refine Rt.bd (rI_n (show j < rlen 52 from hj4) (by decide)) (Rt.it (fun w3 => ?_) (fun w3 => ?_))
      · refine Rt.be (hC.fl h1 h2 hn) ?_
        rw [j2]
        refine Rt.bd (wZ_n (show j < rlen 52 from hj4) (by decide) (Or.inr rfl)) ?_
        unfold f_reach_111
        rw [nI_1]
        have e2 : PSx S (Ur S 52 (upd (Zr S 52) j 1)) := PSx.ur
        have er : Zr (Ur S 52 (upd (Zr S 52) j 1)) 52 = upd (Zr S 52) j 1 := Zr_us
        refine rch62 h1 h2 kn d (n + 1) _ 1 (by omega) (by omega) ⟨e.tr e2, hC.ps e2, hl, hz, fun q q1 q2 => ?_, ?_, fun q hq => ?_, Or.inr ⟨rfl, ?_⟩⟩
        · rw [er]
          by_cases z : q = j
          · rw [z, upd_s]; exact Or.inr rfl
          · rw [upd_n z]; exact hb q q1 q2
        · rw [er]
          by_cases z : Ps = j
          · rw [z, upd_s]
          · rw [upd_n z]; exact hp
        · rw [er] at hq
          by_cases z : q = j
          · rw [z, upd_s] at hq; exact absurd hq (by decide)
          · rw [upd_n z] at hq; exact hm q hq
        · rw [er]
          have c1 : cn (upd (Zr S 52) j 1) Ps (Pe - Ps) < cn (Zr S 52) Ps (Pe - Ps) := cn_lt (fun q hq => by
            by_cases z : q = j
            · rw [z, upd_s] at hq; exact absurd hq (by decide)
            · rw [upd_n z] at hq; exact hq) j3 (by omega) w3 (by rw [upd_s]; decide)
          have c2 : cn (Zr S 52) Ps (Pe - Ps) ≤ cn (Zr Sr 52) Ps (Pe - Ps) := cn_le hm
          omega
      · have hj1 : Zr S 52 j = 1 := (hb j j3 j4).resolve_left w3
        unfold f_reach_111
        rw [nI_1]
        refine rch62 h1 h2 kn d (n + 1) S x2 (by omega) (by omega) ⟨e, hC, hl, hz, hb, hp, hm, hx.imp (fun ⟨a, b, c, dd⟩ => ⟨a, b, c, fun q m j' hm2 hj' => ?_⟩) id⟩
        by_cases z : m = n
        · subst z; rw [j1] at hj'; cases hj'; exact hj1
        · exact dd q m j' (by omega) hj'
theorem rch51 {k40 : Sg → Option Nat → Int32 → Option (Sg × Unit)} {Q : Sg → Unit → Prop} (kn : ∀ (S2 : Sg) (y2 : Int32), RcI R S0 Sr S2 ws Ps Pe I y2 Pe 0 → Rt (k40 S2 (some ws) y2) Q) : ∀ (d k : Nat) (S : Sg) (x2 : Int32), Pe < k + d → Ps ≤ k → k ≤ Pe → RcI R S0 Sr S ws Ps Pe I x2 k 0 → Rt (f_reach_51 R.K k40 d S (some ws) x2 (nI k)) Q
  | 0, k, S, x2, hd, _, hk, _ => by omega
  | d + 1, k, S, x2, hd, h1, hk, hi => by
    have hC := hi.2.1
    have h24 := hC.2.1
    unfold f_reach_51
    refine Rt.bd hC.r4 (Rt.it (fun w => ?_) (fun w => ?_))
    · have : Pe ≤ k := (nI_leI (by omega) (by omega)).mp w
      obtain rfl : k = Pe := by omega
      exact kn S x2 hi
    · have hlt : k < Pe := by
        by_cases q : k < Pe
        · exact q
        · exact absurd (nI_le (a := Pe) (b := k) (by omega) (by omega)) w
      exact rch62 h1 hlt (fun S2 y2 hi2 => rch51 kn d (k + 1) S2 y2 (by omega) (by omega) (by omega) hi2) bigN 0 S x2 (by unfold bigN; have := (hC.2.2.2 k h1 hlt).2.2.1; omega) (Nat.zero_le _) hi
/-- the rounds of reach: what is reached is closed at the end -/
theorem rch40 {Q : Sg → Unit → Prop} (kf : ∀ S2 : Sg, PSx S S2 → PCx R S0 S2 ws Ps Pe I → (∀ j : Nat, Ps ≤ j → j < Pe → Zr S2 52 j = 0 ∨ Zr S2 52 j = 1) → Zr S2 52 Ps = 1 → (∀ k : Nat, Ps ≤ k → k < Pe → Zr S2 52 k = 1 → ∀ j ∈ (I k).sc, Zr S2 52 j = 1) → Zi S2 = Zi S → (∀ r : Nat, 53 ≤ r → r ≤ 60 → Zl S2 r = Zl S r) → Q S2 ()) : ∀ (d : Nat) (S1 : Sg) (x2 : Int32), cn (Zr S1 52) Ps (Pe - Ps) + 1 < d → PSx S S1 → PCx R S0 S1 ws Ps Pe I → (∀ j : Nat, Ps ≤ j → j < Pe → Zr S1 52 j = 0 ∨ Zr S1 52 j = 1) → Zr S1 52 Ps = 1 → Zi S1 = Zi S → (∀ r : Nat, 53 ≤ r → r ≤ 60 → Zl S1 r = Zl S r) → (x2 = 1 ∨ (x2 = 0 ∧ ∀ k : Nat, Ps ≤ k → k < Pe → Zr S1 52 k = 1 → ∀ j ∈ (I k).sc, Zr S1 52 j = 1)) → Rt (f_reach_40 R.K d S1 (some ws) x2) Q
  | 0, S1, x2, hd, _, _, _, _, _, _, _ => by omega
  | d + 1, S1, x2, hd, e, hC, hb, hp, hz, hl, hx => by
    unfold f_reach_40
    refine Rt.it (fun w => ?_) (fun w => ?_)
    · refine Rt.rt (kf S1 e hC hb hp ?_ hz hl)
      rcases hx with q | q
      · rw [q] at w; exact absurd w (by decide)
      · exact q.2
    · refine Rt.bd hC.r5 ?_
      refine rch51 (Sr := S1) (fun S2 y2 hi => ?_) bigN Ps S1 0 (by unfold bigN; have := hC.2.1; omega) (Nat.le_refl _) (Nat.le_of_lt hC.1) ⟨PSx.rf, hC, fun _ _ _ => rfl, rfl, hb, hp, fun _ q => q, Or.inl ⟨rfl, rfl, fun k' q1 q2 => by omega, fun _ m j hm => by omega⟩⟩
      obtain ⟨e2, hC2, hl2, hz2, hb2, hp2, hm2, hx2⟩ := hi
      have hcl : cn (Zr S2 52) Ps (Pe - Ps) ≤ cn (Zr S1 52) Ps (Pe - Ps) := cn_le hm2
      rcases hx2 with ⟨q1, q2, q3, q4⟩ | ⟨q1, q2⟩
      · subst q1
        cases d with
        | zero => omega
        | succ d =>
          unfold f_reach_40
          exact Rt.ip rfl (Rt.rt (kf S2 (e.tr e2) hC2 hb2 hp2 (fun k a b => q3 k a b) (hz2.trans hz) (fun r a b => (hl2 r a b).trans (hl r a b))))
      · exact rch40 kf d S2 y2 (by omega) (e.tr e2) hC2 hb2 hp2 (hz2.trans hz) (fun r a b => (hl2 r a b).trans (hl r a b)) (Or.inl q1)
/-- the flags are cleared -/
theorem rch5 {Q : Sg → Unit → Prop} (kf : ∀ S2 : Sg, PSx S S2 → PCx R S0 S2 ws Ps Pe I → (∀ j : Nat, Ps ≤ j → j < Pe → Zr S2 52 j = 0 ∨ Zr S2 52 j = 1) → Zr S2 52 Ps = 1 → Zi S2 = Zi S → (∀ r : Nat, 53 ≤ r → r ≤ 60 → Zl S2 r = Zl S r) → Rt (f_reach_40 R.K bigN S2 (some ws) 1) Q) : ∀ (d k : Nat) (S1 : Sg), Pe < k + d → Ps ≤ k → k ≤ Pe → PSx S S1 → PCx R S0 S1 ws Ps Pe I → (∀ j : Nat, Ps ≤ j → j < k → Zr S1 52 j = 0 ∨ Zr S1 52 j = 1) → (Ps < k → Zr S1 52 Ps = 1) → Zi S1 = Zi S → (∀ r : Nat, 53 ≤ r → r ≤ 60 → Zl S1 r = Zl S r) → Rt (f_reach_5 R.K d S1 (some ws) (nI k)) Q
  | 0, k, S1, hd, _, _, _, _, _, _, _, _ => by omega
  | d + 1, k, S1, hd, h1, hk, e, hC, hb, hp, hz, hl => by
    have h24 := hC.2.1
    have hPP := hC.1
    unfold f_reach_5
    refine Rt.bd hC.r4 (Rt.it (fun w => ?_) (fun w => ?_))
    · have : Pe ≤ k := (nI_leI (by omega) (by omega)).mp w
      obtain rfl : k = Pe := by omega
      exact kf S1 e hC hb (hp (by omega)) hz hl
    · have hlt : k < Pe := by
        by_cases q : k < Pe
        · exact q
        · exact absurd (nI_le (a := Pe) (b := k) (by omega) (by omega)) w
      have h31 : ∀ v : Int32, (v = 0 ∨ v = 1) → (k = Ps → v = 1) → Rt (f_reach_31 R.K ((f_reach_5 R.K d)) S1 (some ws) (nI k) v (nI k)) Q := fun v hv hv1 => by
        unfold f_reach_31
        refine Rt.bd (wZ_n (show k < rlen 52 from by show k < 24000; omega) (by decide) hv) ?_
        rw [nI_1]
        have e2 : PSx S1 (Ur S1 52 (upd (Zr S1 52) k v)) := PSx.ur
        have er : Zr (Ur S1 52 (upd (Zr S1 52) k v)) 52 = upd (Zr S1 52) k v := Zr_us
        refine rch5 kf d (k + 1) _ (by omega) (by omega) (by omega) (e.tr e2) (hC.ps e2) (fun j j1 j2 => ?_) (fun _ => ?_) hz hl
        · rw [er]
          by_cases z : j = k
          · rw [z, upd_s]; exact hv
          · rw [upd_n z]; exact hb j j1 (by omega)
        · rw [er]
          by_cases z : Ps = k
          · rw [z, upd_s]; exact hv1 z.symm
          · rw [upd_n z]; exact hp (by omega)
      refine Rt.bd hC.r5 (Rt.it (fun w2 => h31 1 (Or.inr rfl) (fun _ => rfl)) (fun w2 => h31 0 (Or.inl rfl) (fun q => absurd (by rw [q]) w2)))
/-- reach -/
theorem rch_ (hC : PCx R S0 S ws Ps Pe I) : Rt (f_reach R.K S (some ws)) (fun S2 _ => PSx S S2 ∧ PCx R S0 S2 ws Ps Pe I ∧ (∀ j : Nat, Ps ≤ j → j < Pe → Zr S2 52 j = 0 ∨ Zr S2 52 j = 1) ∧ Zr S2 52 Ps = 1 ∧ (∀ k : Nat, Ps ≤ k → k < Pe → Zr S2 52 k = 1 → ∀ j ∈ (I k).sc, Zr S2 52 j = 1) ∧ Zi S2 = Zi S ∧ ∀ r : Nat, 53 ≤ r → r ≤ 60 → Zl S2 r = Zl S r) := by
  have h24 := hC.2.1
  unfold f_reach
  refine Rt.bd hC.r5 (rch5 (fun S2 e2 hC2 hb2 hp2 hz2 hl2 => ?_) bigN Ps S (by unfold bigN; omega) (Nat.le_refl _) (Nat.le_of_lt hC.1) PSx.rf hC (fun j a b => by omega) (fun a => by omega) rfl (fun _ _ _ => rfl))
  exact rch40 (S := S) (fun S3 a b c d e f g => ⟨a, b, c, d, e, f, g⟩) bigN S2 1 (by unfold bigN; have := cn_b (f := Zr S2 52) (a := Ps) (m := Pe - Ps); omega) e2 hC2 hb2 hp2 hz2 hl2 (Or.inl rfl)
end PS1
