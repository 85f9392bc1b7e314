-- m2.g.lean.txt
section
/-- loan l goes on from k to j -/
def LnC (I : Nat → iR) (f : Nat → Int64) (l k j : Nat) : Prop := ∀ h : Nat, h < 256 → HBh (I k) f k l h → rb f (4 * j) h = true
/-- a round of a loan's spreading: points below k are done, n successors of k -/
def LnI (R : yR) (S0 Sr S : Sg) (ws Ps Pe : Nat) (I : Nat → iR) (l : Nat) (x3 : Int32) (k n : Nat) : Prop := OXs (fun r => r = 59 ∨ r = 60) Sr S ∧ PCx R S0 S ws Ps Pe I ∧ sbL (Zl Sr 59) (Zl S 59) ∧ ((x3 = 0 ∧ Zl S 59 = Zl Sr 59 ∧ (∀ k' : Nat, Ps ≤ k' → k' < k → Zr S 52 k' ≠ 0 → ∀ j ∈ (I k').sc, LnC I (Zl S 59) l k' j) ∧ (Zr S 52 k ≠ 0 → ∀ m j : Nat, m < n → (I k).sc[m]? = some j → LnC I (Zl S 59) l k j)) ∨ (x3 = 1 ∧ cw (Zl S 59) (4 * Ps) (4 * (Pe - Ps)) < cw (Zl Sr 59) (4 * Ps) (4 * (Pe - Ps))))
/-- a loan's holders, closed along all ways -/
def LnD (I : Nat → iR) (rc : Nat → Int32) (f : Nat → Int64) (l Ps Pe : Nat) : Prop := ∀ k : Nat, Ps ≤ k → k < Pe → rc k ≠ 0 → ∀ j ∈ (I k).sc, LnC I f l k j
section PS6
variable {R : yR} {S0 S S1 S2 Sr : Sg} {ws Ps Pe k n l : Nat} {I : Nat → iR} {f g : Nat → Int64} {P : Nat → Prop} {x y : Int64}
theorem ln138 {k61 : Sg → Option Nat → Int32 → Int32 → Option (Sg × Unit)} {k73 : Sg → Option Nat → Int32 → Int32 → Int32 → Option (Sg × Unit)} {k102 : Sg → Option Nat → Int32 → Int32 → Int32 → Int32 → Option (Sg × Unit)} {Q : Sg → Unit → Prop} {j : Nat} (h1 : Ps ≤ k) (h2 : k < Pe) (hj : (I k).sc[n]? = some j) (j1 : Ps ≤ j) (j2 : j < Pe) {B : Nat → Int64} {Z : Prop} (kn : ∀ (S2 : Sg) (y2 : Int32), LnI R S0 Sr S2 ws Ps Pe I l y2 k (n + 1) → Zl S2 60 = B → (y2 = 0 → Z) → Rt (k102 S2 (some ws) (nI l) y2 (nI k) (nI (n + 1))) Q) : ∀ (d w : Nat) (S : Sg) (x3 : Int32), 4 < w + d → w ≤ 4 → LnI R S0 Sr S ws Ps Pe I l x3 k n → Zl S 60 = B → (x3 = 0 → Z) → (x3 = 0 → (∀ h : Nat, h < 256 → (rb B 0 h = true ↔ HBh (I k) (Zl Sr 59) k l h)) ∧ ∀ v b : Nat, v < w → lbit (B v) b = true → lbit (Zl S 59 (4 * j + v)) b = true) → Rt (f_spreadLoan_138 R.K k61 k73 k102 d S (some ws) (nI l) x3 (nI k) (nI n) (nI (4 * j)) (nI w)) Q
  | 0, w, S, x3, hd, hn, _, _, _, _ => by omega
  | d + 1, w, S, x3, hd, hn, hi, hB, hZ, hA => by
    have hi2 := hi
    obtain ⟨e, hC, hs, hx⟩ := hi2
    have h24 := hC.2.1
    unfold f_spreadLoan_138
    refine Rt.it (fun q => ?_) (fun q => ?_)
    · have hw : 4 ≤ w := (nI_leI (a := 4) (b := w) (by decide) (by omega)).mp q
      obtain rfl : w = 4 := by omega
      rw [nI_1]
      refine kn S x3 ⟨e, hC, hs, hx.imp (fun ⟨a, b, c, dd⟩ => ⟨a, b, c, fun hrc m j' hm hj' => ?_⟩) id⟩ hB hZ
      by_cases em : m = n
      · subst em
        rw [hj] at hj'
        cases hj'
        obtain ⟨a1, a2⟩ := hA a
        intro h hh hah
        rw [b] at hah
        have := (a1 h hh).mpr hah
        unfold rb at this ⊢
        rw [Nat.zero_add] at this
        exact a2 (h / 64) (h % 64) (by omega) this
      · exact dd hrc m j' (by omega) hj'
    · have hw : w < 4 := by
        by_cases q2 : w < 4
        · exact q2
        · exact absurd (nI_le (a := 4) (b := w) (by omega) (by omega)) q
      rw [nI_add]
      have r59 : rJ S 59 (nI (4 * j + w)) = some (Zl S 59 (4 * j + w)) := rJ_n (show 4 * j + w < rlen 59 from by show _ < 96000; omega) (by decide)
      have r60 : rJ S 60 (nI w) = some (Zl S 60 w) := rJ_n (show w < rlen 60 from hw) (by decide)
      have h182 : ∀ y2 : Int32, ((y2 = x3 ∧ Zl S 59 (4 * j + w) ||| Zl S 60 w = Zl S 59 (4 * j + w)) ∨ (y2 = 1 ∧ Zl S 59 (4 * j + w) ||| Zl S 60 w ≠ Zl S 59 (4 * j + w))) → Rt (f_spreadLoan_182 R.K k61 k73 k102 ((f_spreadLoan_138 R.K k61 k73 k102 d)) S (some ws) (nI l) y2 (nI k) (nI n) (nI (4 * j)) (nI w) (Zl S 59 (4 * j + w) ||| Zl S 60 w)) Q := fun y2 hy => by
        unfold f_spreadLoan_182
        rw [nI_add]
        refine Rt.bd (wJ_n (show 4 * j + w < rlen 59 from by show _ < 96000; omega) (by decide)) ?_
        rw [nI_1]
        have e2 : OXs (fun r => r = 59 ∨ r = 60) S (Ul S 59 (vp_updL (Zl S 59) (4 * j + w) (Zl S 59 (4 * j + w) ||| Zl S 60 w))) := OXs.ul (by decide) (Or.inl rfl)
        have e59 : Zl (Ul S 59 (vp_updL (Zl S 59) (4 * j + w) (Zl S 59 (4 * j + w) ||| Zl S 60 w))) 59 = vp_updL (Zl S 59) (4 * j + w) (Zl S 59 (4 * j + w) ||| Zl S 60 w) := Zl_us
        have e60 : Zl (Ul S 59 (vp_updL (Zl S 59) (4 * j + w) (Zl S 59 (4 * j + w) ||| Zl S 60 w))) 60 = Zl S 60 := Zl_un (by decide)
        have hs2 : sbL (Zl S 59) (vp_updL (Zl S 59) (4 * j + w) (Zl S 59 (4 * j + w) ||| Zl S 60 w)) := sbL.or
        rcases hy with ⟨hy1, hy2⟩ | ⟨hy1, hy2⟩
        · have hid : vp_updL (Zl S 59) (4 * j + w) (Zl S 59 (4 * j + w) ||| Zl S 60 w) = Zl S 59 := upL_id hy2
          refine ln138 h1 h2 hj j1 j2 kn d (w + 1) _ y2 (by omega) (by omega) ⟨e.tr e2, hC.ps e2.1, by rw [e59, hid]; exact hs, by rw [e59, hid, hy1]; exact hx⟩ (e60.trans hB) (fun y0 => hZ (hy1.symm.trans y0)) (fun y0 => ?_)
          rw [e59, hid]
          obtain ⟨a1, a2⟩ := hA (hy1.symm.trans y0)
          refine ⟨a1, fun v b hv hb => ?_⟩
          by_cases ev : v = w
          · subst ev; rw [← hy2, lbit_or, hB, hb]; simp
          · exact a2 v b (by omega) hb
        · refine ln138 h1 h2 hj j1 j2 kn d (w + 1) _ y2 (by omega) (by omega) ⟨e.tr e2, hC.ps e2.1, by rw [e59]; exact hs.tr hs2, Or.inr ⟨hy1, ?_⟩⟩ (e60.trans hB) (fun y0 => absurd (hy1.symm.trans y0) (by decide)) (fun y0 => absurd (hy1.symm.trans y0) (by decide))
          rw [e59]
          have c1 := cw_lt (a := 4 * Ps) (w := 4 * j + w) (m := 4 * (Pe - Ps)) hs2 (by omega) (by omega) (by rw [upL_s]; exact fun w => hy2 w.symm)
          have c2 := cw_le (a := 4 * Ps) (m := 4 * (Pe - Ps)) hs
          omega
      refine Rt.bd r59 (Rt.bd r60 (Rt.bd r59 (Rt.it (fun q2 => h182 x3 (Or.inl ⟨rfl, lgc0.mp q2⟩)) (fun q2 => h182 1 (Or.inr ⟨rfl, fun w => q2 (lgc0.mpr w)⟩)))))
theorem ln102 {k61 : Sg → Option Nat → Int32 → Int32 → Option (Sg × Unit)} {k73 : Sg → Option Nat → Int32 → Int32 → Int32 → Option (Sg × Unit)} {Q : Sg → Unit → Prop} {B : Nat → Int64} (h1 : Ps ≤ k) (h2 : k < Pe) {Z : Prop} (hB0 : Z → Zr Sr 52 k ≠ 0 → ∀ h : Nat, h < 256 → (rb B 0 h = true ↔ HBh (I k) (Zl Sr 59) k l h)) (kn : ∀ (S2 : Sg) (y2 : Int32), LnI R S0 Sr S2 ws Ps Pe I l y2 (k + 1) 0 → Rt (k73 S2 (some ws) (nI l) y2 (nI (k + 1))) Q) : ∀ (d n : Nat) (S : Sg) (x3 : Int32), (I k).sc.length < n + d → n ≤ (I k).sc.length → LnI R S0 Sr S ws Ps Pe I l x3 k n → (Zr S 52 k ≠ 0 → Zl S 60 = B) → (x3 = 0 → Z) → Rt (f_spreadLoan_102 R.K k61 k73 d S (some ws) (nI l) x3 (nI k) (nI n)) Q
  | 0, n, S, x3, hd, hn, _, _, _ => by omega
  | d + 1, n, S, x3, hd, hn, hi, hB, hZ => by
    have hi2 := hi
    obtain ⟨e, hC, hs, hx⟩ := hi2
    have h24 := hC.2.1
    obtain ⟨s1, s2⟩ := hC.sc (n := n) h1 h2
    have h206 : (n = (I k).sc.length ∨ Zr S 52 k = 0) → Rt (f_spreadLoan_206 R.K k61 k73 S (some ws) (nI l) x3 (nI k)) Q := fun hw => by
      unfold f_spreadLoan_206
      rw [nI_1]
      refine kn S x3 ⟨e, hC, hs, hx.imp (fun ⟨a, b, c, dd⟩ => ⟨a, b, fun k' q1 q2 q3 j hj => ?_, fun _ m j hm => by omega⟩) id⟩
      by_cases ek : k' = k
      · subst ek
        rcases hw with hw | hw
        · obtain ⟨m, hm⟩ := List.mem_iff_getElem?.mp hj
          exact dd q3 m j (by have := (List.getElem?_eq_some_iff.mp hm).1; omega) hm
        · exact absurd hw q3
      · exact c k' q1 (by omega) q3 j hj
    unfold f_spreadLoan_102
    refine Rt.bd (rI_n (show k < rlen 52 from by show k < 24000; omega) (by decide)) (Rt.it (fun w => h206 (Or.inr w)) (fun w => ?_))
    refine Rt.be (hC.fl h1 h2 hn) (Rt.it (fun w2 => ?_) (fun w2 => ?_))
    · refine h206 (Or.inl ?_)
      by_cases q : n < (I k).sc.length
      · obtain ⟨j, _, _, _, _, b⟩ := s2 q; exact absurd w2 b
      · omega
    · have hlt : n < (I k).sc.length := by
        by_cases q : n < (I k).sc.length
        · exact q
        · exact absurd (s1 (by omega)) w2
      obtain ⟨j, j1, j2, j3, j4, _⟩ := s2 hlt
      refine Rt.be (hC.fl h1 h2 hn) ?_
      rw [j2, nI_4]
      refine ln138 (B := B) (Z := Z) h1 h2 j1 j3 j4 (fun S3 y3 hi4 hB3 hZ3 => ln102 h1 h2 hB0 kn d (n + 1) S3 y3 (by omega) (by omega) hi4 (fun _ => hB3) hZ3) bigN 0 S x3 (by unfold bigN; omega) (Nat.zero_le _) hi (hB w) hZ (fun x0 => ⟨hB0 (hZ x0) (by rw [← e.2.2.1]; exact w), fun v b hv => by omega⟩)
theorem ln73 {k61 : Sg → Option Nat → Int32 → Int32 → Option (Sg × Unit)} {Q : Sg → Unit → Prop} (hl : l < 160) (kn : ∀ (S2 : Sg) (y2 : Int32), LnI R S0 Sr S2 ws Ps Pe I l y2 Pe 0 → Rt (k61 S2 (some ws) (nI l) y2) Q) : ∀ (d k : Nat) (S : Sg) (x3 : Int32), Pe < k + d → Ps ≤ k → k ≤ Pe → LnI R S0 Sr S ws Ps Pe I l x3 k 0 → Rt (f_spreadLoan_73 R.K k61 d S (some ws) (nI l) x3 (nI k)) Q
  | 0, k, S, x3, hd, _, hk, _ => by omega
  | d + 1, k, S, x3, hd, h1, hk, hi => by
    have hi2 := hi
    obtain ⟨e, hC, hs, hx⟩ := hi2
    have h24 := hC.2.1
    unfold f_spreadLoan_73
    refine Rt.bd hC.r4 (Rt.it (fun w => ?_) (fun w => ?_))
    · have : Pe ≤ k := (nI_leI (by omega) (by omega)).mp w
      obtain rfl : k = Pe := by omega
      exact kn S x3 hi
    · have hlt : k < Pe := by
        by_cases q : k < Pe
        · exact q
        · exact absurd (nI_le (a := Pe) (b := k) (by omega) (by omega)) w
      have hsl := (hC.2.2.2 k h1 hlt).2.2.1
      refine Rt.bd (rI_n (show k < rlen 52 from by show k < 24000; omega) (by decide)) (Rt.it (fun w2 => ?_) (fun w2 => ?_))
      · unfold f_spreadLoan_99
        have hrc : Zr Sr 52 k = 0 := by rw [← e.2.2.1]; exact w2
        exact ln102 (B := Zl S 60) (Z := True) h1 hlt (fun _ q => absurd hrc q) (fun S2 y2 hi2 => ln73 hl kn d (k + 1) S2 y2 (by omega) (by omega) (by omega) hi2) bigN 0 S x3 (by unfold bigN; omega) (Nat.zero_le _) hi (fun _ => rfl) (fun _ => trivial)
      · refine Rt.bn (hbd_ hC h1 hlt hl) (fun S2 _ t2 => ?_)
        obtain ⟨e2, hb2⟩ := t2
        have e59 : Zl S2 59 = Zl S 59 := e2.2.1 59 (by decide)
        have e52 : Zr S2 52 = Zr S 52 := by rw [e2.2.2.1]
        have hi3 : LnI R S0 Sr S2 ws Ps Pe I l x3 k 0 := ⟨e.tr (e2.mo (fun r h => Or.inr h)), hC.ps e2.1, by rw [e59]; exact hs, by rw [e59, e52]; exact hx⟩
        unfold f_spreadLoan_99
        refine ln102 (B := Zl S2 60) (Z := Zl S 59 = Zl Sr 59) h1 hlt (fun z _ h hh => by rw [hb2 h hh, z]) (fun S2 y2 hi2 => ln73 hl kn d (k + 1) S2 y2 (by omega) (by omega) (by omega) hi2) bigN 0 S2 x3 (by unfold bigN; omega) (Nat.zero_le _) hi3 (fun _ => rfl) (fun x0 => ?_)
        rcases hx with ⟨_, b, _⟩ | ⟨x1, _⟩
        · exact b
        · exact absurd (x1.symm.trans x0) (by decide)
theorem ln61 {Q : Sg → Unit → Prop} (hl : l < 160) (kf : ∀ S2 : Sg, OXs (fun r => r = 59 ∨ r = 60) S S2 → PCx R S0 S2 ws Ps Pe I → sbL (Zl S 59) (Zl S2 59) → LnD I (Zr S2 52) (Zl S2 59) l Ps Pe → Q S2 ()) : ∀ (d : Nat) (S1 : Sg) (x3 : Int32), cw (Zl S1 59) (4 * Ps) (4 * (Pe - Ps)) + 1 < d → OXs (fun r => r = 59 ∨ r = 60) S S1 → PCx R S0 S1 ws Ps Pe I → sbL (Zl S 59) (Zl S1 59) → (x3 = 1 ∨ (x3 = 0 ∧ LnD I (Zr S1 52) (Zl S1 59) l Ps Pe)) → Rt (f_spreadLoan_61 R.K d S1 (some ws) (nI l) x3) Q
  | 0, S1, x3, hd, _, _, _, _ => by omega
  | d + 1, S1, x3, hd, e, hC, hs, hx => by
    unfold f_spreadLoan_61
    refine Rt.it (fun w => ?_) (fun w => ?_)
    · refine Rt.rt (kf S1 e hC hs ?_)
      rcases hx with q | q
      · rw [q] at w; exact absurd w (by decide)
      · exact q.2
    · refine Rt.bd hC.r5 ?_
      refine ln73 (Sr := S1) hl (fun S2 y2 hi => ?_) bigN Ps S1 0 (by unfold bigN; have := hC.2.1; omega) (Nat.le_refl _) (Nat.le_of_lt hC.1) ⟨OXs.rf, hC, sbL.rf, Or.inl ⟨rfl, rfl, fun k' q1 q2 => by omega, fun _ m j hm => by omega⟩⟩
      obtain ⟨e2, hC2, hs2, hx2⟩ := hi
      rcases hx2 with ⟨q1, q2, q3, q4⟩ | ⟨q1, q2⟩
      · subst q1
        cases d with
        | zero => omega
        | succ d =>
          unfold f_spreadLoan_61
          exact Rt.ip rfl (Rt.rt (kf S2 (e.tr e2) hC2 (hs.tr hs2) (fun k a b => q3 k a b)))
      · exact ln61 hl kf d S2 y2 (by omega) (e.tr e2) hC2 (hs.tr hs2) (Or.inl q1)
theorem ln7 {Q : Sg → Unit → Prop} (kf : ∀ S2 : Sg, OXs (fun r => r = 59 ∨ r = 60) S S2 → PCx R S0 S2 ws Ps Pe I → Rt ((rI S2 45 (nI l)).bind fun v3 =>
    if v3 < 0 then (f_spreadLoan_59 R.K S2 (some ws) (nI l)) else ((oI S2 16 (some ws) 5).bind fun v4 =>
    (rI S2 45 (nI l)).bind fun v5 =>
    bnd (f_put R.K S2 59 (4 * v4) v5 1) fun S6 v7 =>
    f_spreadLoan_59 R.K S6 (some ws) (nI l))) Q) : ∀ (d k : Nat) (S1 : Sg), 4 * Pe < k + d → k ≤ 4 * Pe → OXs (fun r => r = 59 ∨ r = 60) S S1 → PCx R S0 S1 ws Ps Pe I → Rt (f_spreadLoan_7 R.K d S1 (some ws) (nI l) (nI k)) Q
  | 0, k, S1, hd, _, _, _ => by omega
  | d + 1, k, S1, hd, hk, e, hC => by
    have h24 := hC.2.1
    unfold f_spreadLoan_7
    refine Rt.bd hC.r4 ?_
    rw [nI_4]
    refine Rt.it (fun w => kf S1 e hC) (fun w => ?_)
    have hlt : k < 4 * Pe := by
      by_cases q : k < 4 * Pe
      · exact q
      · exact absurd (nI_le (a := 4 * Pe) (b := k) (by omega) (by omega)) w
    refine Rt.bd (wJ_n (show k < rlen 59 from by show k < 96000; omega) (by decide)) ?_
    rw [nI_1]
    have e2 : OXs (fun r => r = 59 ∨ r = 60) S1 (Ul S1 59 (vp_updL (Zl S1 59) k 0)) := OXs.ul (by decide) (Or.inl rfl)
    exact ln7 kf d (k + 1) _ (by omega) (by omega) (e.tr e2) (hC.ps e2.1)
/-- spreadLoan; ou: who holds it from the beginning -/
theorem spl_ {ou : Option Nat} (hC : PCx R S0 S ws Ps Pe I) (hl : l < 160) (hou : Zr S 45 l = oNm ou) (ho : ∀ u : Nat, ou = some u → u < 256) : Rt (f_spreadLoan R.K S (some ws) (nI l)) (fun S2 _ => OXs (fun r => r = 59 ∨ r = 60) S S2 ∧ PCx R S0 S2 ws Ps Pe I ∧ LnD I (Zr S2 52) (Zl S2 59) l Ps Pe ∧ ∀ u : Nat, ou = some u → rb (Zl S2 59) (4 * Ps) u = true) := by
  have h24 := hC.2.1
  have hPP := hC.1
  unfold f_spreadLoan
  refine Rt.bd hC.r5 ?_
  rw [nI_4]
  refine ln7 (fun S2 e2 hC2 => ?_) bigN (4 * Ps) S (by unfold bigN; omega) (by omega) OXs.rf hC
  have r45 : rI S2 45 (nI l) = some (oNm ou) := by rw [rI_n (show l < rlen 45 from hl) (by decide), e2.2.2.1, hou]
  refine Rt.bd r45 ?_
  cases ou with
  | none =>
    refine Rt.ip (show (-1 : Int32) < 0 by decide) ?_
    unfold f_spreadLoan_59
    exact ln61 (S := S2) hl (fun S3 a b _ d => ⟨e2.tr a, b, d, fun u w => by cases w⟩) bigN S2 1 (by unfold bigN; have := cw_b (f := Zl S2 59) (a := 4 * Ps) (m := 4 * (Pe - Ps)); omega) OXs.rf hC2 sbL.rf (Or.inl rfl)
  | some u =>
    have hu := ho u rfl
    refine Rt.iq (nI_nn (a := u) (by omega)) (Rt.bd hC2.r5 (Rt.bd r45 ?_))
    rw [nI_4]
    refine Rt.be (put_ (base := 4 * Ps) (on := true) (b := u) (by omega) (show 4 * Ps + u / 64 < rlen 59 from by show _ < 96000; omega) (by decide)) ?_
    have e3 : OXs (fun r => r = 59 ∨ r = 60) S2 (Ul S2 59 (pB (Zl S2 59) (4 * Ps) u true)) := OXs.ul (by decide) (Or.inl rfl)
    have hrb : rb (Zl (Ul S2 59 (pB (Zl S2 59) (4 * Ps) u true)) 59) (4 * Ps) u = true := by
      rw [Zl_us, rb_pB, if_pos ⟨rfl, rfl⟩]
    generalize Ul S2 59 (pB (Zl S2 59) (4 * Ps) u true) = S3 at e3 hrb
    unfold f_spreadLoan_59
    refine ln61 (S := S3) hl (fun S4 a b c d => ⟨(e2.tr e3).tr a, b, d, fun u' w => ?_⟩) bigN S3 1 (by unfold bigN; have := cw_b (f := Zl S3 59) (a := 4 * Ps) (m := 4 * (Pe - Ps)); omega) OXs.rf (hC2.ps e3.1) sbL.rf (Or.inl rfl)
    cases w
    exact c _ _ hrb
end PS6
end
-- m2.h.lean.txt
section
section PS7
variable {R : yR} {S0 S S1 S2 Sr : Sg} {ws Ps Pe k n l : Nat} {I : Nat → iR}
theorem ov15 {w1 w2 va1 va2 n1 n2 s1 s2 t1 t2 : Nat} {f1 f2 : Nat → Int32} (a1 : w1 ∈ ZL S) (a2 : ZF S w1 = .inr (18, [.ref va1, .int (nI n1), .ref s1, .ref t1])) (a3 : s1 ∈ ZL S) (a4 : ZF S s1 = .inl (R.K.1 0, n1, .inl f1)) (b1 : w2 ∈ ZL S) (b2 : ZF S w2 = .inr (18, [.ref va2, .int (nI n2), .ref s2, .ref t2])) (b3 : s2 ∈ ZL S) (b4 : ZF S s2 = .inl (R.K.1 0, n2, .inl f2)) (h1 : n1 ≤ 5) (h2 : n2 ≤ 5) : ∀ (d n : Nat), 5 < n + d → n ≤ 5 → Rt (f_overlap_15 R.K d S (some w1) (some w2) (nI n)) (fun Sx r => Sx = S ∧ (r = 0 ∨ r = 1) ∧ (r = 0 → ∃ m : Nat, m < n1 ∧ m < n2 ∧ f1 m ≠ f2 m))
  | 0, n, hd, hn => by omega
  | d + 1, n, hd, hn => by
    unfold f_overlap_15
    have h54 : Rt (f_overlap_54 R.K S) (fun Sx r => Sx = S ∧ (r = 0 ∨ r = 1) ∧ (r = 0 → ∃ m : Nat, m < n1 ∧ m < n2 ∧ f1 m ≠ f2 m)) := by
      unfold f_overlap_54
      exact Rt.zr (Or.inr rfl) ⟨rfl, Or.inr rfl, fun w => absurd w (by decide)⟩
    refine Rt.bd (oI_mk a1 a2 (v := nI n1) rfl) (Rt.it (fun _ => h54) (fun w => ?_))
    have hl1 : n < n1 := by
      by_cases q : n < n1
      · exact q
      · exact absurd (nI_le (a := n1) (b := n) (by omega) (by omega)) w
    refine Rt.bd (oI_mk b1 b2 (v := nI n2) rfl) (Rt.it (fun _ => h54) (fun w2 => ?_))
    have hl2 : n < n2 := by
      by_cases q : n < n2
      · exact q
      · exact absurd (nI_le (a := n2) (b := n) (by omega) (by omega)) w2
    refine Rt.bd (oR_mk a1 a2 (v := some s1) rfl) (Rt.bd (aI_n a3 a4 hl1 (by omega)) (Rt.bd (oR_mk b1 b2 (v := some s2) rfl) (Rt.bd (aI_n b3 b4 hl2 (by omega)) (Rt.it (fun _ => ?_) (fun w3 => ?_)))))
    · rw [nI_1]
      exact ov15 a1 a2 a3 a4 b1 b2 b3 b4 h1 h2 d (n + 1) (by omega) (by omega)
    · exact Rt.zr (Or.inl rfl) ⟨rfl, Or.inl rfl, fun _ => ⟨n, hl1, hl2, w3⟩⟩
theorem lCmp_get {a b : lLc} (h : lCmp a b) {m : Nat} (h1 : m < a.length) (h2 : m < b.length) : a[m]? = b[m]? := by
  rcases h with ⟨s, rfl⟩ | ⟨s, rfl⟩
  · rw [List.getElem?_append_left h1]
  · rw [List.getElem?_append_left h2]
/-- overlap -/
theorem ovl_ {w1 w2 : Nat} (p1 : pOb R S w1) (p2 : pOb R S w2) : Rt (f_overlap R.K S (some w1) (some w2)) (fun Sx r => Sx = S ∧ (r = 0 ∨ r = 1) ∧ (r = 0 → ∀ (va v1 v2 T1 T2 : Nat) (ρ1 ρ2 : lLc), isPt R S0 S w1 v1 ρ1 T1 → isPt R S0 S w2 v2 ρ2 T2 → pVa S w1 va → pVa S w2 va → ¬ lCmp ρ1 ρ2)) := by
  obtain ⟨va1, n1, s1, t1, f1, g1, a1, a2, a3, a4, a5⟩ := p1
  obtain ⟨va2, n2, s2, t2, f2, g2, b1, b2, b3, b4, b5⟩ := p2
  unfold f_overlap
  refine Rt.bd (oR_mk a1 a2 (v := some va1) rfl) (Rt.bd (oR_mk b1 b2 (v := some va2) rfl) (Rt.it (fun w => ?_) (fun w => ?_)))
  · refine (ov15 a1 a2 a3.1 a3.2 b1 b2 b3.1 b3.2 a5 b5 bigN 0 (by unfold bigN; omega) (Nat.zero_le _)).mo (fun Sx r ⟨q1, q2, q3⟩ => ⟨q1, q2, fun r0 va v1 v2 T1 T2 ρ1 ρ2 i1 i2 _ _ hc => ?_⟩)
    obtain ⟨m, m1, m2, m3⟩ := q3 r0
    obtain ⟨_, sa1, ta1, ff1, gg1, _, c1, c2, _, c4, _, c6, _⟩ := i1
    obtain ⟨_, sa2, ta2, ff2, gg2, _, d1, d2, _, d4, _, d6, _⟩ := i2
    rw [a2] at c2
    rw [b2] at d2
    obtain ⟨_, e2⟩ := Prod.mk.inj (Sum.inr.inj c2)
    injection e2 with _ e2
    injection e2 with e3 e2
    injection e2 with e4 e2
    injection e3 with e3
    injection e4 with e4
    obtain ⟨_, g2⟩ := Prod.mk.inj (Sum.inr.inj d2)
    injection g2 with _ g2
    injection g2 with g3 g2
    injection g2 with g4 g2
    injection g3 with g3
    injection g4 with g4
    subst e4; subst g4
    have l1 : n1 = ρ1.length := by
      have := a3.2.symm.trans c4.2; cases this; rfl
    have l2 : n2 = ρ2.length := by
      have := b3.2.symm.trans d4.2; cases this; rfl
    have x1 : f1 = ff1 := by have := a3.2.symm.trans c4.2; rw [← l1] at this; cases this; rfl
    have x2 : f2 = ff2 := by have := b3.2.symm.trans d4.2; rw [← l2] at this; cases this; rfl
    subst x1; subst x2
    have hg := lCmp_get hc (m := m) (by omega) (by omega)
    have h1 := List.getElem?_eq_getElem (l := ρ1) (i := m) (by omega)
    have y1 := (c6 m _ h1).1
    have y2 := (d6 m _ (hg.symm.trans h1)).1
    exact m3 (y1.trans y2.symm)
  · refine Rt.zr (Or.inl rfl) ⟨rfl, Or.inl rfl, fun _ va v1 v2 T1 T2 ρ1 ρ2 _ _ ⟨gs1, u1, u2⟩ ⟨gs2, z1, z2⟩ _ => w ?_⟩
    rw [a2] at u1; cases u1
    rw [b2] at z1; cases z1
    cases u2; cases z2; rfl
theorem hs2 {w va n1 s1 t1 : Nat} {f1 : Nat → Int32} (a1 : w ∈ ZL S) (a2 : ZF S w = .inr (18, [.ref va, .int (nI n1), .ref s1, .ref t1])) (a3 : s1 ∈ ZL S) (a4 : ZF S s1 = .inl (R.K.1 0, n1, .inl f1)) (h1 : n1 ≤ 5) : ∀ (d n : Nat), 5 < n + d → n ≤ n1 → (∀ m : Nat, m < n → f1 m ≠ -1) → Rt (f_hasStar_2 R.K d S (some w) (nI n)) (fun Sx r => Sx = S ∧ ((r = 1 ∧ ∃ m : Nat, m < n1 ∧ f1 m = -1) ∨ (r = 0 ∧ ∀ m : Nat, m < n1 → f1 m ≠ -1)))
  | 0, n, hd, hn, _ => by omega
  | d + 1, n, hd, hn, hm => by
    unfold f_hasStar_2
    refine Rt.bd (oI_mk a1 a2 (v := nI n1) rfl) (Rt.it (fun q => ?_) (fun q => ?_))
    · have : n1 ≤ n := (nI_leI (by omega) (by omega)).mp q
      exact Rt.zr (Or.inl rfl) ⟨rfl, Or.inr ⟨rfl, fun m h => hm m (by omega)⟩⟩
    · have hlt : n < n1 := by
        by_cases q2 : n < n1
        · exact q2
        · exact absurd (nI_le (a := n1) (b := n) (by omega) (by omega)) q
      refine Rt.bd (oR_mk a1 a2 (v := some s1) rfl) (Rt.bd (aI_n a3 a4 hlt (by omega)) (Rt.it (fun q2 => ?_) (fun q2 => ?_)))
      · exact Rt.zr (Or.inr rfl) ⟨rfl, Or.inl ⟨rfl, n, hlt, q2⟩⟩
      · rw [nI_1]
        refine hs2 a1 a2 a3 a4 h1 d (n + 1) (by omega) (by omega) (fun m h => ?_)
        by_cases e : m = n
        · rw [e]; exact q2
        · exact hm m (by omega)
/-- hasStar, of any path -/
theorem hst0 {w : Nat} (p : pOb R S w) : Rt (f_hasStar R.K S (some w)) (fun Sx r => Sx = S ∧ (r = 0 ∨ r = 1)) := by
  obtain ⟨va, n1, s1, t1, f1, g1, a1, a2, a3, a4, a5⟩ := p
  unfold f_hasStar
  exact (hs2 a1 a2 a3.1 a3.2 a5 bigN 0 (by unfold bigN; omega) (Nat.zero_le _) (fun m h => by omega)).mo (fun Sx r ⟨q1, q2⟩ => ⟨q1, q2.elim (fun q => Or.inr q.1) (fun q => Or.inl q.1)⟩)
theorem isPt.po {w v T : Nat} {ρ : lLc} (q : isPt R S0 S w v ρ T) : pOb R S w := by
  obtain ⟨va, sa, ta, f, g, mu, q1, q2, _, q4, q5, _, _, _, q9⟩ := q
  exact ⟨va, ρ.length, sa, ta, f, g, q1, q2, q4, q5, q9⟩
/-- a meeting that is let pass -/
def MtP (i : iR) (sh : Int32) (ρ : lLc) (T : Nat) : Prop := ((i.ac = 1 ∨ i.ac = 2) ∧ sh ≠ 0) ∨ ((i.ac = 7 ∨ i.ac = 6) ∧ ρ = [] ∧ isRf T)
/-- meets -/
theorem mts_ (hC : PCx R S0 S ws Ps Pe I) (hY : YK R S0) (hx0 : LX S0 S) (h1 : Ps ≤ k) (h2 : k < Pe) (hl : l < 160) (hp : Zq S 43 l = none ∨ ∃ w : Nat, Zq S 43 l = some w ∧ pOb R S w) : Rt (f_meets R.K S (nI k) (nI l)) (fun Sx r => Sx = S ∧ (r = 0 ∨ r = 1) ∧ (r = 0 → ∀ (v T w2 v2 T2 : Nat) (ρ ρ2 : lLc), (I k).pa = some (v, ρ, T) → (I k).ac ≠ 0 → Zq S 43 l = some w2 → isPt R S0 S w2 v2 ρ2 T2 → pVa S w2 (I k).n2 → lCmp ρ ρ2 → MtP (I k) (Zr S 44 l) ρ T)) := by
  obtain ⟨hz, hs, hsl, hb⟩ := hC.2.2.2 k h1 h2
  have h24 := hC.2.1
  obtain ⟨_, _, q3, q4, _, _, _, _, _, q10, _⟩ := hz
  have r33 : rI S 33 (nI k) = some (nI (I k).ac) := by rw [rI_n (show k < rlen 33 from by show k < 24000; omega) (by decide), q3]
  have r38 : rQ S 38 (nI k) = some (Zq S 38 k) := rQ_n (show k < rlen 38 from by show k < 24000; omega) (by decide)
  have r43 : rQ S 43 (nI l) = some (Zq S 43 l) := rQ_n (show l < rlen 43 from hl) (by decide)
  have r44 : rI S 44 (nI l) = some (Zr S 44 l) := rI_n (show l < rlen 44 from hl) (by decide)
  unfold f_meets
  refine Rt.bd r33 (Rt.bd r38 ?_)
  have h61 : ∀ {Q : Sg → Int32 → Prop}, Q S 0 → Rt (f_meets_61 R.K S) Q := fun q => by
    unfold f_meets_61; exact Rt.zr (Or.inl rfl) q
  have hac : ∀ {a : Nat}, a < 8 → (nI (I k).ac = nI a ↔ (I k).ac = a) := fun ha => ⟨fun e => nI_e (by omega) (by omega) e, fun e => by rw [e]⟩
  refine Rt.it (fun w => h61 ⟨rfl, Or.inl rfl, fun _ v T w2 v2 T2 ρ ρ2 _ q => absurd ((hac (a := 0) (by decide)).mp w) q⟩) (fun w => ?_)
  have hac0 : (I k).ac ≠ 0 := fun e => w (by rw [e]; rfl)
  refine Rt.bd r43 (Rt.it (fun w2 => h61 ⟨rfl, Or.inl rfl, fun _ v T w3 v2 T2 ρ ρ2 _ _ q => by rw [w2] at q; cases q⟩) (fun w2 => ?_))
  obtain ⟨wl', hw1, hw2⟩ := hp.resolve_left w2
  rcases q10 with ⟨_, q⟩ | ⟨wp, v, T, ρ, c1, c2, c3, c4⟩
  · exact absurd q (hb.2.2.2.2.2.2 hac0)
  · refine Rt.bd r43 ?_
    rw [c1, hw1]
    refine Rt.bn (ovl_ (S0 := S0) c3.po hw2) (fun S5 r5 t5 => ?_)
    obtain ⟨rfl, t6, t7⟩ := t5
    refine Rt.it (fun w3 => h61 ⟨rfl, Or.inl rfl, fun _ v' T' w3' v2 T2 ρ' ρ2 e1 _ e2 e3 e4 e5 => ?_⟩) (fun w3 => ?_)
    · rw [c2] at e1; cases e1
      cases e2
      exact absurd e5 (t7 w3 _ _ _ _ _ _ _ c3 e3 c4 e4)
    · -- a meeting, unless it is let pass
      have h122 : ∀ {Q : Sg → Int32 → Prop}, Q S5 1 → Rt (f_meets_122 R.K S5) Q := fun q => by
        unfold f_meets_122 f_meets_123 f_meets_135
        exact Rt.ip rfl (Rt.zr (Or.inr rfl) q)
      have one : (fun (Sx : Sg) (r : Int32) => Sx = S5 ∧ (r = 0 ∨ r = 1) ∧ (r = 0 → ∀ (v T w2 v2 T2 : Nat) (ρ ρ2 : lLc), (I k).pa = some (v, ρ, T) → (I k).ac ≠ 0 → some wl' = some w2 → isPt R S0 S5 w2 v2 ρ2 T2 → pVa S5 w2 (I k).n2 → lCmp ρ ρ2 → MtP (I k) (Zr S5 44 l) ρ T)) S5 1 := ⟨rfl, Or.inr rfl, fun e => absurd e (by decide)⟩
      have h75 : ((I k).ac = 7 ∨ (I k).ac = 6) → Rt (f_meets_75 R.K S5 (nI l) (some wp)) (fun (Sx : Sg) (r : Int32) => Sx = S5 ∧ (r = 0 ∨ r = 1) ∧ (r = 0 → ∀ (v T w2 v2 T2 : Nat) (ρ ρ2 : lLc), (I k).pa = some (v, ρ, T) → (I k).ac ≠ 0 → some wl' = some w2 → isPt R S0 S5 w2 v2 ρ2 T2 → pVa S5 w2 (I k).n2 → lCmp ρ ρ2 → MtP (I k) (Zr S5 44 l) ρ T)) := fun hac7 => by
        obtain ⟨va, sa, ta, f, g, mu, p1, p2, p3, p4, p5, p6, p7, p8, p9⟩ := c3
        have hT : aQ R.K 4 S5 (some ta) (nI 0) = some (g 0) := aQ_n p5.1 p5.2 (by omega) (by omega)
        unfold f_meets_75
        refine Rt.bd (oI_mk p1 p2 (v := nI ρ.length) rfl) (Rt.it (fun y1 => ?_) (fun _ => h122 one))
        have hρ : ρ = [] := List.length_eq_zero_iff.mp (nI_e (b := 0) (by omega) (by decide) y1)
        refine Rt.bd (oR_mk p1 p2 (v := some ta) rfl) (Rt.bd hT (Rt.it (fun _ => h122 one) (fun y2 => ?_)))
        cases hg : g 0 with
        | none => exact absurd hg y2
        | some x =>
          have hrx : rTy S0 x := p7 0 x (Nat.zero_le _) hg
          obtain ⟨kd, ix, o, qt, _⟩ := hrx.ty
          refine Rt.bd (oR_mk p1 p2 (v := some ta) rfl) (Rt.bd hT ?_)
          rw [hg]
          refine Rt.be (ref_ (hx0.ty qt)) ?_
          by_cases hk : kd = 6 ∨ kd = 7
          · rw [if_pos hk]
            refine Rt.iq (by decide) (Rt.bd r43 ?_)
            rw [hw1]
            refine Rt.bn (hst0 hw2) (fun S6 r6 t6 => ?_)
            obtain ⟨rfl, _⟩ := t6
            refine Rt.it (fun _ => h122 one) (fun _ => ?_)
            unfold f_meets_123 f_meets_135
            refine Rt.iq (by decide) (Rt.zr (Or.inl rfl) ⟨rfl, Or.inl rfl, fun _ v' T' w3' v2 T2 ρ' ρ2 e1 _ _ _ _ _ => Or.inr ⟨hac7, ?_⟩⟩)
            rw [c2] at e1; cases e1
            refine ⟨hρ, ?_⟩
            rw [p8, hρ, show g [].length = g 0 from rfl, hg]
            exact (hrx.rf hY qt).mpr hk
          · rw [if_neg hk]
            exact Rt.ip rfl (h122 one)
      have h63 : Rt (f_meets_63 R.K S5 (nI l) (nI (I k).ac) (some wp)) (fun (Sx : Sg) (r : Int32) => Sx = S5 ∧ (r = 0 ∨ r = 1) ∧ (r = 0 → ∀ (v T w2 v2 T2 : Nat) (ρ ρ2 : lLc), (I k).pa = some (v, ρ, T) → (I k).ac ≠ 0 → some wl' = some w2 → isPt R S0 S5 w2 v2 ρ2 T2 → pVa S5 w2 (I k).n2 → lCmp ρ ρ2 → MtP (I k) (Zr S5 44 l) ρ T)) := by
        unfold f_meets_63
        refine Rt.it (fun y => h75 (Or.inl ((hac (a := 7) (by decide)).mp y))) (fun _ => Rt.it (fun y => h75 (Or.inr ((hac (a := 6) (by decide)).mp y))) (fun _ => h122 one))
      have h52 : ((I k).ac = 1 ∨ (I k).ac = 2) → Rt (f_meets_52 R.K S5 (nI l) (nI (I k).ac) (some wp)) (fun (Sx : Sg) (r : Int32) => Sx = S5 ∧ (r = 0 ∨ r = 1) ∧ (r = 0 → ∀ (v T w2 v2 T2 : Nat) (ρ ρ2 : lLc), (I k).pa = some (v, ρ, T) → (I k).ac ≠ 0 → some wl' = some w2 → isPt R S0 S5 w2 v2 ρ2 T2 → pVa S5 w2 (I k).n2 → lCmp ρ ρ2 → MtP (I k) (Zr S5 44 l) ρ T)) := fun hac1 => by
        unfold f_meets_52
        exact Rt.bd r44 (Rt.it (fun _ => h63) (fun y => h61 ⟨rfl, Or.inl rfl, fun _ v' T' w3' v2 T2 ρ' ρ2 _ _ _ _ _ _ => Or.inl ⟨hac1, y⟩⟩))
      exact Rt.it (fun y => h52 (Or.inl ((hac (a := 1) (by decide)).mp y))) (fun _ => Rt.it (fun y => h52 (Or.inr ((hac (a := 2) (by decide)).mp y))) (fun _ => h63))
end PS7
end
-- m2.i.lean.txt
section
/-- who holds loan l behind k, beside the holder, isn't used behind k -/
def NaB (i : iR) (lv f : Nat → Int64) (k l : Nat) : Prop := ∀ h : Nat, h < 256 → i.ho ≠ some h → HBh i f k l h → rb lv (4 * k) h = false
/-- what point k promises of loan l -/
def LkK (R : yR) (S0 S : Sg) (i : iR) (lv f : Nat → Int64) (rl : Int32) (k l : Nat) : Prop := (NaB i lv f k l ∨ ∀ (v T w2 v2 T2 : Nat) (ρ ρ2 : lLc), i.pa = some (v, ρ, T) → i.ac ≠ 0 → Zq S 43 l = some w2 → isPt R S0 S w2 v2 ρ2 T2 → pVa S w2 i.n2 → lCmp ρ ρ2 → MtP i (Zr S 44 l) ρ T) ∧ (i.kd = 25 → (∃ u : Nat, Zr S 45 l = nI u ∧ u < 256) → ¬ rl < 0 → Zr S 46 l ≠ rl → rb f (4 * k) i.n1 = false)
section PS8
variable {R : yR} {S0 S S1 S2 Sr : Sg} {ws Ps Pe k n l : Nat} {I : Nat → iR}
theorem al8 {f : Nat → Int64} (hC : PCx R S0 S ws Ps Pe I) (h1 : Ps ≤ k) (h2 : k < Pe) (hf : ∀ h : Nat, h < 256 → (rb (Zl S 60) 0 h = true ↔ HBh (I k) f k l h)) : ∀ (d n : Nat), 256 < n + d → n ≤ 256 → (∀ h : Nat, h < n → (I k).ho ≠ some h → HBh (I k) f k l h → rb (Zl S 58) (4 * k) h = false) → Rt (f_aliveBehind_8 R.K d S (nI k) (nI n)) (fun Sx r => Sx = S ∧ (r = 0 ∨ r = 1) ∧ (r = 0 → NaB (I k) (Zl S 58) f k l))
  | 0, n, hd, hn, _ => by omega
  | d + 1, n, hd, hn, hm => by
    obtain ⟨hz, hs, hsl, hb⟩ := hC.2.2.2 k h1 h2
    have h24 := hC.2.1
    obtain ⟨_, _, _, _, q5, _⟩ := hz
    have r34 : rI S 34 (nI k) = some (oNm (I k).ho) := by rw [rI_n (show k < rlen 34 from by show k < 24000; omega) (by decide), q5]
    unfold f_aliveBehind_8
    refine Rt.it (fun w => ?_) (fun w => ?_)
    · have hw : 256 ≤ n := (nI_leI (a := 256) (b := n) (by decide) (by omega)).mp w
      exact Rt.zr (Or.inl rfl) ⟨rfl, Or.inl rfl, fun _ h hh => hm h (by omega)⟩
    · have hlt : n < 256 := by
        by_cases q2 : n < 256
        · exact q2
        · exact absurd (nI_le (a := 256) (b := n) (by omega) (by omega)) w
      have h53 : ((I k).ho ≠ some n → HBh (I k) f k l n → rb (Zl S 58) (4 * k) n = false) → Rt (f_aliveBehind_53 R.K ((f_aliveBehind_8 R.K d)) S (nI k) (nI n)) (fun Sx r => Sx = S ∧ (r = 0 ∨ r = 1) ∧ (r = 0 → NaB (I k) (Zl S 58) f k l)) := fun hh => by
        unfold f_aliveBehind_53
        rw [nI_1]
        refine al8 hC h1 h2 hf d (n + 1) (by omega) (by omega) (fun h hh2 => ?_)
        by_cases e : h = n
        · rw [e]; exact hh
        · exact hm h (by omega)
      refine Rt.bd r34 (Rt.it (fun w2 => h53 (fun q => absurd ?_ q)) (fun w2 => ?_))
      · cases hq : (I k).ho with
        | none => rw [hq] at w2; exact absurd (show nI n < 0 by rw [w2]; decide) (nI_nn (by omega))
        | some u =>
          rw [hq] at w2
          rw [nI_e (a := n) (b := u) (by omega) (by have := hb.1 u hq; omega) w2]
      · refine Rt.be (get_ (base := 0) (b := n) (by omega) (show 0 + n / 64 < rlen 60 from by show _ < 4; omega) (by decide)) ?_
        by_cases c : rb (Zl S 60) 0 n = true
        · rw [if_pos c, nI_4]
          refine Rt.iq (by decide) (Rt.be (get_ (base := 4 * k) (b := n) (by omega) (show 4 * k + n / 64 < rlen 58 from by show _ < 96000; omega) (by decide)) ?_)
          by_cases c2 : rb (Zl S 58) (4 * k) n = true
          · rw [if_pos c2]
            exact Rt.iq (by decide) (Rt.zr (Or.inr rfl) ⟨rfl, Or.inr rfl, fun e => absurd e (by decide)⟩)
          · rw [if_neg c2]
            exact Rt.ip rfl (h53 (fun _ _ => by simpa using c2))
        · rw [if_neg c]
          exact Rt.ip rfl (h53 (fun _ q => absurd ((hf n hlt).mpr q) c))
/-- aliveBehind -/
theorem alb_ (hC : PCx R S0 S ws Ps Pe I) (h1 : Ps ≤ k) (h2 : k < Pe) (hl : l < 160) : Rt (f_aliveBehind R.K S (nI k) (nI l)) (fun Sx r => OXs (fun r => r = 60) S Sx ∧ (r = 0 ∨ r = 1) ∧ (r = 0 → NaB (I k) (Zl S 58) (Zl S 59) k l)) := by
  unfold f_aliveBehind
  refine Rt.bn (hbd_ hC h1 h2 hl) (fun S2 _ t2 => ?_)
  obtain ⟨e2, hf⟩ := t2
  refine (al8 (hC.ps e2.1) h1 h2 hf bigN 0 (by unfold bigN; omega) (Nat.zero_le _) (fun h hh => by omega)).mo (fun S3 r ⟨a, b, c⟩ => ⟨by rw [a]; exact e2, b, fun r0 => ?_⟩)
  have := c r0
  rw [e2.2.1 58 (by decide)] at this
  exact this
/-- goesOut -/
theorem gso_ {rl : Int32} (hC : PCx R S0 S ws Ps Pe I) (h1 : Ps ≤ k) (h2 : k < Pe) (hl : l < 160) (h7 : oI S 16 (some ws) 7 = some rl) (h25 : (I k).kd = 25 → (I k).n1 < 256) : Rt (f_goesOut R.K S (some ws) (nI k) (nI l)) (fun Sx r => Sx = S ∧ (r = 0 ∨ r = 1) ∧ (r = 0 → (I k).kd = 25 → (∃ u : Nat, Zr S 45 l = nI u ∧ u < 256) → ¬ rl < 0 → Zr S 46 l ≠ rl → rb (Zl S 59) (4 * k) (I k).n1 = false)) := by
  obtain ⟨hz, hs, hsl, hb⟩ := hC.2.2.2 k h1 h2
  have h24 := hC.2.1
  obtain ⟨q1, q2, _, _, _, _, _, _, _, _, _, _, _, _, _, _, _, q18⟩ := hz
  have r27 : rI S 27 (nI k) = some (nI (I k).kd) := by rw [rI_n (show k < rlen 27 from by show k < 24000; omega) (by decide), q1]
  have r45 : rI S 45 (nI l) = some (Zr S 45 l) := rI_n (show l < rlen 45 from hl) (by decide)
  have r46 : rI S 46 (nI l) = some (Zr S 46 l) := rI_n (show l < rlen 46 from hl) (by decide)
  have h63 : ∀ {Q : Sg → Int32 → Prop}, Q S 0 → Rt (f_goesOut_63 R.K S) Q := fun q => by
    unfold f_goesOut_63 f_goesOut_64; exact Rt.zr (Or.inl rfl) q
  unfold f_goesOut
  refine Rt.bd r27 (Rt.it (fun w => ?_) (fun w => h63 ⟨rfl, Or.inl rfl, fun _ e => absurd (by rw [e]; rfl) w⟩))
  have hk : (I k).kd = 25 := nI_e (b := 25) (by omega) (by decide) w
  refine Rt.bd r45 (Rt.it (fun w2 => h63 ⟨rfl, Or.inl rfl, fun _ _ ⟨u, e, hu⟩ => ?_⟩) (fun w2 => ?_))
  · rw [e] at w2; exact absurd w2 (nI_nn (by omega))
  · refine Rt.bd h7 (Rt.it (fun w3 => h63 ⟨rfl, Or.inl rfl, fun _ _ _ e => absurd w3 e⟩) (fun w3 => ?_))
    refine Rt.bd r46 (Rt.bd h7 (Rt.it (fun w4 => h63 ⟨rfl, Or.inl rfl, fun _ _ _ _ e => absurd w4 e⟩) (fun w4 => ?_)))
    have hn1 := h25 hk
    have r28 : rI S 28 (nI k) = some (nI (I k).n1) := by rw [rI_n (show k < rlen 28 from by show k < 24000; omega) (by decide), q18.1 hk]
    refine Rt.bd r28 ?_
    rw [nI_4]
    refine Rt.be (get_ (base := 4 * k) (b := (I k).n1) (by omega) (show 4 * k + (I k).n1 / 64 < rlen 59 from by show _ < 96000; omega) (by decide)) ?_
    by_cases c : rb (Zl S 59) (4 * k) (I k).n1 = true
    · rw [if_pos c]
      refine Rt.iq (by decide) ?_
      unfold f_goesOut_64
      exact Rt.zr (Or.inr rfl) ⟨rfl, Or.inr rfl, fun e => absurd e (by decide)⟩
    · rw [if_neg c]
      exact Rt.ip rfl (h63 ⟨rfl, Or.inl rfl, fun _ _ _ _ _ => by simpa using c⟩)
/-- the points of one loan are looked at -/
theorem ck29 {Z : Prop} {rl : Int32} {k9 : Sg → Option Nat → Int32 → Int32 → Option (Sg × Unit)} {Q : Sg → Unit → Prop} (hT : R.T ≤ 3001) (hY : YK R S0) (hl : l < 160) (hC : PCx R S0 S ws Ps Pe I) (hx0 : LX S0 S) (h7 : oI S 16 (some ws) 7 = some rl) (h25 : ∀ k : Nat, Ps ≤ k → k < Pe → (I k).kd = 25 → (I k).n1 < 256) (hp : Zq S 43 l = none ∨ ∃ w : Nat, Zq S 43 l = some w ∧ pOb R S w)
  (kn : ∀ (S2 : Sg) (x2 : Int32), OXs (fun r => r = 60) S S2 → ((x2 < 0 ∧ Z ∧ ∀ k : Nat, Ps ≤ k → k < Pe → Zr S 52 k ≠ 0 → LkK R S0 S (I k) (Zl S 58) (Zl S 59) rl k l) ∨ ∃ t : Nat, t < R.T ∧ x2 = nI t) → Rt (k9 S2 (some ws) x2 (nI (l + 1))) Q) : ∀ (d k : Nat) (S1 : Sg) (x2 : Int32), Pe < k + d → Ps ≤ k → k ≤ Pe → OXs (fun r => r = 60) S S1 → ((x2 < 0 ∧ Z ∧ ∀ k' : Nat, Ps ≤ k' → k' < k → Zr S 52 k' ≠ 0 → LkK R S0 S (I k') (Zl S 58) (Zl S 59) rl k' l) ∨ ∃ t : Nat, t < R.T ∧ x2 = nI t) → Rt (f_checkLoans_29 R.K k9 d S1 (some ws) x2 (nI l) (nI k)) Q
  | 0, k, S1, x2, hd, _, hk, _, _ => by omega
  | d + 1, k, S1, x2, hd, h1, hk, e, hx => by
    have hC1 := hC.ps e.1
    have h24 := hC1.2.1
    unfold f_checkLoans_29
    refine Rt.bd hC1.r4 (Rt.it (fun w => ?_) (fun w => ?_))
    · have : Pe ≤ k := (nI_leI (by omega) (by omega)).mp w
      obtain rfl : k = Pe := by omega
      rw [nI_1]
      exact kn S1 x2 e hx
    · have hlt : k < Pe := by
        by_cases q : k < Pe
        · exact q
        · exact absurd (nI_le (a := Pe) (b := k) (by omega) (by omega)) w
      have e58 : Zl S1 58 = Zl S 58 := e.2.1 58 (by decide)
      have e59 : Zl S1 59 = Zl S 59 := e.2.1 59 (by decide)
      have eqz : Zq S1 = Zq S := e.1.2.2.2.1
      have hLk : ∀ S2 : Sg, OXs (fun r => r = 60) S S2 → ∀ i : iR, LkK R S0 S2 i (Zl S2 58) (Zl S2 59) rl k l → LkK R S0 S i (Zl S 58) (Zl S 59) rl k l := fun S2 e2 i q => by
        have a1 : ZF S2 = ZF S := e2.1.2.1
        have a2 : ZL S2 = ZL S := e2.1.1
        have a3 : Zq S2 = Zq S := e2.1.2.2.2.1
        have a4 : Zr S2 = Zr S := e2.2.2.1
        have a5 : Zl S2 58 = Zl S 58 := e2.2.1 58 (by decide)
        have a6 : Zl S2 59 = Zl S 59 := e2.2.1 59 (by decide)
        obtain ⟨q1, q2⟩ := q
        rw [a4, a6] at q2
        refine ⟨?_, q2⟩
        rw [a4, a3, a5, a6] at q1
        exact q1.imp id (fun q v T w2 v2 T2 ρ ρ2 b1 b2 b3 b4 b5 => q v T w2 v2 T2 ρ ρ2 b1 b2 b3 (b4.st e2.1.lx) (by unfold pVa at b5 ⊢; rw [a1]; exact b5))
      -- on to the next point
      have nx : ∀ (S2 : Sg) (y2 : Int32), OXs (fun r => r = 60) S S2 → ((y2 < 0 ∧ x2 < 0 ∧ (Zr S 52 k ≠ 0 → LkK R S0 S (I k) (Zl S 58) (Zl S 59) rl k l)) ∨ ∃ t : Nat, t < R.T ∧ y2 = nI t) → Rt (f_checkLoans_114 R.K k9 ((f_checkLoans_29 R.K k9 d)) S2 (some ws) y2 (nI l) (nI k)) Q := fun S2 y2 e2 hy => by
        unfold f_checkLoans_114
        rw [nI_1]
        refine ck29 hT hY hl hC hx0 h7 h25 hp kn d (k + 1) S2 y2 (by omega) (by omega) (by omega) e2 (hy.imp (fun ⟨a, b, c⟩ => ?_) id)
        rcases hx with ⟨_, hz, hx⟩ | ⟨t, t1, t2⟩
        · refine ⟨a, hz, fun k' q1 q2 q3 => ?_⟩
          by_cases ek : k' = k
          · subst ek; exact c q3
          · exact hx k' q1 (by omega) q3
        · rw [t2] at b; exact absurd b (nI_nn (by omega))
      have hz1 := (hC1.2.2.2 k h1 hlt).1
      obtain ⟨tk, ht1, ht2⟩ : ∃ tk : Nat, Zr S1 32 k = nI tk ∧ tk < R.T := by obtain ⟨_, _, _, _, _, _, _, _, w, _⟩ := hz1; exact w
      have h106 : ∀ S2 : Sg, OXs (fun r => r = 60) S S2 → Rt (f_checkLoans_106 R.K k9 ((f_checkLoans_29 R.K k9 d)) S2 (some ws) (nI l) (nI k)) Q := fun S2 e2 => by
        unfold f_checkLoans_106
        refine Rt.bd (by rw [rI_n (show k < rlen 32 from by show k < 24000; omega) (by decide), e2.2.2.1, ← e.2.2.1, ht1]) (nx S2 (nI tk) e2 (Or.inr ⟨tk, ht2, rfl⟩))
      have h95 : ∀ S2 : Sg, OXs (fun r => r = 60) S S2 → (x2 < 0 → NaB (I k) (Zl S2 58) (Zl S2 59) k l ∨ ∀ (v T w2 v2 T2 : Nat) (ρ ρ2 : lLc), (I k).pa = some (v, ρ, T) → (I k).ac ≠ 0 → Zq S2 43 l = some w2 → isPt R S0 S2 w2 v2 ρ2 T2 → pVa S2 w2 (I k).n2 → lCmp ρ ρ2 → MtP (I k) (Zr S2 44 l) ρ T) → Rt (f_checkLoans_95 R.K k9 ((f_checkLoans_29 R.K k9 d)) S2 (some ws) x2 (nI l) (nI k)) Q := fun S2 e2 hh => by
        unfold f_checkLoans_95
        have h7' : oI S2 16 (some ws) 7 = some rl := by
          unfold oI ov at h7 ⊢
          rw [e2.1.1, e2.1.2.1]; exact h7
        refine Rt.bn (gso_ (hC.ps e2.1) h1 hlt hl h7' (h25 k h1 hlt)) (fun S3 r3 t3 => ?_)
        obtain ⟨rfl, t4, t5⟩ := t3
        refine Rt.it (fun w4 => nx S3 x2 e2 ?_) (fun _ => h106 S3 e2)
        rcases hx with ⟨a, _, b⟩ | q
        · exact Or.inl ⟨a, a, fun _ => hLk S3 e2 _ ⟨hh a, t5 w4⟩⟩
        · exact Or.inr q
      have h63 : Rt (f_checkLoans_63 R.K k9 ((f_checkLoans_29 R.K k9 d)) S1 (some ws) x2 (nI l) (nI k)) Q := by
        unfold f_checkLoans_63 f_checkLoans_68
        refine Rt.iq (by decide) ?_
        refine Rt.bn (mts_ hC1 hY (hx0.tr e.1.lx) h1 hlt hl (by rw [eqz]; exact hp.imp id (fun ⟨w, a, b⟩ => ⟨w, a, b.st e.1.lx⟩))) (fun S3 r3 t3 => ?_)
        obtain ⟨rfl, t4, t5⟩ := t3
        refine Rt.it (fun w4 => h95 S3 e (fun _ => Or.inr (t5 w4))) (fun _ => ?_)
        refine Rt.bn (alb_ hC1 h1 hlt hl) (fun S4 r4 t6 => ?_)
        obtain ⟨e4, _, t8⟩ := t6
        refine Rt.it (fun w5 => h95 S4 (e.tr e4) (fun _ => Or.inl ?_)) (fun _ => h106 S4 (e.tr e4))
        have := t8 w5
        rw [← e4.2.1 58 (by decide), ← e4.2.1 59 (by decide)] at this
        exact this
      have h67 : (x2 < 0 → Zr S 52 k = 0) → Rt (f_checkLoans_67 R.K k9 ((f_checkLoans_29 R.K k9 d)) S1 (some ws) x2 (nI l) (nI k)) Q := fun hh => by
        unfold f_checkLoans_67 f_checkLoans_68
        refine Rt.ip rfl (nx S1 x2 e ?_)
        rcases hx with ⟨a, _, b⟩ | q
        · exact Or.inl ⟨a, a, fun w9 => absurd (hh a) w9⟩
        · exact Or.inr q
      have r52 : rI S1 52 (nI k) = some (Zr S1 52 k) := rI_n (show k < rlen 52 from by show k < 24000; omega) (by decide)
      refine Rt.bd r52 (Rt.it (fun w2 => h67 (fun _ => by rw [← e.2.2.1]; exact w2)) (fun w2 => Rt.it (fun w3 => h63) (fun w3 => ?_)))
      refine Rt.bd (rI_n (show k < rlen 32 from by show k < 24000; omega) (by decide)) (Rt.it (fun _ => h67 (fun w9 => absurd w9 w3)) (fun _ => h63))
/-- a loan is looked after -/
def LnK (R : yR) (S0 S : Sg) (I : Nat → iR) (lv f : Nat → Int64) (rl : Int32) (l Ps Pe : Nat) : Prop := LnD I (Zr S 52) f l Ps Pe ∧ (∀ u : Nat, u < 256 → Zr S 45 l = nI u → rb f (4 * Ps) u = true) ∧ ∀ k : Nat, Ps ≤ k → k < Pe → Zr S 52 k ≠ 0 → LkK R S0 S (I k) lv f rl k l
theorem ck9 {rl : Int32} {L : Nat} {Q : Sg → Unit → Prop} (hT : R.T ≤ 3001) (hY : YK R S0) (hL : L ≤ 160) (hC : PCx R S0 S ws Ps Pe I) (hx0 : LX S0 S) (h7 : oI S 16 (some ws) 7 = some rl) (h25 : ∀ k : Nat, Ps ≤ k → k < Pe → (I k).kd = 25 → (I k).n1 < 256) (h47 : Zi S 47 = nI L) (hn : lnPR R S)
  (kf : ∀ S2 : Sg, OXs (fun r => r = 59 ∨ r = 60) S S2 → (∀ l : Nat, l < L → ∃ f : Nat → Int64, LnK R S0 S I (Zl S 58) f rl l Ps Pe) → Q S2 ()) (kb : ∀ (S2 : Sg) (t : Nat), OXs (fun r => r = 59 ∨ r = 60) S S2 → t < R.T → Q (flS S2 6 (Zr S2 6 t)) ()) : ∀ (d l : Nat) (S1 : Sg) (x2 : Int32), L < l + d → l ≤ L → OXs (fun r => r = 59 ∨ r = 60) S S1 → ((x2 < 0 ∧ ∀ l' : Nat, l' < l → ∃ f : Nat → Int64, LnK R S0 S I (Zl S 58) f rl l' Ps Pe) ∨ ∃ t : Nat, t < R.T ∧ x2 = nI t) → Rt (f_checkLoans_9 R.K d S1 (some ws) x2 (nI l)) Q
  | 0, l, S1, x2, hd, hl, _, _ => by omega
  | d + 1, l, S1, x2, hd, hl, e, hx => by
    have e47 : Zi S1 47 = nI L := by rw [e.2.2.2]; exact h47
    unfold f_checkLoans_9
    rw [e47]
    refine Rt.it (fun w => ?_) (fun w => ?_)
    · have : L ≤ l := (nI_leI (by omega) (by omega)).mp w
      obtain rfl : l = L := by omega
      refine Rt.it (fun w2 => ?_) (fun w2 => ?_)
      · unfold f_checkLoans_137
        refine Rt.rt (kf S1 e ?_)
        rcases hx with ⟨_, b⟩ | ⟨t, t1, t2⟩
        · exact b
        · rw [t2] at w2; exact absurd w2 (nI_nn (by omega))
      · rcases hx with ⟨a, _⟩ | ⟨t, t1, t2⟩
        · exact absurd a w2
        · rw [t2]
          refine Rt.be (fail_ (by omega)) ?_
          unfold f_checkLoans_137
          exact Rt.rt (kb S1 t e t1)
    · have hlt : l < L := by
        by_cases q : l < L
        · exact q
        · exact absurd (nI_le (a := L) (b := l) (by omega) (by omega)) w
      obtain ⟨n1, n2⟩ := hn l (by omega) (by rw [h47]; exact nI_lt hlt (by omega))
      have h45 : ∃ ou : Option Nat, Zr S 45 l = oNm ou ∧ ∀ u : Nat, ou = some u → u < 256 := by
        rcases n2 with q | ⟨u, u1, u2⟩
        · exact ⟨none, q, fun u w => by cases w⟩
        · exact ⟨some u, u2, fun u' w => by cases w; exact u1⟩
      obtain ⟨ou, o1, o2⟩ := h45
      refine Rt.bn (spl_ (ou := ou) (hC.ps e.1) (by omega) (by rw [e.2.2.1]; exact o1) o2) (fun S2 _ t2 => ?_)
      obtain ⟨e2, hC2, d2, u2⟩ := t2
      have e12 := e.tr e2
      refine Rt.bd hC2.r5 ?_
      have h7' : oI S2 16 (some ws) 7 = some rl := by
        unfold oI ov at h7 ⊢
        rw [e12.1.1, e12.1.2.1]; exact h7
      have a58 : Zl S2 58 = Zl S 58 := e12.2.1 58 (by decide)
      have a52 : Zr S2 = Zr S := e12.2.2.1
      refine ck29 (Z := ∀ l' : Nat, l' < l → ∃ f : Nat → Int64, LnK R S0 S I (Zl S 58) f rl l' Ps Pe) hT hY (show l < 160 by omega) hC2 (hx0.tr e12.1.lx) h7' h25 (by rw [e12.1.2.2.2.1]; exact n1.imp id (fun ⟨w, a, b⟩ => ⟨w, a, b.st e12.1.lx⟩)) (fun S3 y3 e3 hy => ?_) bigN Ps S2 x2 (by unfold bigN; have := hC2.2.1; omega) (Nat.le_refl _) (Nat.le_of_lt hC2.1) OXs.rf (hx.imp (fun ⟨a, b⟩ => ⟨a, b, fun k' q1 q2 => by omega⟩) id)
      refine ck9 hT hY hL hC hx0 h7 h25 h47 hn kf kb d (l + 1) S3 y3 (by omega) (by omega) (e12.tr (e3.mo (fun r h => Or.inr h))) ?_
      rcases hy with ⟨y1, x3, y2⟩ | q
      · · refine Or.inl ⟨y1, fun l' hl' => ?_⟩
          by_cases el : l' = l
          · subst el
            refine ⟨Zl S2 59, by rw [← a52]; exact d2, fun u hu hz => u2 u ?_, fun k q1 q2 q3 => ?_⟩
            · rw [o1] at hz
              cases ou with
              | none => exact absurd (show nI u < 0 by rw [← hz]; decide) (nI_nn (by omega))
              | some u' => rw [nI_e (a := u') (b := u) (by have := o2 u' rfl; omega) (by omega) hz]
            · have q := y2 k q1 q2 (by rw [a52]; exact q3)
              obtain ⟨z1, z2⟩ := q
              rw [a52] at z2
              refine ⟨?_, z2⟩
              rw [a52, a58, e12.1.2.2.2.1] at z1
              refine z1.imp id (fun q v T w2 v2 T2 ρ ρ2 b1 b2 b3 b4 b5 => q v T w2 v2 T2 ρ ρ2 b1 b2 b3 (b4.st e12.1.lx) (by unfold pVa at b5 ⊢; rw [e12.1.2.1]; exact b5))
          · exact x3 l' (by omega)
      · exact Or.inr q
/-- checkLoans -/
theorem ckl_ {rl : Int32} {L : Nat} (hT : R.T ≤ 3001) (hY : YK R S0) (hL : L ≤ 160) (hC : PCx R S0 S ws Ps Pe I) (hx0 : LX S0 S) (h7 : oI S 16 (some ws) 7 = some rl) (h25 : ∀ k : Nat, Ps ≤ k → k < Pe → (I k).kd = 25 → (I k).n1 < 256) (h47 : Zi S 47 = nI L) (hn : lnPR R S) : Rt (f_checkLoans R.K S (some ws)) (fun S2 _ => (OXs (fun r => r = 58 ∨ r = 59 ∨ r = 60) S S2 ∧ ∃ lv : Nat → Int64, LvD I lv Ps Pe ∧ ∀ l : Nat, l < L → ∃ f : Nat → Int64, LnK R S0 S I lv f rl l Ps Pe) ∨ ∃ (S3 : Sg) (t : Nat), OXs (fun r => r = 58 ∨ r = 59 ∨ r = 60) S S3 ∧ t < R.T ∧ S2 = flS S3 6 (Zr S3 6 t)) := by
  unfold f_checkLoans
  refine Rt.bn (lives_ hC) (fun S1 _ t1 => ?_)
  obtain ⟨e1, hC1, hv⟩ := t1
  have m1 := e1.mo (P2 := fun r => r = 58 ∨ r = 59 ∨ r = 60) (fun r h => by omega)
  have h7' : oI S1 16 (some ws) 7 = some rl := by
    unfold oI ov at h7 ⊢
    rw [e1.1.1, e1.1.2.1]; exact h7
  have hn1 : lnPR R S1 := hn.st e1.1.lx (fun l _ _ => by rw [e1.1.2.2.2.1]) (fun l _ _ => Or.inl (by rw [e1.2.2.1])) (by rw [e1.2.2.2])
  refine ck9 (S := S1) hT hY hL hC1 (hx0.tr e1.1.lx) h7' h25 (by rw [e1.2.2.2]; exact h47) hn1 (fun S2 e2 hq => Or.inl ⟨m1.tr (e2.mo (fun r h => by omega)), Zl S1 58, hv, fun l hl => ?_⟩) (fun S2 t e2 ht => Or.inr ⟨S2, t, m1.tr (e2.mo (fun r h => by omega)), ht, rfl⟩) bigN 0 S1 (-1) (by unfold bigN; omega) (Nat.zero_le _) OXs.rf (Or.inl ⟨by decide, fun l hl => by omega⟩)
  obtain ⟨f, f1, f2, f3⟩ := hq l hl
  rw [e1.2.2.1] at f1 f2
  refine ⟨f, f1, f2, fun k q1 q2 q3 => ?_⟩
  obtain ⟨z1, z2⟩ := f3 k q1 q2 (by rw [e1.2.2.1]; exact q3)
  rw [e1.2.2.1] at z2
  refine ⟨?_, z2⟩
  rw [e1.2.2.1, e1.1.2.2.2.1] at z1
  exact z1.imp id (fun q v T w2 v2 T2 ρ ρ2 b1 b2 b3 b4 b5 => q v T w2 v2 T2 ρ ρ2 b1 b2 b3 (b4.st e1.1.lx) (by unfold pVa at b5 ⊢; rw [e1.1.2.1]; exact b5))
end PS8
end
-- m2.j.lean.txt
section
/-- how many leaves a type has, by its number -/
def zN (R : yR) (S : Sg) (T : Nat) : Nat := if yK R S T = 2 then fN (obF S (R.ws (T - 4))) 20 else 1
/-- where a member's leaves begin -/
def ofN (R : yR) (S : Sg) (T q : Nat) : Nat := psN (fun j => zN R S (yQ R S T 0 j)) q
/-- the leaves that a way's members lead to: the first one, the type -/
def pfO (R : yR) (S : Sg) : Nat → lLc → Nat × Nat
  | T, [] => (0, T)
  | T, s :: ρ => if s.1 = 0 then (ofN R S T s.2 + (pfO R S (yQ R S T 0 s.2) ρ).1, (pfO R S (yQ R S T 0 s.2) ρ).2) else (0, T)
/-- the leaves are told -/
def LFS (R : yR) (S0 : Sg) (g : Nat → Int32) : Prop := YK R S0 ∧ RIn R S0 ∧ ITA R S0 ∧ Zq S0 11 = Zq R.S 11 ∧ SLF R S0 g
/-- the type of the variable a -/
def vTp (S0 S : Sg) (a : Nat) : Nat := abU S0 (rN (obF S a) 2)
section PS9
variable {R : yR} {S0 S : Sg} {g : Nat → Int32}
theorem zN_ty (h : LFS R S0 g) {m x n : Nat} (q : tyLv R g m S0 x n) : zN R S0 (abT S0 x) = n ∧ 1 ≤ n ∧ n ≤ 16 := by
  obtain ⟨hY, _⟩ := h
  obtain ⟨kd, ix, o, q1, q2⟩ := q
  have hy := hY.2.2 _ _ _ _ q1
  have him := hY.2.1
  obtain ⟨t, a1, _, a3, a4, a5⟩ := abV_is hY q1
  have ht := hY.1
  rcases q2 with ⟨e, j, hj, e2, hk, hm, ⟨fs, f1, f2, f3⟩, s, s1, s2, s3⟩ | ⟨hk, e⟩
  · subst e; subst e2
    have eo : o = none := by
      rcases hy with ⟨w, _⟩ | ⟨_, _, w⟩ | ⟨w, _⟩ | ⟨w, _⟩
      · exact absurd (show (3 : Int32) = 0 ∨ (3 : Int32) = 1 ∨ (3 : Int32) = 2 ∨ (3 : Int32) = 8 from w) (by decide)
      · exact w
      · exact absurd (show (3 : Int32) = 4 from w) (by decide)
      · exact absurd (show (3 : Int32) = 5 ∨ (3 : Int32) = 6 ∨ (3 : Int32) = 7 from w) (by decide)
    subst eo
    rw [if_neg (by decide), if_neg (by decide), abV_it hY (Or.inl rfl) hj q1] at a5
    refine ⟨?_, f3, by omega⟩
    unfold zN
    rw [a5, yK_it hY hj, if_pos hk, if_pos rfl, show 4 + j - 4 = j by omega, obF_o f1, fN_i f2 (by omega)]
  · subst e
    refine ⟨?_, by omega, by omega⟩
    unfold zN
    refine if_neg (fun w => ?_)
    have lo : ∀ T : Nat, T < 4 → yK R S0 T = 0 := fun T hT => by
      unfold yK
      rw [if_neg (by omega), if_neg (by omega), if_neg (by omega)]
    have hi : ∀ T : Nat, 10000 ≤ T → yK R S0 T ≠ 2 := fun T hT => by
      unfold yK
      rw [if_pos hT]
      by_cases c : T < 30000
      · rw [if_pos c]
        by_cases c2 : T % 2 = 0
        · rw [if_pos c2]; decide
        · rw [if_neg c2]; decide
      · rw [if_neg c]; decide
    rcases hy with ⟨z, _⟩ | ⟨z, _⟩ | ⟨z, ⟨i, i1, i2, i3⟩, i4⟩ | ⟨z, z2, u, z3⟩
    · have z : kd = 0 ∨ kd = 1 ∨ kd = 2 ∨ kd = 8 := z
      have hT : abT S0 x < 4 := by
        rw [a5, a4]; unfold abK
        rcases z with z | z | z | z <;> subst z <;> simp
      rw [lo _ hT] at w; exact absurd w (by decide)
    · exact hk z
    · have z : kd = 4 := z
      have i2 : ix = nI i := i2
      have i4 : o = none := i4
      subst z; subst i2; subst i4
      rw [if_neg (by decide), if_neg (by decide), abV_it hY (Or.inr rfl) i1 q1] at a5
      rw [a5, yK_it hY i1, if_neg (by rw [i3]; decide), if_pos i3] at w
      exact absurd w (by decide)
    · have z : kd = 5 ∨ kd = 6 ∨ kd = 7 := z
      have z2 : ix = 0 := z2
      have z3 : o = some u := z3
      subst z2; subst z3
      rcases z with z | z | z
      · subst z
        rw [if_neg (by decide), if_neg (by decide)] at a5
        rw [a5, (bx_y hY q1).1] at w
        exact absurd w (by decide)
      · subst z
        rw [if_pos rfl] at a5
        exact hi _ (by omega) w
      · subst z
        rw [if_neg (by decide), if_pos rfl] at a5
        exact hi _ (by omega) w
theorem zN_0 : zN R S0 0 = 1 := by
  unfold zN
  refine if_neg (fun w => ?_)
  unfold yK at w
  rw [if_neg (by omega), if_neg (by omega), if_neg (by omega)] at w
  exact absurd w (by decide)
theorem zN_st (h : LFS R S0 g) {j : Nat} (hj : j < R.im) (hk : R.ik j = 10) : ∃ (fs : List Value) (mn ta : Nat) (f : Nat → Option Nat), R.ws j ∈ ZL S0 ∧ ZF S0 (R.ws j) = .inr (16, fs) ∧ fs[3]? = some (.int (nI mn)) ∧ mn ≤ 12 ∧ fs[10]? = some (.ref ta) ∧ ta ∈ ZL S0 ∧ ZF S0 ta = .inl (R.K.1 4, 13, .inr (.inr (.inr (.inr f)))) ∧ (∀ k : Nat, k < mn → ∃ x : Nat, f k = some x ∧ vTy S0 x ∧ abT S0 x = yQ R S0 (4 + j) 0 k ∧ tyLv R g (hN g j R.im) S0 x (zN R S0 (abT S0 x))) ∧ iLv R S0 j (zN R S0 (4 + j)) ∧ zN R S0 (4 + j) = ofN R S0 (4 + j) mn ∧ 1 ≤ zN R S0 (4 + j) ∧ zN R S0 (4 + j) ≤ 16 := by
  have h0 := h
  obtain ⟨hY, hR, hA, _, hS⟩ := h
  obtain ⟨n, n1, fs, mn, ta, f, w, e1, e2, e3, e4, e5, e6, e7⟩ := hS.2 j hj hk
  obtain ⟨a1, a2, fs2, mn2, na, gg, b1, b2, b3, b4, b5, b6, b7, b8, b9⟩ := hA j hj
  have e4j : 4 + j - 4 = j := by omega
  have ef : fs2 = fs := by
    have := b1.symm.trans e1; cases this; rfl
  subst ef
  have em : mn2 = mn := by
    rw [b3] at e2
    have := Value.int.inj (Option.some.inj e2)
    exact nI_e (by omega) (by omega) this
  subst em
  obtain ⟨m1, m2⟩ : nXo R ta ∧ ∀ k : Nat, k < mn2 → ∃ x : Nat, f k = some x ∧ vTy S0 x := by
    rcases b9 with ⟨_, ta2, f2, c1, c2⟩ | ⟨c, _⟩ | ⟨c, _⟩
    · have et : ta2 = ta := by rw [c1] at e4; cases e4; rfl
      subst et
      have ff : f2 = f := by have := c2.2.1.symm.trans e5; cases this; rfl
      subst ff
      exact ⟨c2.1, c2.2.2⟩
    · rw [hk] at c; exact absurd c (by decide)
    · rw [hk] at c; exact absurd c (by decide)
  have hq : ∀ k : Nat, k < mn2 → ∃ x : Nat, f k = some x ∧ vTy S0 x ∧ abT S0 x = yQ R S0 (4 + j) 0 k ∧ tyLv R g (hN g j R.im) S0 x (w k) := fun k hk2 => by
    obtain ⟨x, x1, x2⟩ := m2 k hk2
    obtain ⟨y, y1, y2⟩ := e6 k hk2
    rw [x1] at y1; cases y1
    refine ⟨x, x1, x2, ?_, y2⟩
    unfold yQ
    rw [e4j, if_pos hk, obF_o e1, rN_r e4, abR_o e5 x1, (x2.nm hY).2.2]
  have hw : ∀ k : Nat, k < mn2 → zN R S0 (yQ R S0 (4 + j) 0 k) = w k := fun k hk2 => by
    obtain ⟨x, _, _, x3, x4⟩ := hq k hk2
    rw [← x3]; exact (zN_ty h0 x4).1
  have hz : zN R S0 (4 + j) = n := by
    obtain ⟨⟨fs3, f1, f2, f3⟩, s, s1, s2, s3⟩ := n1
    unfold zN
    rw [yK_it hY hj, if_pos hk, if_pos rfl, e4j, obF_o f1, fN_i f2 (by omega)]
  have hn : 1 ≤ n ∧ n ≤ 16 := by
    obtain ⟨⟨fs3, f1, f2, f3⟩, s, s1, s2, s3⟩ := n1
    omega
  refine ⟨fs2, mn2, ta, f, hR _ a1.1, e1, e2, e3, e4, hR _ m1.1, e5, fun k hk2 => ?_, by rw [hz]; exact n1, ?_, by omega, by omega⟩
  · obtain ⟨x, x1, x2, x3, x4⟩ := hq k hk2
    exact ⟨x, x1, x2, x3, by rw [(zN_ty h0 x4).1]; exact x4⟩
  · rw [hz, e7]
    unfold ofN
    exact psN_cg (fun k hk2 => (hw k hk2).symm)
theorem it11 (h : LFS R S0 g) (hx : LX S0 S) {j : Nat} (hj : j < R.im) : rQ S 11 (nI j) = some (some (R.ws j)) := by
  have := h.1.2.1
  rw [rQ_n (show j < rlen 11 from by show j < 70; omega) (by decide), hx.2.2.2.2.1 11 (fun w => by rcases w with w | w | w <;> omega), h.2.2.2.1, (h.2.2.1 j hj).2.1]
theorem pt29 (h : LFS R S0 g) (hx : LX S0 S) {j : Nat} (hj : j < R.im) (hk : R.ik j = 10) {V : Sg → Option Nat → Option (Sg × Int32)} (hV : ∀ x n : Nat, tyLv R g (hN g j R.im) S0 x n → V S (some x) = some (S, nI n)) : ∀ (d k : Nat), 12 < k + d → ofN R S0 (4 + j) k ≤ zN R S0 (4 + j) → (∀ fs mn, ZF S0 (R.ws j) = .inr (16, fs) → fs[3]? = some (.int (nI mn)) → mn ≤ 12 → k ≤ mn) → f_partsOf_29 R.K V d S (nI (ofN R S0 (4 + j) k)) (some (R.ws j)) (nI k) = some (S, nI (zN R S0 (4 + j)))
  | 0, k, hd, _, hm => by
    obtain ⟨fs, mn, ta, f, b1, b2, b3, b4, _⟩ := zN_st h hj hk
    have := hm fs mn b2 b3 b4
    omega
  | d + 1, k, hd, hle, hm => by
    obtain ⟨fs, mn, ta, f, b1, b2, b3, b4, b5, b6, b7, b8, b9, b10, b11, b12⟩ := zN_st h hj hk
    have hkm := hm fs mn b2 b3 b4
    obtain ⟨c1, f2, c2, c3, c4⟩ := hx.it b1 b2
    obtain ⟨d1, d2⟩ := hx.ro b6 b7
    have r3 : oI S 16 (some (R.ws j)) 3 = some (nI mn) := oI_mk c1 c2 (by rw [c4 3 (by decide) (Or.inl (by decide))]; exact b3)
    have r10 : oR S 16 (some (R.ws j)) 10 = some (some ta) := oR_mk c1 c2 (v := some ta) (by rw [c4 10 (by decide) (Or.inl (by decide))]; exact b5)
    unfold f_partsOf_29
    rw [r3]
    simp only [Option.bind_some]
    by_cases e : k = mn
    · subst e
      rw [if_pos (nI_le (Nat.le_refl _) (by omega)), b10]
    · have hlt : k < mn := by omega
      rw [if_neg (Int32.not_le.mpr (nI_lt hlt (by omega))), r10]
      simp only [Option.bind_some]
      rw [aQ_n d1 d2 (show k < 13 by omega) (by decide)]
      simp only [Option.bind_some]
      obtain ⟨x, x1, x2, x3, x4⟩ := b8 k hlt
      rw [x1, hV x _ x4]
      show f_partsOf_29 R.K V d S (nI (ofN R S0 (4 + j) k) + nI (zN R S0 (abT S0 x))) (some (R.ws j)) (nI k + 1) = _
      have es : ofN R S0 (4 + j) k + zN R S0 (abT S0 x) = ofN R S0 (4 + j) (k + 1) := by
        rw [x3]; rfl
      rw [nI_add, nI_1, es]
      refine pt29 h hx hj hk hV d (k + 1) (by omega) ?_ (fun fs' mn' q1 q2 q3 => ?_)
      · rw [b10]; exact psN_mo (by omega)
      · have : fs' = fs := by have := q1.symm.trans b2; cases this; rfl
        subst this
        rw [b3] at q2
        have := nI_e (by omega) (by omega) (Value.int.inj (Option.some.inj q2))
        omega
/-- partsOf -/
theorem pto_ (h : LFS R S0 g) (hx : LX S0 S) : ∀ (d m x n : Nat), m < d → tyLv R g m S0 x n → f_partsOf R.K d S (some x) = some (S, nI n)
  | 0, m, x, n, hd, _ => by omega
  | d + 1, m, x, n, hd, q => by
    have hn := (zN_ty h q).1
    obtain ⟨kd, ix, o, q1, q2⟩ := q
    obtain ⟨t, _, _, xl, xf⟩ := hx.ty q1
    have o0 : oI S 20 (some x) 0 = some kd := oI_mk xl xf rfl
    have o1 : oI S 20 (some x) 1 = some ix := oI_mk xl xf rfl
    unfold f_partsOf
    rw [if_neg (by simp), o0]
    simp only [Option.bind_some]
    rcases q2 with ⟨e, j, hj, e2, hk, hm, hl⟩ | ⟨hk, e⟩
    · subst e; subst e2
      rw [if_pos rfl, o1]
      simp only [Option.bind_some]
      rw [it11 h hx hj]
      simp only [Option.bind_some]
      have hz : zN R S0 (4 + j) = n := by
        obtain ⟨⟨fs, f1, f2, f3⟩, s, s1, s2, s3⟩ := hl
        unfold zN
        rw [yK_it h.1 hj, if_pos hk, if_pos rfl, show 4 + j - 4 = j by omega, obF_o f1, fN_i f2 (by omega)]
      rw [← hz]
      exact pt29 h hx hj hk (fun y n2 q9 => pto_ h hx d (hN g j R.im) y n2 (by omega) q9) bigN 0 (by unfold bigN; omega) (Nat.zero_le _) (fun _ _ _ _ _ => Nat.zero_le _)
    · subst e
      rw [if_neg hk]; rfl
theorem tyLv_of (h : LFS R S0 g) {x : Nat} {kd ix : Int32} {o : Option Nat} (q : isTy S0 x kd ix o) : tyLv R g 71 S0 x (zN R S0 (abT S0 x)) := by
  have hy := h.1.2.2 _ _ _ _ q
  have him := h.1.2.1
  by_cases e : kd = 3
  · subst e
    rcases hy with ⟨w, _⟩ | ⟨_, ⟨i, i1, i2, i3⟩, w⟩ | ⟨w, _⟩ | ⟨w, _⟩
    · exact absurd (show (3 : Int32) = 0 ∨ (3 : Int32) = 1 ∨ (3 : Int32) = 2 ∨ (3 : Int32) = 8 from w) (by decide)
    · have i2 : ix = nI i := i2
      subst i2
      obtain ⟨_, _, _, _, _, _, _, _, _, _, _, _, b9, _⟩ := zN_st h i1 i3
      have q9 : tyLv R g 71 S0 x (zN R S0 (4 + i)) := ⟨3, nI i, o, q, Or.inl ⟨rfl, i, i1, rfl, i3, by have := hN_le (f := g) (i := i) R.im; omega, b9⟩⟩
      rw [(zN_ty h q9).1]; exact q9
    · exact absurd (show (3 : Int32) = 4 from w) (by decide)
    · have w : (3 : Int32) = 5 ∨ (3 : Int32) = 6 ∨ (3 : Int32) = 7 := w
      exact absurd w (by decide)
  · have q9 : tyLv R g 71 S0 x 1 := ⟨kd, ix, o, q, Or.inr ⟨e, rfl⟩⟩
    rw [(zN_ty h q9).1]; exact q9
/-- .. of what may be none -/
theorem pto0 (h : LFS R S0 g) (hx : LX S0 S) {o : Option Nat} (ho : ∀ x : Nat, o = some x → rTy S0 x) : f_partsOf R.K 80 S o = some (S, nI (zN R S0 (abU S0 o))) ∧ 1 ≤ zN R S0 (abU S0 o) ∧ zN R S0 (abU S0 o) ≤ 16 := by
  cases o with
  | none =>
    rw [show abU S0 none = 0 from rfl, zN_0]
    refine ⟨?_, by omega, by omega⟩
    unfold f_partsOf
    rw [if_pos rfl]; rfl
  | some x =>
    obtain ⟨kd, ix, o, q, _⟩ := (ho x rfl).ty
    have := tyLv_of h q
    exact ⟨pto_ h hx 80 71 x _ (by omega) this, (zN_ty h this).2⟩
end PS9
end
-- m2.k.lean.txt
section
section PS10
variable {R : yR} {S0 S : Sg} {g : Nat → Int32}
theorem sCo_0 (k : Nat) : sCo (0, k) = nI k := rfl
theorem sCo_p (a k : Nat) : sCo (a + 2, k) = nI (1000 + 16 * a + k) := by
  unfold sCo
  rw [if_neg (show ¬ (a + 2, k).1 = 0 by simp), if_neg (show ¬ (a + 2, k).1 = 1 by simp)]
  rfl
/-- a step, as it is written -/
theorem stY2.co {x y : Nat} {s : Nat × Nat} (h : stY2 R S0 x s y) : (s = (1, 0) ∧ sCo s = -1) ∨ (∃ k : Nat, s = (0, k) ∧ sCo s = nI k ∧ k < 12) ∨ (∃ a k : Nat, s = (a + 2, k) ∧ sCo s = nI (1000 + 16 * a + k) ∧ a < 12 ∧ k < 12) := by
  rcases h with ⟨e, _⟩ | ⟨i, k, e, _, fs, mn, ta, f, _, _, _, _, _, h6, h7, _⟩ | ⟨i, a, k, mk, tx, e, _, hen, hk, _⟩
  · subst e; exact Or.inl ⟨rfl, rfl⟩
  · subst e; exact Or.inr (Or.inl ⟨k, rfl, rfl, by omega⟩)
  · subst e
    obtain ⟨fs, mn, vr, pa, fv, f, h1, h2, h3, h4, h5, h6, h7, h8, h9, h10, h11, h12, h13⟩ := hen
    refine Or.inr (Or.inr ⟨a, k, rfl, sCo_p a k, by omega, ?_⟩)
    obtain ⟨_, ⟨q1, q2⟩ | ⟨wa, ta, q1, q2, q3⟩⟩ := h12
    · omega
    · omega
theorem pf67 (h : LFS R S0 g) (hx : LX S0 S) {i k w j va n sa ta B : Nat} {f : Nat → Int32} {G : Nat → Option Nat} {k21 : Sg → Option Nat → Int32 → Option Nat → Int32 → Option (Sg × Int32)} (hi : i < R.im) (hik : R.ik i = 10) (a1 : w ∈ ZL S) (a2 : ZF S w = .inr (18, [.ref va, .int (nI n), .ref sa, .ref ta])) (a3 : sa ∈ ZL S ∧ ZF S sa = .inl (R.K.1 0, n, .inl f)) (a4 : ta ∈ ZL S ∧ ZF S ta = .inl (R.K.1 4, n + 1, .inr (.inr (.inr (.inr G))))) (hn : n ≤ 5) (hj : j < n) (hf : f j = nI k) (hk : k < 12) (hkm : ofN R S0 (4 + i) k ≤ 16) (hfl : ∃ x : Nat, fld R S0 i k x) : ∀ (d q : Nat), 12 < q + d → q ≤ k → f_partFrom_67 R.K k21 d S (some w) (nI (B + ofN R S0 (4 + i) q)) (nI j) (some (R.ws i)) (nI q) = k21 S (some w) (nI (B + ofN R S0 (4 + i) k)) (G (j + 1)) (nI (j + 1))
  | 0, q, hd, hq => by omega
  | d + 1, q, hd, hq => by
    have r2 : oR S 18 (some w) 2 = some (some sa) := oR_mk a1 a2 (v := some sa) rfl
    have r3 : oR S 18 (some w) 3 = some (some ta) := oR_mk a1 a2 (v := some ta) rfl
    unfold f_partFrom_67
    rw [r2]
    simp only [Option.bind_some]
    rw [aI_n a3.1 a3.2 hj (by omega), hf]
    simp only [Option.bind_some]
    by_cases e : q = k
    · subst e
      rw [if_pos (nI_le (Nat.le_refl _) (by omega)), r3]
      simp only [Option.bind_some]
      rw [nI_1, aQ_n a4.1 a4.2 (show j + 1 < n + 1 by omega) (by omega)]
      rfl
    · have hlt : q < k := by omega
      rw [if_neg (Int32.not_le.mpr (nI_lt hlt (by omega)))]
      obtain ⟨fs, mn, tt, ff, b1, b2, b3, b4, b5, b6, b7, b8, b9, b10, b11, b12⟩ := zN_st h hi hik
      obtain ⟨c1, f2, c2, c3, c4⟩ := hx.it b1 b2
      obtain ⟨d1, d2⟩ := hx.ro b6 b7
      have hkm2 : k < mn := by
        obtain ⟨x, fs', mn', _, _, _, _, _, h4, h5, h6, h7, _⟩ := hfl
        have : fs' = fs := by have := h4.symm.trans b2; cases this; rfl
        subst this
        rw [b3] at h5
        have := nI_e (by omega) (by omega) (Value.int.inj (Option.some.inj h5))
        omega
      have r10 : oR S 16 (some (R.ws i)) 10 = some (some tt) := oR_mk c1 c2 (v := some tt) (by rw [c4 10 (by decide) (Or.inl (by decide))]; exact b5)
      rw [r10]
      simp only [Option.bind_some]
      rw [aQ_n d1 d2 (show q < 13 by omega) (by decide)]
      simp only [Option.bind_some]
      obtain ⟨x, x1, x2, x3, x4⟩ := b8 q (by omega)
      rw [x1, pto_ h hx 80 (hN g i R.im) x _ (by have := hN_le (f := g) (i := i) R.im; have := h.1.2.1; omega) x4]
      show f_partFrom_67 R.K k21 d S (some w) (nI (B + ofN R S0 (4 + i) q) + nI (zN R S0 (abT S0 x))) (nI j) (some (R.ws i)) (nI q + 1) = _
      have es : B + ofN R S0 (4 + i) q + zN R S0 (abT S0 x) = B + ofN R S0 (4 + i) (q + 1) := by
        rw [x3, Nat.add_assoc]; rfl
      rw [nI_add, nI_1, es]
      exact pf67 h hx hi hik a1 a2 a3 a4 hn hj hf hk hkm hfl d (q + 1) (by omega) (by omega)
theorem pf21 (h : LFS R S0 g) (hx : LX S0 S) {w va sa ta : Nat} {ρ : lLc} {f : Nat → Int32} {G : Nat → Option Nat} (a1 : w ∈ ZL S) (a2 : ZF S w = .inr (18, [.ref va, .int (nI ρ.length), .ref sa, .ref ta])) (a3 : sa ∈ ZL S ∧ ZF S sa = .inl (R.K.1 0, ρ.length, .inl f)) (a4 : ta ∈ ZL S ∧ ZF S ta = .inl (R.K.1 4, ρ.length + 1, .inr (.inr (.inr (.inr G))))) (a5 : ∀ (j : Nat) (s : Nat × Nat), ρ[j]? = some s → f j = sCo s ∧ ∃ x y : Nat, G j = some x ∧ G (j + 1) = some y ∧ stY2 R S0 x s y) (a6 : ∀ j x : Nat, j ≤ ρ.length → G j = some x → rTy S0 x) (hn : ρ.length ≤ 5) : ∀ (d j B : Nat), ρ.length < j + d → j ≤ ρ.length → f_partFrom_21 R.K d S (some w) (nI B) (G j) (nI j) = some (Ui S 57 (nI (zN R S0 (pfO R S0 (abU S0 (G j)) (ρ.drop j)).2)), nI (B + (pfO R S0 (abU S0 (G j)) (ρ.drop j)).1)) ∧ (pfO R S0 (abU S0 (G j)) (ρ.drop j)).1 + zN R S0 (pfO R S0 (abU S0 (G j)) (ρ.drop j)).2 ≤ zN R S0 (abU S0 (G j))
  | 0, j, B, hd, hj => by omega
  | d + 1, j, B, hd, hj => by
    have r1 : oI S 18 (some w) 1 = some (nI ρ.length) := oI_mk a1 a2 rfl
    have r2 : oR S 18 (some w) 2 = some (some sa) := oR_mk a1 a2 (v := some sa) rfl
    obtain ⟨p1, p2, p3⟩ := pto0 h hx (o := G j) (fun x e => a6 j x hj e)
    have h116 : f_partFrom_116 R.K S (nI B) (G j) = some (Ui S 57 (nI (zN R S0 (abU S0 (G j)))), nI B) := by
      unfold f_partFrom_116
      rw [p1]; rfl
    unfold f_partFrom_21
    rw [r1]
    simp only [Option.bind_some]
    by_cases e : j = ρ.length
    · subst e
      rw [if_pos (nI_le (Nat.le_refl _) (by omega)), List.drop_length, h116]
      exact ⟨rfl, Nat.le_of_eq (Nat.zero_add _)⟩
    · have hlt : j < ρ.length := by omega
      rw [if_neg (Int32.not_le.mpr (nI_lt hlt (by omega))), r2]
      simp only [Option.bind_some]
      rw [aI_n a3.1 a3.2 hlt (by omega)]
      simp only [Option.bind_some]
      rw [List.drop_eq_getElem_cons hlt]
      obtain ⟨s1, x, y, s2, s3, s4⟩ := a5 j _ (List.getElem?_eq_getElem hlt)
      generalize ρ[j] = s at s1 s4
      rw [s1]
      rcases s4.co with ⟨c1, c2⟩ | ⟨k, c1, c2, c3⟩ | ⟨a, k, c1, c2, c3, c4⟩
      · rw [c2, if_pos (by decide), h116, c1]
        exact ⟨rfl, Nat.le_of_eq (Nat.zero_add _)⟩
      · have n10 : ¬ (1000 : Int32) ≤ nI k := Int32.not_le.mpr (nI_lt (a := k) (b := 1000) (by omega) (by decide))
        rw [c2, if_neg (nI_nn (by omega)), if_neg n10]
        rcases s4 with ⟨w1, _⟩ | ⟨i, k2, w1, w2, w3⟩ | ⟨_, _, _, _, _, w1, _⟩
        · rw [c1] at w1; cases w1
        · have ek : k2 = k := by rw [c1] at w1; cases w1; rfl
          subst ek
          have hfl := w3
          obtain ⟨fs', mn', ta', f', hi, hik, _, h4, h5, h6, h7, _, _, _, _, h12⟩ := w3
          obtain ⟨t, _, _, xl, xf⟩ := hx.ty w2
          obtain ⟨fs, mn, tt, ff, b1, b2, b3, b4, b5, b6, b7, b8, b9, b10, b11, b12⟩ := zN_st h hi hik
          have em : mn' = mn := by
            have : fs' = fs := by have := h4.symm.trans b2; cases this; rfl
            subst this
            rw [b3] at h5
            exact (nI_e (by omega) (by omega) (Value.int.inj (Option.some.inj h5))).symm
          subst em
          have eT0 : abU S0 (G j) = 4 + i := by
            rw [s2]
            show abT S0 x = _
            obtain ⟨t2, _, _, _, _, u5⟩ := abV_is h.1 w2
            rw [u5, if_neg (by decide), if_neg (by decide), abV_it h.1 (Or.inl rfl) hi w2]
          have eT1 : abU S0 (G (j + 1)) = yQ R S0 (4 + i) 0 k2 := by
            rw [s3]
            show abT S0 y = _
            rw [(hfl.y h.1).2.2.2, (h12.nm h.1).2.2]
          have hof : ofN R S0 (4 + i) k2 + zN R S0 (yQ R S0 (4 + i) 0 k2) ≤ zN R S0 (4 + i) := by
            rw [b10]
            exact psN_mo (w := fun j => zN R S0 (yQ R S0 (4 + i) 0 j)) (k := k2 + 1) (n := mn') (by omega)
          obtain ⟨g1, g2⟩ := pf21 h hx a1 a2 a3 a4 a5 a6 hn d (j + 1) (B + ofN R S0 (4 + i) k2) (by omega) (by omega)
          have h67 := pf67 h hx (k21 := f_partFrom_21 R.K d) (B := B) hi hik a1 a2 a3 a4 hn hlt (s1.trans c2) c3 (by omega) ⟨y, hfl⟩ bigN 0 (by unfold bigN; omega) (Nat.zero_le _)
          have o1 : oI S 20 (G j) 1 = some (nI i) := by rw [s2]; exact oI_mk xl xf rfl
          rw [o1]
          simp only [Option.bind_some]
          rw [it11 h hx hi]
          simp only [Option.bind_some]
          rw [show nI B = nI (B + ofN R S0 (4 + i) 0) from rfl, show (0 : Int32) = nI 0 from rfl, h67, g1, c1, eT0]
          rw [eT1] at g2 ⊢
          show some (Ui S 57 (nI (zN R S0 (pfO R S0 (yQ R S0 (4 + i) 0 k2) (ρ.drop (j + 1))).2)), nI (B + ofN R S0 (4 + i) k2 + (pfO R S0 (yQ R S0 (4 + i) 0 k2) (ρ.drop (j + 1))).1)) = some (Ui S 57 (nI (zN R S0 (pfO R S0 (yQ R S0 (4 + i) 0 k2) (ρ.drop (j + 1))).2)), nI (B + (ofN R S0 (4 + i) k2 + (pfO R S0 (yQ R S0 (4 + i) 0 k2) (ρ.drop (j + 1))).1))) ∧ (ofN R S0 (4 + i) k2 + (pfO R S0 (yQ R S0 (4 + i) 0 k2) (ρ.drop (j + 1))).1) + zN R S0 (pfO R S0 (yQ R S0 (4 + i) 0 k2) (ρ.drop (j + 1))).2 ≤ zN R S0 (4 + i)
          exact ⟨by rw [Nat.add_assoc], by omega⟩
        · rw [c1] at w1
          have := (Prod.mk.inj w1).1
          omega
      · have n10 : (1000 : Int32) ≤ nI (1000 + 16 * a + k) := nI_le (a := 1000) (by omega) (by omega)
        rw [c2, if_neg (nI_nn (by omega)), if_pos n10, h116, c1]
        exact ⟨rfl, Nat.le_of_eq (Nat.zero_add _)⟩
/-- partFrom -/
theorem pfm_ (h : LFS R S0 g) (hx : LX S0 S) {w v T a : Nat} {ρ : lLc} (q : isPt R S0 S w v ρ T) (ha : pVa S w a) : f_partFrom R.K S (some w) = some (Ui S 57 (nI (zN R S0 (pfO R S0 (vTp S0 S a) ρ).2)), nI (16 * v + (pfO R S0 (vTp S0 S a) ρ).1)) ∧ (pfO R S0 (vTp S0 S a) ρ).1 + zN R S0 (pfO R S0 (vTp S0 S a) ρ).2 ≤ 16 := by
  obtain ⟨va, sa, ta, f, G, mu, q1, q2, q3, q4, q5, q6, q7, q8, q9⟩ := q
  obtain ⟨gs, z1, z2⟩ := ha
  have eva : va = a := by
    rw [q2] at z1; cases z1; cases z2; rfl
  subst eva
  obtain ⟨u1, nm, wh, u2⟩ := q3
  have eT : vTp S0 S va = abU S0 (G 0) := by
    unfold vTp
    rw [obF_o u2]
    cases G 0 <;> rfl
  obtain ⟨p1, p2, p3⟩ := pto0 h hx (o := G 0) (fun x e => q7 0 x (Nat.zero_le _) e)
  obtain ⟨g1, g2⟩ := pf21 h hx q1 q2 q4 q5 q6 q7 q9 bigN 0 (16 * v) (by unfold bigN; omega) (Nat.zero_le _)
  rw [List.drop_zero] at g1 g2
  rw [eT]
  refine ⟨?_, by omega⟩
  unfold f_partFrom
  rw [oR_mk q1 q2 (v := some va) rfl]
  simp only [Option.bind_some]
  rw [oI_mk u1 u2 (v := nI v) rfl]
  simp only [Option.bind_some]
  rw [oR_mk q1 q2 (v := some ta) rfl]
  simp only [Option.bind_some]
  rw [show (0 : Int32) = nI 0 from rfl, aQ_n q5.1 q5.2 (show 0 < ρ.length + 1 by omega) (by omega)]
  simp only [Option.bind_some]
  rw [nI_16]
  exact g1
end PS10
end
-- m2.l.lean.txt
section
/-- only the rows of longs in P are written, and partMany -/
def OXm (P : Nat → Prop) (S S2 : Sg) : Prop := PSx S S2 ∧ (∀ r : Nat, ¬ P r → Zl S2 r = Zl S r) ∧ Zr S2 = Zr S
/-- leaf c is among those of a place -/
def inR (R : yR) (S0 : Sg) (T0 v : Nat) (ρ : lLc) (c : Nat) : Prop := 16 * v + (pfO R S0 T0 ρ).1 ≤ c ∧ c < 16 * v + (pfO R S0 T0 ρ).1 + zN R S0 (pfO R S0 T0 ρ).2
/-- what an instruction fills -/
def MvK (R : yR) (S0 : Sg) (T0 : Nat) (i : iR) (c : Nat) : Prop := ((i.kd = 12 ∨ i.kd = 22 ∨ i.kd = 23 ∨ i.kd = 24) ∧ c / 16 ∈ i.vs) ∨ (i.kd = 14 ∧ ∃ (v : Nat) (ρ : lLc) (T : Nat), i.pa = some (v, ρ, T) ∧ (∀ s ∈ ρ, s.1 ≠ 1) ∧ inR R S0 T0 v ρ c)
/-- what lacks a value behind an instruction -/
def MvO (R : yR) (S0 : Sg) (T0 : Nat) (i : iR) (f : Nat → Int64) (k c : Nat) : Prop := (i.kd = 2 ∧ (i.ac = 4 ∨ i.ac = 5) ∧ ∃ (v : Nat) (ρ : lLc) (T : Nat), i.pa = some (v, ρ, T) ∧ inR R S0 T0 v ρ c) ∨ (i.kd = 13 ∧ c / 16 ∈ i.vs) ∨ (rb f (10 * k) c = true ∧ ¬ MvK R S0 T0 i c)
/-- variables are few -/
def mBd (i : iR) : Prop := (∀ (v : Nat) (ρ : lLc) (T : Nat), i.pa = some (v, ρ, T) → v < 40) ∧ ((i.kd = 12 ∨ i.kd = 13 ∨ i.kd = 22 ∨ i.kd = 23 ∨ i.kd = 24) → ∀ v ∈ i.vs, v < 40) ∧ (i.kd = 14 → i.pa ≠ none) ∧ (i.ac ≠ 0 → i.pa ≠ none)
section PS11
variable {R : yR} {S0 S S1 S2 Sr : Sg} {ws Ps Pe k n : Nat} {I : Nat → iR} {g : Nat → Int32} {P : Nat → Prop}
theorem OXm.rf : OXm P S S := ⟨PSx.rf, fun _ _ => rfl, rfl⟩
theorem OXm.tr (a : OXm P S S1) (b : OXm P S1 S2) : OXm P S S2 := ⟨a.1.tr b.1, fun r h => (b.2.1 r h).trans (a.2.1 r h), b.2.2.trans a.2.2⟩
theorem OXm.mo {P2 : Nat → Prop} (a : OXm P S S2) (h : ∀ r : Nat, P r → P2 r) : OXm P2 S S2 := ⟨a.1, fun r q => a.2.1 r (fun w => q (h r w)), a.2.2⟩
theorem OXs.m (a : OXs P S S2) : OXm P S S2 := ⟨a.1, a.2.1, a.2.2.1⟩
theorem OXm.ui {v : Int32} : OXm P S (Ui S 57 v) := ⟨PSx.ui, fun _ _ => rfl, rfl⟩
theorem vTp.ps (e : PSx S S2) {a : Nat} : vTp S0 S2 a = vTp S0 S a := by
  unfold vTp obF; rw [e.2.1]
theorem mk3 {B m : Nat} {h l : Bool} (hB : B + m ≤ 640) : ∀ (d k : Nat) (S1 : Sg), B + m < k + d → B ≤ k → k ≤ B + m → OXs (fun r => r = 55 ∨ r = 56) S S1 → (∀ c : Nat, c < 640 → rb (Zl S1 55) 0 c = if B ≤ c ∧ c < k then l else rb (Zl S 55) 0 c) → Rt (f_mark_3 R.K d S1 (nI B) (nI m) (if h = true then 1 else 0) (if l = true then 1 else 0) (nI k)) (fun S2 _ => OXs (fun r => r = 55 ∨ r = 56) S S2 ∧ ∀ c : Nat, c < 640 → rb (Zl S2 55) 0 c = if B ≤ c ∧ c < B + m then l else rb (Zl S 55) 0 c)
  | 0, k, S1, hd, _, _, _, _ => by omega
  | d + 1, k, S1, hd, h1, h2, e, hr => by
    unfold f_mark_3
    rw [nI_add]
    refine Rt.it (fun w => ?_) (fun w => ?_)
    · have : B + m ≤ k := (nI_leI (by omega) (by omega)).mp w
      obtain rfl : k = B + m := by omega
      exact Rt.rt ⟨e, hr⟩
    · have hlt : k < B + m := by
        by_cases q : k < B + m
        · exact q
        · exact absurd (nI_le (a := B + m) (b := k) (by omega) (by omega)) w
      refine Rt.be (put_ (base := 0) (on := h) (b := k) (by omega) (show 0 + k / 64 < rlen 56 from by show _ < 10; omega) (by decide)) ?_
      have e2 : OXs (fun r => r = 55 ∨ r = 56) S1 (Ul S1 56 (pB (Zl S1 56) 0 k h)) := OXs.ul (by decide) (Or.inr rfl)
      have e55 : Zl (Ul S1 56 (pB (Zl S1 56) 0 k h)) 55 = Zl S1 55 := Zl_un (by decide)
      generalize Ul S1 56 (pB (Zl S1 56) 0 k h) = S2 at e2 e55
      refine Rt.be (put_ (base := 0) (on := l) (b := k) (by omega) (show 0 + k / 64 < rlen 55 from by show _ < 10; omega) (by decide)) ?_
      have e3 : OXs (fun r => r = 55 ∨ r = 56) S2 (Ul S2 55 (pB (Zl S2 55) 0 k l)) := OXs.ul (by decide) (Or.inl rfl)
      rw [nI_1]
      refine mk3 hB d (k + 1) _ (by omega) (by omega) (by omega) ((e.tr e2).tr e3) (fun c hc => ?_)
      rw [Zl_us, rb_pB, e55, hr c hc]
      by_cases q : 0 + c / 64 = 0 + k / 64 ∧ c % 64 = k % 64
      · have : c = k := by omega
        rw [if_pos q, if_pos ⟨by omega, by omega⟩]
      · have : c ≠ k := fun e9 => q (by subst e9; exact ⟨rfl, rfl⟩)
        rw [if_neg q]
        by_cases q2 : B ≤ c ∧ c < k
        · rw [if_pos q2, if_pos ⟨q2.1, by omega⟩]
        · rw [if_neg q2, if_neg (fun w9 => q2 ⟨w9.1, by omega⟩)]
/-- mark -/
theorem mrk_ {B m : Nat} {h l : Bool} (hB : B + m ≤ 640) : Rt (f_mark R.K S (nI B) (nI m) (if h = true then 1 else 0) (if l = true then 1 else 0)) (fun S2 _ => OXs (fun r => r = 55 ∨ r = 56) S S2 ∧ ∀ c : Nat, c < 640 → rb (Zl S2 55) 0 c = if B ≤ c ∧ c < B + m then l else rb (Zl S 55) 0 c) := by
  unfold f_mark
  exact mk3 hB bigN B S (by unfold bigN; omega) (Nat.le_refl _) (by omega) OXs.rf (fun c hc => (if_neg (by omega)).symm)
/-- hasStar, of a path -/
theorem hst_ {w v T : Nat} {ρ : lLc} (q : isPt R S0 S w v ρ T) : Rt (f_hasStar R.K S (some w)) (fun Sx r => Sx = S ∧ (r = 0 ∨ r = 1) ∧ (r = 0 → ∀ s ∈ ρ, s.1 ≠ 1)) := by
  obtain ⟨va, sa, ta, f, G, mu, q1, q2, q3, q4, q5, q6, q7, q8, q9⟩ := q
  unfold f_hasStar
  refine (hs2 q1 q2 q4.1 q4.2 q9 bigN 0 (by unfold bigN; omega) (Nat.zero_le _) (fun m h => by omega)).mo (fun Sx r ⟨a, b⟩ => ⟨a, b.elim (fun q => Or.inr q.1) (fun q => Or.inl q.1), fun r0 s hs e => ?_⟩)
  rcases b with ⟨b1, _⟩ | ⟨_, b2⟩
  · rw [b1] at r0; exact absurd r0 (by decide)
  · obtain ⟨m, hm⟩ := List.mem_iff_getElem?.mp hs
    refine b2 m (List.getElem?_eq_some_iff.mp hm).1 ?_
    rw [(q6 m s hm).1]
    unfold sCo
    rw [if_neg (by omega), if_pos e]
theorem mv276 {Sx : Sg} (hC : PCx R S0 S ws Ps Pe I) (h1 : Ps ≤ k) (h2 : k < Pe) (hk : (I k).kd = 22) (hv : ∀ v ∈ (I k).vs, v < 40) : ∀ (d n : Nat) (S1 : Sg), 12 < n + d → n ≤ (I k).vs.length → OXm (fun r => r = 55 ∨ r = 56) S S1 → (∀ c : Nat, c < 640 → rb (Zl Sx 55) 0 c = true → (∀ m : Nat, m < n → (I k).vs[m]? ≠ some (c / 16)) → rb (Zl S1 55) 0 c = true) → Rt (f_moveBehind_276 R.K d S1 (nI k) (nI n)) (fun S2 _ => OXm (fun r => r = 55 ∨ r = 56) S S2 ∧ ∀ c : Nat, c < 640 → rb (Zl Sx 55) 0 c = true → c / 16 ∉ (I k).vs → rb (Zl S2 55) 0 c = true)
  | 0, n, S1, hd, hn, _, _ => by
    obtain ⟨hz, _⟩ := hC.2.2.2 k h1 h2
    obtain ⟨_, _, _, _, _, _, _, _, _, _, _, _, _, _, _, _, q17, _⟩ := hz
    obtain ⟨_, _, _, _, _, _, _, _, _, _, _, _, a5, _⟩ := q17 hk
    omega
  | d + 1, n, S1, hd, hn, e, hr => by
    have hC1 := hC.ps e.1
    obtain ⟨hz, _⟩ := hC1.2.2.2 k h1 h2
    have h24 := hC.2.1
    obtain ⟨_, _, _, _, _, _, _, _, _, _, _, _, _, _, _, _, q17, _⟩ := hz
    obtain ⟨a, na, aw, bk, tk, vn, fv, a1, a2, a3, a4, a4b, a5, a6⟩ := q17 hk
    have r41 : rQ S1 41 (nI k) = some (some a) := by rw [rQ_n (show k < rlen 41 from by show k < 24000; omega) (by decide), a1]
    unfold f_moveBehind_276
    refine Rt.bd r41 (Rt.bd (oI_mk a2 a3 (v := nI (I k).vs.length) rfl) (Rt.it (fun w => ?_) (fun w => ?_)))
    · have : (I k).vs.length ≤ n := (nI_leI (by omega) (by omega)).mp w
      unfold f_moveBehind_360
      refine Rt.rt ⟨e, fun c hc hb hm => hr c hc hb (fun m hm2 e9 => hm (List.mem_of_getElem? e9))⟩
    · have hlt : n < (I k).vs.length := by
        by_cases q : n < (I k).vs.length
        · exact q
        · exact absurd (nI_le (a := (I k).vs.length) (b := n) (by omega) (by omega)) w
      have hg := List.getElem?_eq_getElem hlt
      obtain ⟨va, x, mu, b1, ⟨b2, nm, wh, b3⟩, _⟩ := a6 n _ hg
      have hv2 := hv _ (List.getElem_mem hlt)
      refine Rt.bd r41 (Rt.bd (oR_mk a2 a3 (v := some aw) rfl) (Rt.bd (aQ_n a4 a4b (show n < 12 by omega) (by decide)) ?_))
      rw [b1]
      refine Rt.bd (oI_mk b2 b3 rfl) ?_
      rw [nI_16]
      refine Rt.bn (mrk_ (R := R) (S := S1) (B := 16 * (I k).vs[n]) (m := 16) (h := true) (l := false) (by omega)) (fun S2 _ t2 => ?_)
      obtain ⟨e2, t3⟩ := t2
      rw [nI_1]
      refine mv276 hC h1 h2 hk hv d (n + 1) S2 (by omega) (by omega) (e.tr e2.m) (fun c hc hb hm => ?_)
      rw [t3 c hc, if_neg (fun w9 => hm n (Nat.lt_succ_self _) (by rw [hg]; congr 1; omega))]
      exact hr c hc hb (fun m hm2 => hm m (by omega))
end PS11
end
