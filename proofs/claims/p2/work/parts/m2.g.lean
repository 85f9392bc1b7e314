/-- loan l goes on from k to j -/
def LnC (I : Nat → iR) (f : Nat → Int64) (l k j : Nat) : Prop := ∀ h : Nat, h < 256 → HBh (I k) f k l h → rb f (4 * j) h = true
/-- a round of a loan's spreading: points below k are done, n successors of k -/
def LnI (R : yR) (S0 Sr S : Sg) (ws Ps Pe : Nat) (I : Nat → iR) (l : Nat) (x3 : Int32) (k n : Nat) : Prop := OXs (fun r => r = 59 ∨ r = 60) Sr S ∧ PCx R S0 S ws Ps Pe I ∧ sbL (Zl Sr 59) (Zl S 59) ∧ ((x3 = 0 ∧ Zl S 59 = Zl Sr 59 ∧ (∀ k' : Nat, Ps ≤ k' → k' < k → Zr S 52 k' ≠ 0 → ∀ j ∈ (I k').sc, LnC I (Zl S 59) l k' j) ∧ (Zr S 52 k ≠ 0 → ∀ m j : Nat, m < n → (I k).sc[m]? = some j → LnC I (Zl S 59) l k j)) ∨ (x3 = 1 ∧ cw (Zl S 59) (4 * Ps) (4 * (Pe - Ps)) < cw (Zl Sr 59) (4 * Ps) (4 * (Pe - Ps))))
/-- a loan's holders, closed along all ways -/
def LnD (I : Nat → iR) (rc : Nat → Int32) (f : Nat → Int64) (l Ps Pe : Nat) : Prop := ∀ k : Nat, Ps ≤ k → k < Pe → rc k ≠ 0 → ∀ j ∈ (I k).sc, LnC I f l k j
section PS6
variable {R : yR} {S0 S S1 S2 Sr : Sg} {ws Ps Pe k n l : Nat} {I : Nat → iR} {f g : Nat → Int64} {P : Nat → Prop} {x y : Int64}
theorem ln138 {k61 : Sg → Option Nat → Int32 → Int32 → Option (Sg × Unit)} {k73 : Sg → Option Nat → Int32 → Int32 → Int32 → Option (Sg × Unit)} {k102 : Sg → Option Nat → Int32 → Int32 → Int32 → Int32 → Option (Sg × Unit)} {Q : Sg → Unit → Prop} {j : Nat} (h1 : Ps ≤ k) (h2 : k < Pe) (hj : (I k).sc[n]? = some j) (j1 : Ps ≤ j) (j2 : j < Pe) {B : Nat → Int64} {Z : Prop} (kn : ∀ (S2 : Sg) (y2 : Int32), LnI R S0 Sr S2 ws Ps Pe I l y2 k (n + 1) → Zl S2 60 = B → (y2 = 0 → Z) → Rt (k102 S2 (some ws) (nI l) y2 (nI k) (nI (n + 1))) Q) : ∀ (d w : Nat) (S : Sg) (x3 : Int32), 4 < w + d → w ≤ 4 → LnI R S0 Sr S ws Ps Pe I l x3 k n → Zl S 60 = B → (x3 = 0 → Z) → (x3 = 0 → (∀ h : Nat, h < 256 → (rb B 0 h = true ↔ HBh (I k) (Zl Sr 59) k l h)) ∧ ∀ v b : Nat, v < w → lbit (B v) b = true → lbit (Zl S 59 (4 * j + v)) b = true) → Rt (f_spreadLoan_138 R.K k61 k73 k102 d S (some ws) (nI l) x3 (nI k) (nI n) (nI (4 * j)) (nI w)) Q
  | 0, w, S, x3, hd, hn, _, _, _, _ => by omega
  | d + 1, w, S, x3, hd, hn, hi, hB, hZ, hA => by
    have hi2 := hi
    obtain ⟨e, hC, hs, hx⟩ := hi2
    have h24 := hC.2.1
    unfold f_spreadLoan_138
    refine Rt.it (fun q => ?_) (fun q => ?_)
    · have hw : 4 ≤ w := (nI_leI (a := 4) (b := w) (by decide) (by omega)).mp q
      obtain rfl : w = 4 := by omega
      rw [nI_1]
      refine kn S x3 ⟨e, hC, hs, hx.imp (fun ⟨a, b, c, dd⟩ => ⟨a, b, c, fun hrc m j' hm hj' => ?_⟩) id⟩ hB hZ
      by_cases em : m = n
      · subst em
        rw [hj] at hj'
        cases hj'
        obtain ⟨a1, a2⟩ := hA a
        intro h hh hah
        rw [b] at hah
        have := (a1 h hh).mpr hah
        unfold rb at this ⊢
        rw [Nat.zero_add] at this
        exact a2 (h / 64) (h % 64) (by omega) this
      · exact dd hrc m j' (by omega) hj'
    · have hw : w < 4 := by
        by_cases q2 : w < 4
        · exact q2
        · exact absurd (nI_le (a := 4) (b := w) (by omega) (by omega)) q
      rw [nI_add]
      have r59 : rJ S 59 (nI (4 * j + w)) = some (Zl S 59 (4 * j + w)) := rJ_n (show 4 * j + w < rlen 59 from by show _ < 96000; omega) (by decide)
      have r60 : rJ S 60 (nI w) = some (Zl S 60 w) := rJ_n (show w < rlen 60 from hw) (by decide)
      have h182 : ∀ y2 : Int32, ((y2 = x3 ∧ Zl S 59 (4 * j + w) ||| Zl S 60 w = Zl S 59 (4 * j + w)) ∨ (y2 = 1 ∧ Zl S 59 (4 * j + w) ||| Zl S 60 w ≠ Zl S 59 (4 * j + w))) → Rt (f_spreadLoan_182 R.K k61 k73 k102 ((f_spreadLoan_138 R.K k61 k73 k102 d)) S (some ws) (nI l) y2 (nI k) (nI n) (nI (4 * j)) (nI w) (Zl S 59 (4 * j + w) ||| Zl S 60 w)) Q := fun y2 hy => by
        unfold f_spreadLoan_182
        rw [nI_add]
        refine Rt.bd (wJ_n (show 4 * j + w < rlen 59 from by show _ < 96000; omega) (by decide)) ?_
        rw [nI_1]
        have e2 : OXs (fun r => r = 59 ∨ r = 60) S (Ul S 59 (vp_updL (Zl S 59) (4 * j + w) (Zl S 59 (4 * j + w) ||| Zl S 60 w))) := OXs.ul (by decide) (Or.inl rfl)
        have e59 : Zl (Ul S 59 (vp_updL (Zl S 59) (4 * j + w) (Zl S 59 (4 * j + w) ||| Zl S 60 w))) 59 = vp_updL (Zl S 59) (4 * j + w) (Zl S 59 (4 * j + w) ||| Zl S 60 w) := Zl_us
        have e60 : Zl (Ul S 59 (vp_updL (Zl S 59) (4 * j + w) (Zl S 59 (4 * j + w) ||| Zl S 60 w))) 60 = Zl S 60 := Zl_un (by decide)
        have hs2 : sbL (Zl S 59) (vp_updL (Zl S 59) (4 * j + w) (Zl S 59 (4 * j + w) ||| Zl S 60 w)) := sbL.or
        rcases hy with ⟨hy1, hy2⟩ | ⟨hy1, hy2⟩
        · have hid : vp_updL (Zl S 59) (4 * j + w) (Zl S 59 (4 * j + w) ||| Zl S 60 w) = Zl S 59 := upL_id hy2
          refine ln138 h1 h2 hj j1 j2 kn d (w + 1) _ y2 (by omega) (by omega) ⟨e.tr e2, hC.ps e2.1, by rw [e59, hid]; exact hs, by rw [e59, hid, hy1]; exact hx⟩ (e60.trans hB) (fun y0 => hZ (hy1.symm.trans y0)) (fun y0 => ?_)
          rw [e59, hid]
          obtain ⟨a1, a2⟩ := hA (hy1.symm.trans y0)
          refine ⟨a1, fun v b hv hb => ?_⟩
          by_cases ev : v = w
          · subst ev; rw [← hy2, lbit_or, hB, hb]; simp
          · exact a2 v b (by omega) hb
        · refine ln138 h1 h2 hj j1 j2 kn d (w + 1) _ y2 (by omega) (by omega) ⟨e.tr e2, hC.ps e2.1, by rw [e59]; exact hs.tr hs2, Or.inr ⟨hy1, ?_⟩⟩ (e60.trans hB) (fun y0 => absurd (hy1.symm.trans y0) (by decide)) (fun y0 => absurd (hy1.symm.trans y0) (by decide))
          rw [e59]
          have c1 := cw_lt (a := 4 * Ps) (w := 4 * j + w) (m := 4 * (Pe - Ps)) hs2 (by omega) (by omega) (by rw [upL_s]; exact fun w => hy2 w.symm)
          have c2 := cw_le (a := 4 * Ps) (m := 4 * (Pe - Ps)) hs
          omega
      refine Rt.bd r59 (Rt.bd r60 (Rt.bd r59 (Rt.it (fun q2 => h182 x3 (Or.inl ⟨rfl, lgc0.mp q2⟩)) (fun q2 => h182 1 (Or.inr ⟨rfl, fun w => q2 (lgc0.mpr w)⟩)))))
theorem ln102 {k61 : Sg → Option Nat → Int32 → Int32 → Option (Sg × Unit)} {k73 : Sg → Option Nat → Int32 → Int32 → Int32 → Option (Sg × Unit)} {Q : Sg → Unit → Prop} {B : Nat → Int64} (h1 : Ps ≤ k) (h2 : k < Pe) {Z : Prop} (hB0 : Z → Zr Sr 52 k ≠ 0 → ∀ h : Nat, h < 256 → (rb B 0 h = true ↔ HBh (I k) (Zl Sr 59) k l h)) (kn : ∀ (S2 : Sg) (y2 : Int32), LnI R S0 Sr S2 ws Ps Pe I l y2 (k + 1) 0 → Rt (k73 S2 (some ws) (nI l) y2 (nI (k + 1))) Q) : ∀ (d n : Nat) (S : Sg) (x3 : Int32), (I k).sc.length < n + d → n ≤ (I k).sc.length → LnI R S0 Sr S ws Ps Pe I l x3 k n → (Zr S 52 k ≠ 0 → Zl S 60 = B) → (x3 = 0 → Z) → Rt (f_spreadLoan_102 R.K k61 k73 d S (some ws) (nI l) x3 (nI k) (nI n)) Q
  | 0, n, S, x3, hd, hn, _, _, _ => by omega
  | d + 1, n, S, x3, hd, hn, hi, hB, hZ => by
    have hi2 := hi
    obtain ⟨e, hC, hs, hx⟩ := hi2
    have h24 := hC.2.1
    obtain ⟨s1, s2⟩ := hC.sc (n := n) h1 h2
    have h206 : (n = (I k).sc.length ∨ Zr S 52 k = 0) → Rt (f_spreadLoan_206 R.K k61 k73 S (some ws) (nI l) x3 (nI k)) Q := fun hw => by
      unfold f_spreadLoan_206
      rw [nI_1]
      refine kn S x3 ⟨e, hC, hs, hx.imp (fun ⟨a, b, c, dd⟩ => ⟨a, b, fun k' q1 q2 q3 j hj => ?_, fun _ m j hm => by omega⟩) id⟩
      by_cases ek : k' = k
      · subst ek
        rcases hw with hw | hw
        · obtain ⟨m, hm⟩ := List.mem_iff_getElem?.mp hj
          exact dd q3 m j (by have := (List.getElem?_eq_some_iff.mp hm).1; omega) hm
        · exact absurd hw q3
      · exact c k' q1 (by omega) q3 j hj
    unfold f_spreadLoan_102
    refine Rt.bd (rI_n (show k < rlen 52 from by show k < 24000; omega) (by decide)) (Rt.it (fun w => h206 (Or.inr w)) (fun w => ?_))
    refine Rt.be (hC.fl h1 h2 hn) (Rt.it (fun w2 => ?_) (fun w2 => ?_))
    · refine h206 (Or.inl ?_)
      by_cases q : n < (I k).sc.length
      · obtain ⟨j, _, _, _, _, b⟩ := s2 q; exact absurd w2 b
      · omega
    · have hlt : n < (I k).sc.length := by
        by_cases q : n < (I k).sc.length
        · exact q
        · exact absurd (s1 (by omega)) w2
      obtain ⟨j, j1, j2, j3, j4, _⟩ := s2 hlt
      refine Rt.be (hC.fl h1 h2 hn) ?_
      rw [j2, nI_4]
      refine ln138 (B := B) (Z := Z) h1 h2 j1 j3 j4 (fun S3 y3 hi4 hB3 hZ3 => ln102 h1 h2 hB0 kn d (n + 1) S3 y3 (by omega) (by omega) hi4 (fun _ => hB3) hZ3) bigN 0 S x3 (by unfold bigN; omega) (Nat.zero_le _) hi (hB w) hZ (fun x0 => ⟨hB0 (hZ x0) (by rw [← e.2.2.1]; exact w), fun v b hv => by omega⟩)
theorem ln73 {k61 : Sg → Option Nat → Int32 → Int32 → Option (Sg × Unit)} {Q : Sg → Unit → Prop} (hl : l < 160) (kn : ∀ (S2 : Sg) (y2 : Int32), LnI R S0 Sr S2 ws Ps Pe I l y2 Pe 0 → Rt (k61 S2 (some ws) (nI l) y2) Q) : ∀ (d k : Nat) (S : Sg) (x3 : Int32), Pe < k + d → Ps ≤ k → k ≤ Pe → LnI R S0 Sr S ws Ps Pe I l x3 k 0 → Rt (f_spreadLoan_73 R.K k61 d S (some ws) (nI l) x3 (nI k)) Q
  | 0, k, S, x3, hd, _, hk, _ => by omega
  | d + 1, k, S, x3, hd, h1, hk, hi => by
    have hi2 := hi
    obtain ⟨e, hC, hs, hx⟩ := hi2
    have h24 := hC.2.1
    unfold f_spreadLoan_73
    refine Rt.bd hC.r4 (Rt.it (fun w => ?_) (fun w => ?_))
    · have : Pe ≤ k := (nI_leI (by omega) (by omega)).mp w
      obtain rfl : k = Pe := by omega
      exact kn S x3 hi
    · have hlt : k < Pe := by
        by_cases q : k < Pe
        · exact q
        · exact absurd (nI_le (a := Pe) (b := k) (by omega) (by omega)) w
      have hsl := (hC.2.2.2 k h1 hlt).2.2.1
      refine Rt.bd (rI_n (show k < rlen 52 from by show k < 24000; omega) (by decide)) (Rt.it (fun w2 => ?_) (fun w2 => ?_))
      · unfold f_spreadLoan_99
        have hrc : Zr Sr 52 k = 0 := by rw [← e.2.2.1]; exact w2
        exact ln102 (B := Zl S 60) (Z := True) h1 hlt (fun _ q => absurd hrc q) (fun S2 y2 hi2 => ln73 hl kn d (k + 1) S2 y2 (by omega) (by omega) (by omega) hi2) bigN 0 S x3 (by unfold bigN; omega) (Nat.zero_le _) hi (fun _ => rfl) (fun _ => trivial)
      · refine Rt.bn (hbd_ hC h1 hlt hl) (fun S2 _ t2 => ?_)
        obtain ⟨e2, hb2⟩ := t2
        have e59 : Zl S2 59 = Zl S 59 := e2.2.1 59 (by decide)
        have e52 : Zr S2 52 = Zr S 52 := by rw [e2.2.2.1]
        have hi3 : LnI R S0 Sr S2 ws Ps Pe I l x3 k 0 := ⟨e.tr (e2.mo (fun r h => Or.inr h)), hC.ps e2.1, by rw [e59]; exact hs, by rw [e59, e52]; exact hx⟩
        unfold f_spreadLoan_99
        refine ln102 (B := Zl S2 60) (Z := Zl S 59 = Zl Sr 59) h1 hlt (fun z _ h hh => by rw [hb2 h hh, z]) (fun S2 y2 hi2 => ln73 hl kn d (k + 1) S2 y2 (by omega) (by omega) (by omega) hi2) bigN 0 S2 x3 (by unfold bigN; omega) (Nat.zero_le _) hi3 (fun _ => rfl) (fun x0 => ?_)
        rcases hx with ⟨_, b, _⟩ | ⟨x1, _⟩
        · exact b
        · exact absurd (x1.symm.trans x0) (by decide)
theorem ln61 {Q : Sg → Unit → Prop} (hl : l < 160) (kf : ∀ S2 : Sg, OXs (fun r => r = 59 ∨ r = 60) S S2 → PCx R S0 S2 ws Ps Pe I → sbL (Zl S 59) (Zl S2 59) → LnD I (Zr S2 52) (Zl S2 59) l Ps Pe → Q S2 ()) : ∀ (d : Nat) (S1 : Sg) (x3 : Int32), cw (Zl S1 59) (4 * Ps) (4 * (Pe - Ps)) + 1 < d → OXs (fun r => r = 59 ∨ r = 60) S S1 → PCx R S0 S1 ws Ps Pe I → sbL (Zl S 59) (Zl S1 59) → (x3 = 1 ∨ (x3 = 0 ∧ LnD I (Zr S1 52) (Zl S1 59) l Ps Pe)) → Rt (f_spreadLoan_61 R.K d S1 (some ws) (nI l) x3) Q
  | 0, S1, x3, hd, _, _, _, _ => by omega
  | d + 1, S1, x3, hd, e, hC, hs, hx => by
    unfold f_spreadLoan_61
    refine Rt.it (fun w => ?_) (fun w => ?_)
    · refine Rt.rt (kf S1 e hC hs ?_)
      rcases hx with q | q
      · rw [q] at w; exact absurd w (by decide)
      · exact q.2
    · refine Rt.bd hC.r5 ?_
      refine ln73 (Sr := S1) hl (fun S2 y2 hi => ?_) bigN Ps S1 0 (by unfold bigN; have := hC.2.1; omega) (Nat.le_refl _) (Nat.le_of_lt hC.1) ⟨OXs.rf, hC, sbL.rf, Or.inl ⟨rfl, rfl, fun k' q1 q2 => by omega, fun _ m j hm => by omega⟩⟩
      obtain ⟨e2, hC2, hs2, hx2⟩ := hi
      rcases hx2 with ⟨q1, q2, q3, q4⟩ | ⟨q1, q2⟩
      · subst q1
        cases d with
        | zero => omega
        | succ d =>
          unfold f_spreadLoan_61
          exact Rt.ip rfl (Rt.rt (kf S2 (e.tr e2) hC2 (hs.tr hs2) (fun k a b => q3 k a b)))
      · exact ln61 hl kf d S2 y2 (by omega) (e.tr e2) hC2 (hs.tr hs2) (Or.inl q1)
theorem ln7 {Q : Sg → Unit → Prop} (kf : ∀ S2 : Sg, OXs (fun r => r = 59 ∨ r = 60) S S2 → PCx R S0 S2 ws Ps Pe I → Rt ((rI S2 45 (nI l)).bind fun v3 =>
    if v3 < 0 then (f_spreadLoan_59 R.K S2 (some ws) (nI l)) else ((oI S2 16 (some ws) 5).bind fun v4 =>
    (rI S2 45 (nI l)).bind fun v5 =>
    bnd (f_put R.K S2 59 (4 * v4) v5 1) fun S6 v7 =>
    f_spreadLoan_59 R.K S6 (some ws) (nI l))) Q) : ∀ (d k : Nat) (S1 : Sg), 4 * Pe < k + d → k ≤ 4 * Pe → OXs (fun r => r = 59 ∨ r = 60) S S1 → PCx R S0 S1 ws Ps Pe I → Rt (f_spreadLoan_7 R.K d S1 (some ws) (nI l) (nI k)) Q
  | 0, k, S1, hd, _, _, _ => by omega
  | d + 1, k, S1, hd, hk, e, hC => by
    have h24 := hC.2.1
    unfold f_spreadLoan_7
    refine Rt.bd hC.r4 ?_
    rw [nI_4]
    refine Rt.it (fun w => kf S1 e hC) (fun w => ?_)
    have hlt : k < 4 * Pe := by
      by_cases q : k < 4 * Pe
      · exact q
      · exact absurd (nI_le (a := 4 * Pe) (b := k) (by omega) (by omega)) w
    refine Rt.bd (wJ_n (show k < rlen 59 from by show k < 96000; omega) (by decide)) ?_
    rw [nI_1]
    have e2 : OXs (fun r => r = 59 ∨ r = 60) S1 (Ul S1 59 (vp_updL (Zl S1 59) k 0)) := OXs.ul (by decide) (Or.inl rfl)
    exact ln7 kf d (k + 1) _ (by omega) (by omega) (e.tr e2) (hC.ps e2.1)
/-- spreadLoan; ou: who holds it from the beginning -/
theorem spl_ {ou : Option Nat} (hC : PCx R S0 S ws Ps Pe I) (hl : l < 160) (hou : Zr S 45 l = oNm ou) (ho : ∀ u : Nat, ou = some u → u < 256) : Rt (f_spreadLoan R.K S (some ws) (nI l)) (fun S2 _ => OXs (fun r => r = 59 ∨ r = 60) S S2 ∧ PCx R S0 S2 ws Ps Pe I ∧ LnD I (Zr S2 52) (Zl S2 59) l Ps Pe ∧ ∀ u : Nat, ou = some u → rb (Zl S2 59) (4 * Ps) u = true) := by
  have h24 := hC.2.1
  have hPP := hC.1
  unfold f_spreadLoan
  refine Rt.bd hC.r5 ?_
  rw [nI_4]
  refine ln7 (fun S2 e2 hC2 => ?_) bigN (4 * Ps) S (by unfold bigN; omega) (by omega) OXs.rf hC
  have r45 : rI S2 45 (nI l) = some (oNm ou) := by rw [rI_n (show l < rlen 45 from hl) (by decide), e2.2.2.1, hou]
  refine Rt.bd r45 ?_
  cases ou with
  | none =>
    refine Rt.ip (show (-1 : Int32) < 0 by decide) ?_
    unfold f_spreadLoan_59
    exact ln61 (S := S2) hl (fun S3 a b _ d => ⟨e2.tr a, b, d, fun u w => by cases w⟩) bigN S2 1 (by unfold bigN; have := cw_b (f := Zl S2 59) (a := 4 * Ps) (m := 4 * (Pe - Ps)); omega) OXs.rf hC2 sbL.rf (Or.inl rfl)
  | some u =>
    have hu := ho u rfl
    refine Rt.iq (nI_nn (a := u) (by omega)) (Rt.bd hC2.r5 (Rt.bd r45 ?_))
    rw [nI_4]
    refine Rt.be (put_ (base := 4 * Ps) (on := true) (b := u) (by omega) (show 4 * Ps + u / 64 < rlen 59 from by show _ < 96000; omega) (by decide)) ?_
    have e3 : OXs (fun r => r = 59 ∨ r = 60) S2 (Ul S2 59 (pB (Zl S2 59) (4 * Ps) u true)) := OXs.ul (by decide) (Or.inl rfl)
    have hrb : rb (Zl (Ul S2 59 (pB (Zl S2 59) (4 * Ps) u true)) 59) (4 * Ps) u = true := by
      rw [Zl_us, rb_pB, if_pos ⟨rfl, rfl⟩]
    generalize Ul S2 59 (pB (Zl S2 59) (4 * Ps) u true) = S3 at e3 hrb
    unfold f_spreadLoan_59
    refine ln61 (S := S3) hl (fun S4 a b c d => ⟨(e2.tr e3).tr a, b, d, fun u' w => ?_⟩) bigN S3 1 (by unfold bigN; have := cw_b (f := Zl S3 59) (a := 4 * Ps) (m := 4 * (Pe - Ps)); omega) OXs.rf (hC2.ps e3.1) sbL.rf (Or.inl rfl)
    cases w
    exact c _ _ hrb
end PS6
