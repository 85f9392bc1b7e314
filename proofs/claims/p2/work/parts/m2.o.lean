/-- what lacks a value behind point k lacks it at j -/
def MvC (R : yR) (S0 : Sg) (I : Nat → iR) (tv : Nat → Nat) (f : Nat → Int64) (k j : Nat) : Prop := ∀ c : Nat, c < 640 → MvO R S0 (tv k) (I k) f k c → rb f (10 * j) c = true
/-- the types of the paths' variables -/
def tvS (S0 S : Sg) (I : Nat → iR) (k : Nat) : Nat := vTp S0 S (I k).n2
/-- a round of the moves' spreading: points below k are done, n successors of k -/
def MvI (R : yR) (S0 Sr S : Sg) (ws Ps Pe : Nat) (I : Nat → iR) (x2 : Int32) (k n : Nat) : Prop := OXm (fun r => 53 ≤ r ∧ r ≤ 56) Sr S ∧ PCx R S0 S ws Ps Pe I ∧ mvG Sr S ∧ ((x2 = 0 ∧ Zl S 53 = Zl Sr 53 ∧ (∀ k' : Nat, Ps ≤ k' → k' < k → Zr S 52 k' ≠ 0 → ∀ j ∈ (I k').sc, MvC R S0 I (tvS S0 Sr I) (Zl S 53) k' j) ∧ (Zr S 52 k ≠ 0 → ∀ m j : Nat, m < n → (I k).sc[m]? = some j → MvC R S0 I (tvS S0 Sr I) (Zl S 53) k j)) ∨ (x2 = 1 ∧ cm S (10 * Ps) (10 * (Pe - Ps)) < cm Sr (10 * Ps) (10 * (Pe - Ps))))
/-- what lacks a value, closed along all ways -/
def MvD (R : yR) (S0 : Sg) (I : Nat → iR) (tv : Nat → Nat) (rc : Nat → Int32) (f : Nat → Int64) (Ps Pe : Nat) : Prop := ∀ k : Nat, Ps ≤ k → k < Pe → rc k ≠ 0 → ∀ j ∈ (I k).sc, MvC R S0 I tv f k j
section PS14
variable {R : yR} {S0 S S1 S2 Sr : Sg} {ws Ps Pe k n j : Nat} {I : Nat → iR} {g : Nat → Int32} {P : Nat → Prop}
theorem tvS.ps (e : PSx S S2) : tvS S0 S2 I = tvS S0 S I := funext (fun k => vTp.ps e)
theorem mo136 {k100 : Sg → Option Nat → Int32 → Option (Sg × Unit)} {k111 : Sg → Option Nat → Int32 → Int32 → Option (Sg × Unit)} {Q : Sg → Unit → Prop} (h1 : Ps ≤ k) (h2 : k < Pe) (kn : ∀ (S2 : Sg) (y2 : Int32), MvI R S0 Sr S2 ws Ps Pe I y2 (k + 1) 0 → Rt (k111 S2 (some ws) y2 (nI (k + 1))) Q) : ∀ (d n : Nat) (S : Sg) (x2 : Int32), (I k).sc.length < n + d → n ≤ (I k).sc.length → MvI R S0 Sr S ws Ps Pe I x2 k n → (x2 = 0 → Zr S 52 k ≠ 0 → ∀ c : Nat, c < 640 → MvO R S0 (tvS S0 Sr I k) (I k) (Zl Sr 53) k c → rb (Zl S 55) 0 c = true) → Rt (f_spreadMoves_136 R.K k100 k111 d S (some ws) x2 (nI k) (nI n)) Q
  | 0, n, S, x2, hd, hn, _, _ => by omega
  | d + 1, n, S, x2, hd, hn, hi, hB => by
    have hi2 := hi
    obtain ⟨e, hC, hs, hx⟩ := hi2
    have h24 := hC.2.1
    obtain ⟨s1, s2⟩ := hC.sc (n := n) h1 h2
    have h180 : (n = (I k).sc.length ∨ Zr S 52 k = 0) → Rt (f_spreadMoves_180 R.K k100 k111 S (some ws) x2 (nI k)) Q := fun hw => by
      unfold f_spreadMoves_180
      rw [nI_1]
      refine kn S x2 ⟨e, hC, hs, hx.imp (fun ⟨a, b, c, dd⟩ => ⟨a, b, fun k' q1 q2 q3 j hj => ?_, fun _ m j hm => by omega⟩) id⟩
      by_cases ek : k' = k
      · subst ek
        rcases hw with hw | hw
        · obtain ⟨m, hm⟩ := List.mem_iff_getElem?.mp hj
          exact dd q3 m j (by have := (List.getElem?_eq_some_iff.mp hm).1; omega) hm
        · exact absurd hw q3
      · exact c k' q1 (by omega) q3 j hj
    unfold f_spreadMoves_136
    refine Rt.bd (rI_n (show k < rlen 52 from by show k < 24000; omega) (by decide)) (Rt.it (fun w => h180 (Or.inr w)) (fun w => ?_))
    refine Rt.be (hC.fl h1 h2 hn) (Rt.it (fun w2 => ?_) (fun w2 => ?_))
    · refine h180 (Or.inl ?_)
      by_cases q : n < (I k).sc.length
      · obtain ⟨j, _, _, _, _, b⟩ := s2 q; exact absurd w2 b
      · omega
    · have hlt : n < (I k).sc.length := by
        by_cases q : n < (I k).sc.length
        · exact q
        · exact absurd (s1 (by omega)) w2
      obtain ⟨j, j1, j2, j3, j4, _⟩ := s2 hlt
      refine Rt.be (hC.fl h1 h2 hn) ?_
      rw [j2, nI_10]
      refine Rt.bn (mrg_ (R := R) (S := S) (j := j) (by omega)) (fun S2 r2 t2 => ?_)
      obtain ⟨e2, g2, t3⟩ := t2
      have e55 : Zl S2 55 = Zl S 55 := e2.2.1 55 (by decide)
      have e52 : Zr S2 = Zr S := e2.2.2.1
      have m2 := e2.m.mo (P2 := fun r => 53 ≤ r ∧ r ≤ 56) (fun r h => by omega)
      have hgo : ∀ y2 : Int32, MvI R S0 Sr S2 ws Ps Pe I y2 k (n + 1) → (y2 = 0 → x2 = 0) → Rt (f_spreadMoves_174 R.K k100 k111 ((f_spreadMoves_136 R.K k100 k111 d)) S2 (some ws) y2 (nI k) (nI n)) Q := fun y2 hy hy0 => by
        unfold f_spreadMoves_174
        rw [nI_1]
        refine mo136 h1 h2 kn d (n + 1) S2 y2 (by omega) (by omega) hy (fun y0 => ?_)
        rw [e55, e52]; exact hB (hy0 y0)
      refine Rt.it (fun w3 => ?_) (fun w3 => ?_)
      · rcases t3 with ⟨_, f1, f2, f3⟩ | ⟨r1, _⟩
        · refine hgo x2 ⟨e.tr m2, hC.ps e2.1, hs.tr g2, ?_⟩ id
          rcases hx with ⟨a, b, c, dd⟩ | ⟨a, b⟩
          · refine Or.inl ⟨a, f1.trans b, by rw [f1, e52]; exact c, fun q m j' hm hj' => ?_⟩
            rw [e52] at q
            rw [f1]
            by_cases em : m = n
            · subst em
              rw [j1] at hj'; cases hj'
              intro c9 hc9 hmo
              rw [b] at hmo
              exact f3 c9 hc9 (hB a q c9 hc9 hmo)
            · exact dd q m j' (by omega) hj'
          · refine Or.inr ⟨a, ?_⟩
            unfold cm at b ⊢
            rw [f1, f2]; exact b
        · rw [r1] at w3; exact absurd w3 (by decide)
      · rcases t3 with ⟨r0, _⟩ | ⟨_, f1⟩
        · exact absurd r0 w3
        · refine hgo 1 ⟨e.tr m2, hC.ps e2.1, hs.tr g2, Or.inr ⟨rfl, ?_⟩⟩ (fun z => absurd z (by decide))
          have c1 := f1 (10 * Ps) (10 * (Pe - Ps)) (by omega) (by omega)
          have c2 := hs.le (b := 10 * Ps) (m := 10 * (Pe - Ps))
          omega
theorem mo111 {k100 : Sg → Option Nat → Int32 → Option (Sg × Unit)} {Q : Sg → Unit → Prop} (hL : LFS R S0 g) (hx0 : LX S0 Sr) (hM : ∀ k : Nat, Ps ≤ k → k < Pe → mBd (I k)) (kn : ∀ (S2 : Sg) (y2 : Int32), MvI R S0 Sr S2 ws Ps Pe I y2 Pe 0 → Rt (k100 S2 (some ws) y2) Q) : ∀ (d k : Nat) (S : Sg) (x2 : Int32), Pe < k + d → Ps ≤ k → k ≤ Pe → MvI R S0 Sr S ws Ps Pe I x2 k 0 → Rt (f_spreadMoves_111 R.K k100 d S (some ws) x2 (nI k)) Q
  | 0, k, S, x2, hd, _, hk, _ => by omega
  | d + 1, k, S, x2, hd, h1, hk, hi => by
    have hi2 := hi
    obtain ⟨e, hC, hs, hx⟩ := hi2
    have h24 := hC.2.1
    unfold f_spreadMoves_111
    refine Rt.bd hC.r4 (Rt.it (fun w => ?_) (fun w => ?_))
    · have : Pe ≤ k := (nI_leI (by omega) (by omega)).mp w
      obtain rfl : k = Pe := by omega
      exact kn S x2 hi
    · have hlt : k < Pe := by
        by_cases q : k < Pe
        · exact q
        · exact absurd (nI_le (a := Pe) (b := k) (by omega) (by omega)) w
      have hsl := (hC.2.2.2 k h1 hlt).2.2.1
      refine Rt.bd (rI_n (show k < rlen 52 from by show k < 24000; omega) (by decide)) (Rt.it (fun w2 => ?_) (fun w2 => ?_))
      · unfold f_spreadMoves_133
        exact mo136 h1 hlt (fun S2 y2 hi2 => mo111 hL hx0 hM kn d (k + 1) S2 y2 (by omega) (by omega) (by omega) hi2) bigN 0 S x2 (by unfold bigN; omega) (Nat.zero_le _) hi (fun _ q => absurd w2 q)
      · refine Rt.bn (mvb_ hL (hx0.tr e.1.lx) hC h1 hlt (hM k h1 hlt)) (fun S2 _ t2 => ?_)
        obtain ⟨e2, hb2⟩ := t2
        have m2 := e2.mo (P2 := fun r => 53 ≤ r ∧ r ≤ 56) (fun r h => by omega)
        have e53 : Zl S2 53 = Zl S 53 := e2.2.1 53 (by decide)
        have e54 : Zl S2 54 = Zl S 54 := e2.2.1 54 (by decide)
        have e52 : Zr S2 = Zr S := e2.2.2
        have hi3 : MvI R S0 Sr S2 ws Ps Pe I x2 k 0 := ⟨e.tr m2, hC.ps e2.1, ⟨by rw [e53]; exact hs.1, by rw [e54]; exact hs.2⟩, by unfold cm; rw [e53, e54, e52]; exact hx⟩
        unfold f_spreadMoves_133
        refine mo136 h1 hlt (fun S2 y2 hi2 => mo111 hL hx0 hM kn d (k + 1) S2 y2 (by omega) (by omega) (by omega) hi2) bigN 0 S2 x2 (by unfold bigN; omega) (Nat.zero_le _) hi3 (fun x0 _ c hc hm => hb2 c hc ?_)
        rcases hx with ⟨_, b, _⟩ | ⟨x1, _⟩
        · rw [b]
          rw [show vTp S0 S (I k).n2 = tvS S0 Sr I k from vTp.ps e.1]
          exact hm
        · exact absurd (x1.symm.trans x0) (by decide)
theorem mo100 {Q : Sg → Unit → Prop} (hL : LFS R S0 g) (hx0 : LX S0 S) (hM : ∀ k : Nat, Ps ≤ k → k < Pe → mBd (I k)) (kf : ∀ S2 : Sg, OXm (fun r => 53 ≤ r ∧ r ≤ 56) S S2 → PCx R S0 S2 ws Ps Pe I → MvD R S0 I (tvS S0 S I) (Zr S2 52) (Zl S2 53) Ps Pe → Q S2 ()) : ∀ (d : Nat) (S1 : Sg) (x2 : Int32), cm S1 (10 * Ps) (10 * (Pe - Ps)) + 1 < d → OXm (fun r => 53 ≤ r ∧ r ≤ 56) S S1 → PCx R S0 S1 ws Ps Pe I → (x2 = 1 ∨ (x2 = 0 ∧ MvD R S0 I (tvS S0 S I) (Zr S1 52) (Zl S1 53) Ps Pe)) → Rt (f_spreadMoves_100 R.K d S1 (some ws) x2) Q
  | 0, S1, x2, hd, _, _, _ => by omega
  | d + 1, S1, x2, hd, e, hC, hx => by
    unfold f_spreadMoves_100
    refine Rt.it (fun w => ?_) (fun w => ?_)
    · refine Rt.rt (kf S1 e hC ?_)
      rcases hx with q | q
      · rw [q] at w; exact absurd w (by decide)
      · exact q.2
    · refine Rt.bd hC.r5 ?_
      refine mo111 (Sr := S1) hL (hx0.tr e.1.lx) hM (fun S2 y2 hi => ?_) bigN Ps S1 0 (by unfold bigN; have := hC.2.1; omega) (Nat.le_refl _) (Nat.le_of_lt hC.1) ⟨OXm.rf, hC, ⟨sbL.rf, sbL.rf⟩, Or.inl ⟨rfl, rfl, fun k' q1 q2 => by omega, fun _ m j hm => by omega⟩⟩
      obtain ⟨e2, hC2, hs2, hx2⟩ := hi
      rcases hx2 with ⟨q1, q2, q3, q4⟩ | ⟨q1, q2⟩
      · subst q1
        cases d with
        | zero => omega
        | succ d =>
          unfold f_spreadMoves_100
          refine Rt.ip rfl (Rt.rt (kf S2 (e.tr e2) hC2 (fun k a b => ?_)))
          rw [← tvS.ps (S0 := S0) (I := I) e.1]
          exact q3 k a b
      · exact mo100 hL hx0 hM kf d S2 y2 (by omega) (e.tr e2) hC2 (Or.inl q1)
/-- a function's parameters, as the passes see them -/
def PRx (R : yR) (S : Sg) (ws mn : Nat) : Prop := mn ≤ 12 ∧ ∃ (fs : List Value) (pr np : Nat) (fv : Nat → Option Nat), ws ∈ ZL S ∧ ZF S ws = .inr (16, fs) ∧ fs[3]? = some (.int (nI mn)) ∧ fs[17]? = some (.ref pr) ∧ pr ∈ ZL S ∧ ZF S pr = .inl (R.K.1 5, np, .inr (.inr (.inr (.inr fv)))) ∧ mn ≤ np ∧ np ≤ 100 ∧ ∀ q : Nat, q < mn → ∃ (va v : Nat) (ty : Option Nat) (mu : Int32), fv q = some va ∧ isU S va v ty mu ∧ v < 40
theorem PRx.ps {mn : Nat} (e : PSx S S2) (h : PRx R S ws mn) : PRx R S2 ws mn := by
  unfold PRx isU at h ⊢
  rw [e.1, e.2.1]; exact h
theorem mo51 {mn : Nat} {k41 : Sg → Option Nat → Int32 → Option (Sg × Unit)} {Q : Sg → Unit → Prop} (hn : n < mn) (kn : ∀ S2 : Sg, OXm (fun r => 53 ≤ r ∧ r ≤ 56) S S2 → PCx R S0 S2 ws Ps Pe I → PRx R S2 ws mn → Rt (k41 S2 (some ws) (nI (n + 1))) Q) : ∀ (d b : Nat) (S1 : Sg), 16 < b + d → b ≤ 16 → OXm (fun r => 53 ≤ r ∧ r ≤ 56) S S1 → PCx R S0 S1 ws Ps Pe I → PRx R S1 ws mn → Rt (f_spreadMoves_51 R.K k41 d S1 (some ws) (nI n) (nI b)) Q
  | 0, b, S1, hd, hb, _, _, _ => by omega
  | d + 1, b, S1, hd, hb, e, hC, hP => by
    have h24 := hC.2.1
    have hPP := hC.1
    unfold f_spreadMoves_51
    refine Rt.it (fun w => ?_) (fun w => ?_)
    · rw [nI_1]; exact kn S1 e hC hP
    · have hlt : b < 16 := by
        by_cases q : b < 16
        · exact q
        · exact absurd (nI_le (a := 16) (b := b) (by omega) (by omega)) w
      obtain ⟨p0, fs, pr, np, fv, p1, p2, p3, p4, p5, p6, p7, p8, p9⟩ := hP
      obtain ⟨va, v, ty, mu, v1, ⟨v2, nm, wh, v3⟩, v4⟩ := p9 n hn
      refine Rt.bd hC.r5 (Rt.bd (oR_mk p1 p2 (v := some pr) p4) (Rt.bd (aQ_n p5 p6 (show n < np by omega) (by omega)) ?_))
      rw [v1]
      refine Rt.bd (oI_mk v2 v3 rfl) ?_
      rw [nI_16, nI_10, nI_add]
      refine Rt.be (put_ (base := 10 * Ps) (on := true) (b := 16 * v + b) (by omega) (show 10 * Ps + (16 * v + b) / 64 < rlen 54 from by show _ < 240000; omega) (by decide)) ?_
      have e2 : OXs (fun r => 53 ≤ r ∧ r ≤ 56) S1 (Ul S1 54 (pB (Zl S1 54) (10 * Ps) (16 * v + b) true)) := OXs.ul (by decide) (by decide)
      rw [nI_1]
      exact mo51 hn kn d (b + 1) _ (by omega) (by omega) (e.tr e2.m) (hC.ps e2.1) (PRx.ps e2.1 ⟨p0, fs, pr, np, fv, p1, p2, p3, p4, p5, p6, p7, p8, p9⟩)
theorem mo41 {mn : Nat} {Q : Sg → Unit → Prop} (kn : ∀ S2 : Sg, OXm (fun r => 53 ≤ r ∧ r ≤ 56) S S2 → PCx R S0 S2 ws Ps Pe I → Rt (f_spreadMoves_100 R.K bigN S2 (some ws) 1) Q) : ∀ (d n : Nat) (S1 : Sg), 12 < n + d → n ≤ mn → OXm (fun r => 53 ≤ r ∧ r ≤ 56) S S1 → PCx R S0 S1 ws Ps Pe I → PRx R S1 ws mn → Rt (f_spreadMoves_41 R.K d S1 (some ws) (nI n)) Q
  | 0, n, S1, hd, hb, _, _, hP => by have := hP.1; omega
  | d + 1, n, S1, hd, hb, e, hC, hP => by
    have hP2 := hP
    obtain ⟨p0, fs, pr, np, fv, p1, p2, p3, p4, p5, p6, p7, p8, p9⟩ := hP2
    unfold f_spreadMoves_41
    refine Rt.bd (oI_mk p1 p2 p3) (Rt.it (fun w => kn S1 e hC) (fun w => ?_))
    have hlt : n < mn := by
      by_cases q : n < mn
      · exact q
      · exact absurd (nI_le (a := mn) (b := n) (by omega) (by omega)) w
    exact mo51 (S := S1) hlt (fun S2 e2 hC2 hP2 => mo41 kn d (n + 1) S2 (by omega) (by omega) (e.tr e2) hC2 hP2) bigN 0 S1 (by unfold bigN; omega) (Nat.zero_le _) OXm.rf hC hP
theorem mo8 {mn : Nat} {Q : Sg → Unit → Prop} (kf : ∀ S2 : Sg, OXm (fun r => 53 ≤ r ∧ r ≤ 56) S S2 → PCx R S0 S2 ws Ps Pe I → PRx R S2 ws mn → Rt (f_spreadMoves_41 R.K bigN S2 (some ws) 0) Q) : ∀ (d k : Nat) (S1 : Sg), 10 * Pe < k + d → k ≤ 10 * Pe → OXm (fun r => 53 ≤ r ∧ r ≤ 56) S S1 → PCx R S0 S1 ws Ps Pe I → PRx R S1 ws mn → Rt (f_spreadMoves_8 R.K d S1 (some ws) (nI k)) Q
  | 0, k, S1, hd, _, _, _, _ => by omega
  | d + 1, k, S1, hd, hk, e, hC, hP => by
    have h24 := hC.2.1
    unfold f_spreadMoves_8
    refine Rt.bd hC.r4 ?_
    rw [nI_10]
    refine Rt.it (fun w => kf S1 e hC hP) (fun w => ?_)
    have hlt : k < 10 * Pe := by
      by_cases q : k < 10 * Pe
      · exact q
      · exact absurd (nI_le (a := 10 * Pe) (b := k) (by omega) (by omega)) w
    refine Rt.bd (wJ_n (show k < rlen 53 from by show k < 240000; omega) (by decide)) ?_
    have e2 : OXs (fun r => 53 ≤ r ∧ r ≤ 56) S1 (Ul S1 53 (vp_updL (Zl S1 53) k 0)) := OXs.ul (by decide) (by decide)
    generalize Ul S1 53 (vp_updL (Zl S1 53) k 0) = S2 at e2
    refine Rt.bd (wJ_n (show k < rlen 54 from by show k < 240000; omega) (by decide)) ?_
    have e3 : OXs (fun r => 53 ≤ r ∧ r ≤ 56) S2 (Ul S2 54 (vp_updL (Zl S2 54) k 0)) := OXs.ul (by decide) (by decide)
    rw [nI_1]
    have e23 := e2.tr e3
    exact mo8 kf d (k + 1) _ (by omega) (by omega) (e.tr e23.m) (hC.ps e23.1) (hP.ps e23.1)
/-- spreadMoves -/
theorem spm_ {mn : Nat} (hL : LFS R S0 g) (hx0 : LX S0 S) (hC : PCx R S0 S ws Ps Pe I) (hM : ∀ k : Nat, Ps ≤ k → k < Pe → mBd (I k)) (hP : PRx R S ws mn) : Rt (f_spreadMoves R.K S (some ws)) (fun S2 _ => OXm (fun r => 53 ≤ r ∧ r ≤ 56) S S2 ∧ PCx R S0 S2 ws Ps Pe I ∧ MvD R S0 I (tvS S0 S I) (Zr S2 52) (Zl S2 53) Ps Pe) := by
  have h24 := hC.2.1
  have hPP := hC.1
  unfold f_spreadMoves
  refine Rt.bd hC.r5 ?_
  rw [nI_10]
  refine mo8 (mn := mn) (fun S2 e2 hC2 hP2 => ?_) bigN (10 * Ps) S (by unfold bigN; omega) (by omega) OXm.rf hC hP
  refine mo41 (S := S2) (mn := mn) (fun S3 e3 hC3 => ?_) bigN 0 S2 (by unfold bigN; omega) (Nat.zero_le _) OXm.rf hC2 hP2
  have e23 := e2.tr e3
  refine mo100 hL (hx0.tr e23.1.lx) hM (fun S4 a b c => ⟨e23.tr a, b, by rw [← tvS.ps (S0 := S0) (I := I) e23.1]; exact c⟩) bigN S3 1 ?_ OXm.rf hC3 (Or.inl rfl)
  have c1 := cw_b (f := Zl S3 53) (a := 10 * Ps) (m := 10 * (Pe - Ps))
  have c2 := cw_b (f := Zl S3 54) (a := 10 * Ps) (m := 10 * (Pe - Ps))
  unfold cm bigN
  omega
end PS14
