/-- who holds loan l behind k, beside the holder, isn't used behind k -/
def NaB (i : iR) (lv f : Nat → Int64) (k l : Nat) : Prop := ∀ h : Nat, h < 256 → i.ho ≠ some h → HBh i f k l h → rb lv (4 * k) h = false
/-- what point k promises of loan l -/
def LkK (R : yR) (S0 S : Sg) (i : iR) (lv f : Nat → Int64) (rl : Int32) (k l : Nat) : Prop := (NaB i lv f k l ∨ ∀ (v T w2 v2 T2 : Nat) (ρ ρ2 : lLc), i.pa = some (v, ρ, T) → i.ac ≠ 0 → Zq S 43 l = some w2 → isPt R S0 S w2 v2 ρ2 T2 → pVa S w2 i.n2 → lCmp ρ ρ2 → MtP i (Zr S 44 l) ρ T) ∧ (i.kd = 25 → (∃ u : Nat, Zr S 45 l = nI u ∧ u < 256) → ¬ rl < 0 → Zr S 46 l ≠ rl → rb f (4 * k) i.n1 = false)
section PS8
variable {R : yR} {S0 S S1 S2 Sr : Sg} {ws Ps Pe k n l : Nat} {I : Nat → iR}
theorem al8 {f : Nat → Int64} (hC : PCx R S0 S ws Ps Pe I) (h1 : Ps ≤ k) (h2 : k < Pe) (hf : ∀ h : Nat, h < 256 → (rb (Zl S 60) 0 h = true ↔ HBh (I k) f k l h)) : ∀ (d n : Nat), 256 < n + d → n ≤ 256 → (∀ h : Nat, h < n → (I k).ho ≠ some h → HBh (I k) f k l h → rb (Zl S 58) (4 * k) h = false) → Rt (f_aliveBehind_8 R.K d S (nI k) (nI n)) (fun Sx r => Sx = S ∧ (r = 0 ∨ r = 1) ∧ (r = 0 → NaB (I k) (Zl S 58) f k l))
  | 0, n, hd, hn, _ => by omega
  | d + 1, n, hd, hn, hm => by
    obtain ⟨hz, hs, hsl, hb⟩ := hC.2.2.2 k h1 h2
    have h24 := hC.2.1
    obtain ⟨_, _, _, _, q5, _⟩ := hz
    have r34 : rI S 34 (nI k) = some (oNm (I k).ho) := by rw [rI_n (show k < rlen 34 from by show k < 24000; omega) (by decide), q5]
    unfold f_aliveBehind_8
    refine Rt.it (fun w => ?_) (fun w => ?_)
    · have hw : 256 ≤ n := (nI_leI (a := 256) (b := n) (by decide) (by omega)).mp w
      exact Rt.zr (Or.inl rfl) ⟨rfl, Or.inl rfl, fun _ h hh => hm h (by omega)⟩
    · have hlt : n < 256 := by
        by_cases q2 : n < 256
        · exact q2
        · exact absurd (nI_le (a := 256) (b := n) (by omega) (by omega)) w
      have h53 : ((I k).ho ≠ some n → HBh (I k) f k l n → rb (Zl S 58) (4 * k) n = false) → Rt (f_aliveBehind_53 R.K ((f_aliveBehind_8 R.K d)) S (nI k) (nI n)) (fun Sx r => Sx = S ∧ (r = 0 ∨ r = 1) ∧ (r = 0 → NaB (I k) (Zl S 58) f k l)) := fun hh => by
        unfold f_aliveBehind_53
        rw [nI_1]
        refine al8 hC h1 h2 hf d (n + 1) (by omega) (by omega) (fun h hh2 => ?_)
        by_cases e : h = n
        · rw [e]; exact hh
        · exact hm h (by omega)
      refine Rt.bd r34 (Rt.it (fun w2 => h53 (fun q => absurd ?_ q)) (fun w2 => ?_))
      · cases hq : (I k).ho with
        | none => rw [hq] at w2; exact absurd (show nI n < 0 by rw [w2]; decide) (nI_nn (by omega))
        | some u =>
          rw [hq] at w2
          rw [nI_e (a := n) (b := u) (by omega) (by have := hb.1 u hq; omega) w2]
      · refine Rt.be (get_ (base := 0) (b := n) (by omega) (show 0 + n / 64 < rlen 60 from by show _ < 4; omega) (by decide)) ?_
        by_cases c : rb (Zl S 60) 0 n = true
        · rw [if_pos c, nI_4]
          refine Rt.iq (by decide) (Rt.be (get_ (base := 4 * k) (b := n) (by omega) (show 4 * k + n / 64 < rlen 58 from by show _ < 96000; omega) (by decide)) ?_)
          by_cases c2 : rb (Zl S 58) (4 * k) n = true
          · rw [if_pos c2]
            exact Rt.iq (by decide) (Rt.zr (Or.inr rfl) ⟨rfl, Or.inr rfl, fun e => absurd e (by decide)⟩)
          · rw [if_neg c2]
            exact Rt.ip rfl (h53 (fun _ _ => by simpa using c2))
        · rw [if_neg c]
          exact Rt.ip rfl (h53 (fun _ q => absurd ((hf n hlt).mpr q) c))
/-- aliveBehind -/
theorem alb_ (hC : PCx R S0 S ws Ps Pe I) (h1 : Ps ≤ k) (h2 : k < Pe) (hl : l < 160) : Rt (f_aliveBehind R.K S (nI k) (nI l)) (fun Sx r => OXs (fun r => r = 60) S Sx ∧ (r = 0 ∨ r = 1) ∧ (r = 0 → NaB (I k) (Zl S 58) (Zl S 59) k l)) := by
  unfold f_aliveBehind
  refine Rt.bn (hbd_ hC h1 h2 hl) (fun S2 _ t2 => ?_)
  obtain ⟨e2, hf⟩ := t2
  refine (al8 (hC.ps e2.1) h1 h2 hf bigN 0 (by unfold bigN; omega) (Nat.zero_le _) (fun h hh => by omega)).mo (fun S3 r ⟨a, b, c⟩ => ⟨by rw [a]; exact e2, b, fun r0 => ?_⟩)
  have := c r0
  rw [e2.2.1 58 (by decide)] at this
  exact this
/-- goesOut -/
theorem gso_ {rl : Int32} (hC : PCx R S0 S ws Ps Pe I) (h1 : Ps ≤ k) (h2 : k < Pe) (hl : l < 160) (h7 : oI S 16 (some ws) 7 = some rl) (h25 : (I k).kd = 25 → (I k).n1 < 256) : Rt (f_goesOut R.K S (some ws) (nI k) (nI l)) (fun Sx r => Sx = S ∧ (r = 0 ∨ r = 1) ∧ (r = 0 → (I k).kd = 25 → (∃ u : Nat, Zr S 45 l = nI u ∧ u < 256) → ¬ rl < 0 → Zr S 46 l ≠ rl → rb (Zl S 59) (4 * k) (I k).n1 = false)) := by
  obtain ⟨hz, hs, hsl, hb⟩ := hC.2.2.2 k h1 h2
  have h24 := hC.2.1
  obtain ⟨q1, q2, _, _, _, _, _, _, _, _, _, _, _, _, _, _, _, q18⟩ := hz
  have r27 : rI S 27 (nI k) = some (nI (I k).kd) := by rw [rI_n (show k < rlen 27 from by show k < 24000; omega) (by decide), q1]
  have r45 : rI S 45 (nI l) = some (Zr S 45 l) := rI_n (show l < rlen 45 from hl) (by decide)
  have r46 : rI S 46 (nI l) = some (Zr S 46 l) := rI_n (show l < rlen 46 from hl) (by decide)
  have h63 : ∀ {Q : Sg → Int32 → Prop}, Q S 0 → Rt (f_goesOut_63 R.K S) Q := fun q => by
    unfold f_goesOut_63 f_goesOut_64; exact Rt.zr (Or.inl rfl) q
  unfold f_goesOut
  refine Rt.bd r27 (Rt.it (fun w => ?_) (fun w => h63 ⟨rfl, Or.inl rfl, fun _ e => absurd (by rw [e]; rfl) w⟩))
  have hk : (I k).kd = 25 := nI_e (b := 25) (by omega) (by decide) w
  refine Rt.bd r45 (Rt.it (fun w2 => h63 ⟨rfl, Or.inl rfl, fun _ _ ⟨u, e, hu⟩ => ?_⟩) (fun w2 => ?_))
  · rw [e] at w2; exact absurd w2 (nI_nn (by omega))
  · refine Rt.bd h7 (Rt.it (fun w3 => h63 ⟨rfl, Or.inl rfl, fun _ _ _ e => absurd w3 e⟩) (fun w3 => ?_))
    refine Rt.bd r46 (Rt.bd h7 (Rt.it (fun w4 => h63 ⟨rfl, Or.inl rfl, fun _ _ _ _ e => absurd w4 e⟩) (fun w4 => ?_)))
    have hn1 := h25 hk
    have r28 : rI S 28 (nI k) = some (nI (I k).n1) := by rw [rI_n (show k < rlen 28 from by show k < 24000; omega) (by decide), q18.1 hk]
    refine Rt.bd r28 ?_
    rw [nI_4]
    refine Rt.be (get_ (base := 4 * k) (b := (I k).n1) (by omega) (show 4 * k + (I k).n1 / 64 < rlen 59 from by show _ < 96000; omega) (by decide)) ?_
    by_cases c : rb (Zl S 59) (4 * k) (I k).n1 = true
    · rw [if_pos c]
      refine Rt.iq (by decide) ?_
      unfold f_goesOut_64
      exact Rt.zr (Or.inr rfl) ⟨rfl, Or.inr rfl, fun e => absurd e (by decide)⟩
    · rw [if_neg c]
      exact Rt.ip rfl (h63 ⟨rfl, Or.inl rfl, fun _ _ _ _ _ => by simpa using c⟩)
/-- the points of one loan are looked at -/
theorem ck29 {Z : Prop} {rl : Int32} {k9 : Sg → Option Nat → Int32 → Int32 → Option (Sg × Unit)} {Q : Sg → Unit → Prop} (hT : R.T ≤ 3001) (hY : YK R S0) (hl : l < 160) (hC : PCx R S0 S ws Ps Pe I) (hx0 : LX S0 S) (h7 : oI S 16 (some ws) 7 = some rl) (h25 : ∀ k : Nat, Ps ≤ k → k < Pe → (I k).kd = 25 → (I k).n1 < 256) (hp : Zq S 43 l = none ∨ ∃ w : Nat, Zq S 43 l = some w ∧ pOb R S w)
  (kn : ∀ (S2 : Sg) (x2 : Int32), OXs (fun r => r = 60) S S2 → ((x2 < 0 ∧ Z ∧ ∀ k : Nat, Ps ≤ k → k < Pe → Zr S 52 k ≠ 0 → LkK R S0 S (I k) (Zl S 58) (Zl S 59) rl k l) ∨ ∃ t : Nat, t < R.T ∧ x2 = nI t) → Rt (k9 S2 (some ws) x2 (nI (l + 1))) Q) : ∀ (d k : Nat) (S1 : Sg) (x2 : Int32), Pe < k + d → Ps ≤ k → k ≤ Pe → OXs (fun r => r = 60) S S1 → ((x2 < 0 ∧ Z ∧ ∀ k' : Nat, Ps ≤ k' → k' < k → Zr S 52 k' ≠ 0 → LkK R S0 S (I k') (Zl S 58) (Zl S 59) rl k' l) ∨ ∃ t : Nat, t < R.T ∧ x2 = nI t) → Rt (f_checkLoans_29 R.K k9 d S1 (some ws) x2 (nI l) (nI k)) Q
  | 0, k, S1, x2, hd, _, hk, _, _ => by omega
  | d + 1, k, S1, x2, hd, h1, hk, e, hx => by
    have hC1 := hC.ps e.1
    have h24 := hC1.2.1
    unfold f_checkLoans_29
    refine Rt.bd hC1.r4 (Rt.it (fun w => ?_) (fun w => ?_))
    · have : Pe ≤ k := (nI_leI (by omega) (by omega)).mp w
      obtain rfl : k = Pe := by omega
      rw [nI_1]
      exact kn S1 x2 e hx
    · have hlt : k < Pe := by
        by_cases q : k < Pe
        · exact q
        · exact absurd (nI_le (a := Pe) (b := k) (by omega) (by omega)) w
      have e58 : Zl S1 58 = Zl S 58 := e.2.1 58 (by decide)
      have e59 : Zl S1 59 = Zl S 59 := e.2.1 59 (by decide)
      have eqz : Zq S1 = Zq S := e.1.2.2.2.1
      have hLk : ∀ S2 : Sg, OXs (fun r => r = 60) S S2 → ∀ i : iR, LkK R S0 S2 i (Zl S2 58) (Zl S2 59) rl k l → LkK R S0 S i (Zl S 58) (Zl S 59) rl k l := fun S2 e2 i q => by
        have a1 : ZF S2 = ZF S := e2.1.2.1
        have a2 : ZL S2 = ZL S := e2.1.1
        have a3 : Zq S2 = Zq S := e2.1.2.2.2.1
        have a4 : Zr S2 = Zr S := e2.2.2.1
        have a5 : Zl S2 58 = Zl S 58 := e2.2.1 58 (by decide)
        have a6 : Zl S2 59 = Zl S 59 := e2.2.1 59 (by decide)
        obtain ⟨q1, q2⟩ := q
        rw [a4, a6] at q2
        refine ⟨?_, q2⟩
        rw [a4, a3, a5, a6] at q1
        exact q1.imp id (fun q v T w2 v2 T2 ρ ρ2 b1 b2 b3 b4 b5 => q v T w2 v2 T2 ρ ρ2 b1 b2 b3 (b4.st e2.1.lx) (by unfold pVa at b5 ⊢; rw [a1]; exact b5))
      -- on to the next point
      have nx : ∀ (S2 : Sg) (y2 : Int32), OXs (fun r => r = 60) S S2 → ((y2 < 0 ∧ x2 < 0 ∧ (Zr S 52 k ≠ 0 → LkK R S0 S (I k) (Zl S 58) (Zl S 59) rl k l)) ∨ ∃ t : Nat, t < R.T ∧ y2 = nI t) → Rt (f_checkLoans_114 R.K k9 ((f_checkLoans_29 R.K k9 d)) S2 (some ws) y2 (nI l) (nI k)) Q := fun S2 y2 e2 hy => by
        unfold f_checkLoans_114
        rw [nI_1]
        refine ck29 hT hY hl hC hx0 h7 h25 hp kn d (k + 1) S2 y2 (by omega) (by omega) (by omega) e2 (hy.imp (fun ⟨a, b, c⟩ => ?_) id)
        rcases hx with ⟨_, hz, hx⟩ | ⟨t, t1, t2⟩
        · refine ⟨a, hz, fun k' q1 q2 q3 => ?_⟩
          by_cases ek : k' = k
          · subst ek; exact c q3
          · exact hx k' q1 (by omega) q3
        · rw [t2] at b; exact absurd b (nI_nn (by omega))
      have hz1 := (hC1.2.2.2 k h1 hlt).1
      obtain ⟨tk, ht1, ht2⟩ : ∃ tk : Nat, Zr S1 32 k = nI tk ∧ tk < R.T := by obtain ⟨_, _, _, _, _, _, _, _, w, _⟩ := hz1; exact w
      have h106 : ∀ S2 : Sg, OXs (fun r => r = 60) S S2 → Rt (f_checkLoans_106 R.K k9 ((f_checkLoans_29 R.K k9 d)) S2 (some ws) (nI l) (nI k)) Q := fun S2 e2 => by
        unfold f_checkLoans_106
        refine Rt.bd (by rw [rI_n (show k < rlen 32 from by show k < 24000; omega) (by decide), e2.2.2.1, ← e.2.2.1, ht1]) (nx S2 (nI tk) e2 (Or.inr ⟨tk, ht2, rfl⟩))
      have h95 : ∀ S2 : Sg, OXs (fun r => r = 60) S S2 → (x2 < 0 → NaB (I k) (Zl S2 58) (Zl S2 59) k l ∨ ∀ (v T w2 v2 T2 : Nat) (ρ ρ2 : lLc), (I k).pa = some (v, ρ, T) → (I k).ac ≠ 0 → Zq S2 43 l = some w2 → isPt R S0 S2 w2 v2 ρ2 T2 → pVa S2 w2 (I k).n2 → lCmp ρ ρ2 → MtP (I k) (Zr S2 44 l) ρ T) → Rt (f_checkLoans_95 R.K k9 ((f_checkLoans_29 R.K k9 d)) S2 (some ws) x2 (nI l) (nI k)) Q := fun S2 e2 hh => by
        unfold f_checkLoans_95
        have h7' : oI S2 16 (some ws) 7 = some rl := by
          unfold oI ov at h7 ⊢
          rw [e2.1.1, e2.1.2.1]; exact h7
        refine Rt.bn (gso_ (hC.ps e2.1) h1 hlt hl h7' (h25 k h1 hlt)) (fun S3 r3 t3 => ?_)
        obtain ⟨rfl, t4, t5⟩ := t3
        refine Rt.it (fun w4 => nx S3 x2 e2 ?_) (fun _ => h106 S3 e2)
        rcases hx with ⟨a, _, b⟩ | q
        · exact Or.inl ⟨a, a, fun _ => hLk S3 e2 _ ⟨hh a, t5 w4⟩⟩
        · exact Or.inr q
      have h63 : Rt (f_checkLoans_63 R.K k9 ((f_checkLoans_29 R.K k9 d)) S1 (some ws) x2 (nI l) (nI k)) Q := by
        unfold f_checkLoans_63 f_checkLoans_68
        refine Rt.iq (by decide) ?_
        refine Rt.bn (mts_ hC1 hY (hx0.tr e.1.lx) h1 hlt hl (by rw [eqz]; exact hp.imp id (fun ⟨w, a, b⟩ => ⟨w, a, b.st e.1.lx⟩))) (fun S3 r3 t3 => ?_)
        obtain ⟨rfl, t4, t5⟩ := t3
        refine Rt.it (fun w4 => h95 S3 e (fun _ => Or.inr (t5 w4))) (fun _ => ?_)
        refine Rt.bn (alb_ hC1 h1 hlt hl) (fun S4 r4 t6 => ?_)
        obtain ⟨e4, _, t8⟩ := t6
        refine Rt.it (fun w5 => h95 S4 (e.tr e4) (fun _ => Or.inl ?_)) (fun _ => h106 S4 (e.tr e4))
        have := t8 w5
        rw [← e4.2.1 58 (by decide), ← e4.2.1 59 (by decide)] at this
        exact this
      have h67 : (x2 < 0 → Zr S 52 k = 0) → Rt (f_checkLoans_67 R.K k9 ((f_checkLoans_29 R.K k9 d)) S1 (some ws) x2 (nI l) (nI k)) Q := fun hh => by
        unfold f_checkLoans_67 f_checkLoans_68
        refine Rt.ip rfl (nx S1 x2 e ?_)
        rcases hx with ⟨a, _, b⟩ | q
        · exact Or.inl ⟨a, a, fun w9 => absurd (hh a) w9⟩
        · exact Or.inr q
      have r52 : rI S1 52 (nI k) = some (Zr S1 52 k) := rI_n (show k < rlen 52 from by show k < 24000; omega) (by decide)
      refine Rt.bd r52 (Rt.it (fun w2 => h67 (fun _ => by rw [← e.2.2.1]; exact w2)) (fun w2 => Rt.it (fun w3 => h63) (fun w3 => ?_)))
      refine Rt.bd (rI_n (show k < rlen 32 from by show k < 24000; omega) (by decide)) (Rt.it (fun _ => h67 (fun w9 => absurd w9 w3)) (fun _ => h63))
/-- a loan is looked after -/
def LnK (R : yR) (S0 S : Sg) (I : Nat → iR) (lv f : Nat → Int64) (rl : Int32) (l Ps Pe : Nat) : Prop := LnD I (Zr S 52) f l Ps Pe ∧ (∀ u : Nat, u < 256 → Zr S 45 l = nI u → rb f (4 * Ps) u = true) ∧ ∀ k : Nat, Ps ≤ k → k < Pe → Zr S 52 k ≠ 0 → LkK R S0 S (I k) lv f rl k l
theorem ck9 {rl : Int32} {L : Nat} {Q : Sg → Unit → Prop} (hT : R.T ≤ 3001) (hY : YK R S0) (hL : L ≤ 160) (hC : PCx R S0 S ws Ps Pe I) (hx0 : LX S0 S) (h7 : oI S 16 (some ws) 7 = some rl) (h25 : ∀ k : Nat, Ps ≤ k → k < Pe → (I k).kd = 25 → (I k).n1 < 256) (h47 : Zi S 47 = nI L) (hn : lnPR R S)
  (kf : ∀ S2 : Sg, OXs (fun r => r = 59 ∨ r = 60) S S2 → (∀ l : Nat, l < L → ∃ f : Nat → Int64, LnK R S0 S I (Zl S 58) f rl l Ps Pe) → Q S2 ()) (kb : ∀ (S2 : Sg) (t : Nat), OXs (fun r => r = 59 ∨ r = 60) S S2 → t < R.T → Q (flS S2 6 (Zr S2 6 t)) ()) : ∀ (d l : Nat) (S1 : Sg) (x2 : Int32), L < l + d → l ≤ L → OXs (fun r => r = 59 ∨ r = 60) S S1 → ((x2 < 0 ∧ ∀ l' : Nat, l' < l → ∃ f : Nat → Int64, LnK R S0 S I (Zl S 58) f rl l' Ps Pe) ∨ ∃ t : Nat, t < R.T ∧ x2 = nI t) → Rt (f_checkLoans_9 R.K d S1 (some ws) x2 (nI l)) Q
  | 0, l, S1, x2, hd, hl, _, _ => by omega
  | d + 1, l, S1, x2, hd, hl, e, hx => by
    have e47 : Zi S1 47 = nI L := by rw [e.2.2.2]; exact h47
    unfold f_checkLoans_9
    rw [e47]
    refine Rt.it (fun w => ?_) (fun w => ?_)
    · have : L ≤ l := (nI_leI (by omega) (by omega)).mp w
      obtain rfl : l = L := by omega
      refine Rt.it (fun w2 => ?_) (fun w2 => ?_)
      · unfold f_checkLoans_137
        refine Rt.rt (kf S1 e ?_)
        rcases hx with ⟨_, b⟩ | ⟨t, t1, t2⟩
        · exact b
        · rw [t2] at w2; exact absurd w2 (nI_nn (by omega))
      · rcases hx with ⟨a, _⟩ | ⟨t, t1, t2⟩
        · exact absurd a w2
        · rw [t2]
          refine Rt.be (fail_ (by omega)) ?_
          unfold f_checkLoans_137
          exact Rt.rt (kb S1 t e t1)
    · have hlt : l < L := by
        by_cases q : l < L
        · exact q
        · exact absurd (nI_le (a := L) (b := l) (by omega) (by omega)) w
      obtain ⟨n1, n2⟩ := hn l (by omega) (by rw [h47]; exact nI_lt hlt (by omega))
      have h45 : ∃ ou : Option Nat, Zr S 45 l = oNm ou ∧ ∀ u : Nat, ou = some u → u < 256 := by
        rcases n2 with q | ⟨u, u1, u2⟩
        · exact ⟨none, q, fun u w => by cases w⟩
        · exact ⟨some u, u2, fun u' w => by cases w; exact u1⟩
      obtain ⟨ou, o1, o2⟩ := h45
      refine Rt.bn (spl_ (ou := ou) (hC.ps e.1) (by omega) (by rw [e.2.2.1]; exact o1) o2) (fun S2 _ t2 => ?_)
      obtain ⟨e2, hC2, d2, u2⟩ := t2
      have e12 := e.tr e2
      refine Rt.bd hC2.r5 ?_
      have h7' : oI S2 16 (some ws) 7 = some rl := by
        unfold oI ov at h7 ⊢
        rw [e12.1.1, e12.1.2.1]; exact h7
      have a58 : Zl S2 58 = Zl S 58 := e12.2.1 58 (by decide)
      have a52 : Zr S2 = Zr S := e12.2.2.1
      refine ck29 (Z := ∀ l' : Nat, l' < l → ∃ f : Nat → Int64, LnK R S0 S I (Zl S 58) f rl l' Ps Pe) hT hY (show l < 160 by omega) hC2 (hx0.tr e12.1.lx) h7' h25 (by rw [e12.1.2.2.2.1]; exact n1.imp id (fun ⟨w, a, b⟩ => ⟨w, a, b.st e12.1.lx⟩)) (fun S3 y3 e3 hy => ?_) bigN Ps S2 x2 (by unfold bigN; have := hC2.2.1; omega) (Nat.le_refl _) (Nat.le_of_lt hC2.1) OXs.rf (hx.imp (fun ⟨a, b⟩ => ⟨a, b, fun k' q1 q2 => by omega⟩) id)
      refine ck9 hT hY hL hC hx0 h7 h25 h47 hn kf kb d (l + 1) S3 y3 (by omega) (by omega) (e12.tr (e3.mo (fun r h => Or.inr h))) ?_
      rcases hy with ⟨y1, x3, y2⟩ | q
      · · refine Or.inl ⟨y1, fun l' hl' => ?_⟩
          by_cases el : l' = l
          · subst el
            refine ⟨Zl S2 59, by rw [← a52]; exact d2, fun u hu hz => u2 u ?_, fun k q1 q2 q3 => ?_⟩
            · rw [o1] at hz
              cases ou with
              | none => exact absurd (show nI u < 0 by rw [← hz]; decide) (nI_nn (by omega))
              | some u' => rw [nI_e (a := u') (b := u) (by have := o2 u' rfl; omega) (by omega) hz]
            · have q := y2 k q1 q2 (by rw [a52]; exact q3)
              obtain ⟨z1, z2⟩ := q
              rw [a52] at z2
              refine ⟨?_, z2⟩
              rw [a52, a58, e12.1.2.2.2.1] at z1
              refine z1.imp id (fun q v T w2 v2 T2 ρ ρ2 b1 b2 b3 b4 b5 => q v T w2 v2 T2 ρ ρ2 b1 b2 b3 (b4.st e12.1.lx) (by unfold pVa at b5 ⊢; rw [e12.1.2.1]; exact b5))
          · exact x3 l' (by omega)
      · exact Or.inr q
/-- checkLoans -/
theorem ckl_ {rl : Int32} {L : Nat} (hT : R.T ≤ 3001) (hY : YK R S0) (hL : L ≤ 160) (hC : PCx R S0 S ws Ps Pe I) (hx0 : LX S0 S) (h7 : oI S 16 (some ws) 7 = some rl) (h25 : ∀ k : Nat, Ps ≤ k → k < Pe → (I k).kd = 25 → (I k).n1 < 256) (h47 : Zi S 47 = nI L) (hn : lnPR R S) : Rt (f_checkLoans R.K S (some ws)) (fun S2 _ => (OXs (fun r => r = 58 ∨ r = 59 ∨ r = 60) S S2 ∧ ∃ lv : Nat → Int64, LvD I lv Ps Pe ∧ ∀ l : Nat, l < L → ∃ f : Nat → Int64, LnK R S0 S I lv f rl l Ps Pe) ∨ ∃ (S3 : Sg) (t : Nat), OXs (fun r => r = 58 ∨ r = 59 ∨ r = 60) S S3 ∧ t < R.T ∧ S2 = flS S3 6 (Zr S3 6 t)) := by
  unfold f_checkLoans
  refine Rt.bn (lives_ hC) (fun S1 _ t1 => ?_)
  obtain ⟨e1, hC1, hv⟩ := t1
  have m1 := e1.mo (P2 := fun r => r = 58 ∨ r = 59 ∨ r = 60) (fun r h => by omega)
  have h7' : oI S1 16 (some ws) 7 = some rl := by
    unfold oI ov at h7 ⊢
    rw [e1.1.1, e1.1.2.1]; exact h7
  have hn1 : lnPR R S1 := hn.st e1.1.lx (fun l _ _ => by rw [e1.1.2.2.2.1]) (fun l _ _ => Or.inl (by rw [e1.2.2.1])) (by rw [e1.2.2.2])
  refine ck9 (S := S1) hT hY hL hC1 (hx0.tr e1.1.lx) h7' h25 (by rw [e1.2.2.2]; exact h47) hn1 (fun S2 e2 hq => Or.inl ⟨m1.tr (e2.mo (fun r h => by omega)), Zl S1 58, hv, fun l hl => ?_⟩) (fun S2 t e2 ht => Or.inr ⟨S2, t, m1.tr (e2.mo (fun r h => by omega)), ht, rfl⟩) bigN 0 S1 (-1) (by unfold bigN; omega) (Nat.zero_le _) OXs.rf (Or.inl ⟨by decide, fun l hl => by omega⟩)
  obtain ⟨f, f1, f2, f3⟩ := hq l hl
  rw [e1.2.2.1] at f1 f2
  refine ⟨f, f1, f2, fun k q1 q2 q3 => ?_⟩
  obtain ⟨z1, z2⟩ := f3 k q1 q2 (by rw [e1.2.2.1]; exact q3)
  rw [e1.2.2.1] at z2
  refine ⟨?_, z2⟩
  rw [e1.2.2.1, e1.1.2.2.2.1] at z1
  exact z1.imp id (fun q v T w2 v2 T2 ρ ρ2 b1 b2 b3 b4 b5 => q v T w2 v2 T2 ρ ρ2 b1 b2 b3 (b4.st e1.1.lx) (by unfold pVa at b5 ⊢; rw [e1.1.2.1]; exact b5))
end PS8
