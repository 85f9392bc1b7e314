/-- nothing that is read, moved, lent lacks its value -/
def MvW (R : yR) (S0 : Sg) (T0 : Nat) (i : iR) (f : Nat → Int64) (k : Nat) : Prop := i.ac ≠ 0 → i.ac ≠ 7 → ∀ (v : Nat) (ρ : lLc) (T : Nat), i.pa = some (v, ρ, T) → (i.ac ≠ 6 ∨ ∃ s ∈ ρ, s.1 = 1) → ∀ c : Nat, inR R S0 T0 v ρ c → rb f (10 * k) c = false
section PS15
variable {R : yR} {S0 S S1 S2 Sr : Sg} {ws Ps Pe k n j : Nat} {I : Nat → iR} {g : Nat → Int32} {P : Nat → Prop}
theorem so3 {r B m : Nat} (hr : rlen r = 240000) (hk : k < 24000) (hB : B + m ≤ 640) : ∀ (d c : Nat), B + m < c + d → B ≤ c → c ≤ B + m → (∀ b : Nat, B ≤ b → b < c → rb (Zl S r) (10 * k) b = false) → Rt (f_some_3 R.K r d S (nI k) (nI B) (nI m) (nI c)) (fun S2 x => S2 = S ∧ (x = 0 ∨ x = 1) ∧ (x = 0 → ∀ b : Nat, B ≤ b → b < B + m → rb (Zl S r) (10 * k) b = false))
  | 0, c, hd, _, _, _ => by omega
  | d + 1, c, hd, h1, h2, h3 => by
    unfold f_some_3
    rw [nI_add]
    refine Rt.it (fun w => ?_) (fun w => ?_)
    · have : B + m ≤ c := (nI_leI (by omega) (by omega)).mp w
      exact Rt.zr (Or.inl rfl) ⟨rfl, Or.inl rfl, fun _ b q1 q2 => h3 b q1 (by omega)⟩
    · have hlt : c < B + m := by
        by_cases q : c < B + m
        · exact q
        · exact absurd (nI_le (a := B + m) (b := c) (by omega) (by omega)) w
      rw [nI_10]
      refine Rt.be (get_ (base := 10 * k) (b := c) (by omega) (show 10 * k + c / 64 < rlen r from by rw [hr]; omega) (by rw [hr]; decide)) ?_
      by_cases q : rb (Zl S r) (10 * k) c = true
      · rw [if_pos q]
        exact Rt.iq (by decide) (Rt.zr (Or.inr rfl) ⟨rfl, Or.inr rfl, fun z => absurd z (by decide)⟩)
      · rw [if_neg q]
        refine Rt.ip rfl ?_
        rw [nI_1]
        refine so3 hr hk hB d (c + 1) (by omega) (by omega) (by omega) (fun b q1 q2 => ?_)
        by_cases e : b = c
        · subst e; simpa using q
        · exact h3 b q1 (by omega)
theorem som_ {r B m : Nat} (hr : rlen r = 240000) (hk : k < 24000) (hB : B + m ≤ 640) : Rt (f_some R.K S r (nI k) (nI B) (nI m)) (fun S2 x => S2 = S ∧ (x = 0 ∨ x = 1) ∧ (x = 0 → ∀ b : Nat, B ≤ b → b < B + m → rb (Zl S r) (10 * k) b = false)) := by
  unfold f_some
  exact so3 hr hk hB bigN B (by unfold bigN; omega) (Nat.le_refl _) (by omega) (fun b q1 q2 => by omega)
/-- moveWrong -/
theorem mvw_ (hL : LFS R S0 g) (hx0 : LX S0 S) (hC : PCx R S0 S ws Ps Pe I) (h1 : Ps ≤ k) (h2 : k < Pe) (hM : mBd (I k)) : Rt (f_moveWrong R.K S (nI k)) (fun S2 r => OXm (fun _ => False) S S2 ∧ (r = 0 ∨ r = 1) ∧ (r = 0 → MvW R S0 (vTp S0 S (I k).n2) (I k) (Zl S 53) k)) := by
  have h24 := hC.2.1
  obtain ⟨hz, hs, hsl, hb⟩ := hC.2.2.2 k h1 h2
  obtain ⟨_, _, q3, q4, _, _, _, _, _, q10, _⟩ := hz
  have r33 : rI S 33 (nI k) = some (nI (I k).ac) := by rw [rI_n (show k < rlen 33 from by show k < 24000; omega) (by decide), q3]
  unfold f_moveWrong
  refine Rt.bd r33 (Rt.it (fun w => ?_) (fun w => Rt.it (fun w7 => ?_) (fun w7 => ?_)))
  · unfold f_moveWrong_17
    exact Rt.zr (Or.inl rfl) ⟨OXm.rf, Or.inl rfl, fun _ a => absurd (nI_e (b := 0) (by omega) (by decide) w) a⟩
  · unfold f_moveWrong_17
    exact Rt.zr (Or.inl rfl) ⟨OXm.rf, Or.inl rfl, fun _ _ a => absurd (nI_e (b := 7) (by omega) (by decide) w7) a⟩
  · have hp := hM.2.2.2 (fun e9 => w (by rw [e9]; rfl))
    rcases q10 with ⟨_, z⟩ | ⟨wp, v, T, ρ, z1, z2, z3, z4⟩
    · exact absurd z hp
    · have hv := hM.1 v ρ T z2
      obtain ⟨p1, p2⟩ := pfm_ hL hx0 z3 z4
      refine Rt.bd (rQ_n (show k < rlen 38 from by show k < 24000; omega) (by decide)) ?_
      rw [z1]
      refine Rt.be p1 ?_
      have e1 : OXm (fun _ => False) S (Ui S 57 (nI (zN R S0 (pfO R S0 (vTp S0 S (I k).n2) ρ).2))) := OXm.ui
      have el : Zl (Ui S 57 (nI (zN R S0 (pfO R S0 (vTp S0 S (I k).n2) ρ).2))) = Zl S := rfl
      have eq38 : Zq (Ui S 57 (nI (zN R S0 (pfO R S0 (vTp S0 S (I k).n2) ρ).2))) 38 k = some wp := z1
      have ei : Zi (Ui S 57 (nI (zN R S0 (pfO R S0 (vTp S0 S (I k).n2) ρ).2))) 57 = nI (zN R S0 (pfO R S0 (vTp S0 S (I k).n2) ρ).2) := Zi_s
      generalize Ui S 57 (nI (zN R S0 (pfO R S0 (vTp S0 S (I k).n2) ρ).2)) = Sy at e1 el eq38 ei
      have z5 : isPt R S0 Sy wp v ρ T := z3.st e1.1.lx
      have h48 : Rt (f_moveWrong_48 R.K Sy (nI k) (nI (16 * v + (pfO R S0 (vTp S0 S (I k).n2) ρ).1))) (fun S2 r => OXm (fun _ => False) S S2 ∧ (r = 0 ∨ r = 1) ∧ (r = 0 → MvW R S0 (vTp S0 S (I k).n2) (I k) (Zl S 53) k)) := by
        unfold f_moveWrong_48
        rw [ei]
        refine Rt.bn (som_ (R := R) (S := Sy) (r := 53) (k := k) (B := 16 * v + (pfO R S0 (vTp S0 S (I k).n2) ρ).1) (m := zN R S0 (pfO R S0 (vTp S0 S (I k).n2) ρ).2) rfl (by omega) (by omega)) (fun S3 r3 t3 => ?_)
        obtain ⟨rfl, t4, t5⟩ := t3
        refine Rt.zr t4 ⟨e1, t4, fun r0 _ _ v' ρ' T' y1 _ c hc => ?_⟩
        rw [z2] at y1; cases y1
        have := t5 r0 c hc.1 hc.2
        rw [el] at this
        exact this
      have h111 : (∀ s ∈ ρ, s.1 ≠ 1) → (I k).ac = 6 → Rt (f_moveWrong_111 R.K Sy) (fun S2 r => OXm (fun _ => False) S S2 ∧ (r = 0 ∨ r = 1) ∧ (r = 0 → MvW R S0 (vTp S0 S (I k).n2) (I k) (Zl S 53) k)) := fun hst h6 => by
        unfold f_moveWrong_111 f_moveWrong_112
        refine Rt.zr (Or.inl rfl) ⟨e1, Or.inl rfl, fun _ _ _ v' ρ' T' y1 y2 => ?_⟩
        rw [z2] at y1; cases y1
        rcases y2 with y2 | ⟨s, y3, y4⟩
        · exact absurd h6 y2
        · exact absurd y4 (hst s y3)
      have r38 : rQ Sy 38 (nI k) = some (some wp) := by rw [rQ_n (show k < rlen 38 from by show k < 24000; omega) (by decide), eq38]
      refine Rt.it (fun w6 => ?_) (fun w6 => h48)
      have h6 : (I k).ac = 6 := nI_e (b := 6) (by omega) (by decide) w6
      refine Rt.bd r38 (Rt.bn (hst_ z5) (fun S3 r3 t3 => ?_))
      obtain ⟨rfl, t4, t5⟩ := t3
      refine Rt.it (fun w0 => ?_) (fun w0 => h48)
      obtain ⟨va, sa, ta, f, G, mu, y1, y2, ⟨y3, nm, wh, y4⟩, _⟩ := z5
      refine Rt.bd r38 (Rt.bd (oI_mk y1 y2 rfl) (Rt.it (fun w8 => ?_) (fun w8 => h111 (t5 w0) h6)))
      refine Rt.bd r38 (Rt.bd (oR_mk y1 y2 (v := some va) rfl) (Rt.bd (oI_mk y3 y4 rfl) (Rt.it (fun w9 => ?_) (fun w9 => h111 (t5 w0) h6))))
      rw [ei]
      refine Rt.bn (som_ (R := R) (S := S3) (r := 54) (k := k) (B := 16 * v + (pfO R S0 (vTp S0 S (I k).n2) ρ).1) (m := zN R S0 (pfO R S0 (vTp S0 S (I k).n2) ρ).2) rfl (by omega) (by omega)) (fun S4 r4 u4 => ?_)
      obtain ⟨rfl, u5, u6⟩ := u4
      refine Rt.it (fun w10 => h111 (t5 w0) h6) (fun w10 => ?_)
      unfold f_moveWrong_112
      exact Rt.zr (Or.inr rfl) ⟨e1, Or.inr rfl, fun z => absurd z (by decide)⟩
theorem cm12 (hT : R.T ≤ 3001) (hL : LFS R S0 g) (hx0 : LX S0 S) (hC : PCx R S0 S ws Ps Pe I) (hM : ∀ k : Nat, Ps ≤ k → k < Pe → mBd (I k)) {Q : Sg → Unit → Prop} (kf : ∀ S2 : Sg, OXm (fun _ => False) S S2 → (∀ k : Nat, Ps ≤ k → k < Pe → Zr S 52 k ≠ 0 → MvW R S0 (tvS S0 S I k) (I k) (Zl S 53) k) → Q S2 ()) (kb : ∀ (S2 : Sg) (t : Nat), OXm (fun _ => False) S S2 → t < R.T → Q (flS S2 5 (Zr S2 6 t)) ()) : ∀ (d k : Nat) (S1 : Sg) (x2 : Int32), Pe < k + d → Ps ≤ k → k ≤ Pe → OXm (fun _ => False) S S1 → ((x2 < 0 ∧ ∀ k' : Nat, Ps ≤ k' → k' < k → Zr S 52 k' ≠ 0 → MvW R S0 (tvS S0 S I k') (I k') (Zl S 53) k') ∨ ∃ t : Nat, t < R.T ∧ x2 = nI t) → Rt (f_checkMoves_12 R.K d S1 (some ws) x2 (nI k)) Q
  | 0, k, S1, x2, hd, _, _, _, _ => by omega
  | d + 1, k, S1, x2, hd, h1, hk, e, hx => by
    have hC1 := hC.ps e.1
    have h24 := hC1.2.1
    unfold f_checkMoves_12
    refine Rt.bd hC1.r4 (Rt.it (fun w => ?_) (fun w => ?_))
    · have : Pe ≤ k := (nI_leI (by omega) (by omega)).mp w
      obtain rfl : k = Pe := by omega
      refine Rt.it (fun w2 => ?_) (fun w2 => ?_)
      · unfold f_checkMoves_74
        refine Rt.rt (kf S1 e ?_)
        rcases hx with ⟨_, b⟩ | ⟨t, t1, t2⟩
        · exact b
        · rw [t2] at w2; exact absurd w2 (nI_nn (by omega))
      · rcases hx with ⟨a, _⟩ | ⟨t, t1, t2⟩
        · exact absurd a w2
        · rw [t2]
          refine Rt.be (fail_ (by omega)) ?_
          unfold f_checkMoves_74
          exact Rt.rt (kb S1 t e t1)
    · have hlt : k < Pe := by
        by_cases q : k < Pe
        · exact q
        · exact absurd (nI_le (a := Pe) (b := k) (by omega) (by omega)) w
      have nx : ∀ (S2 : Sg) (y2 : Int32), OXm (fun _ => False) S S2 → ((y2 < 0 ∧ y2 = x2 ∧ (Zr S 52 k ≠ 0 → MvW R S0 (tvS S0 S I k) (I k) (Zl S 53) k)) ∨ ∃ t : Nat, t < R.T ∧ y2 = nI t) → Rt (f_checkMoves_58 R.K (f_checkMoves_12 R.K d) S2 (some ws) y2 (nI k)) Q := fun S2 y2 e2 hy => by
        unfold f_checkMoves_58
        rw [nI_1]
        refine cm12 hT hL hx0 hC hM kf kb d (k + 1) S2 y2 (by omega) (by omega) (by omega) e2 (hy.imp (fun ⟨a, b, c⟩ => ⟨a, fun k' q1 q2 q3 => ?_⟩) id)
        by_cases ek : k' = k
        · subst ek; exact c q3
        · rcases hx with ⟨_, hx⟩ | ⟨t, t1, t2⟩
          · exact hx k' q1 (by omega) q3
          · rw [b, t2] at a; exact absurd a (nI_nn (by omega))
      have same : ∀ S2 : Sg, OXm (fun _ => False) S S2 → (x2 < 0 → Zr S 52 k ≠ 0 → MvW R S0 (tvS S0 S I k) (I k) (Zl S 53) k) → Rt (f_checkMoves_58 R.K (f_checkMoves_12 R.K d) S2 (some ws) x2 (nI k)) Q := fun S2 e2 hh => nx S2 x2 e2 (hx.imp (fun ⟨a, _⟩ => ⟨a, rfl, hh a⟩) id)
      obtain ⟨tk, ht1, ht2⟩ : ∃ tk : Nat, Zr S1 32 k = nI tk ∧ tk < R.T := by obtain ⟨_, _, _, _, _, _, _, _, w, _⟩ := (hC1.2.2.2 k h1 hlt).1; exact w
      refine Rt.bd (rI_n (show k < rlen 52 from by show k < 24000; omega) (by decide)) (Rt.it (fun w2 => same S1 e (fun _ q => absurd (by rw [← e.2.2]; exact w2) q)) (fun w2 => ?_))
      refine Rt.bn (mvw_ hL (hx0.tr e.1.lx) hC1 h1 hlt (hM k h1 hlt)) (fun S2 r2 t2 => ?_)
      obtain ⟨e2, t3, t4⟩ := t2
      have e12 := e.tr e2
      have r32 : rI S2 32 (nI k) = some (nI tk) := by rw [rI_n (show k < rlen 32 from by show k < 24000; omega) (by decide), e2.2.2, ht1]
      have h51 : Rt (f_checkMoves_51 R.K (f_checkMoves_12 R.K d) S2 (some ws) (nI k)) Q := by
        unfold f_checkMoves_51
        exact Rt.bd r32 (nx S2 (nI tk) e12 (Or.inr ⟨tk, ht2, rfl⟩))
      refine Rt.it (fun w3 => same S2 e12 (fun _ _ => ?_)) (fun w3 => Rt.it (fun w4 => h51) (fun w4 => Rt.bd r32 (Rt.it (fun w5 => same S2 e12 (fun w9 => absurd w9 w4)) (fun w5 => h51))))
      have := t4 w3
      rw [e.2.1 53 (by simp), show vTp S0 S1 (I k).n2 = tvS S0 S I k from vTp.ps e.1] at this
      exact this
/-- checkMoves -/
theorem ckm_ {mn : Nat} (hT : R.T ≤ 3001) (hL : LFS R S0 g) (hx0 : LX S0 S) (hC : PCx R S0 S ws Ps Pe I) (hM : ∀ k : Nat, Ps ≤ k → k < Pe → mBd (I k)) (hP : PRx R S ws mn) : Rt (f_checkMoves R.K S (some ws)) (fun S2 _ => (OXm (fun r => 53 ≤ r ∧ r ≤ 56) S S2 ∧ ∃ f : Nat → Int64, MvD R S0 I (tvS S0 S I) (Zr S 52) f Ps Pe ∧ ∀ k : Nat, Ps ≤ k → k < Pe → Zr S 52 k ≠ 0 → MvW R S0 (tvS S0 S I k) (I k) f k) ∨ ∃ (S3 : Sg) (t : Nat), OXm (fun r => 53 ≤ r ∧ r ≤ 56) S S3 ∧ t < R.T ∧ S2 = flS S3 5 (Zr S3 6 t)) := by
  unfold f_checkMoves
  refine Rt.bn (spm_ hL hx0 hC hM hP) (fun S1 _ t1 => ?_)
  obtain ⟨e1, hC1, hd⟩ := t1
  refine Rt.bd hC1.r5 ?_
  refine cm12 (S := S1) hT hL (hx0.tr e1.1.lx) hC1 hM (fun S2 e2 hq => Or.inl ⟨e1.tr (e2.mo (fun r h => h.elim)), Zl S1 53, ?_, fun k a b c => ?_⟩) (fun S2 t e2 ht => Or.inr ⟨S2, t, e1.tr (e2.mo (fun r h => h.elim)), ht, rfl⟩) bigN Ps S1 (-1) (by unfold bigN; have := hC1.2.1; omega) (Nat.le_refl _) (Nat.le_of_lt hC1.1) OXm.rf (Or.inl ⟨by decide, fun k' q1 q2 => by omega⟩)
  · rw [e1.2.2] at hd; exact hd
  · have := hq k a b (by rw [e1.2.2]; exact c)
    rw [tvS.ps (S0 := S0) (I := I) e1.1] at this
    exact this
end PS15
