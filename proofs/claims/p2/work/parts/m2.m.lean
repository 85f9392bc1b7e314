section PS12
variable {R : yR} {S0 S S1 S2 Sr : Sg} {ws Ps Pe k n : Nat} {I : Nat → iR} {g : Nat → Int32} {P : Nat → Prop}
theorem nI_10 (n : Nat) : 10 * nI n = nI (10 * n) := (Int32.ofNat_mul 10 n).symm
theorem mv2 (hL : LFS R S0 g) (hx0 : LX S0 S) (hC : PCx R S0 S ws Ps Pe I) (h1 : Ps ≤ k) (h2 : k < Pe) (hM : mBd (I k)) : ∀ (d w : Nat) (S1 : Sg), 10 < w + d → w ≤ 10 → OXm (fun r => r = 55 ∨ r = 56) S S1 → (∀ v : Nat, v < w → Zl S1 55 v = Zl S 53 (10 * k + v)) → Rt (f_moveBehind_2 R.K d S1 (nI k) (nI w)) (fun S2 _ => OXm (fun r => r = 55 ∨ r = 56) S S2 ∧ ∀ c : Nat, c < 640 → MvO R S0 (vTp S0 S (I k).n2) (I k) (Zl S 53) k c → rb (Zl S2 55) 0 c = true)
  | 0, w, S1, hd, hn, _, _ => by omega
  | d + 1, w, S1, hd, hn, e, hr => by
    have h24 := hC.2.1
    unfold f_moveBehind_2
    refine Rt.it (fun q => ?_) (fun q => ?_)
    · have hw : 10 ≤ w := (nI_leI (a := 10) (b := w) (by decide) (by omega)).mp q
      obtain rfl : w = 10 := by omega
      have hC1 := hC.ps e.1
      have hz1 := (hC1.2.2.2 k h1 h2).1
      have hx1 : LX S0 S1 := hx0.tr e.1.lx
      have eT : vTp S0 S1 (I k).n2 = vTp S0 S (I k).n2 := vTp.ps e.1
      have hrb : ∀ c : Nat, c < 640 → rb (Zl S1 55) 0 c = rb (Zl S 53) (10 * k) c := fun c hc => by
        unfold rb; rw [Nat.zero_add, hr (c / 64) (by omega)]
      obtain ⟨q1, q2, q3, q4, _, _, _, _, _, q10, _, _, _, _, _, q16, q17, _⟩ := hz1
      have r27 : rI S1 27 (nI k) = some (nI (I k).kd) := by rw [rI_n (show k < rlen 27 from by show k < 24000; omega) (by decide), q1]
      have r33 : rI S1 33 (nI k) = some (nI (I k).ac) := by rw [rI_n (show k < rlen 33 from by show k < 24000; omega) (by decide), q3]
      have r38 : rQ S1 38 (nI k) = some (Zq S1 38 k) := rQ_n (show k < rlen 38 from by show k < 24000; omega) (by decide)
      have r40 : rQ S1 40 (nI k) = some (Zq S1 40 k) := rQ_n (show k < rlen 40 from by show k < 24000; omega) (by decide)
      have fin : ∀ S2 : Sg, OXm (fun r => r = 55 ∨ r = 56) S S2 → (∀ c : Nat, c < 640 → MvO R S0 (vTp S0 S (I k).n2) (I k) (Zl S 53) k c → rb (Zl S2 55) 0 c = true) → Rt (f_moveBehind_360 R.K S2) (fun S2 _ => OXm (fun r => r = 55 ∨ r = 56) S S2 ∧ ∀ c : Nat, c < 640 → MvO R S0 (vTp S0 S (I k).n2) (I k) (Zl S 53) k c → rb (Zl S2 55) 0 c = true) := fun S2 e2 h3 => by
        unfold f_moveBehind_360; exact Rt.rt ⟨e2, h3⟩
      have pl0 : ((I k).kd = 2 → (I k).ac ≠ 4 ∧ (I k).ac ≠ 5) → (I k).kd ≠ 13 → Rt (f_moveBehind_360 R.K S1) (fun S2 _ => OXm (fun r => r = 55 ∨ r = 56) S S2 ∧ ∀ c : Nat, c < 640 → MvO R S0 (vTp S0 S (I k).n2) (I k) (Zl S 53) k c → rb (Zl S2 55) 0 c = true) := fun a b => fin S1 e (fun c hc hm => by
        rcases hm with ⟨m1, m2, _⟩ | ⟨m1, _⟩ | ⟨m1, _⟩
        · have := a m1; omega
        · exact absurd m1 b
        · rw [hrb c hc]; exact m1)
      have pl : ∀ m : Nat, m < 28 → m ≠ 2 → m ≠ 13 → nI (I k).kd = nI m → Rt (f_moveBehind_360 R.K S1) (fun S2 _ => OXm (fun r => r = 55 ∨ r = 56) S S2 ∧ ∀ c : Nat, c < 640 → MvO R S0 (vTp S0 S (I k).n2) (I k) (Zl S 53) k c → rb (Zl S2 55) 0 c = true) := fun m a b c w => by
        have : (I k).kd = m := nI_e (by omega) (by omega) w
        exact pl0 (fun e9 => by omega) (by omega)
      -- a variable is filled, or emptied
      have hvr : ∀ (h l : Bool), ((I k).kd = 12 ∨ (I k).kd = 13 ∨ (I k).kd = 23 ∨ (I k).kd = 24) → (l = true ↔ (I k).kd = 13) → Rt ((rQ S1 40 (nI k)).bind fun v4 =>
    (oI S1 21 v4 0).bind fun v5 =>
    bnd (f_mark R.K S1 (16 * v5) 16 (if h = true then 1 else 0) (if l = true then 1 else 0)) fun S6 v7 =>
    f_moveBehind_360 R.K S6) (fun S2 _ => OXm (fun r => r = 55 ∨ r = 56) S S2 ∧ ∀ c : Nat, c < 640 → MvO R S0 (vTp S0 S (I k).n2) (I k) (Zl S 53) k c → rb (Zl S2 55) 0 c = true) := fun h l hk hl => by
        obtain ⟨va, v, ty, mu, b1, b2, ⟨b3, nm, wh, b4⟩, _⟩ := q16 hk
        have hv : v < 40 := hM.2.1 (by omega) v (by rw [b2]; exact List.mem_singleton_self v)
        refine Rt.bd r40 ?_
        rw [b1]
        refine Rt.bd (oI_mk b3 b4 rfl) ?_
        rw [nI_16]
        refine Rt.bn (mrk_ (R := R) (S := S1) (B := 16 * v) (m := 16) (h := h) (l := l) (by omega)) (fun S2 _ t2 => ?_)
        obtain ⟨e2, t3⟩ := t2
        refine fin S2 (e.tr e2.m) (fun c hc hm => ?_)
        rw [t3 c hc]
        have hin : (16 * v ≤ c ∧ c < 16 * v + 16) ↔ c / 16 ∈ (I k).vs := by
          rw [b2, List.mem_singleton]; omega
        by_cases c1 : 16 * v ≤ c ∧ c < 16 * v + 16
        · rw [if_pos c1]
          rcases hm with ⟨m1, _⟩ | ⟨m1, _⟩ | ⟨_, m2⟩
          · omega
          · exact hl.mpr m1
          · by_cases k13 : (I k).kd = 13
            · exact hl.mpr k13
            · exact absurd (Or.inl ⟨by omega, hin.mp c1⟩) m2
        · rw [if_neg c1, hrb c hc]
          rcases hm with ⟨m1, _⟩ | ⟨_, m2⟩ | ⟨m1, _⟩
          · omega
          · exact absurd (hin.mpr m2) c1
          · exact m1
      have h205 : ∀ m : Nat, (m = 12 ∨ m = 23) → nI (I k).kd = nI m → Rt (f_moveBehind_205 R.K S1 (nI k)) (fun S2 _ => OXm (fun r => r = 55 ∨ r = 56) S S2 ∧ ∀ c : Nat, c < 640 → MvO R S0 (vTp S0 S (I k).n2) (I k) (Zl S 53) k c → rb (Zl S2 55) 0 c = true) := fun m a w => by
        have : (I k).kd = m := nI_e (by omega) (by omega) w
        unfold f_moveBehind_205
        exact hvr true false (by omega) ⟨fun z => absurd z (by decide), fun z => by omega⟩
      -- a place is filled, or moved out of
      have hpl : ∀ (Sx : Sg) (h l : Bool), Sx = S1 → (I k).pa ≠ none → (∀ (v : Nat) (ρ : lLc) (T c : Nat), (I k).pa = some (v, ρ, T) → inR R S0 (vTp S0 S (I k).n2) v ρ c → MvO R S0 (vTp S0 S (I k).n2) (I k) (Zl S 53) k c → l = true) → (∀ (v : Nat) (ρ : lLc) (T c : Nat), (I k).pa = some (v, ρ, T) → ¬ inR R S0 (vTp S0 S (I k).n2) v ρ c → MvO R S0 (vTp S0 S (I k).n2) (I k) (Zl S 53) k c → rb (Zl S 53) (10 * k) c = true) → Rt ((rQ Sx 38 (nI k)).bind fun v11 =>
    bnd (f_partFrom R.K Sx v11) fun S12 v13 =>
    bnd (f_mark R.K S12 v13 (Zi S12 57) (if h = true then 1 else 0) (if l = true then 1 else 0)) fun S14 v15 =>
    f_moveBehind_360 R.K S14) (fun S2 _ => OXm (fun r => r = 55 ∨ r = 56) S S2 ∧ ∀ c : Nat, c < 640 → MvO R S0 (vTp S0 S (I k).n2) (I k) (Zl S 53) k c → rb (Zl S2 55) 0 c = true) := fun Sx h l ex hp ha hb => by
        subst ex
        rcases q10 with ⟨_, z⟩ | ⟨wp, v, T, ρ, z1, z2, z3, z4⟩
        · exact absurd z hp
        · have hv := hM.1 v ρ T z2
          obtain ⟨p1, p2⟩ := pfm_ hL hx1 z3 z4
          rw [eT] at p1 p2
          refine Rt.bd r38 ?_
          rw [z1]
          refine Rt.be p1 ?_
          rw [show ∀ x : Int32, Zi (Ui Sx 57 x) 57 = x from fun x => Zi_s]
          have e1 : OXm (fun r => r = 55 ∨ r = 56) Sx (Ui Sx 57 (nI (zN R S0 (pfO R S0 (vTp S0 S (I k).n2) ρ).2))) := OXm.ui
          have el : Zl (Ui Sx 57 (nI (zN R S0 (pfO R S0 (vTp S0 S (I k).n2) ρ).2))) = Zl Sx := rfl
          generalize Ui Sx 57 (nI (zN R S0 (pfO R S0 (vTp S0 S (I k).n2) ρ).2)) = Sy at e1 el
          refine Rt.bn (mrk_ (R := R) (S := Sy) (B := 16 * v + (pfO R S0 (vTp S0 S (I k).n2) ρ).1) (m := zN R S0 (pfO R S0 (vTp S0 S (I k).n2) ρ).2) (h := h) (l := l) (by omega)) (fun S2 _ t2 => ?_)
          obtain ⟨e2, t3⟩ := t2
          refine fin S2 ((e.tr e1).tr e2.m) (fun c hc hm => ?_)
          rw [t3 c hc, el]
          by_cases c1 : 16 * v + (pfO R S0 (vTp S0 S (I k).n2) ρ).1 ≤ c ∧ c < 16 * v + (pfO R S0 (vTp S0 S (I k).n2) ρ).1 + zN R S0 (pfO R S0 (vTp S0 S (I k).n2) ρ).2
          · rw [if_pos c1]; exact ha v ρ T c z2 c1 hm
          · rw [if_neg c1, hrb c hc]; exact hb v ρ T c z2 c1 hm
      refine Rt.bd r27 (Rt.it (fun w => ?k2) (fun w2 => Rt.it (fun w => pl 3 (by decide) (by decide) (by decide) w) (fun w3 => Rt.it (fun w => pl 4 (by decide) (by decide) (by decide) w) (fun w4 => Rt.it (fun w => pl 5 (by decide) (by decide) (by decide) w) (fun w5 => Rt.it (fun w => pl 6 (by decide) (by decide) (by decide) w) (fun w6 => Rt.it (fun w => pl 7 (by decide) (by decide) (by decide) w) (fun w7 => Rt.it (fun w => pl 8 (by decide) (by decide) (by decide) w) (fun w8 => Rt.it (fun w => pl 9 (by decide) (by decide) (by decide) w) (fun w9 => Rt.it (fun w => pl 10 (by decide) (by decide) (by decide) w) (fun w10 => Rt.it (fun w => pl 11 (by decide) (by decide) (by decide) w) (fun w11 => Rt.it (fun w => h205 12 (by decide) w) (fun w12 => Rt.it (fun w => ?k13) (fun w13 => Rt.it (fun w => ?k14) (fun w14 => Rt.it (fun w => pl 15 (by decide) (by decide) (by decide) w) (fun w15 => Rt.it (fun w => pl 16 (by decide) (by decide) (by decide) w) (fun w16 => Rt.it (fun w => pl 17 (by decide) (by decide) (by decide) w) (fun w17 => Rt.it (fun w => pl 18 (by decide) (by decide) (by decide) w) (fun w18 => Rt.it (fun w => pl 19 (by decide) (by decide) (by decide) w) (fun w19 => Rt.it (fun w => pl 20 (by decide) (by decide) (by decide) w) (fun w20 => Rt.it (fun w => pl 21 (by decide) (by decide) (by decide) w) (fun w21 => Rt.it (fun w => ?k22) (fun w22 => Rt.it (fun w => h205 23 (by decide) w) (fun w23 => Rt.it (fun w => ?k24) (fun w24 => pl0 (fun e => absurd (by rw [e]; rfl) w2) (fun e => w13 (by rw [e]; rfl))))))))))))))))))))))))))
      case k2 =>
        have hk : (I k).kd = 2 := nI_e (b := 2) (by omega) (by decide) w
        have h180 : ((I k).ac = 4 ∨ (I k).ac = 5) → Rt (f_moveBehind_180 R.K S1 (nI k)) (fun S2 _ => OXm (fun r => r = 55 ∨ r = 56) S S2 ∧ ∀ c : Nat, c < 640 → MvO R S0 (vTp S0 S (I k).n2) (I k) (Zl S 53) k c → rb (Zl S2 55) 0 c = true) := fun ha => by
          unfold f_moveBehind_180
          refine hpl S1 false true rfl (hM.2.2.2 (by omega)) (fun _ _ _ _ _ _ _ => rfl) (fun v ρ T c z1 z2 z3 => ?_)
          rcases z3 with ⟨_, _, v', ρ', T', m1, m2⟩ | ⟨m1, _⟩ | ⟨m1, _⟩
          · rw [z1] at m1; cases m1; exact absurd m2 z2
          · omega
          · exact m1
        refine Rt.bd r33 (Rt.it (fun w4 => h180 (Or.inl (nI_e (b := 4) (by omega) (by decide) w4))) (fun w4 => Rt.bd r33 (Rt.it (fun w5 => h180 (Or.inr (nI_e (b := 5) (by omega) (by decide) w5))) (fun w5 => pl0 (fun _ => ⟨fun e9 => w4 (by rw [e9]; rfl), fun e9 => w5 (by rw [e9]; rfl)⟩) (by omega)))))
      case k13 =>
        have hk : (I k).kd = 13 := nI_e (b := 13) (by omega) (by decide) w
        exact hvr false true (by omega) ⟨fun _ => hk, fun _ => rfl⟩
      case k24 =>
        have hk : (I k).kd = 24 := nI_e (b := 24) (by omega) (by decide) w
        exact hvr false false (by omega) ⟨fun z => absurd z (by decide), fun z => by omega⟩
      case k22 =>
        have hk : (I k).kd = 22 := nI_e (b := 22) (by omega) (by decide) w
        refine (mv276 (Sx := S1) hC h1 h2 hk (hM.2.1 (by omega)) bigN 0 S1 (by unfold bigN; omega) (Nat.zero_le _) e (fun c hc hb _ => hb)).mo (fun S2 _ ⟨a, b⟩ => ⟨a, fun c hc hm => ?_⟩)
        rcases hm with ⟨m1, _⟩ | ⟨m1, _⟩ | ⟨m1, m2⟩
        · omega
        · omega
        · exact b c hc (by rw [hrb c hc]; exact m1) (fun z => m2 (Or.inl ⟨by omega, z⟩))
      case k14 =>
        have hk : (I k).kd = 14 := nI_e (b := 14) (by omega) (by decide) w
        have hp := hM.2.2.1 hk
        refine Rt.bd r38 ?_
        rcases q10 with ⟨_, z⟩ | ⟨wp, v, T, ρ, z1, z2, z3, z4⟩
        · exact absurd z hp
        · rw [z1]
          refine Rt.bn (hst_ z3) (fun S3 r3 t3 => ?_)
          obtain ⟨e3, t4, t5⟩ := t3
          refine Rt.it (fun w0 => ?_) (fun w0 => ?_)
          · refine hpl S3 true false e3 hp (fun v' ρ' T' c y1 y2 y3 => ?_) (fun v' ρ' T' c y1 y2 y3 => ?_)
            · rcases y3 with ⟨m1, _⟩ | ⟨m1, _⟩ | ⟨_, m2⟩
              · omega
              · omega
              · rw [z2] at y1; cases y1
                exact absurd (Or.inr ⟨hk, v, ρ, T, z2, t5 w0, y2⟩) m2
            · rcases y3 with ⟨m1, _⟩ | ⟨m1, _⟩ | ⟨m1, _⟩
              · omega
              · omega
              · exact m1
          · rw [e3]; exact pl0 (fun e9 => by omega) (by omega)
    · have hw : w < 10 := by
        by_cases q2 : w < 10
        · exact q2
        · exact absurd (nI_le (a := 10) (b := w) (by omega) (by omega)) q
      rw [nI_10, nI_add]
      refine Rt.bd (rJ_n (show 10 * k + w < rlen 53 from by show _ < 240000; omega) (by decide)) (Rt.bd (wJ_n (show w < rlen 55 from hw) (by decide)) ?_)
      have e2 : OXs (fun r => r = 55 ∨ r = 56) S1 (Ul S1 55 (vp_updL (Zl S1 55) w (Zl S1 53 (10 * k + w)))) := OXs.ul (by decide) (Or.inl rfl)
      have e55 : Zl (Ul S1 55 (vp_updL (Zl S1 55) w (Zl S1 53 (10 * k + w)))) 55 = vp_updL (Zl S1 55) w (Zl S1 53 (10 * k + w)) := Zl_us
      generalize Ul S1 55 (vp_updL (Zl S1 55) w (Zl S1 53 (10 * k + w))) = Sy at e2 e55
      refine Rt.bd (rJ_n (show 10 * k + w < rlen 54 from by show _ < 240000; omega) (by decide)) (Rt.bd (wJ_n (show w < rlen 56 from hw) (by decide)) ?_)
      have e3 : OXs (fun r => r = 55 ∨ r = 56) Sy (Ul Sy 56 (vp_updL (Zl Sy 56) w (Zl Sy 54 (10 * k + w)))) := OXs.ul (by decide) (Or.inr rfl)
      rw [nI_1]
      refine mv2 hL hx0 hC h1 h2 hM d (w + 1) _ (by omega) (by omega) ((e.tr e2.m).tr e3.m) (fun v hv => ?_)
      rw [Zl_un (by decide), e55]
      by_cases ev : v = w
      · subst ev; rw [upL_s, e.2.1 53 (by decide)]
      · rw [upL_n ev]; exact hr v (by omega)
/-- moveBehind -/
theorem mvb_ (hL : LFS R S0 g) (hx0 : LX S0 S) (hC : PCx R S0 S ws Ps Pe I) (h1 : Ps ≤ k) (h2 : k < Pe) (hM : mBd (I k)) : Rt (f_moveBehind R.K S (nI k)) (fun S2 _ => OXm (fun r => r = 55 ∨ r = 56) S S2 ∧ ∀ c : Nat, c < 640 → MvO R S0 (vTp S0 S (I k).n2) (I k) (Zl S 53) k c → rb (Zl S2 55) 0 c = true) := by
  unfold f_moveBehind
  exact mv2 hL hx0 hC h1 h2 hM bigN 0 S (by unfold bigN; omega) (Nat.zero_le _) OXm.rf (fun v hv => by omega)
end PS12
