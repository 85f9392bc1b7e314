-- m2.m.lean.txt
section
section PS12
variable {R : yR} {S0 S S1 S2 Sr : Sg} {ws Ps Pe k n : Nat} {I : Nat → iR} {g : Nat → Int32} {P : Nat → Prop}
theorem nI_10 (n : Nat) : 10 * nI n = nI (10 * n) := (Int32.ofNat_mul 10 n).symm
theorem mv2 (hL : LFS R S0 g) (hx0 : LX S0 S) (hC : PCx R S0 S ws Ps Pe I) (h1 : Ps ≤ k) (h2 : k < Pe) (hM : mBd (I k)) : ∀ (d w : Nat) (S1 : Sg), 10 < w + d → w ≤ 10 → OXm (fun r => r = 55 ∨ r = 56) S S1 → (∀ v : Nat, v < w → Zl S1 55 v = Zl S 53 (10 * k + v)) → Rt (f_moveBehind_2 R.K d S1 (nI k) (nI w)) (fun S2 _ => OXm (fun r => r = 55 ∨ r = 56) S S2 ∧ ∀ c : Nat, c < 640 → MvO R S0 (vTp S0 S (I k).n2) (I k) (Zl S 53) k c → rb (Zl S2 55) 0 c = true)
  | 0, w, S1, hd, hn, _, _ => by omega
  | d + 1, w, S1, hd, hn, e, hr => by
    have h24 := hC.2.1
    unfold f_moveBehind_2
    refine Rt.it (fun q => ?_) (fun q => ?_)
    · have hw : 10 ≤ w := (nI_leI (a := 10) (b := w) (by decide) (by omega)).mp q
      obtain rfl : w = 10 := by omega
      have hC1 := hC.ps e.1
      have hz1 := (hC1.2.2.2 k h1 h2).1
      have hx1 : LX S0 S1 := hx0.tr e.1.lx
      have eT : vTp S0 S1 (I k).n2 = vTp S0 S (I k).n2 := vTp.ps e.1
      have hrb : ∀ c : Nat, c < 640 → rb (Zl S1 55) 0 c = rb (Zl S 53) (10 * k) c := fun c hc => by
        unfold rb; rw [Nat.zero_add, hr (c / 64) (by omega)]
      obtain ⟨q1, q2, q3, q4, _, _, _, _, _, q10, _, _, _, _, _, q16, q17, _⟩ := hz1
      have r27 : rI S1 27 (nI k) = some (nI (I k).kd) := by rw [rI_n (show k < rlen 27 from by show k < 24000; omega) (by decide), q1]
      have r33 : rI S1 33 (nI k) = some (nI (I k).ac) := by rw [rI_n (show k < rlen 33 from by show k < 24000; omega) (by decide), q3]
      have r38 : rQ S1 38 (nI k) = some (Zq S1 38 k) := rQ_n (show k < rlen 38 from by show k < 24000; omega) (by decide)
      have r40 : rQ S1 40 (nI k) = some (Zq S1 40 k) := rQ_n (show k < rlen 40 from by show k < 24000; omega) (by decide)
      have fin : ∀ S2 : Sg, OXm (fun r => r = 55 ∨ r = 56) S S2 → (∀ c : Nat, c < 640 → MvO R S0 (vTp S0 S (I k).n2) (I k) (Zl S 53) k c → rb (Zl S2 55) 0 c = true) → Rt (f_moveBehind_360 R.K S2) (fun S2 _ => OXm (fun r => r = 55 ∨ r = 56) S S2 ∧ ∀ c : Nat, c < 640 → MvO R S0 (vTp S0 S (I k).n2) (I k) (Zl S 53) k c → rb (Zl S2 55) 0 c = true) := fun S2 e2 h3 => by
        unfold f_moveBehind_360; exact Rt.rt ⟨e2, h3⟩
      have pl0 : ((I k).kd = 2 → (I k).ac ≠ 4 ∧ (I k).ac ≠ 5) → (I k).kd ≠ 13 → Rt (f_moveBehind_360 R.K S1) (fun S2 _ => OXm (fun r => r = 55 ∨ r = 56) S S2 ∧ ∀ c : Nat, c < 640 → MvO R S0 (vTp S0 S (I k).n2) (I k) (Zl S 53) k c → rb (Zl S2 55) 0 c = true) := fun a b => fin S1 e (fun c hc hm => by
        rcases hm with ⟨m1, m2, _⟩ | ⟨m1, _⟩ | ⟨m1, _⟩
        · have := a m1; omega
        · exact absurd m1 b
        · rw [hrb c hc]; exact m1)
      have pl : ∀ m : Nat, m < 28 → m ≠ 2 → m ≠ 13 → nI (I k).kd = nI m → Rt (f_moveBehind_360 R.K S1) (fun S2 _ => OXm (fun r => r = 55 ∨ r = 56) S S2 ∧ ∀ c : Nat, c < 640 → MvO R S0 (vTp S0 S (I k).n2) (I k) (Zl S 53) k c → rb (Zl S2 55) 0 c = true) := fun m a b c w => by
        have : (I k).kd = m := nI_e (by omega) (by omega) w
        exact pl0 (fun e9 => by omega) (by omega)
      -- a variable is filled, or emptied
      have hvr : ∀ (h l : Bool), ((I k).kd = 12 ∨ (I k).kd = 13 ∨ (I k).kd = 23 ∨ (I k).kd = 24) → (l = true ↔ (I k).kd = 13) → Rt ((rQ S1 40 (nI k)).bind fun v4 =>
    (oI S1 21 v4 0).bind fun v5 =>
    bnd (f_mark R.K S1 (16 * v5) 16 (if h = true then 1 else 0) (if l = true then 1 else 0)) fun S6 v7 =>
    f_moveBehind_360 R.K S6) (fun S2 _ => OXm (fun r => r = 55 ∨ r = 56) S S2 ∧ ∀ c : Nat, c < 640 → MvO R S0 (vTp S0 S (I k).n2) (I k) (Zl S 53) k c → rb (Zl S2 55) 0 c = true) := fun h l hk hl => by
        obtain ⟨va, v, ty, mu, b1, b2, ⟨b3, nm, wh, b4⟩, _⟩ := q16 hk
        have hv : v < 40 := hM.2.1 (by omega) v (by rw [b2]; exact List.mem_singleton_self v)
        refine Rt.bd r40 ?_
        rw [b1]
        refine Rt.bd (oI_mk b3 b4 rfl) ?_
        rw [nI_16]
        refine Rt.bn (mrk_ (R := R) (S := S1) (B := 16 * v) (m := 16) (h := h) (l := l) (by omega)) (fun S2 _ t2 => ?_)
        obtain ⟨e2, t3⟩ := t2
        refine fin S2 (e.tr e2.m) (fun c hc hm => ?_)
        rw [t3 c hc]
        have hin : (16 * v ≤ c ∧ c < 16 * v + 16) ↔ c / 16 ∈ (I k).vs := by
          rw [b2, List.mem_singleton]; omega
        by_cases c1 : 16 * v ≤ c ∧ c < 16 * v + 16
        · rw [if_pos c1]
          rcases hm with ⟨m1, _⟩ | ⟨m1, _⟩ | ⟨_, m2⟩
          · omega
          · exact hl.mpr m1
          · by_cases k13 : (I k).kd = 13
            · exact hl.mpr k13
            · exact absurd (Or.inl ⟨by omega, hin.mp c1⟩) m2
        · rw [if_neg c1, hrb c hc]
          rcases hm with ⟨m1, _⟩ | ⟨_, m2⟩ | ⟨m1, _⟩
          · omega
          · exact absurd (hin.mpr m2) c1
          · exact m1
      have h205 : ∀ m : Nat, (m = 12 ∨ m = 23) → nI (I k).kd = nI m → Rt (f_moveBehind_205 R.K S1 (nI k)) (fun S2 _ => OXm (fun r => r = 55 ∨ r = 56) S S2 ∧ ∀ c : Nat, c < 640 → MvO R S0 (vTp S0 S (I k).n2) (I k) (Zl S 53) k c → rb (Zl S2 55) 0 c = true) := fun m a w => by
        have : (I k).kd = m := nI_e (by omega) (by omega) w
        unfold f_moveBehind_205
        exact hvr true false (by omega) ⟨fun z => absurd z (by decide), fun z => by omega⟩
      -- a place is filled, or moved out of
      have hpl : ∀ (Sx : Sg) (h l : Bool), Sx = S1 → (I k).pa ≠ none → (∀ (v : Nat) (ρ : lLc) (T c : Nat), (I k).pa = some (v, ρ, T) → inR R S0 (vTp S0 S (I k).n2) v ρ c → MvO R S0 (vTp S0 S (I k).n2) (I k) (Zl S 53) k c → l = true) → (∀ (v : Nat) (ρ : lLc) (T c : Nat), (I k).pa = some (v, ρ, T) → ¬ inR R S0 (vTp S0 S (I k).n2) v ρ c → MvO R S0 (vTp S0 S (I k).n2) (I k) (Zl S 53) k c → rb (Zl S 53) (10 * k) c = true) → Rt ((rQ Sx 38 (nI k)).bind fun v11 =>
    bnd (f_partFrom R.K Sx v11) fun S12 v13 =>
    bnd (f_mark R.K S12 v13 (Zi S12 57) (if h = true then 1 else 0) (if l = true then 1 else 0)) fun S14 v15 =>
    f_moveBehind_360 R.K S14) (fun S2 _ => OXm (fun r => r = 55 ∨ r = 56) S S2 ∧ ∀ c : Nat, c < 640 → MvO R S0 (vTp S0 S (I k).n2) (I k) (Zl S 53) k c → rb (Zl S2 55) 0 c = true) := fun Sx h l ex hp ha hb => by
        subst ex
        rcases q10 with ⟨_, z⟩ | ⟨wp, v, T, ρ, z1, z2, z3, z4⟩
        · exact absurd z hp
        · have hv := hM.1 v ρ T z2
          obtain ⟨p1, p2⟩ := pfm_ hL hx1 z3 z4
          rw [eT] at p1 p2
          refine Rt.bd r38 ?_
          rw [z1]
          refine Rt.be p1 ?_
          rw [show ∀ x : Int32, Zi (Ui Sx 57 x) 57 = x from fun x => Zi_s]
          have e1 : OXm (fun r => r = 55 ∨ r = 56) Sx (Ui Sx 57 (nI (zN R S0 (pfO R S0 (vTp S0 S (I k).n2) ρ).2))) := OXm.ui
          have el : Zl (Ui Sx 57 (nI (zN R S0 (pfO R S0 (vTp S0 S (I k).n2) ρ).2))) = Zl Sx := rfl
          generalize Ui Sx 57 (nI (zN R S0 (pfO R S0 (vTp S0 S (I k).n2) ρ).2)) = Sy at e1 el
          refine Rt.bn (mrk_ (R := R) (S := Sy) (B := 16 * v + (pfO R S0 (vTp S0 S (I k).n2) ρ).1) (m := zN R S0 (pfO R S0 (vTp S0 S (I k).n2) ρ).2) (h := h) (l := l) (by omega)) (fun S2 _ t2 => ?_)
          obtain ⟨e2, t3⟩ := t2
          refine fin S2 ((e.tr e1).tr e2.m) (fun c hc hm => ?_)
          rw [t3 c hc, el]
          by_cases c1 : 16 * v + (pfO R S0 (vTp S0 S (I k).n2) ρ).1 ≤ c ∧ c < 16 * v + (pfO R S0 (vTp S0 S (I k).n2) ρ).1 + zN R S0 (pfO R S0 (vTp S0 S (I k).n2) ρ).2
          · rw [if_pos c1]; exact ha v ρ T c z2 c1 hm
          · rw [if_neg c1, hrb c hc]; exact hb v ρ T c z2 c1 hm
      refine Rt.bd r27 (Rt.it (fun w => ?k2) (fun w2 => Rt.it (fun w => pl 3 (by decide) (by decide) (by decide) w) (fun w3 => Rt.it (fun w => pl 4 (by decide) (by decide) (by decide) w) (fun w4 => Rt.it (fun w => pl 5 (by decide) (by decide) (by decide) w) (fun w5 => Rt.it (fun w => pl 6 (by decide) (by decide) (by decide) w) (fun w6 => Rt.it (fun w => pl 7 (by decide) (by decide) (by decide) w) (fun w7 => Rt.it (fun w => pl 8 (by decide) (by decide) (by decide) w) (fun w8 => Rt.it (fun w => pl 9 (by decide) (by decide) (by decide) w) (fun w9 => Rt.it (fun w => pl 10 (by decide) (by decide) (by decide) w) (fun w10 => Rt.it (fun w => pl 11 (by decide) (by decide) (by decide) w) (fun w11 => Rt.it (fun w => h205 12 (by decide) w) (fun w12 => Rt.it (fun w => ?k13) (fun w13 => Rt.it (fun w => ?k14) (fun w14 => Rt.it (fun w => pl 15 (by decide) (by decide) (by decide) w) (fun w15 => Rt.it (fun w => pl 16 (by decide) (by decide) (by decide) w) (fun w16 => Rt.it (fun w => pl 17 (by decide) (by decide) (by decide) w) (fun w17 => Rt.it (fun w => pl 18 (by decide) (by decide) (by decide) w) (fun w18 => Rt.it (fun w => pl 19 (by decide) (by decide) (by decide) w) (fun w19 => Rt.it (fun w => pl 20 (by decide) (by decide) (by decide) w) (fun w20 => Rt.it (fun w => pl 21 (by decide) (by decide) (by decide) w) (fun w21 => Rt.it (fun w => ?k22) (fun w22 => Rt.it (fun w => h205 23 (by decide) w) (fun w23 => Rt.it (fun w => ?k24) (fun w24 => pl0 (fun e => absurd (by rw [e]; rfl) w2) (fun e => w13 (by rw [e]; rfl))))))))))))))))))))))))))
      case k2 =>
        have hk : (I k).kd = 2 := nI_e (b := 2) (by omega) (by decide) w
        have h180 : ((I k).ac = 4 ∨ (I k).ac = 5) → Rt (f_moveBehind_180 R.K S1 (nI k)) (fun S2 _ => OXm (fun r => r = 55 ∨ r = 56) S S2 ∧ ∀ c : Nat, c < 640 → MvO R S0 (vTp S0 S (I k).n2) (I k) (Zl S 53) k c → rb (Zl S2 55) 0 c = true) := fun ha => by
          unfold f_moveBehind_180
          refine hpl S1 false true rfl (hM.2.2.2 (by omega)) (fun _ _ _ _ _ _ _ => rfl) (fun v ρ T c z1 z2 z3 => ?_)
          rcases z3 with ⟨_, _, v', ρ', T', m1, m2⟩ | ⟨m1, _⟩ | ⟨m1, _⟩
          · rw [z1] at m1; cases m1; exact absurd m2 z2
          · omega
          · exact m1
        refine Rt.bd r33 (Rt.it (fun w4 => h180 (Or.inl (nI_e (b := 4) (by omega) (by decide) w4))) (fun w4 => Rt.bd r33 (Rt.it (fun w5 => h180 (Or.inr (nI_e (b := 5) (by omega) (by decide) w5))) (fun w5 => pl0 (fun _ => ⟨fun e9 => w4 (by rw [e9]; rfl), fun e9 => w5 (by rw [e9]; rfl)⟩) (by omega)))))
      case k13 =>
        have hk : (I k).kd = 13 := nI_e (b := 13) (by omega) (by decide) w
        exact hvr false true (by omega) ⟨fun _ => hk, fun _ => rfl⟩
      case k24 =>
        have hk : (I k).kd = 24 := nI_e (b := 24) (by omega) (by decide) w
        exact hvr false false (by omega) ⟨fun z => absurd z (by decide), fun z => by omega⟩
      case k22 =>
        have hk : (I k).kd = 22 := nI_e (b := 22) (by omega) (by decide) w
        refine (mv276 (Sx := S1) hC h1 h2 hk (hM.2.1 (by omega)) bigN 0 S1 (by unfold bigN; omega) (Nat.zero_le _) e (fun c hc hb _ => hb)).mo (fun S2 _ ⟨a, b⟩ => ⟨a, fun c hc hm => ?_⟩)
        rcases hm with ⟨m1, _⟩ | ⟨m1, _⟩ | ⟨m1, m2⟩
        · omega
        · omega
        · exact b c hc (by rw [hrb c hc]; exact m1) (fun z => m2 (Or.inl ⟨by omega, z⟩))
      case k14 =>
        have hk : (I k).kd = 14 := nI_e (b := 14) (by omega) (by decide) w
        have hp := hM.2.2.1 hk
        refine Rt.bd r38 ?_
        rcases q10 with ⟨_, z⟩ | ⟨wp, v, T, ρ, z1, z2, z3, z4⟩
        · exact absurd z hp
        · rw [z1]
          refine Rt.bn (hst_ z3) (fun S3 r3 t3 => ?_)
          obtain ⟨e3, t4, t5⟩ := t3
          refine Rt.it (fun w0 => ?_) (fun w0 => ?_)
          · refine hpl S3 true false e3 hp (fun v' ρ' T' c y1 y2 y3 => ?_) (fun v' ρ' T' c y1 y2 y3 => ?_)
            · rcases y3 with ⟨m1, _⟩ | ⟨m1, _⟩ | ⟨_, m2⟩
              · omega
              · omega
              · rw [z2] at y1; cases y1
                exact absurd (Or.inr ⟨hk, v, ρ, T, z2, t5 w0, y2⟩) m2
            · rcases y3 with ⟨m1, _⟩ | ⟨m1, _⟩ | ⟨m1, _⟩
              · omega
              · omega
              · exact m1
          · rw [e3]; exact pl0 (fun e9 => by omega) (by omega)
    · have hw : w < 10 := by
        by_cases q2 : w < 10
        · exact q2
        · exact absurd (nI_le (a := 10) (b := w) (by omega) (by omega)) q
      rw [nI_10, nI_add]
      refine Rt.bd (rJ_n (show 10 * k + w < rlen 53 from by show _ < 240000; omega) (by decide)) (Rt.bd (wJ_n (show w < rlen 55 from hw) (by decide)) ?_)
      have e2 : OXs (fun r => r = 55 ∨ r = 56) S1 (Ul S1 55 (vp_updL (Zl S1 55) w (Zl S1 53 (10 * k + w)))) := OXs.ul (by decide) (Or.inl rfl)
      have e55 : Zl (Ul S1 55 (vp_updL (Zl S1 55) w (Zl S1 53 (10 * k + w)))) 55 = vp_updL (Zl S1 55) w (Zl S1 53 (10 * k + w)) := Zl_us
      generalize Ul S1 55 (vp_updL (Zl S1 55) w (Zl S1 53 (10 * k + w))) = Sy at e2 e55
      refine Rt.bd (rJ_n (show 10 * k + w < rlen 54 from by show _ < 240000; omega) (by decide)) (Rt.bd (wJ_n (show w < rlen 56 from hw) (by decide)) ?_)
      have e3 : OXs (fun r => r = 55 ∨ r = 56) Sy (Ul Sy 56 (vp_updL (Zl Sy 56) w (Zl Sy 54 (10 * k + w)))) := OXs.ul (by decide) (Or.inr rfl)
      rw [nI_1]
      refine mv2 hL hx0 hC h1 h2 hM d (w + 1) _ (by omega) (by omega) ((e.tr e2.m).tr e3.m) (fun v hv => ?_)
      rw [Zl_un (by decide), e55]
      by_cases ev : v = w
      · subst ev; rw [upL_s, e.2.1 53 (by decide)]
      · rw [upL_n ev]; exact hr v (by omega)
/-- moveBehind -/
theorem mvb_ (hL : LFS R S0 g) (hx0 : LX S0 S) (hC : PCx R S0 S ws Ps Pe I) (h1 : Ps ≤ k) (h2 : k < Pe) (hM : mBd (I k)) : Rt (f_moveBehind R.K S (nI k)) (fun S2 _ => OXm (fun r => r = 55 ∨ r = 56) S S2 ∧ ∀ c : Nat, c < 640 → MvO R S0 (vTp S0 S (I k).n2) (I k) (Zl S 53) k c → rb (Zl S2 55) 0 c = true) := by
  unfold f_moveBehind
  exact mv2 hL hx0 hC h1 h2 hM bigN 0 S (by unfold bigN; omega) (Nat.zero_le _) OXm.rf (fun v hv => by omega)
end PS12
end
-- m2.n.lean.txt
section
/-- how much the rows of moves may still grow -/
def cm (S : Sg) (a m : Nat) : Nat := cw (Zl S 53) a m + cw (Zl S 54) a m
/-- rows of moves only grow -/
def mvG (S S2 : Sg) : Prop := sbL (Zl S 53) (Zl S2 53) ∧ sbL (Zl S 54) (Zl S2 54)
section PS13
variable {R : yR} {S0 S S1 S2 Sr : Sg} {ws Ps Pe k n j : Nat} {I : Nat → iR} {g : Nat → Int32} {P : Nat → Prop}
theorem mvG.tr (a : mvG S S1) (b : mvG S1 S2) : mvG S S2 := ⟨a.1.tr b.1, a.2.tr b.2⟩
theorem mvG.le (a : mvG S S2) {b m : Nat} : cm S2 b m ≤ cm S b m := by
  have := cw_le (a := b) (m := m) a.1
  have := cw_le (a := b) (m := m) a.2
  unfold cm
  omega
theorem mr4 (hj : j < 24000) : ∀ (d w : Nat) (S1 : Sg) (x2 : Int32), 10 < w + d → w ≤ 10 → OXs (fun r => r = 53 ∨ r = 54) S S1 → mvG S S1 → ((x2 = 0 ∧ Zl S1 53 = Zl S 53 ∧ Zl S1 54 = Zl S 54 ∧ ∀ v b : Nat, v < w → lbit (Zl S 55 v) b = true → lbit (Zl S 53 (10 * j + v)) b = true) ∨ (x2 = 1 ∧ ∀ a m : Nat, a ≤ 10 * j → 10 * j + 10 ≤ a + m → cm S1 a m < cm S a m)) → Rt (f_merges_4 R.K d S1 (nI (10 * j)) x2 (nI w)) (fun S2 r => OXs (fun r => r = 53 ∨ r = 54) S S2 ∧ mvG S S2 ∧ ((r = 0 ∧ Zl S2 53 = Zl S 53 ∧ Zl S2 54 = Zl S 54 ∧ ∀ c : Nat, c < 640 → rb (Zl S 55) 0 c = true → rb (Zl S 53) (10 * j) c = true) ∨ (r = 1 ∧ ∀ a m : Nat, a ≤ 10 * j → 10 * j + 10 ≤ a + m → cm S2 a m < cm S a m)))
  | 0, w, S1, x2, hd, hn, _, _, _ => by omega
  | d + 1, w, S1, x2, hd, hn, e, hs, hx => by
    unfold f_merges_4
    refine Rt.it (fun q => ?_) (fun q => ?_)
    · have hw : 10 ≤ w := (nI_leI (a := 10) (b := w) (by decide) (by omega)).mp q
      obtain rfl : w = 10 := by omega
      refine Rt.zr (hx.imp (fun z => z.1) (fun z => z.1)) ⟨e, hs, hx.imp (fun ⟨a, b, c, dd⟩ => ⟨a, b, c, fun c hc hb => ?_⟩) id⟩
      unfold rb at hb ⊢
      rw [Nat.zero_add] at hb
      exact dd (c / 64) (c % 64) (by omega) hb
    · have hw : w < 10 := by
        by_cases q2 : w < 10
        · exact q2
        · exact absurd (nI_le (a := 10) (b := w) (by omega) (by omega)) q
      rw [nI_add]
      have l53 : 10 * j + w < rlen 53 := by show _ < 240000; omega
      have l54 : 10 * j + w < rlen 54 := by show _ < 240000; omega
      have r53 : rJ S1 53 (nI (10 * j + w)) = some (Zl S1 53 (10 * j + w)) := rJ_n l53 (by decide)
      have r54 : rJ S1 54 (nI (10 * j + w)) = some (Zl S1 54 (10 * j + w)) := rJ_n l54 (by decide)
      have r55 : rJ S1 55 (nI w) = some (Zl S1 55 w) := rJ_n (show w < rlen 55 from hw) (by decide)
      have r56 : rJ S1 56 (nI w) = some (Zl S1 56 w) := rJ_n (show w < rlen 56 from hw) (by decide)
      have e55 : Zl S1 55 = Zl S 55 := e.2.1 55 (by decide)
      have h74 : ∀ y2 : Int32, ((y2 = x2 ∧ Zl S1 53 (10 * j + w) ||| Zl S1 55 w = Zl S1 53 (10 * j + w) ∧ Zl S1 54 (10 * j + w) ||| Zl S1 56 w = Zl S1 54 (10 * j + w)) ∨ (y2 = 1 ∧ (Zl S1 53 (10 * j + w) ||| Zl S1 55 w ≠ Zl S1 53 (10 * j + w) ∨ Zl S1 54 (10 * j + w) ||| Zl S1 56 w ≠ Zl S1 54 (10 * j + w)))) → Rt (f_merges_74 R.K (f_merges_4 R.K d) S1 (nI (10 * j)) y2 (nI w) (Zl S1 53 (10 * j + w) ||| Zl S1 55 w) (Zl S1 54 (10 * j + w) ||| Zl S1 56 w)) (fun S2 r => OXs (fun r => r = 53 ∨ r = 54) S S2 ∧ mvG S S2 ∧ ((r = 0 ∧ Zl S2 53 = Zl S 53 ∧ Zl S2 54 = Zl S 54 ∧ ∀ c : Nat, c < 640 → rb (Zl S 55) 0 c = true → rb (Zl S 53) (10 * j) c = true) ∨ (r = 1 ∧ ∀ a m : Nat, a ≤ 10 * j → 10 * j + 10 ≤ a + m → cm S2 a m < cm S a m))) := fun y2 hy => by
        unfold f_merges_74
        rw [nI_add]
        refine Rt.bd (wJ_n l53 (by decide)) ?_
        have e2 : OXs (fun r => r = 53 ∨ r = 54) S1 (Ul S1 53 (vp_updL (Zl S1 53) (10 * j + w) (Zl S1 53 (10 * j + w) ||| Zl S1 55 w))) := OXs.ul (by decide) (Or.inl rfl)
        have a53 : Zl (Ul S1 53 (vp_updL (Zl S1 53) (10 * j + w) (Zl S1 53 (10 * j + w) ||| Zl S1 55 w))) 53 = vp_updL (Zl S1 53) (10 * j + w) (Zl S1 53 (10 * j + w) ||| Zl S1 55 w) := Zl_us
        have a54 : Zl (Ul S1 53 (vp_updL (Zl S1 53) (10 * j + w) (Zl S1 53 (10 * j + w) ||| Zl S1 55 w))) 54 = Zl S1 54 := Zl_un (by decide)
        generalize Ul S1 53 (vp_updL (Zl S1 53) (10 * j + w) (Zl S1 53 (10 * j + w) ||| Zl S1 55 w)) = Sa at e2 a53 a54
        refine Rt.bd (wJ_n l54 (by decide)) ?_
        rw [a54]
        have e3 : OXs (fun r => r = 53 ∨ r = 54) Sa (Ul Sa 54 (vp_updL (Zl S1 54) (10 * j + w) (Zl S1 54 (10 * j + w) ||| Zl S1 56 w))) := OXs.ul (by decide) (Or.inr rfl)
        have b54 : Zl (Ul Sa 54 (vp_updL (Zl S1 54) (10 * j + w) (Zl S1 54 (10 * j + w) ||| Zl S1 56 w))) 54 = vp_updL (Zl S1 54) (10 * j + w) (Zl S1 54 (10 * j + w) ||| Zl S1 56 w) := Zl_us
        have b53 : Zl (Ul Sa 54 (vp_updL (Zl S1 54) (10 * j + w) (Zl S1 54 (10 * j + w) ||| Zl S1 56 w))) 53 = Zl Sa 53 := Zl_un (by decide)
        generalize Ul Sa 54 (vp_updL (Zl S1 54) (10 * j + w) (Zl S1 54 (10 * j + w) ||| Zl S1 56 w)) = Sb at e3 b53 b54
        rw [a53] at b53
        have hg : mvG S1 Sb := ⟨by rw [b53]; exact sbL.or, by rw [b54]; exact sbL.or⟩
        rw [nI_1]
        rcases hy with ⟨y1, y3, y4⟩ | ⟨y1, y3⟩
        · have i53 : Zl Sb 53 = Zl S1 53 := by rw [b53]; exact upL_id y3
          have i54 : Zl Sb 54 = Zl S1 54 := by rw [b54]; exact upL_id y4
          refine mr4 hj d (w + 1) Sb y2 (by omega) (by omega) ((e.tr e2).tr e3) (hs.tr hg) ?_
          rcases hx with ⟨x0, b, c, dd⟩ | ⟨x1, b⟩
          · refine Or.inl ⟨y1.trans x0, i53.trans b, i54.trans c, fun v bb hv hb => ?_⟩
            by_cases ev : v = w
            · subst ev
              rw [← b, ← y3, lbit_or, e55, hb]; simp
            · exact dd v bb (by omega) hb
          · refine Or.inr ⟨y1.trans x1, fun a m h1 h2 => ?_⟩
            have := b a m h1 h2
            unfold cm at this ⊢
            rw [i53, i54]; exact this
        · refine mr4 hj d (w + 1) Sb y2 (by omega) (by omega) ((e.tr e2).tr e3) (hs.tr hg) (Or.inr ⟨y1, fun a m h1 h2 => ?_⟩)
          have c0 := hs.le (b := a) (m := m)
          have c1 : cm Sb a m < cm S1 a m := by
            have d1 := cw_le (a := a) (m := m) hg.1
            have d2 := cw_le (a := a) (m := m) hg.2
            unfold cm
            rcases y3 with y3 | y3
            · have := cw_lt (a := a) (w := 10 * j + w) (m := m) hg.1 (by omega) (by omega) (by rw [b53, upL_s]; exact fun z => y3 z.symm)
              omega
            · have := cw_lt (a := a) (w := 10 * j + w) (m := m) hg.2 (by omega) (by omega) (by rw [b54, upL_s]; exact fun z => y3 z.symm)
              omega
          omega
      refine Rt.bd r53 (Rt.bd r55 (Rt.bd r54 (Rt.bd r56 (Rt.bd r53 (Rt.it (fun q2 => Rt.bd r54 (Rt.it (fun q3 => h74 x2 (Or.inl ⟨rfl, lgc0.mp q2, lgc0.mp q3⟩)) (fun q3 => h74 1 (Or.inr ⟨rfl, Or.inr (fun z => q3 (lgc0.mpr z))⟩)))) (fun q2 => h74 1 (Or.inr ⟨rfl, Or.inl (fun z => q2 (lgc0.mpr z))⟩)))))))
/-- merges -/
theorem mrg_ (hj : j < 24000) : Rt (f_merges R.K S (nI (10 * j))) (fun S2 r => OXs (fun r => r = 53 ∨ r = 54) S S2 ∧ mvG S S2 ∧ ((r = 0 ∧ Zl S2 53 = Zl S 53 ∧ Zl S2 54 = Zl S 54 ∧ ∀ c : Nat, c < 640 → rb (Zl S 55) 0 c = true → rb (Zl S 53) (10 * j) c = true) ∨ (r = 1 ∧ ∀ a m : Nat, a ≤ 10 * j → 10 * j + 10 ≤ a + m → cm S2 a m < cm S a m))) := by
  unfold f_merges
  exact mr4 hj bigN 0 S 0 (by unfold bigN; omega) (Nat.zero_le _) OXs.rf ⟨sbL.rf, sbL.rf⟩ (Or.inl ⟨rfl, rfl, rfl, fun v b hv => by omega⟩)
end PS13
end
-- m2.o.lean.txt
section
/-- what lacks a value behind point k lacks it at j -/
def MvC (R : yR) (S0 : Sg) (I : Nat → iR) (tv : Nat → Nat) (f : Nat → Int64) (k j : Nat) : Prop := ∀ c : Nat, c < 640 → MvO R S0 (tv k) (I k) f k c → rb f (10 * j) c = true
/-- the types of the paths' variables -/
def tvS (S0 S : Sg) (I : Nat → iR) (k : Nat) : Nat := vTp S0 S (I k).n2
/-- a round of the moves' spreading: points below k are done, n successors of k -/
def MvI (R : yR) (S0 Sr S : Sg) (ws Ps Pe : Nat) (I : Nat → iR) (x2 : Int32) (k n : Nat) : Prop := OXm (fun r => 53 ≤ r ∧ r ≤ 56) Sr S ∧ PCx R S0 S ws Ps Pe I ∧ mvG Sr S ∧ ((x2 = 0 ∧ Zl S 53 = Zl Sr 53 ∧ (∀ k' : Nat, Ps ≤ k' → k' < k → Zr S 52 k' ≠ 0 → ∀ j ∈ (I k').sc, MvC R S0 I (tvS S0 Sr I) (Zl S 53) k' j) ∧ (Zr S 52 k ≠ 0 → ∀ m j : Nat, m < n → (I k).sc[m]? = some j → MvC R S0 I (tvS S0 Sr I) (Zl S 53) k j)) ∨ (x2 = 1 ∧ cm S (10 * Ps) (10 * (Pe - Ps)) < cm Sr (10 * Ps) (10 * (Pe - Ps))))
/-- what lacks a value, closed along all ways -/
def MvD (R : yR) (S0 : Sg) (I : Nat → iR) (tv : Nat → Nat) (rc : Nat → Int32) (f : Nat → Int64) (Ps Pe : Nat) : Prop := ∀ k : Nat, Ps ≤ k → k < Pe → rc k ≠ 0 → ∀ j ∈ (I k).sc, MvC R S0 I tv f k j
section PS14
variable {R : yR} {S0 S S1 S2 Sr : Sg} {ws Ps Pe k n j : Nat} {I : Nat → iR} {g : Nat → Int32} {P : Nat → Prop}
theorem tvS.ps (e : PSx S S2) : tvS S0 S2 I = tvS S0 S I := funext (fun k => vTp.ps e)
theorem mo136 {k100 : Sg → Option Nat → Int32 → Option (Sg × Unit)} {k111 : Sg → Option Nat → Int32 → Int32 → Option (Sg × Unit)} {Q : Sg → Unit → Prop} (h1 : Ps ≤ k) (h2 : k < Pe) (kn : ∀ (S2 : Sg) (y2 : Int32), MvI R S0 Sr S2 ws Ps Pe I y2 (k + 1) 0 → Rt (k111 S2 (some ws) y2 (nI (k + 1))) Q) : ∀ (d n : Nat) (S : Sg) (x2 : Int32), (I k).sc.length < n + d → n ≤ (I k).sc.length → MvI R S0 Sr S ws Ps Pe I x2 k n → (x2 = 0 → Zr S 52 k ≠ 0 → ∀ c : Nat, c < 640 → MvO R S0 (tvS S0 Sr I k) (I k) (Zl Sr 53) k c → rb (Zl S 55) 0 c = true) → Rt (f_spreadMoves_136 R.K k100 k111 d S (some ws) x2 (nI k) (nI n)) Q
  | 0, n, S, x2, hd, hn, _, _ => by omega
  | d + 1, n, S, x2, hd, hn, hi, hB => by
    have hi2 := hi
    obtain ⟨e, hC, hs, hx⟩ := hi2
    have h24 := hC.2.1
    obtain ⟨s1, s2⟩ := hC.sc (n := n) h1 h2
    have h180 : (n = (I k).sc.length ∨ Zr S 52 k = 0) → Rt (f_spreadMoves_180 R.K k100 k111 S (some ws) x2 (nI k)) Q := fun hw => by
      unfold f_spreadMoves_180
      rw [nI_1]
      refine kn S x2 ⟨e, hC, hs, hx.imp (fun ⟨a, b, c, dd⟩ => ⟨a, b, fun k' q1 q2 q3 j hj => ?_, fun _ m j hm => by omega⟩) id⟩
      by_cases ek : k' = k
      · subst ek
        rcases hw with hw | hw
        · obtain ⟨m, hm⟩ := List.mem_iff_getElem?.mp hj
          exact dd q3 m j (by have := (List.getElem?_eq_some_iff.mp hm).1; omega) hm
        · exact absurd hw q3
      · exact c k' q1 (by omega) q3 j hj
    unfold f_spreadMoves_136
    refine Rt.bd (rI_n (show k < rlen 52 from by show k < 24000; omega) (by decide)) (Rt.it (fun w => h180 (Or.inr w)) (fun w => ?_))
    refine Rt.be (hC.fl h1 h2 hn) (Rt.it (fun w2 => ?_) (fun w2 => ?_))
    · refine h180 (Or.inl ?_)
      by_cases q : n < (I k).sc.length
      · obtain ⟨j, _, _, _, _, b⟩ := s2 q; exact absurd w2 b
      · omega
    · have hlt : n < (I k).sc.length := by
        by_cases q : n < (I k).sc.length
        · exact q
        · exact absurd (s1 (by omega)) w2
      obtain ⟨j, j1, j2, j3, j4, _⟩ := s2 hlt
      refine Rt.be (hC.fl h1 h2 hn) ?_
      rw [j2, nI_10]
      refine Rt.bn (mrg_ (R := R) (S := S) (j := j) (by omega)) (fun S2 r2 t2 => ?_)
      obtain ⟨e2, g2, t3⟩ := t2
      have e55 : Zl S2 55 = Zl S 55 := e2.2.1 55 (by decide)
      have e52 : Zr S2 = Zr S := e2.2.2.1
      have m2 := e2.m.mo (P2 := fun r => 53 ≤ r ∧ r ≤ 56) (fun r h => by omega)
      have hgo : ∀ y2 : Int32, MvI R S0 Sr S2 ws Ps Pe I y2 k (n + 1) → (y2 = 0 → x2 = 0) → Rt (f_spreadMoves_174 R.K k100 k111 ((f_spreadMoves_136 R.K k100 k111 d)) S2 (some ws) y2 (nI k) (nI n)) Q := fun y2 hy hy0 => by
        unfold f_spreadMoves_174
        rw [nI_1]
        refine mo136 h1 h2 kn d (n + 1) S2 y2 (by omega) (by omega) hy (fun y0 => ?_)
        rw [e55, e52]; exact hB (hy0 y0)
      refine Rt.it (fun w3 => ?_) (fun w3 => ?_)
      · rcases t3 with ⟨_, f1, f2, f3⟩ | ⟨r1, _⟩
        · refine hgo x2 ⟨e.tr m2, hC.ps e2.1, hs.tr g2, ?_⟩ id
          rcases hx with ⟨a, b, c, dd⟩ | ⟨a, b⟩
          · refine Or.inl ⟨a, f1.trans b, by rw [f1, e52]; exact c, fun q m j' hm hj' => ?_⟩
            rw [e52] at q
            rw [f1]
            by_cases em : m = n
            · subst em
              rw [j1] at hj'; cases hj'
              intro c9 hc9 hmo
              rw [b] at hmo
              exact f3 c9 hc9 (hB a q c9 hc9 hmo)
            · exact dd q m j' (by omega) hj'
          · refine Or.inr ⟨a, ?_⟩
            unfold cm at b ⊢
            rw [f1, f2]; exact b
        · rw [r1] at w3; exact absurd w3 (by decide)
      · rcases t3 with ⟨r0, _⟩ | ⟨_, f1⟩
        · exact absurd r0 w3
        · refine hgo 1 ⟨e.tr m2, hC.ps e2.1, hs.tr g2, Or.inr ⟨rfl, ?_⟩⟩ (fun z => absurd z (by decide))
          have c1 := f1 (10 * Ps) (10 * (Pe - Ps)) (by omega) (by omega)
          have c2 := hs.le (b := 10 * Ps) (m := 10 * (Pe - Ps))
          omega
theorem mo111 {k100 : Sg → Option Nat → Int32 → Option (Sg × Unit)} {Q : Sg → Unit → Prop} (hL : LFS R S0 g) (hx0 : LX S0 Sr) (hM : ∀ k : Nat, Ps ≤ k → k < Pe → mBd (I k)) (kn : ∀ (S2 : Sg) (y2 : Int32), MvI R S0 Sr S2 ws Ps Pe I y2 Pe 0 → Rt (k100 S2 (some ws) y2) Q) : ∀ (d k : Nat) (S : Sg) (x2 : Int32), Pe < k + d → Ps ≤ k → k ≤ Pe → MvI R S0 Sr S ws Ps Pe I x2 k 0 → Rt (f_spreadMoves_111 R.K k100 d S (some ws) x2 (nI k)) Q
  | 0, k, S, x2, hd, _, hk, _ => by omega
  | d + 1, k, S, x2, hd, h1, hk, hi => by
    have hi2 := hi
    obtain ⟨e, hC, hs, hx⟩ := hi2
    have h24 := hC.2.1
    unfold f_spreadMoves_111
    refine Rt.bd hC.r4 (Rt.it (fun w => ?_) (fun w => ?_))
    · have : Pe ≤ k := (nI_leI (by omega) (by omega)).mp w
      obtain rfl : k = Pe := by omega
      exact kn S x2 hi
    · have hlt : k < Pe := by
        by_cases q : k < Pe
        · exact q
        · exact absurd (nI_le (a := Pe) (b := k) (by omega) (by omega)) w
      have hsl := (hC.2.2.2 k h1 hlt).2.2.1
      refine Rt.bd (rI_n (show k < rlen 52 from by show k < 24000; omega) (by decide)) (Rt.it (fun w2 => ?_) (fun w2 => ?_))
      · unfold f_spreadMoves_133
        exact mo136 h1 hlt (fun S2 y2 hi2 => mo111 hL hx0 hM kn d (k + 1) S2 y2 (by omega) (by omega) (by omega) hi2) bigN 0 S x2 (by unfold bigN; omega) (Nat.zero_le _) hi (fun _ q => absurd w2 q)
      · refine Rt.bn (mvb_ hL (hx0.tr e.1.lx) hC h1 hlt (hM k h1 hlt)) (fun S2 _ t2 => ?_)
        obtain ⟨e2, hb2⟩ := t2
        have m2 := e2.mo (P2 := fun r => 53 ≤ r ∧ r ≤ 56) (fun r h => by omega)
        have e53 : Zl S2 53 = Zl S 53 := e2.2.1 53 (by decide)
        have e54 : Zl S2 54 = Zl S 54 := e2.2.1 54 (by decide)
        have e52 : Zr S2 = Zr S := e2.2.2
        have hi3 : MvI R S0 Sr S2 ws Ps Pe I x2 k 0 := ⟨e.tr m2, hC.ps e2.1, ⟨by rw [e53]; exact hs.1, by rw [e54]; exact hs.2⟩, by unfold cm; rw [e53, e54, e52]; exact hx⟩
        unfold f_spreadMoves_133
        refine mo136 h1 hlt (fun S2 y2 hi2 => mo111 hL hx0 hM kn d (k + 1) S2 y2 (by omega) (by omega) (by omega) hi2) bigN 0 S2 x2 (by unfold bigN; omega) (Nat.zero_le _) hi3 (fun x0 _ c hc hm => hb2 c hc ?_)
        rcases hx with ⟨_, b, _⟩ | ⟨x1, _⟩
        · rw [b]
          rw [show vTp S0 S (I k).n2 = tvS S0 Sr I k from vTp.ps e.1]
          exact hm
        · exact absurd (x1.symm.trans x0) (by decide)
theorem mo100 {Q : Sg → Unit → Prop} (hL : LFS R S0 g) (hx0 : LX S0 S) (hM : ∀ k : Nat, Ps ≤ k → k < Pe → mBd (I k)) (kf : ∀ S2 : Sg, OXm (fun r => 53 ≤ r ∧ r ≤ 56) S S2 → PCx R S0 S2 ws Ps Pe I → MvD R S0 I (tvS S0 S I) (Zr S2 52) (Zl S2 53) Ps Pe → Q S2 ()) : ∀ (d : Nat) (S1 : Sg) (x2 : Int32), cm S1 (10 * Ps) (10 * (Pe - Ps)) + 1 < d → OXm (fun r => 53 ≤ r ∧ r ≤ 56) S S1 → PCx R S0 S1 ws Ps Pe I → (x2 = 1 ∨ (x2 = 0 ∧ MvD R S0 I (tvS S0 S I) (Zr S1 52) (Zl S1 53) Ps Pe)) → Rt (f_spreadMoves_100 R.K d S1 (some ws) x2) Q
  | 0, S1, x2, hd, _, _, _ => by omega
  | d + 1, S1, x2, hd, e, hC, hx => by
    unfold f_spreadMoves_100
    refine Rt.it (fun w => ?_) (fun w => ?_)
    · refine Rt.rt (kf S1 e hC ?_)
      rcases hx with q | q
      · rw [q] at w; exact absurd w (by decide)
      · exact q.2
    · refine Rt.bd hC.r5 ?_
      refine mo111 (Sr := S1) hL (hx0.tr e.1.lx) hM (fun S2 y2 hi => ?_) bigN Ps S1 0 (by unfold bigN; have := hC.2.1; omega) (Nat.le_refl _) (Nat.le_of_lt hC.1) ⟨OXm.rf, hC, ⟨sbL.rf, sbL.rf⟩, Or.inl ⟨rfl, rfl, fun k' q1 q2 => by omega, fun _ m j hm => by omega⟩⟩
      obtain ⟨e2, hC2, hs2, hx2⟩ := hi
      rcases hx2 with ⟨q1, q2, q3, q4⟩ | ⟨q1, q2⟩
      · subst q1
        cases d with
        | zero => omega
        | succ d =>
          unfold f_spreadMoves_100
          refine Rt.ip rfl (Rt.rt (kf S2 (e.tr e2) hC2 (fun k a b => ?_)))
          rw [← tvS.ps (S0 := S0) (I := I) e.1]
          exact q3 k a b
      · exact mo100 hL hx0 hM kf d S2 y2 (by omega) (e.tr e2) hC2 (Or.inl q1)
/-- a function's parameters, as the passes see them -/
def PRx (R : yR) (S : Sg) (ws mn : Nat) : Prop := mn ≤ 12 ∧ ∃ (fs : List Value) (pr np : Nat) (fv : Nat → Option Nat), ws ∈ ZL S ∧ ZF S ws = .inr (16, fs) ∧ fs[3]? = some (.int (nI mn)) ∧ fs[17]? = some (.ref pr) ∧ pr ∈ ZL S ∧ ZF S pr = .inl (R.K.1 5, np, .inr (.inr (.inr (.inr fv)))) ∧ mn ≤ np ∧ np ≤ 100 ∧ ∀ q : Nat, q < mn → ∃ (va v : Nat) (ty : Option Nat) (mu : Int32), fv q = some va ∧ isU S va v ty mu ∧ v < 40
theorem PRx.ps {mn : Nat} (e : PSx S S2) (h : PRx R S ws mn) : PRx R S2 ws mn := by
  unfold PRx isU at h ⊢
  rw [e.1, e.2.1]; exact h
theorem mo51 {mn : Nat} {k41 : Sg → Option Nat → Int32 → Option (Sg × Unit)} {Q : Sg → Unit → Prop} (hn : n < mn) (kn : ∀ S2 : Sg, OXm (fun r => 53 ≤ r ∧ r ≤ 56) S S2 → PCx R S0 S2 ws Ps Pe I → PRx R S2 ws mn → Rt (k41 S2 (some ws) (nI (n + 1))) Q) : ∀ (d b : Nat) (S1 : Sg), 16 < b + d → b ≤ 16 → OXm (fun r => 53 ≤ r ∧ r ≤ 56) S S1 → PCx R S0 S1 ws Ps Pe I → PRx R S1 ws mn → Rt (f_spreadMoves_51 R.K k41 d S1 (some ws) (nI n) (nI b)) Q
  | 0, b, S1, hd, hb, _, _, _ => by omega
  | d + 1, b, S1, hd, hb, e, hC, hP => by
    have h24 := hC.2.1
    have hPP := hC.1
    unfold f_spreadMoves_51
    refine Rt.it (fun w => ?_) (fun w => ?_)
    · rw [nI_1]; exact kn S1 e hC hP
    · have hlt : b < 16 := by
        by_cases q : b < 16
        · exact q
        · exact absurd (nI_le (a := 16) (b := b) (by omega) (by omega)) w
      obtain ⟨p0, fs, pr, np, fv, p1, p2, p3, p4, p5, p6, p7, p8, p9⟩ := hP
      obtain ⟨va, v, ty, mu, v1, ⟨v2, nm, wh, v3⟩, v4⟩ := p9 n hn
      refine Rt.bd hC.r5 (Rt.bd (oR_mk p1 p2 (v := some pr) p4) (Rt.bd (aQ_n p5 p6 (show n < np by omega) (by omega)) ?_))
      rw [v1]
      refine Rt.bd (oI_mk v2 v3 rfl) ?_
      rw [nI_16, nI_10, nI_add]
      refine Rt.be (put_ (base := 10 * Ps) (on := true) (b := 16 * v + b) (by omega) (show 10 * Ps + (16 * v + b) / 64 < rlen 54 from by show _ < 240000; omega) (by decide)) ?_
      have e2 : OXs (fun r => 53 ≤ r ∧ r ≤ 56) S1 (Ul S1 54 (pB (Zl S1 54) (10 * Ps) (16 * v + b) true)) := OXs.ul (by decide) (by decide)
      rw [nI_1]
      exact mo51 hn kn d (b + 1) _ (by omega) (by omega) (e.tr e2.m) (hC.ps e2.1) (PRx.ps e2.1 ⟨p0, fs, pr, np, fv, p1, p2, p3, p4, p5, p6, p7, p8, p9⟩)
theorem mo41 {mn : Nat} {Q : Sg → Unit → Prop} (kn : ∀ S2 : Sg, OXm (fun r => 53 ≤ r ∧ r ≤ 56) S S2 → PCx R S0 S2 ws Ps Pe I → Rt (f_spreadMoves_100 R.K bigN S2 (some ws) 1) Q) : ∀ (d n : Nat) (S1 : Sg), 12 < n + d → n ≤ mn → OXm (fun r => 53 ≤ r ∧ r ≤ 56) S S1 → PCx R S0 S1 ws Ps Pe I → PRx R S1 ws mn → Rt (f_spreadMoves_41 R.K d S1 (some ws) (nI n)) Q
  | 0, n, S1, hd, hb, _, _, hP => by have := hP.1; omega
  | d + 1, n, S1, hd, hb, e, hC, hP => by
    have hP2 := hP
    obtain ⟨p0, fs, pr, np, fv, p1, p2, p3, p4, p5, p6, p7, p8, p9⟩ := hP2
    unfold f_spreadMoves_41
    refine Rt.bd (oI_mk p1 p2 p3) (Rt.it (fun w => kn S1 e hC) (fun w => ?_))
    have hlt : n < mn := by
      by_cases q : n < mn
      · exact q
      · exact absurd (nI_le (a := mn) (b := n) (by omega) (by omega)) w
    exact mo51 (S := S1) hlt (fun S2 e2 hC2 hP2 => mo41 kn d (n + 1) S2 (by omega) (by omega) (e.tr e2) hC2 hP2) bigN 0 S1 (by unfold bigN; omega) (Nat.zero_le _) OXm.rf hC hP
theorem mo8 {mn : Nat} {Q : Sg → Unit → Prop} (kf : ∀ S2 : Sg, OXm (fun r => 53 ≤ r ∧ r ≤ 56) S S2 → PCx R S0 S2 ws Ps Pe I → PRx R S2 ws mn → Rt (f_spreadMoves_41 R.K bigN S2 (some ws) 0) Q) : ∀ (d k : Nat) (S1 : Sg), 10 * Pe < k + d → k ≤ 10 * Pe → OXm (fun r => 53 ≤ r ∧ r ≤ 56) S S1 → PCx R S0 S1 ws Ps Pe I → PRx R S1 ws mn → Rt (f_spreadMoves_8 R.K d S1 (some ws) (nI k)) Q
  | 0, k, S1, hd, _, _, _, _ => by omega
  | d + 1, k, S1, hd, hk, e, hC, hP => by
    have h24 := hC.2.1
    unfold f_spreadMoves_8
    refine Rt.bd hC.r4 ?_
    rw [nI_10]
    refine Rt.it (fun w => kf S1 e hC hP) (fun w => ?_)
    have hlt : k < 10 * Pe := by
      by_cases q : k < 10 * Pe
      · exact q
      · exact absurd (nI_le (a := 10 * Pe) (b := k) (by omega) (by omega)) w
    refine Rt.bd (wJ_n (show k < rlen 53 from by show k < 240000; omega) (by decide)) ?_
    have e2 : OXs (fun r => 53 ≤ r ∧ r ≤ 56) S1 (Ul S1 53 (vp_updL (Zl S1 53) k 0)) := OXs.ul (by decide) (by decide)
    generalize Ul S1 53 (vp_updL (Zl S1 53) k 0) = S2 at e2
    refine Rt.bd (wJ_n (show k < rlen 54 from by show k < 240000; omega) (by decide)) ?_
    have e3 : OXs (fun r => 53 ≤ r ∧ r ≤ 56) S2 (Ul S2 54 (vp_updL (Zl S2 54) k 0)) := OXs.ul (by decide) (by decide)
    rw [nI_1]
    have e23 := e2.tr e3
    exact mo8 kf d (k + 1) _ (by omega) (by omega) (e.tr e23.m) (hC.ps e23.1) (hP.ps e23.1)
/-- spreadMoves -/
theorem spm_ {mn : Nat} (hL : LFS R S0 g) (hx0 : LX S0 S) (hC : PCx R S0 S ws Ps Pe I) (hM : ∀ k : Nat, Ps ≤ k → k < Pe → mBd (I k)) (hP : PRx R S ws mn) : Rt (f_spreadMoves R.K S (some ws)) (fun S2 _ => OXm (fun r => 53 ≤ r ∧ r ≤ 56) S S2 ∧ PCx R S0 S2 ws Ps Pe I ∧ MvD R S0 I (tvS S0 S I) (Zr S2 52) (Zl S2 53) Ps Pe) := by
  have h24 := hC.2.1
  have hPP := hC.1
  unfold f_spreadMoves
  refine Rt.bd hC.r5 ?_
  rw [nI_10]
  refine mo8 (mn := mn) (fun S2 e2 hC2 hP2 => ?_) bigN (10 * Ps) S (by unfold bigN; omega) (by omega) OXm.rf hC hP
  refine mo41 (S := S2) (mn := mn) (fun S3 e3 hC3 => ?_) bigN 0 S2 (by unfold bigN; omega) (Nat.zero_le _) OXm.rf hC2 hP2
  have e23 := e2.tr e3
  refine mo100 hL (hx0.tr e23.1.lx) hM (fun S4 a b c => ⟨e23.tr a, b, by rw [← tvS.ps (S0 := S0) (I := I) e23.1]; exact c⟩) bigN S3 1 ?_ OXm.rf hC3 (Or.inl rfl)
  have c1 := cw_b (f := Zl S3 53) (a := 10 * Ps) (m := 10 * (Pe - Ps))
  have c2 := cw_b (f := Zl S3 54) (a := 10 * Ps) (m := 10 * (Pe - Ps))
  unfold cm bigN
  omega
end PS14
end
-- m2.p.lean.txt
section
/-- nothing that is read, moved, lent lacks its value -/
def MvW (R : yR) (S0 : Sg) (T0 : Nat) (i : iR) (f : Nat → Int64) (k : Nat) : Prop := i.ac ≠ 0 → i.ac ≠ 7 → ∀ (v : Nat) (ρ : lLc) (T : Nat), i.pa = some (v, ρ, T) → (i.ac ≠ 6 ∨ ∃ s ∈ ρ, s.1 = 1) → ∀ c : Nat, inR R S0 T0 v ρ c → rb f (10 * k) c = false
section PS15
variable {R : yR} {S0 S S1 S2 Sr : Sg} {ws Ps Pe k n j : Nat} {I : Nat → iR} {g : Nat → Int32} {P : Nat → Prop}
theorem so3 {r B m : Nat} (hr : rlen r = 240000) (hk : k < 24000) (hB : B + m ≤ 640) : ∀ (d c : Nat), B + m < c + d → B ≤ c → c ≤ B + m → (∀ b : Nat, B ≤ b → b < c → rb (Zl S r) (10 * k) b = false) → Rt (f_some_3 R.K r d S (nI k) (nI B) (nI m) (nI c)) (fun S2 x => S2 = S ∧ (x = 0 ∨ x = 1) ∧ (x = 0 → ∀ b : Nat, B ≤ b → b < B + m → rb (Zl S r) (10 * k) b = false))
  | 0, c, hd, _, _, _ => by omega
  | d + 1, c, hd, h1, h2, h3 => by
    unfold f_some_3
    rw [nI_add]
    refine Rt.it (fun w => ?_) (fun w => ?_)
    · have : B + m ≤ c := (nI_leI (by omega) (by omega)).mp w
      exact Rt.zr (Or.inl rfl) ⟨rfl, Or.inl rfl, fun _ b q1 q2 => h3 b q1 (by omega)⟩
    · have hlt : c < B + m := by
        by_cases q : c < B + m
        · exact q
        · exact absurd (nI_le (a := B + m) (b := c) (by omega) (by omega)) w
      rw [nI_10]
      refine Rt.be (get_ (base := 10 * k) (b := c) (by omega) (show 10 * k + c / 64 < rlen r from by rw [hr]; omega) (by rw [hr]; decide)) ?_
      by_cases q : rb (Zl S r) (10 * k) c = true
      · rw [if_pos q]
        exact Rt.iq (by decide) (Rt.zr (Or.inr rfl) ⟨rfl, Or.inr rfl, fun z => absurd z (by decide)⟩)
      · rw [if_neg q]
        refine Rt.ip rfl ?_
        rw [nI_1]
        refine so3 hr hk hB d (c + 1) (by omega) (by omega) (by omega) (fun b q1 q2 => ?_)
        by_cases e : b = c
        · subst e; simpa using q
        · exact h3 b q1 (by omega)
theorem som_ {r B m : Nat} (hr : rlen r = 240000) (hk : k < 24000) (hB : B + m ≤ 640) : Rt (f_some R.K S r (nI k) (nI B) (nI m)) (fun S2 x => S2 = S ∧ (x = 0 ∨ x = 1) ∧ (x = 0 → ∀ b : Nat, B ≤ b → b < B + m → rb (Zl S r) (10 * k) b = false)) := by
  unfold f_some
  exact so3 hr hk hB bigN B (by unfold bigN; omega) (Nat.le_refl _) (by omega) (fun b q1 q2 => by omega)
/-- moveWrong -/
theorem mvw_ (hL : LFS R S0 g) (hx0 : LX S0 S) (hC : PCx R S0 S ws Ps Pe I) (h1 : Ps ≤ k) (h2 : k < Pe) (hM : mBd (I k)) : Rt (f_moveWrong R.K S (nI k)) (fun S2 r => OXm (fun _ => False) S S2 ∧ (r = 0 ∨ r = 1) ∧ (r = 0 → MvW R S0 (vTp S0 S (I k).n2) (I k) (Zl S 53) k)) := by
  have h24 := hC.2.1
  obtain ⟨hz, hs, hsl, hb⟩ := hC.2.2.2 k h1 h2
  obtain ⟨_, _, q3, q4, _, _, _, _, _, q10, _⟩ := hz
  have r33 : rI S 33 (nI k) = some (nI (I k).ac) := by rw [rI_n (show k < rlen 33 from by show k < 24000; omega) (by decide), q3]
  unfold f_moveWrong
  refine Rt.bd r33 (Rt.it (fun w => ?_) (fun w => Rt.it (fun w7 => ?_) (fun w7 => ?_)))
  · unfold f_moveWrong_17
    exact Rt.zr (Or.inl rfl) ⟨OXm.rf, Or.inl rfl, fun _ a => absurd (nI_e (b := 0) (by omega) (by decide) w) a⟩
  · unfold f_moveWrong_17
    exact Rt.zr (Or.inl rfl) ⟨OXm.rf, Or.inl rfl, fun _ _ a => absurd (nI_e (b := 7) (by omega) (by decide) w7) a⟩
  · have hp := hM.2.2.2 (fun e9 => w (by rw [e9]; rfl))
    rcases q10 with ⟨_, z⟩ | ⟨wp, v, T, ρ, z1, z2, z3, z4⟩
    · exact absurd z hp
    · have hv := hM.1 v ρ T z2
      obtain ⟨p1, p2⟩ := pfm_ hL hx0 z3 z4
      refine Rt.bd (rQ_n (show k < rlen 38 from by show k < 24000; omega) (by decide)) ?_
      rw [z1]
      refine Rt.be p1 ?_
      have e1 : OXm (fun _ => False) S (Ui S 57 (nI (zN R S0 (pfO R S0 (vTp S0 S (I k).n2) ρ).2))) := OXm.ui
      have el : Zl (Ui S 57 (nI (zN R S0 (pfO R S0 (vTp S0 S (I k).n2) ρ).2))) = Zl S := rfl
      have eq38 : Zq (Ui S 57 (nI (zN R S0 (pfO R S0 (vTp S0 S (I k).n2) ρ).2))) 38 k = some wp := z1
      have ei : Zi (Ui S 57 (nI (zN R S0 (pfO R S0 (vTp S0 S (I k).n2) ρ).2))) 57 = nI (zN R S0 (pfO R S0 (vTp S0 S (I k).n2) ρ).2) := Zi_s
      generalize Ui S 57 (nI (zN R S0 (pfO R S0 (vTp S0 S (I k).n2) ρ).2)) = Sy at e1 el eq38 ei
      have z5 : isPt R S0 Sy wp v ρ T := z3.st e1.1.lx
      have h48 : Rt (f_moveWrong_48 R.K Sy (nI k) (nI (16 * v + (pfO R S0 (vTp S0 S (I k).n2) ρ).1))) (fun S2 r => OXm (fun _ => False) S S2 ∧ (r = 0 ∨ r = 1) ∧ (r = 0 → MvW R S0 (vTp S0 S (I k).n2) (I k) (Zl S 53) k)) := by
        unfold f_moveWrong_48
        rw [ei]
        refine Rt.bn (som_ (R := R) (S := Sy) (r := 53) (k := k) (B := 16 * v + (pfO R S0 (vTp S0 S (I k).n2) ρ).1) (m := zN R S0 (pfO R S0 (vTp S0 S (I k).n2) ρ).2) rfl (by omega) (by omega)) (fun S3 r3 t3 => ?_)
        obtain ⟨rfl, t4, t5⟩ := t3
        refine Rt.zr t4 ⟨e1, t4, fun r0 _ _ v' ρ' T' y1 _ c hc => ?_⟩
        rw [z2] at y1; cases y1
        have := t5 r0 c hc.1 hc.2
        rw [el] at this
        exact this
      have h111 : (∀ s ∈ ρ, s.1 ≠ 1) → (I k).ac = 6 → Rt (f_moveWrong_111 R.K Sy) (fun S2 r => OXm (fun _ => False) S S2 ∧ (r = 0 ∨ r = 1) ∧ (r = 0 → MvW R S0 (vTp S0 S (I k).n2) (I k) (Zl S 53) k)) := fun hst h6 => by
        unfold f_moveWrong_111 f_moveWrong_112
        refine Rt.zr (Or.inl rfl) ⟨e1, Or.inl rfl, fun _ _ _ v' ρ' T' y1 y2 => ?_⟩
        rw [z2] at y1; cases y1
        rcases y2 with y2 | ⟨s, y3, y4⟩
        · exact absurd h6 y2
        · exact absurd y4 (hst s y3)
      have r38 : rQ Sy 38 (nI k) = some (some wp) := by rw [rQ_n (show k < rlen 38 from by show k < 24000; omega) (by decide), eq38]
      refine Rt.it (fun w6 => ?_) (fun w6 => h48)
      have h6 : (I k).ac = 6 := nI_e (b := 6) (by omega) (by decide) w6
      refine Rt.bd r38 (Rt.bn (hst_ z5) (fun S3 r3 t3 => ?_))
      obtain ⟨rfl, t4, t5⟩ := t3
      refine Rt.it (fun w0 => ?_) (fun w0 => h48)
      obtain ⟨va, sa, ta, f, G, mu, y1, y2, ⟨y3, nm, wh, y4⟩, _⟩ := z5
      refine Rt.bd r38 (Rt.bd (oI_mk y1 y2 rfl) (Rt.it (fun w8 => ?_) (fun w8 => h111 (t5 w0) h6)))
      refine Rt.bd r38 (Rt.bd (oR_mk y1 y2 (v := some va) rfl) (Rt.bd (oI_mk y3 y4 rfl) (Rt.it (fun w9 => ?_) (fun w9 => h111 (t5 w0) h6))))
      rw [ei]
      refine Rt.bn (som_ (R := R) (S := S3) (r := 54) (k := k) (B := 16 * v + (pfO R S0 (vTp S0 S (I k).n2) ρ).1) (m := zN R S0 (pfO R S0 (vTp S0 S (I k).n2) ρ).2) rfl (by omega) (by omega)) (fun S4 r4 u4 => ?_)
      obtain ⟨rfl, u5, u6⟩ := u4
      refine Rt.it (fun w10 => h111 (t5 w0) h6) (fun w10 => ?_)
      unfold f_moveWrong_112
      exact Rt.zr (Or.inr rfl) ⟨e1, Or.inr rfl, fun z => absurd z (by decide)⟩
theorem cm12 (hT : R.T ≤ 3001) (hL : LFS R S0 g) (hx0 : LX S0 S) (hC : PCx R S0 S ws Ps Pe I) (hM : ∀ k : Nat, Ps ≤ k → k < Pe → mBd (I k)) {Q : Sg → Unit → Prop} (kf : ∀ S2 : Sg, OXm (fun _ => False) S S2 → (∀ k : Nat, Ps ≤ k → k < Pe → Zr S 52 k ≠ 0 → MvW R S0 (tvS S0 S I k) (I k) (Zl S 53) k) → Q S2 ()) (kb : ∀ (S2 : Sg) (t : Nat), OXm (fun _ => False) S S2 → t < R.T → Q (flS S2 5 (Zr S2 6 t)) ()) : ∀ (d k : Nat) (S1 : Sg) (x2 : Int32), Pe < k + d → Ps ≤ k → k ≤ Pe → OXm (fun _ => False) S S1 → ((x2 < 0 ∧ ∀ k' : Nat, Ps ≤ k' → k' < k → Zr S 52 k' ≠ 0 → MvW R S0 (tvS S0 S I k') (I k') (Zl S 53) k') ∨ ∃ t : Nat, t < R.T ∧ x2 = nI t) → Rt (f_checkMoves_12 R.K d S1 (some ws) x2 (nI k)) Q
  | 0, k, S1, x2, hd, _, _, _, _ => by omega
  | d + 1, k, S1, x2, hd, h1, hk, e, hx => by
    have hC1 := hC.ps e.1
    have h24 := hC1.2.1
    unfold f_checkMoves_12
    refine Rt.bd hC1.r4 (Rt.it (fun w => ?_) (fun w => ?_))
    · have : Pe ≤ k := (nI_leI (by omega) (by omega)).mp w
      obtain rfl : k = Pe := by omega
      refine Rt.it (fun w2 => ?_) (fun w2 => ?_)
      · unfold f_checkMoves_74
        refine Rt.rt (kf S1 e ?_)
        rcases hx with ⟨_, b⟩ | ⟨t, t1, t2⟩
        · exact b
        · rw [t2] at w2; exact absurd w2 (nI_nn (by omega))
      · rcases hx with ⟨a, _⟩ | ⟨t, t1, t2⟩
        · exact absurd a w2
        · rw [t2]
          refine Rt.be (fail_ (by omega)) ?_
          unfold f_checkMoves_74
          exact Rt.rt (kb S1 t e t1)
    · have hlt : k < Pe := by
        by_cases q : k < Pe
        · exact q
        · exact absurd (nI_le (a := Pe) (b := k) (by omega) (by omega)) w
      have nx : ∀ (S2 : Sg) (y2 : Int32), OXm (fun _ => False) S S2 → ((y2 < 0 ∧ y2 = x2 ∧ (Zr S 52 k ≠ 0 → MvW R S0 (tvS S0 S I k) (I k) (Zl S 53) k)) ∨ ∃ t : Nat, t < R.T ∧ y2 = nI t) → Rt (f_checkMoves_58 R.K (f_checkMoves_12 R.K d) S2 (some ws) y2 (nI k)) Q := fun S2 y2 e2 hy => by
        unfold f_checkMoves_58
        rw [nI_1]
        refine cm12 hT hL hx0 hC hM kf kb d (k + 1) S2 y2 (by omega) (by omega) (by omega) e2 (hy.imp (fun ⟨a, b, c⟩ => ⟨a, fun k' q1 q2 q3 => ?_⟩) id)
        by_cases ek : k' = k
        · subst ek; exact c q3
        · rcases hx with ⟨_, hx⟩ | ⟨t, t1, t2⟩
          · exact hx k' q1 (by omega) q3
          · rw [b, t2] at a; exact absurd a (nI_nn (by omega))
      have same : ∀ S2 : Sg, OXm (fun _ => False) S S2 → (x2 < 0 → Zr S 52 k ≠ 0 → MvW R S0 (tvS S0 S I k) (I k) (Zl S 53) k) → Rt (f_checkMoves_58 R.K (f_checkMoves_12 R.K d) S2 (some ws) x2 (nI k)) Q := fun S2 e2 hh => nx S2 x2 e2 (hx.imp (fun ⟨a, _⟩ => ⟨a, rfl, hh a⟩) id)
      obtain ⟨tk, ht1, ht2⟩ : ∃ tk : Nat, Zr S1 32 k = nI tk ∧ tk < R.T := by obtain ⟨_, _, _, _, _, _, _, _, w, _⟩ := (hC1.2.2.2 k h1 hlt).1; exact w
      refine Rt.bd (rI_n (show k < rlen 52 from by show k < 24000; omega) (by decide)) (Rt.it (fun w2 => same S1 e (fun _ q => absurd (by rw [← e.2.2]; exact w2) q)) (fun w2 => ?_))
      refine Rt.bn (mvw_ hL (hx0.tr e.1.lx) hC1 h1 hlt (hM k h1 hlt)) (fun S2 r2 t2 => ?_)
      obtain ⟨e2, t3, t4⟩ := t2
      have e12 := e.tr e2
      have r32 : rI S2 32 (nI k) = some (nI tk) := by rw [rI_n (show k < rlen 32 from by show k < 24000; omega) (by decide), e2.2.2, ht1]
      have h51 : Rt (f_checkMoves_51 R.K (f_checkMoves_12 R.K d) S2 (some ws) (nI k)) Q := by
        unfold f_checkMoves_51
        exact Rt.bd r32 (nx S2 (nI tk) e12 (Or.inr ⟨tk, ht2, rfl⟩))
      refine Rt.it (fun w3 => same S2 e12 (fun _ _ => ?_)) (fun w3 => Rt.it (fun w4 => h51) (fun w4 => Rt.bd r32 (Rt.it (fun w5 => same S2 e12 (fun w9 => absurd w9 w4)) (fun w5 => h51))))
      have := t4 w3
      rw [e.2.1 53 (by simp), show vTp S0 S1 (I k).n2 = tvS S0 S I k from vTp.ps e.1] at this
      exact this
/-- checkMoves -/
theorem ckm_ {mn : Nat} (hT : R.T ≤ 3001) (hL : LFS R S0 g) (hx0 : LX S0 S) (hC : PCx R S0 S ws Ps Pe I) (hM : ∀ k : Nat, Ps ≤ k → k < Pe → mBd (I k)) (hP : PRx R S ws mn) : Rt (f_checkMoves R.K S (some ws)) (fun S2 _ => (OXm (fun r => 53 ≤ r ∧ r ≤ 56) S S2 ∧ ∃ f : Nat → Int64, MvD R S0 I (tvS S0 S I) (Zr S 52) f Ps Pe ∧ ∀ k : Nat, Ps ≤ k → k < Pe → Zr S 52 k ≠ 0 → MvW R S0 (tvS S0 S I k) (I k) f k) ∨ ∃ (S3 : Sg) (t : Nat), OXm (fun r => 53 ≤ r ∧ r ≤ 56) S S3 ∧ t < R.T ∧ S2 = flS S3 5 (Zr S3 6 t)) := by
  unfold f_checkMoves
  refine Rt.bn (spm_ hL hx0 hC hM hP) (fun S1 _ t1 => ?_)
  obtain ⟨e1, hC1, hd⟩ := t1
  refine Rt.bd hC1.r5 ?_
  refine cm12 (S := S1) hT hL (hx0.tr e1.1.lx) hC1 hM (fun S2 e2 hq => Or.inl ⟨e1.tr (e2.mo (fun r h => h.elim)), Zl S1 53, ?_, fun k a b c => ?_⟩) (fun S2 t e2 ht => Or.inr ⟨S2, t, e1.tr (e2.mo (fun r h => h.elim)), ht, rfl⟩) bigN Ps S1 (-1) (by unfold bigN; have := hC1.2.1; omega) (Nat.le_refl _) (Nat.le_of_lt hC1.1) OXm.rf (Or.inl ⟨by decide, fun k' q1 q2 => by omega⟩)
  · rw [e1.2.2] at hd; exact hd
  · have := hq k a b (by rw [e1.2.2]; exact c)
    rw [tvS.ps (S0 := S0) (I := I) e1.1] at this
    exact this
end PS15
end
-- m2.q.lean.txt
section
section PS16
variable {R : yR} {S0 S S1 S2 Sr : Sg} {E : eV} {i : iR} {s : List tE} {k L : Nat} {lv : Prop} {J : Nat → List tE → Prop}
theorem arL_b {b : Nat} {P : Nat → Bool} : ∀ {n u : Nat}, u ∈ arL b P n → 40 + b ≤ u ∧ u < 40 + b + n
  | 0, u, h => by cases h
  | n + 1, u, h => by
    rcases List.mem_append.mp (show u ∈ arL b P n ++ (if P n then [40 + (b + n)] else []) from h) with h | h
    · have := arL_b h; omega
    · by_cases q : P n = true
      · rw [if_pos q, List.mem_singleton] at h; omega
      · rw [if_neg q] at h; cases h
theorem arL_l {b : Nat} {P : Nat → Bool} : ∀ {n : Nat}, (arL b P n).length ≤ n
  | 0 => Nat.le_refl _
  | n + 1 => by
    have := arL_l (b := b) (P := P) (n := n)
    show (arL b P n ++ (if P n then [40 + (b + n)] else [])).length ≤ n + 1
    rw [List.length_append]
    by_cases q : P n = true
    · rw [if_pos q]; simp; omega
    · rw [if_neg q]; simp; omega
theorem wl_dE {f : Nat → Nat} : ∀ {n : Nat}, wl (dsl (fun q => eT (f q)) n) = n
  | 0 => rfl
  | n + 1 => by
    show wl (eT (f n) :: dsl (fun q => eT (f q)) n) = n + 1
    rw [wl_eT, wl_dE]
theorem sg1 {l l2 : List Nat} {u : Nat} (h : l = [u]) (h2 : l2 = [u]) (hu : u < 256) : (∀ x ∈ l, x < 256) ∧ (∀ x ∈ l2, x < 256) ∧ l.length ≤ 12 ∧ l2.length ≤ 12 := by
  subst h; subst h2
  exact ⟨fun x hx => by rw [List.mem_singleton] at hx; omega, fun x hx => by rw [List.mem_singleton] at hx; omega, by simp, by simp⟩
theorem sg0 {l l2 : List Nat} (h : l = []) (h2 : l2 = []) : (∀ x ∈ l, x < 256) ∧ (∀ x ∈ l2, x < 256) ∧ l.length ≤ 12 ∧ l2.length ≤ 12 := by
  subst h; subst h2
  exact ⟨fun x hx => (by cases hx), fun x hx => (by cases hx), by simp, by simp⟩
/-- bounds of an instruction -/
theorem tPt.hb (h : tPt E k lv i s J) (hw : wl s ≤ 177) (hln : ∀ l : Nat, i.ln = some l → l < L) (hL : L ≤ 160) : hBd i ∧ mBd i ∧ (i.kd = 25 → i.n1 < 256) ∧ ((i.kd = 20 ∨ i.kd = 21) → i.sc.length ≤ 12) := by
  have uv : ∀ {v : Nat}, iUv E i v → v < 40 → (∀ x ∈ i.us, x < 256) ∧ (∀ x ∈ i.fr, x < 256) ∧ i.us.length ≤ 12 ∧ i.fr.length ≤ 12 := fun {v} hu hv => by
    by_cases q : isRf (E.vt v)
    · exact sg1 (hu.1 q).1 (hu.1 q).2 (by omega)
    · exact sg0 (hu.2 q).1 (hu.2 q).2
  have d0 : iD0 i → i.kd ≠ 14 → i.kd ≠ 25 → ((i.kd = 12 ∨ i.kd = 13 ∨ i.kd = 22 ∨ i.kd = 23 ∨ i.kd = 24) → ∀ v ∈ i.vs, v < 40) → ((i.kd = 20 ∨ i.kd = 21) → i.sc.length ≤ 12) → hBd i ∧ mBd i ∧ (i.kd = 25 → i.n1 < 256) ∧ ((i.kd = 20 ∨ i.kd = 21) → i.sc.length ≤ 12) := fun ⟨h1, h2, h3, h4, h5, h6⟩ k14 k25 hv hs => by
    have hu := sg0 h5 h6
    exact ⟨⟨fun hh e => (by rw [h3] at e; cases e), hu.1, hu.2.1, hu.2.2.1, hu.2.2.2, fun l e => (by rw [h4] at e; cases e), fun w => absurd h1 w⟩, ⟨fun v ρ T e => (by rw [h2] at e; cases e), hv, fun w => absurd w k14, fun w => absurd h1 w⟩, fun w => absurd w k25, hs⟩
  have pa : ∀ {v : Nat} {ρ : lLc} {T : Nat}, iPa E i s v ρ T → iUv E i v → (∀ hh : Nat, i.ho = some hh → hh < 256) → i.kd ≠ 25 → ((i.kd = 12 ∨ i.kd = 13 ∨ i.kd = 22 ∨ i.kd = 23 ∨ i.kd = 24) → ∀ v ∈ i.vs, v < 40) → ((i.kd = 20 ∨ i.kd = 21) → i.sc.length ≤ 12) → hBd i ∧ mBd i ∧ (i.kd = 25 → i.n1 < 256) ∧ ((i.kd = 20 ∨ i.kd = 21) → i.sc.length ≤ 12) := fun {v ρ T} hp hu hho k25 hv hs => by
    obtain ⟨p1, ⟨p2, _⟩, _⟩ := hp
    have hpn : i.pa ≠ none := fun w => by rw [p1] at w; cases w
    have hu2 := uv hu p2
    exact ⟨⟨hho, hu2.1, hu2.2.1, hu2.2.2.1, hu2.2.2.2, fun l e => by have := hln l e; omega, fun _ => hpn⟩, ⟨fun v' ρ' T' e => (by rw [p1] at e; cases e; exact p2), hv, fun _ => hpn, fun _ => hpn⟩, fun w => absurd w k25, hs⟩
  unfold tPt at h
  split at h
  next hk => exact d0 h.1.1 (by omega) (by omega) (fun w => by omega) (fun w => by omega)
  next hk => exact d0 h.1.1 (by omega) (by omega) (fun w => by omega) (fun w => by omega)
  next hk => exact d0 h.1.1 (by omega) (by omega) (fun w => by omega) (fun w => by omega)
  next hk =>
    obtain ⟨h1, v, ρ, T, hp, hu, ho1, ho2, ha, _⟩ := h
    refine pa hp hu (fun hh e => ?_) (by omega) (fun w => by omega) (fun w => by omega)
    by_cases q : isRf T
    · rw [ho1 q] at e; cases e; omega
    · rw [ho2 q] at e; cases e
  next hk =>
    obtain ⟨v, ρ, T, hp, hu, ho1, _⟩ := h
    exact pa hp hu (fun hh e => by rw [ho1] at e; cases e; omega) (by omega) (fun w => by omega) (fun w => by omega)
  next hk => exact d0 h.1 (by omega) (by omega) (fun w => by omega) (fun w => by omega)
  next hk => exact d0 h.1 (by omega) (by omega) (fun w => by omega) (fun w => by omega)
  next hk => exact d0 h.1 (by omega) (by omega) (fun w => by omega) (fun w => by omega)
  next hk => exact d0 h.1 (by omega) (by omega) (fun w => by omega) (fun w => by omega)
  next hk => exact d0 h.1 (by omega) (by omega) (fun w => by omega) (fun w => by omega)
  next hk => exact d0 h.1.1 (by omega) (by omega) (fun w => by omega) (fun w => by omega)
  next hk =>
    obtain ⟨h1, h2, h3, r, h4, h5, h6, h7, h8, h9, h10, h11⟩ := h
    have hwl : wl s = i.n3 + wl r := by rw [h7, wl_app, wl_dE]
    have hho : ∀ hh : Nat, i.ho = some hh → hh < 256 := fun hh e => by
      rcases h11 with ⟨_, q, _⟩ | ⟨_, q1, q2, _⟩
      · rw [q] at e; cases e
      · by_cases q : isRf (E.hd i.n1).2.2
        · rw [q1 q] at e; cases e; omega
        · rw [q2 q] at e; cases e
    refine ⟨⟨hho, fun u hu => ?_, fun u hu => ?_, ?_, ?_, fun l e => (by rw [h3.1] at e; cases e), fun w => absurd h1 w⟩, ⟨fun v ρ T e => (by rw [h2] at e; cases e), fun w => by omega, fun w => by omega, fun w => absurd h1 w⟩, fun w => by omega, fun w => by omega⟩
    · rw [h9] at hu; have := arL_b hu; omega
    · rw [h10] at hu; have := arL_b hu; omega
    · rw [h9]; have := arL_l (b := wl r) (P := fun q => decide (10000 ≤ (E.hd i.n1).2.1 q ∧ (E.hd i.n1).2.1 q < 30000)) (n := i.n3); omega
    · rw [h10]; have := arL_l (b := wl r) (P := fun q => decide (10000 ≤ (E.hd i.n1).2.1 q ∧ (E.hd i.n1).2.1 q < 30000) && (decide (E.rl i.n1 < 0) || decide (E.lf i.n1 q = E.rl i.n1))) (n := i.n3); omega
  next hk => exact d0 h.1 (by omega) (by omega) (fun w => by omega) (fun w => by omega)
  next hk =>
    obtain ⟨h1, h2, h3, v, r, v1, v2, v3, _, _, _, _, u1, u2, _⟩ := h
    have hu : (∀ u ∈ i.us, u < 256) ∧ (∀ u ∈ i.fr, u < 256) ∧ i.us.length ≤ 12 ∧ i.fr.length ≤ 12 := by
      by_cases q : isRf (E.vt v)
      · exact sg1 (u1 q).1 (u1 q).2 (by decide)
      · exact sg0 (u2 q).1 (u2 q).2
    exact ⟨⟨fun hh e => (by rw [v3] at e; cases e; omega), hu.1, hu.2.1, hu.2.2.1, hu.2.2.2, fun l e => (by rw [h3] at e; cases e), fun w => absurd h1 w⟩, ⟨fun v ρ T e => (by rw [h2] at e; cases e), fun _ w hw => by rw [v1, List.mem_singleton] at hw; omega, fun w => by omega, fun w => absurd h1 w⟩, fun w => by omega, fun w => by omega⟩
  next hk =>
    obtain ⟨h1, h2, h3, h4, h5, v, v1, v2, v3, _⟩ := h
    have hu := sg0 h4 h5
    exact ⟨⟨fun hh e => (by rw [v3] at e; cases e; omega), hu.1, hu.2.1, hu.2.2.1, hu.2.2.2, fun l e => (by rw [h3.1] at e; cases e), fun w => absurd h1 w⟩, ⟨fun v ρ T e => (by rw [h2] at e; cases e), fun _ w hw => by rw [v1, List.mem_singleton] at hw; omega, fun w => by omega, fun w => absurd h1 w⟩, fun w => by omega, fun w => by omega⟩
  next hk =>
    obtain ⟨h1, h2, v, ρ, T, r, ⟨p1, ⟨p2, _⟩, _⟩, _, _, h5, _⟩ := h
    have hpn : i.pa ≠ none := fun w => by rw [p1] at w; cases w
    have hho : ∀ hh : Nat, i.ho = some hh → hh < 256 := fun hh e => by
      rcases h5 with ⟨_, q, _⟩ | ⟨_, q, _⟩
      · rw [q] at e; cases e; omega
      · rw [q] at e; cases e
    have hu : (∀ u ∈ i.us, u < 256) ∧ (∀ u ∈ i.fr, u < 256) ∧ i.us.length ≤ 12 ∧ i.fr.length ≤ 12 := by
      rcases h5 with ⟨_, _, u1, u2⟩ | ⟨_, _, u0, u1, u2⟩
      · by_cases q : isRf T
        · exact sg1 (u1 q).1 (u1 q).2 (by decide)
        · exact sg0 (u2 q).1 (u2 q).2
      · by_cases q : isRf (E.vt v)
        · rw [(u1 q).1, u0]
          exact ⟨fun u hu => by rw [List.mem_singleton] at hu; omega, fun u hu => (by cases hu), by simp, by simp⟩
        · exact sg0 (u2 q) u0
    exact ⟨⟨hho, hu.1, hu.2.1, hu.2.2.1, hu.2.2.2, fun l e => (by rw [h2] at e; cases e), fun _ => hpn⟩, ⟨fun v' ρ' T' e => (by rw [p1] at e; cases e; exact p2), fun w => by omega, fun _ => hpn, fun _ => hpn⟩, fun w => by omega, fun w => by omega⟩
  next hk => exact d0 h.1 (by omega) (by omega) (fun w => by omega) (fun w => by omega)
  next hk => exact d0 h.1.1 (by omega) (by omega) (fun w => by omega) (fun w => by omega)
  next hk => exact d0 h.1 (by omega) (by omega) (fun w => by omega) (fun w => by omega)
  next hk => exact d0 h.1 (by omega) (by omega) (fun w => by omega) (fun w => by omega)
  next hk => exact d0 h.1 (by omega) (by omega) (fun w => by omega) (fun w => by omega)
  next hk => exact d0 h.1 (by omega) (by omega) (fun w => by omega) (fun _ => by obtain ⟨_, r, _, _, _, _, _, w, _⟩ := h; exact w)
  next hk =>
    obtain ⟨ho1, _, v, ρ, hp, hu, _, _, _, _, _, hs, _⟩ := h
    exact pa hp hu (fun hh e => by rw [ho1] at e; cases e) (by omega) (fun w => by omega) (fun _ => hs)
  next hk =>
    obtain ⟨h1, r, _, _, _, _, _, _, _, _, _, hv, _⟩ := h
    exact d0 h1 (by omega) (by omega) (fun _ v hm => by obtain ⟨q, hq⟩ := List.mem_iff_getElem?.mp hm; exact (hv q v hq).1) (fun w => by omega)
  next hk =>
    obtain ⟨h1, v, ρ, w, q, g, m, r, v1, v2, v3, _, _, _, _, _, _, _, _, _, p1, ⟨p2, _⟩, _, _, _, _, hu, _⟩ := h
    have hpn : i.pa ≠ none := fun w => by rw [p1] at w; cases w
    have hu2 := uv hu p2
    exact ⟨⟨fun hh e => (by rw [v3] at e; cases e; omega), hu2.1, hu2.2.1, hu2.2.2.1, hu2.2.2.2, fun l e => by have := hln l e; omega, fun _ => hpn⟩, ⟨fun v' ρ' T' e => (by rw [p1] at e; cases e; exact p2), fun _ w' hw => by rw [v1, List.mem_singleton] at hw; omega, fun w => by omega, fun _ => hpn⟩, fun w => by omega, fun w => by omega⟩
  next hk =>
    obtain ⟨h1, h2, h4, h5, v, e9, r, v1, ⟨v2, _⟩, v3, p1, _⟩ := h
    have hpn : i.pa ≠ none := fun w => by rw [p1] at w; cases w
    have hu := sg0 h4 h5
    exact ⟨⟨fun hh e => (by rw [v3] at e; cases e; omega), hu.1, hu.2.1, hu.2.2.1, hu.2.2.2, fun l e => (by rw [h2] at e; cases e), fun _ => hpn⟩, ⟨fun v' ρ' T' e => (by rw [p1] at e; cases e; exact v2), fun _ w hw => by rw [v1, List.mem_singleton] at hw; omega, fun w => by omega, fun _ => hpn⟩, fun w => by omega, fun w => by omega⟩
  next hk =>
    obtain ⟨h1, h2, h3, h4, h5, h6, h7, _⟩ := h
    exact ⟨⟨fun hh e => (by rw [h3] at e; cases e), fun u hu => (by rw [h5, List.mem_singleton] at hu; omega), fun u hu => (by rw [h6] at hu; cases hu), (by rw [h5]; simp), (by rw [h6]; simp), fun l e => (by rw [h4] at e; cases e), fun w => absurd h1 w⟩, ⟨fun v ρ T e => (by rw [h2] at e; cases e), fun w => (by omega), fun w => (by omega), fun w => absurd h1 w⟩, fun _ => (by omega), fun w => (by omega)⟩
  next hk => exact d0 h.1 (by omega) (by omega) (fun w => by omega) (fun w => by omega)
  exact h.elim
end PS16
end
-- m2.r.lean.txt
section
/-- what lies in the rows at point k, but for loans -/
def rzq (R : yR) (S0 S : Sg) (k : Nat) (i : iR) : Prop := Zr S 27 k = nI i.kd ∧ i.kd < 28 ∧ Zr S 33 k = nI i.ac ∧ i.ac < 8 ∧ (∃ tk : Nat, Zr S 32 k = nI tk ∧ tk < R.T) ∧
  ((Zq S 38 k = none ∧ i.pa = none) ∨ ∃ (w v T : Nat) (ρ : lLc), Zq S 38 k = some w ∧ i.pa = some (v, ρ, T) ∧ isPt R S0 S w v ρ T ∧ pVa S w i.n2) ∧
  ((i.kd = 26 ∧ i.sc = []) ∨ (i.kd = 16 ∧ ∃ j : Nat, Zr S 30 k = nI j ∧ i.sc = [j] ∧ j < 24000) ∨ ((i.kd = 17 ∨ i.kd = 18 ∨ i.kd = 19) ∧ ∃ j : Nat, Zr S 30 k = nI j ∧ i.sc = [k + 1, j] ∧ j < 24000) ∨ ((i.kd = 20 ∨ i.kd = 21) ∧ rAr R S (Zq S 42 k) i.sc ∧ i.sc ≠ []) ∨ (i.kd ≠ 26 ∧ i.kd ≠ 16 ∧ i.kd ≠ 17 ∧ i.kd ≠ 18 ∧ i.kd ≠ 19 ∧ i.kd ≠ 20 ∧ i.kd ≠ 21 ∧ Zr S 30 k = -1 ∧ i.sc = [k + 1])) ∧
  ((i.kd = 7 ∨ i.kd = 11 ∨ i.kd = 15) → ∃ x : Nat, Zq S 39 k = some x ∧ rTy S0 x ∧ abT S0 x = i.n1) ∧
  ((i.kd = 8 ∨ i.kd = 9 ∨ i.kd = 10) → Zr S 28 k = nI i.n1 ∧ Zr S 29 k = nI i.n2 ∧ Zl S 31 k = Int32.toInt64 (nI i.n3)) ∧
  (i.kd = 8 → rAr R S (Zq S 42 k) i.vs) ∧
  ((i.kd = 12 ∨ i.kd = 13 ∨ i.kd = 23 ∨ i.kd = 24) → ∃ (va v : Nat) (ty : Option Nat) (mu : Int32), Zq S 40 k = some va ∧ i.vs = [v] ∧ isU S va v ty mu ∧ abU S0 ty = i.n1 ∧ ∀ x : Nat, ty = some x → rTy S0 x) ∧
  (i.kd = 22 → rAm R S0 S (Zq S 41 k) i.n1 i.n2 i.vs) ∧
  (i.kd = 25 → Zr S 28 k = nI i.n1) ∧ (i.kd = 10 → R.ik i.n1 = 12 ∧ i.n1 < R.im)
section PS17
variable {R : yR} {S0 S S1 S2 Sr : Sg} {E : eV} {i : iR} {s : List tE} {k L : Nat} {lv : Prop} {J : Nat → List tE → Prop}
theorem rz.q (h : rz R S0 S k i) : rzq R S0 S k i := by
  obtain ⟨q1, q2, q3, q4, q5, q6, q7, q8, q9, q10, q11, q12, q13, q14, q15, q16, q17, q18⟩ := h
  exact ⟨q1, q2, q3, q4, q9, q10, q12, q13, q14, q15, q16, q17, q18⟩
theorem rzq.st (h : LX S S2) (hk : RK S S2 k) (q : rzq R S0 S k i) : rzq R S0 S2 k i := by
  obtain ⟨q1, q2, q3, q4, q9, q10, q12, q13, q14, q15, q16, q17, q18⟩ := q
  obtain ⟨k1, k2, k3⟩ := hk
  refine ⟨(k1 27 (by decide) (by decide)).trans q1, q2, (k1 33 (by decide) (by decide)).trans q3, q4, by rw [k1 32 (by decide) (by decide)]; exact q9, ?_, ?_, ?_, ?_, ?_, ?_, ?_, ?_⟩
  · rw [k3 38 (by decide) (by decide)]
    exact q10.imp id (fun ⟨w, v, T, ρ, a, b, c, d⟩ => ⟨w, v, T, ρ, a, b, c.st h, d.st h c⟩)
  · rw [k1 30 (by decide) (by decide), k3 42 (by decide) (by decide)]
    exact q12.imp id (fun z => z.imp id (fun z => z.imp id (fun z => z.imp (fun ⟨a, b, c⟩ => ⟨a, b.st h, c⟩) id)))
  · rw [k3 39 (by decide) (by decide)]; exact q13
  · rw [k1 28 (by decide) (by decide), k1 29 (by decide) (by decide), k2]; exact q14
  · rw [k3 42 (by decide) (by decide)]; exact fun e => (q15 e).st h
  · rw [k3 40 (by decide) (by decide)]
    intro e
    obtain ⟨va, v, ty, mu, a, b, c, d⟩ := q16 e
    exact ⟨va, v, ty, mu, a, b, c.st h, d⟩
  · rw [k3 41 (by decide) (by decide)]; exact fun e => (q17 e).st h
  · rw [k1 28 (by decide) (by decide)]; exact q18
theorem rz.sl (h : rz R S0 S k i) (h2 : (i.kd = 20 ∨ i.kd = 21) → i.sc.length ≤ 12) : i.sc.length ≤ 12 := by
  obtain ⟨_, _, _, _, _, _, _, _, _, _, _, q12, _⟩ := h
  rcases q12 with ⟨_, h⟩ | ⟨_, j, _, h, _⟩ | ⟨_, j, _, h, _⟩ | ⟨h, _⟩ | ⟨_, _, _, _, _, _, _, _, h⟩
  · rw [h]; simp
  · rw [h]; simp
  · rw [h]; simp
  · exact h2 h
  · rw [h]; simp
theorem iPa.v {v v2 T T2 : Nat} {ρ ρ2 : lLc} (h : iPa E i s v ρ T) (e : i.pa = some (v2, ρ2, T2)) : E.ad v2 = i.n2 ∧ ∃ (ρ : lLc) (T : Nat), pTy E.y (E.vt v2) ρ T ∧ T ≠ 0 := by
  obtain ⟨h1, h2, h3, h4, h5, h6, h7⟩ := h
  rw [h1] at e; cases e
  exact ⟨h2.2, ρ, T, h4, h6⟩
/-- a path's variable -/
theorem tPt.pv (h : tPt E k lv i s J) (h24 : i.kd ≠ 24) {v2 T2 : Nat} {ρ2 : lLc} (e : i.pa = some (v2, ρ2, T2)) : E.ad v2 = i.n2 ∧ ∃ (ρ : lLc) (T : Nat), pTy E.y (E.vt v2) ρ T ∧ T ≠ 0 := by
  have d0 : i.pa = none → E.ad v2 = i.n2 ∧ ∃ (ρ : lLc) (T : Nat), pTy E.y (E.vt v2) ρ T ∧ T ≠ 0 := fun w => by rw [w] at e; cases e
  unfold tPt at h
  split at h
  next => exact d0 h.1.1.2.1
  next => exact d0 h.1.1.2.1
  next => exact d0 h.1.1.2.1
  next => obtain ⟨_, v, ρ, T, hp, _⟩ := h; exact hp.v e
  next => obtain ⟨v, ρ, T, hp, _⟩ := h; exact hp.v e
  next => exact d0 h.1.2.1
  next => exact d0 h.1.2.1
  next => exact d0 h.1.2.1
  next => exact d0 h.1.2.1
  next => exact d0 h.1.2.1
  next => exact d0 h.1.1.2.1
  next => exact d0 h.2.1
  next => exact d0 h.1.2.1
  next => exact d0 h.2.1
  next => exact d0 h.2.1
  next => obtain ⟨_, _, v, ρ, T, r, hp, _⟩ := h; exact hp.v e
  next => exact d0 h.1.2.1
  next => exact d0 h.1.1.2.1
  next => exact d0 h.1.2.1
  next => exact d0 h.1.2.1
  next => exact d0 h.1.2.1
  next => exact d0 h.1.2.1
  next => obtain ⟨_, _, v, ρ, hp, _⟩ := h; exact hp.v e
  next => exact d0 h.1.2.1
  next =>
    obtain ⟨h1, v, ρ, w, q, g, m, r, _, _, _, _, _, _, _, _, _, _, _, _, p1, ⟨_, p2⟩, _, p3, _⟩ := h
    rw [p1] at e; cases e
    exact ⟨p2, ρ, 4 + q, p3, by omega⟩
  next hk => exact absurd hk h24
  next => exact d0 h.2.1
  next => exact d0 h.1.2.1
  exact h.elim
theorem qW_0 {y : qY} (hy : y.1 0 = 0) : ∀ {ρ : lLc} {T : Nat}, qW y 0 ρ T → T = 0
  | [], T, h => h
  | (0, j) :: π, T, h => by have := h.1; rw [hy] at this; exact absurd this (by decide)
  | (1, j) :: π, T, h => by have := h.2.1; rw [hy] at this; exact absurd this (by decide)
  | (g + 2, j) :: π, T, h => by have := h.1; rw [hy] at this; exact absurd this (by decide)
/-- a path's variable is one of the function's; its type -/
theorem tv_ {Λ : List Nat} {gv v T : Nat} {ρ : lLc} (hF : FEn R S0 (eVf R S0 Λ gv) Λ gv) (hx : LX S0 S) (h : tPt (eVf R S0 Λ gv) k lv i s J) (h24 : i.kd ≠ 24) (e : i.pa = some (v, ρ, T)) : vTp S0 S i.n2 = (eVf R S0 Λ gv).vt v ∧ v < Λ.length := by
  obtain ⟨h1, ρ2, T2, h2, h3⟩ := h.pv h24 e
  have hn : (eVf R S0 Λ gv).vt v ≠ 0 := fun w => by
    rcases h2 with ⟨_, q⟩ | ⟨q, _⟩
    · rw [w] at q
      refine h3 (qW_0 ?_ q)
      show yK R S0 0 = 0
      unfold yK
      rw [if_neg (by omega), if_neg (by omega), if_neg (by omega)]
    · rw [w] at q; exact absurd q.1 (by decide)
  cases hv : Λ[v]? with
  | none =>
    refine absurd ?_ hn
    show vtS S0 Λ v = 0
    unfold vtS; rw [hv]
  | some a =>
    obtain ⟨⟨_, f1⟩, nm, mu, ty, f2, f3, _⟩ := hF.2.1 v a hv
    refine ⟨?_, (List.getElem?_eq_some_iff.mp hv).1⟩
    rw [f3, ← h1, f1]
    obtain ⟨g1, g2, g3, g4, g5⟩ := hx.it f2.1 f2.2
    unfold vTp
    rw [obF_o g3]
    have : g2[2]? = some (va_rf ty) := by rw [g5 2 (by decide) (Or.inl (by decide))]; rfl
    unfold rN
    rw [this]
    cases ty <;> rfl
end PS17
end
-- m2.s.lean.txt
section
/-- a function's points with their stacks -/
def FnI (R : yR) (S0 S : Sg) (E : eV) (Ps Pe L : Nat) (x : List tE) (I : Nat → iR) (st : Nat → List tE) (W : Nat → Prop) : Prop := wkS x (st Ps) ∧ W Ps ∧ ∀ k : Nat, Ps ≤ k → k < Pe → rz R S0 S k (I k) ∧ (∀ l : Nat, (I k).ln = some l → l < L) ∧ (∀ j ∈ (I k).sc, Ps ≤ j ∧ j < Pe ∧ (W k → W j) ∧ bkO S k j) ∧ wl (st k) ≤ 177 ∧ tPt E k (W k) (I k) (st k) (fun j s => Ps ≤ j ∧ j < Pe ∧ wkS s (st j))
/-- a function's code: points, stacks, what is reached, what lacks a value, who is used, who holds which loan -/
def FnP (R : yR) (S0 : Sg) (E : eV) (i mn Ps Pe L0 L : Nat) (I : Nat → iR) (st : Nat → List tE) (W : Nat → Prop) (rc : Nat → Int32) (tv : Nat → Nat) (mv lv : Nat → Int64) (H : Nat → Nat → Int64) (ql : Nat → Nat) : Prop :=
  (wkS (mkV (ksV 0 mn)) (st Ps) ∧ W Ps ∧ ∀ k : Nat, Ps ≤ k → k < Pe → (∀ j ∈ (I k).sc, Ps ≤ j ∧ j < Pe ∧ (W k → W j) ∧ (k < j ∨ (I j).kd = 0)) ∧ wl (st k) ≤ 177 ∧ tPt E k (W k) (I k) (st k) (fun j s => Ps ≤ j ∧ j < Pe ∧ wkS s (st j)) ∧ (∀ l : Nat, (I k).ln = some l → L0 ≤ l ∧ l < L ∧ (I k).n3 ≤ 1) ∧ hBd (I k) ∧ mBd (I k)) ∧
  (rc Ps ≠ 0 ∧ ∀ k : Nat, Ps ≤ k → k < Pe → rc k ≠ 0 → ∀ j ∈ (I k).sc, rc j ≠ 0) ∧
  ((∀ (k v T : Nat) (ρ : lLc), Ps ≤ k → k < Pe → (I k).kd ≠ 24 → (I k).pa = some (v, ρ, T) → tv k = E.vt v) ∧ MvD R S0 I tv rc mv Ps Pe ∧ ∀ k : Nat, Ps ≤ k → k < Pe → rc k ≠ 0 → MvW R S0 (tv k) (I k) mv k) ∧
  LvD I lv Ps Pe ∧
  (∀ l : Nat, l < L → LnD I rc (H l) l Ps Pe ∧ ∀ k k2 v2 T2 : Nat, ∀ ρ2 : lLc, Ps ≤ k → k < Pe → rc k ≠ 0 → Ps ≤ k2 → k2 < Pe → (I k2).ln = some l → (I k2).pa = some (v2, ρ2, T2) → NaB (I k) lv (H l) k l ∨ ∀ (v T : Nat) (ρ : lLc), (I k).pa = some (v, ρ, T) → (I k).ac ≠ 0 → (I k).n2 = (I k2).n2 → lCmp ρ ρ2 → MtP (I k) (nI (I k2).n3) ρ T) ∧
  (L0 ≤ L ∧ L ≤ 160 ∧ (∀ l : Nat, l < L0 → ql l < mn ∧ isRf (E.vt (ql l)) ∧ rb (H l) (4 * Ps) (ql l) = true ∧ ∀ k : Nat, Ps ≤ k → k < Pe → rc k ≠ 0 → (I k).kd = 25 → ¬ rlS R S0 i < 0 → lfS R S0 i (ql l) ≠ rlS R S0 i → rb (H l) (4 * k) (I k).n1 = false) ∧ ∀ q : Nat, q < mn → isRf (E.vt q) → ∃ l : Nat, l < L0 ∧ ql l = q)
/-- a function is laid and looked through -/
def FnQ (R : yR) (S0 S : Sg) (P i : Nat) : Prop := ∃ (Λ : List Nat) (gv mn Ps Pe L0 L : Nat) (I : Nat → iR) (st : Nat → List tE) (W : Nat → Prop) (rc : Nat → Int32) (tv : Nat → Nat) (mv lv : Nat → Int64) (H : Nat → Nat → Int64) (ql : Nat → Nat),
  (FEn R S0 (eVf R S0 Λ gv) Λ gv ∧ mn ≤ 12 ∧ mn ≤ Λ.length ∧ (hdS R S0 i).1 = mn ∧ (∀ q : Nat, q < mn → (hdS R S0 i).2.1 q = (eVf R S0 Λ gv).vt q ∧ (eVf R S0 Λ gv).vt q ≠ 0) ∧ (hdS R S0 i).2.2 = abT S0 gv) ∧
  (Ps < Pe ∧ Pe < 24000 ∧ ∃ fs : List Value, ZF S (R.ws i) = .inr (16, fs) ∧ fs[4]? = some (.int (nI Pe)) ∧ fs[5]? = some (.int (nI Ps))) ∧
  (∀ k : Nat, Ps ≤ k → k < Pe → rzq R S0 S k (I k)) ∧ FnP R S0 (eVf R S0 Λ gv) i mn Ps Pe L0 L I st W rc tv mv lv H ql ∧ Pe ≤ P
section PS18
variable {R : yR} {S0 S S1 S2 S3 S4 S5 Sr : Sg} {E : eV} {i mn Ps Pe L0 L gv : Nat} {x : List tE} {Λ : List Nat} {I : Nat → iR} {st : Nat → List tE} {W : Nat → Prop} {g : Nat → Int32}
theorem tsgR.ch (h : tsgR R S0 S E L Ps Pe x) : ∃ (I : Nat → iR) (st : Nat → List tE) (W : Nat → Prop), FnI R S0 S E Ps Pe L x I st W := by
  obtain ⟨st, W, h1, h2, h3, h4⟩ := h
  have : ∀ k : Nat, ∃ i : iR, Ps ≤ k → k < Pe → rz R S0 S k i ∧ (∀ l : Nat, i.ln = some l → l < L) ∧ (∀ j ∈ i.sc, Ps ≤ j ∧ j < Pe ∧ (W k → W j) ∧ bkO S k j) ∧ wl (st k) ≤ 177 ∧ tPt E k (W k) i (st k) (fun j s => Ps ≤ j ∧ j < Pe ∧ wkS s (st j)) := fun k => by
    by_cases q : Ps ≤ k ∧ k < Pe
    · obtain ⟨i, hi⟩ := h4 k q.1 q.2
      exact ⟨i, fun _ _ => hi⟩
    · exact ⟨(0, 0, none, (none, none), ([], []), [], (0, 0, 0), []), fun a b => absurd ⟨a, b⟩ q⟩
  obtain ⟨I, hI⟩ := Classical.skolem.mp this
  exact ⟨I, st, W, h1, h2, hI⟩
theorem FnI.hb (h : FnI R S0 S E Ps Pe L x I st W) (hL : L ≤ 160) : ∀ k : Nat, Ps ≤ k → k < Pe → hBd (I k) ∧ mBd (I k) ∧ ((I k).kd = 25 → (I k).n1 < 256) ∧ (I k).sc.length ≤ 12 := fun k a b => by
  obtain ⟨q1, q2, q3, q4, q5⟩ := h.2.2 k a b
  obtain ⟨r1, r2, r3, r4⟩ := q5.hb q4 q2 hL
  exact ⟨r1, r2, r3, q1.sl r4⟩
theorem FnI.pc {ws : Nat} (h : FnI R S0 S E Ps Pe L x I st W) (hL : L ≤ 160) (h1 : Ps < Pe) (h2 : Pe < 24000) (h3 : ws ∈ ZL S ∧ ∃ fs : List Value, ZF S ws = .inr (16, fs) ∧ fs[4]? = some (.int (nI Pe)) ∧ fs[5]? = some (.int (nI Ps))) : PCx R S0 S ws Ps Pe I := ⟨h1, h2, h3, fun k a b => by
  obtain ⟨q1, q2, q3, q4, q5⟩ := h.2.2 k a b
  obtain ⟨r1, r2, r3, r4⟩ := h.hb hL k a b
  exact ⟨q1, fun j hj => ⟨(q3 j hj).1, (q3 j hj).2.1⟩, r4, r1⟩⟩
/-- the certificate, of what the passes tell -/
theorem fnp_ {f : Nat → Int64} (hF : FEn R S0 (eVf R S0 Λ gv) Λ gv) (hx0 : LX S0 S) (hI : FnI R S0 S (eVf R S0 Λ gv) Ps Pe L (mkV (ksV 0 mn)) I st W) (hmn : mn ≤ 12) (hO : OUl R S0 S (eVf R S0 Λ gv) i mn L0) (h01 : L0 ≤ L) (hL : L ≤ 160) (h24 : Pe < 24000)
  (e3 : PSx S S3) (hr1 : Zr S3 52 Ps = 1) (hr2 : ∀ j : Nat, Ps ≤ j → j < Pe → Zr S3 52 j = 0 ∨ Zr S3 52 j = 1) (hr3 : ∀ k : Nat, Ps ≤ k → k < Pe → Zr S3 52 k = 1 → ∀ j ∈ (I k).sc, Zr S3 52 j = 1)
  (hm1 : MvD R S0 I (tvS S0 S3 I) (Zr S3 52) f Ps Pe) (hm2 : ∀ k : Nat, Ps ≤ k → k < Pe → Zr S3 52 k ≠ 0 → MvW R S0 (tvS S0 S3 I k) (I k) f k)
  (e4 : PSx S3 S4) (e4r : Zr S4 = Zr S3) (hl : ∃ lv : Nat → Int64, LvD I lv Ps Pe ∧ ∀ l : Nat, l < L → ∃ f : Nat → Int64, LnK R S0 S4 I lv f (rlS R S0 i) l Ps Pe) : ∃ (rc : Nat → Int32) (tv : Nat → Nat) (mv lv : Nat → Int64) (H : Nat → Nat → Int64) (ql : Nat → Nat), FnP R S0 (eVf R S0 Λ gv) i mn Ps Pe L0 L I st W rc tv mv lv H ql := by
  obtain ⟨lv, hlv, hln⟩ := hl
  have e34 := e3.tr e4
  have hH : ∀ l : Nat, ∃ f : Nat → Int64, l < L → LnK R S0 S4 I lv f (rlS R S0 i) l Ps Pe := fun l => by
    by_cases q : l < L
    · obtain ⟨f, hf⟩ := hln l q
      exact ⟨f, fun _ => hf⟩
    · exact ⟨fun _ => 0, fun a => absurd a q⟩
  obtain ⟨H, hH⟩ := Classical.skolem.mp hH
  have hQ : ∀ l : Nat, ∃ q : Nat, l < L0 → q < mn ∧ Zq S 43 l = none ∧ Zr S 44 l = 1 ∧ Zr S 45 l = nI q ∧ Zr S 46 l = lfS R S0 i q ∧ isRf ((eVf R S0 Λ gv).vt q) := fun l => by
    by_cases q : l < L0
    · obtain ⟨q, hq⟩ := hO.1 l q
      exact ⟨q, fun _ => hq⟩
    · exact ⟨0, fun a => absurd a q⟩
  obtain ⟨ql, hQ⟩ := Classical.skolem.mp hQ
  have z45 : ∀ l : Nat, Zr S4 45 l = Zr S 45 l := fun l => by rw [e34.2.2.2.2.2.1 45 (by decide)]
  have z46 : ∀ l : Nat, Zr S4 46 l = Zr S 46 l := fun l => by rw [e34.2.2.2.2.2.1 46 (by decide)]
  refine ⟨Zr S3 52, tvS S0 S3 I, f, lv, H, ql, ⟨hI.1, hI.2.1, fun k a b => ?_⟩, ⟨by rw [hr1]; decide, fun k a b c j hj => ?_⟩, ⟨fun k v T ρ a b c d => ?_, hm1, hm2⟩, hlv, fun l hl => ⟨?_, ?_⟩, h01, hL, fun l hl => ?_, fun q hq hrf => ?_⟩
  · obtain ⟨q1, q2, q3, q4, q5⟩ := hI.2.2 k a b
    obtain ⟨r1, r2, r3, r4⟩ := hI.hb hL k a b
    refine ⟨fun j hj => ⟨(q3 j hj).1, (q3 j hj).2.1, (q3 j hj).2.2.1, (q3 j hj).2.2.2.imp id (fun w => ?_)⟩, q4, q5, fun l e => ⟨?_, q2 l e, (by obtain ⟨_, _, _, _, _, _, _, _, _, _, q11, _⟩ := q1; exact (q11 l e).2.2.1)⟩, r1, r2⟩
    · have hz := (hI.2.2 j (q3 j hj).1 (q3 j hj).2.1).1
      have := hz.2.1
      exact nI_e (b := 0) (by omega) (by decide) (hz.1.symm.trans w)
    rcases Nat.lt_or_ge l L0 with w | w
    · obtain ⟨_, _, _, _, _, _, _, _, _, _, q11, _⟩ := q1
      obtain ⟨u1, _, _, u4, _⟩ := hQ l w
      have := (q11 l e).2.2.2
      rw [u4] at this
      exact absurd (show nI (ql l) < 0 by rw [this]; decide) (nI_nn (by omega))
    · exact w
  · have h1 : Zr S3 52 k = 1 := (hr2 k a b).resolve_left c
    rw [hr3 k a b h1 j hj]; decide
  · obtain ⟨q1, q2, q3, q4, q5⟩ := hI.2.2 k a b
    exact (tv_ hF (hx0.tr e3.lx) q5 c d).1
  · rw [← e4r]; exact (hH l hl).1
  · intro k k2 v2 T2 ρ2 a b c a2 b2 hl2 hp2
    have hk := (hH l hl).2.2 k a b (by rw [e4r]; exact c)
    refine hk.1.imp id (fun q v T ρ w1 w2 w3 w4 => ?_)
    have hz := ((hI.2.2 k2 a2 b2).1).ps e34
    obtain ⟨_, _, _, _, _, _, _, _, _, q10, q11, _⟩ := hz
    obtain ⟨u1, u2, _, _⟩ := q11 l hl2
    rcases q10 with ⟨_, z⟩ | ⟨wp, v', T', ρ', z1, z2, z3, z4⟩
    · rw [z] at hp2; cases hp2
    · rw [hp2] at z2; cases z2
      rw [← u2]
      exact q v T wp v2 T2 ρ ρ2 w1 w2 (u1.trans z1) z3 (by rw [w3]; exact z4) w4
  · obtain ⟨u1, u2, u3, u4, u5, u6⟩ := hQ l hl
    obtain ⟨k1, k2, k3⟩ := hH l (by omega)
    refine ⟨u1, u6, k2 (ql l) (by omega) (by rw [z45]; exact u4), fun k a b c k25 hr hne => ?_⟩
    exact (k3 k a b (by rw [e4r]; exact c)).2 k25 ⟨ql l, by rw [z45]; exact u4, by omega⟩ hr (by rw [z46, u5]; exact hne)
  · obtain ⟨l, l1, l2⟩ := hO.2 q hq hrf
    obtain ⟨u1, u2, u3, u4, u5, u6⟩ := hQ l l1
    exact ⟨l, l1, nI_e (by omega) (by omega) (u4.symm.trans l2)⟩
end PS18
end
