section PS112
variable {K : Ky} {T zs fu : Nat} {S1 S2 : Sg}
theorem nI_any (v : Int32) : ∃ n : Nat, v = nI n := ⟨v.toBitVec.toNat, by
  unfold nI
  refine Int32.toBitVec_inj.mp ?_
  show v.toBitVec = BitVec.ofNat 32 v.toBitVec.toNat
  rw [BitVec.ofNat_toNat]; simp⟩
/-- what the reading gives, if there is no fault -/
theorem rdR_ (hT : tkF (Zr S1 5) (Zr S1 6) (Zr S1 7) T zs) (hzs : zs ≤ 1300) (h9 : Zi S1 9 = nI T) (hz : ∀ a ∈ ZL S1, a < Zz S1) {p2 : Nat} (hI : PrI K T S1 S2 p2) (h3 : Zi S2 3 = 0) : ∃ R : yR, R.K = K ∧ R.S = S2 ∧ R.T = T ∧ R.zs = zs ∧ RDI R ∧ TS R 0 0 (Ui S2 19 0) ∧ (R.ps R.im = p2 ∧ R.im ≤ p2) ∧ F20 R (fun v => v = 0) (Ui S2 19 0) := by
  obtain ⟨ns, vv, bb, z2, f2, _, _, hg⟩ := hI
  obtain ⟨_, _, _, n, t, u, c1, c2, c3, c4, c5, c6, ws, ps, ms, w0, w1, p0, p1, hJ⟩ := hg h3
  have hpT := z2.1.2.1
  have hm : ∀ i : Nat, i < n → ws i < ws (i + 1) := fun i hi => (hJ i hi).2.1
  have hq : ∀ i : Nat, i < n → ps i + 2 ≤ ps (i + 1) := fun i hi => by
    have a := (hJ i hi).2.2.2.1; have b := (hJ i hi).2.2.2.2.1
    omega
  have hwl : ∀ i j : Nat, i ≤ j → j ≤ n → ws i ≤ ws j := fun i j a b => by
    have := mono_le2 hm (j - i) (i := i) (by omega)
    rwa [show i + (j - i) = j by omega] at this
  have hpl : ∀ i j : Nat, i ≤ j → j ≤ n → ps i ≤ ps j := fun i j a b => by
    have := mono_le2 (ws := ps) (n := n) (fun i hi => by have := hq i hi; omega) (j - i) (i := i) (by omega)
    rwa [show i + (j - i) = j by omega] at this
  have hni : ∀ i : Nat, i ≤ n → i ≤ ps i := fun i => by
    induction i with
    | zero => intro _; exact Nat.zero_le _
    | succ i ih => intro h; have := hq i (by omega); have := ih (by omega); omega
  have hn := hni n (Nat.le_refl _)
  have hL : ∀ a : Nat, Zz S1 ≤ a → a < Zz S2 → a ∈ ZL S2 := fun a h1 h2 => (f2.2.2.2.1 a).mpr (Or.inr ⟨h1, h2⟩)
  have hR5 : Zr S2 = Zr S1 := f2.2.1.1
  have hIv : ∀ i : Nat, i < n → ∀ a ∈ iv (ws i) (ws (i + 1)), a ∈ ZL S2 := fun i hi a ha => by
    obtain ⟨h1, h2⟩ := iv_m.mp ha
    have e1 := hwl 0 i (Nat.zero_le _) (by omega)
    have e2 := hwl (i + 1) n (by omega) (Nat.le_refl _)
    exact hL a (by omega) (by omega)
  have hk : ∀ i : Nat, ∃ z : Int32, i < n → ∃ fs : List Value, ZF S2 (ws i) = .inr (16, fs) ∧ fs[2]? = some (.int z) ∧ fs[20]? = some (.int 0) := fun i => by
    by_cases hi : i < n
    · obtain ⟨_, _, _, mn, na, g, _, _, _, _, h8⟩ := (hJ i hi).2.2
      rcases h8 with ⟨wa, ta, q', f, k1, _⟩ | ⟨vr, q', f, k1, _⟩ | ⟨lv, wa, ta, pa, lf, lo, q', va, b, bl, rs, f, gl, k1, _⟩
      · exact ⟨10, fun _ => ⟨_, k1, rfl, rfl⟩⟩
      · exact ⟨11, fun _ => ⟨_, k1, rfl, rfl⟩⟩
      · exact ⟨12, fun _ => ⟨_, k1, rfl, rfl⟩⟩
    · exact ⟨0, fun w => absurd w hi⟩
  obtain ⟨ik, hik⟩ := Classical.skolem.mp hk
  have hpw0 : ∀ a : Nat, ∃ o : Option Nat, ∀ i : Nat, i < n → ws i ≤ a → a < ws (i + 1) → o = some (ms i) := fun a => by
    by_cases c : ∃ i : Nat, i < n ∧ ws i ≤ a ∧ a < ws (i + 1)
    · obtain ⟨i, i1, i2, i3⟩ := c
      refine ⟨some (ms i), fun j j1 j2 j3 => ?_⟩
      have e : i = j := by
        rcases Nat.lt_trichotomy i j with q | q | q
        · have := hwl (i + 1) j q (by omega); omega
        · exact q
        · have := hwl (j + 1) i q (by omega); omega
      rw [e]
    · exact ⟨none, fun i a b d => absurd ⟨i, a, b, d⟩ c⟩
  obtain ⟨pw, hpw⟩ := Classical.skolem.mp hpw0
  have hII : ∀ i : Nat, i < n → isIt K (iv (ws i) (ws (i + 1))) (ZF S2) (Zr S2 5) (ws i) (ps i) (ms i) (ps (i + 1)) := fun i hi => by rw [hR5]; exact (hJ i hi).2.2
  have h70 : n ≤ 70 := by omega
  have hpa : ∀ (i : Nat) (fs : List Value) (pa : Nat), i < n → ZF S2 (ws i) = .inr (16, fs) → fs[17]? = some (.ref pa) → ws i ≤ pa ∧ pa < ws (i + 1) := fun i fs pa hi e1 e2 => iv_m.mp (isI_pa (hII i hi) e1 e2)
  refine ⟨(K, S2, T, zs, n, ws, ps, ms, ik, p2, pw), rfl, rfl, rfl, rfl, ⟨h70, c1, fun i j a b => ⟨hpl i j a b, hwl i j a b⟩, ?_, fun i hi => ⟨(hJ i hi).1, hII i hi, ?_, fun fs pa e1 e2 => hpw pa i hi (hpa i fs pa hi e1 e2).1 (hpa i fs pa hi e1 e2).2, hIv i hi⟩⟩, ⟨ZF S2, 0, fun _ => (0, 0, none), fun _ => 0, ⟨⟨⟨?_, (by show zs ≤ 3000; omega), hpT⟩, fun a _ => cs_rf _, ⟨h70, p0, p1, fun i hi => ⟨(hJ i hi).1, isI_ex (fun a ha => ⟨hIv i hi a ha, rfl⟩) (hII i hi), ?_⟩, fun i j pa hij hj fs gs e1 e2 e3 e4 => ?_⟩, ⟨fun t ht => absurd ht (Nat.not_lt_zero t), fun t u ht => absurd ht (Nat.not_lt_zero t)⟩, fun t ht => absurd ht (Nat.not_lt_zero t)⟩, ?_, ?_, Zi_s, rfl, rfl, ?_⟩, fun a ha => ⟨ha, rfl⟩, Nat.le_refl _, ⟨fun j _ _ h19 _ _ _ => Zi_n h19, fun _ _ => rfl, rfl, fun _ _ _ => rfl⟩⟩, ⟨p1, by show n ≤ p2; omega⟩, fun a ha => ?_⟩
  · show ps n ≤ T
    omega
  · obtain ⟨fs, e1, e2, _⟩ := hik i hi
    exact ⟨fs, e1, e2⟩
  · show tkF (Zr S2 5) (Zr S2 6) (Zr S2 7) T zs
    rw [hR5]; exact hT
  · obtain ⟨fs, e1, e2, _⟩ := hik i hi
    exact ⟨fs, e1, e2⟩
  · have a1 := hpa i fs pa (by have hj : j < n := hj; omega) e1 e3
    have a2 := hpa j gs pa hj e2 e4
    have := hwl (i + 1) j hij (by have hj : j < n := hj; omega)
    omega
  · exact (Zi_n (by decide)).trans ((f2.1 9 (by decide) (by decide) (by decide) (by decide) (by decide) (by decide) (by decide) (by decide) (by decide)).trans h9)
  · exact (Zi_n (by decide)).trans c1
  · intro a ha
    show a < Zz S2
    rcases (f2.2.2.2.1 a).mp ha with h | h
    · have := hz a h; have := f2.2.2.2.2.1.1; omega
    · exact h.2
  · obtain ⟨fs, e1, _, e2⟩ := hik a ha
    exact ⟨fs, 0, e1, e2, rfl⟩
/-- rows of one number, as they lie between two calls: no blank rows -/
def s52 (K : Ky) (S : Sg) : Prop := ∀ u : Nat, u < 256 → Zq S 51 u = none ∨ ∃ (a : Nat) (f : Nat → Int32), Zq S 51 u = some a ∧ a ∈ ZL S ∧ ZF S a = .inl (K.1 0, 1, .inl f) ∧ f 0 = nI u ∧ f 1 ≠ 0
/-- run, behind its scan -/
theorem run64_ (hk : ∀ i j : Nat, i < 14 → j < 14 → i ≠ j → K.1 i ≠ K.1 j) (hT : tkF (Zr S1 5) (Zr S1 6) (Zr S1 7) T zs) (hzs : zs ≤ 1300) (h9 : Zi S1 9 = nI T) (hS : mS K S1) (h52 : s52 K S1) (hfu : Zi S1 70 = nI fu) (hfu2 : fu ≤ 20000) (r1 : Zz S1 + 60000 ≤ K.2.1) (r2 : Zn S1 + 600000 ≤ K.2.2) : Rt (f_run64 K S1) (fun S2 _ => rE9 K S1 (110 * zs + 30) (490 * zs + 220) S2) := by
  have hT1 := hT.1; have hT2 := hT.2.1
  obtain ⟨vv, hv⟩ := nI_any (Zi S1 16)
  obtain ⟨bb, hb⟩ := nI_any (Zi S1 17)
  unfold f_run64
  refine Rt.bn (prg_ (T := T) hT.2.2.2.1 (by omega) (by omega) hS.2.2.2.2 hv hb (by omega) (by omega)) (fun S2 _ q => ?_)
  obtain ⟨p2, hI, _⟩ := q
  have hI0 := hI
  obtain ⟨ns, vv2, bb2, z2, f2, b1, b2, _⟩ := hI
  have hpT := z2.1.2.1
  have e2 : ∀ j : Nat, j = 83 ∨ j = 84 ∨ j = 86 ∨ j = 66 ∨ j = 1 ∨ j = 70 → Zi S2 j = Zi S1 j := fun j hj => f2.1 j (by omega) (by omega) (by omega) (by omega) (by omega) (by omega) (by omega) (by omega) (by omega)
  have hq51 : Zq S2 51 = Zq S1 51 := f2.2.1.2.2.1 51 (by decide)
  have h522 : s52 K S2 := fun u hu => by
    rcases h52 u hu with w | ⟨a, f, w1, w2, w3, w4⟩
    · exact Or.inl (by rw [hq51]; exact w)
    · exact Or.inr ⟨a, f, by rw [hq51]; exact w1, (f2.2.2.2.1 a).mpr (Or.inl w2), (f2.2.2.1 a (hS.2.2.2.2 a w2)).trans w3, w4⟩
  have hzz := f2.2.2.2.2.1.1
  have hS2 : mS K S2 := ⟨hS.1.eq (e2 83 (by decide)) (e2 84 (by decide)), by obtain ⟨c, a, b⟩ := hS.2.1; exact ⟨c, a, (e2 86 (by decide)).trans b⟩, by obtain ⟨c, a, b⟩ := hS.2.2.1; exact ⟨c, a, (e2 66 (by decide)).trans b⟩, fun u hu => (h522 u hu).imp id (fun ⟨a, f, w1, w2, w3, w4, _⟩ => ⟨a, f, w1, w2, w3, w4⟩), fun a ha => by
    rcases (f2.2.2.2.1 a).mp ha with h | h
    · have := hS.2.2.2.2 a h; omega
    · exact h.2⟩
  refine Rt.ok (fun h3 => ?_) (fun h3 => ?_)
  · obtain ⟨R, rfl, rfl, rfl, rfl, hD, hTS, ⟨hps, him⟩, hF⟩ := rdR_ hT hzs h9 hS.2.2.2.2 hI0 h3
    have hyRm : yRm R := ⟨by omega, by omega, hk⟩
    have hT9 : Zi R.S 9 = nI R.T := (f2.1 9 (by decide) (by decide) (by decide) (by decide) (by decide) (by decide) (by decide) (by decide) (by decide)).trans h9
    have h70 := hD.1
    have hty : Rt (f_typeAll R.K R.S) (fun S3 _ => TYF R 0 S3) := by
      unfold f_typeAll
      exact Rt.bd (v := Ui R.S 19 0) rfl (tya_ hyRm hD hT9 (by omega) (by omega) hTS (fun _ _ _ _ _ _ _ _ _ => rfl) hF (fun _ _ _ => rfl))
    refine Rt.bn hty (fun S3 _ t3 => ?_)
    have t30 := t3
    obtain ⟨c2, nv2, k1, k2, hS3, _⟩ := t3
    have hS30 := hS3
    obtain ⟨G, tm, Y, ad, s1, s2, s3, s4, s5, s6, s7⟩ := hS3
    have htm := ptN_ge (Y := Y) (tm := tm)
    have zz1 := s1.2.2.2.2.1
    have zz2 := s1.2.2.2.2.2.1
    have e3 : ∀ j : Nat, j = 83 ∨ j = 84 ∨ j = 86 ∨ j = 66 ∨ j = 1 ∨ j = 70 → Zi S3 j = Zi R.S j := fun j hj => s4 j (by omega) (by omega) (by omega) (by omega) (by omega) (by omega)
    have h513 : s51 R.K S3 := fun u hu => by
      rcases h522 u hu with w | ⟨a, f, w1, w2, w3, w4, w5⟩
      · exact Or.inl (by rw [s7 51 (by decide) (by decide)]; exact w)
      · exact Or.inr ⟨a, f, by rw [s7 51 (by decide) (by decide)]; exact w1, hS30.L w2, rl_ri s1.1.2.1 (s2 a w2).1 ((s2 a w2).2.trans w3) w5, w4⟩
    have hS33 : mS R.K S3 := ⟨hS2.1.eq (e3 83 (by decide)) (e3 84 (by decide)), by obtain ⟨c, a, b⟩ := hS2.2.1; exact ⟨c, a, (e3 86 (by decide)).trans b⟩, by obtain ⟨c, a, b⟩ := hS2.2.2.1; exact ⟨c, a, (e3 66 (by decide)).trans b⟩, h513, s1.2.2.2.2.2.2⟩
    have e1 : Zi S3 1 = Zi S1 1 := (e3 1 (by decide)).trans (e2 1 (by decide))
    unfold f_run_79
    refine Rt.ok (fun h33 => ?_) (fun h33 => ?_)
    · refine (lyr_ hyRm hD (by omega) (by omega) (by omega) hzs (by decide) t30 h33 h513 hS33.1 hS33.2.1 hS33.2.2.1 ((e3 70 (by decide)).trans ((e2 70 (by decide)).trans hfu)) hfu2).mo (fun S4 _ q4 => ?_)
      obtain ⟨q1, q2, q3, q4⟩ := q4
      exact ⟨q1, q2.trans e1, by omega, by omega⟩
    · exact run90b h33 ⟨hS33, e1, by omega, by omega⟩
  · unfold f_run_79
    refine Rt.ok (fun w => absurd w h3) (fun _ => ?_)
    exact run90b h3 ⟨hS2, e2 1 (by decide), by omega, by omega⟩
end PS112
