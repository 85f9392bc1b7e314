-- m6.i.lean.txt
section
section PS112
variable {K : Ky} {T zs fu : Nat} {S1 S2 : Sg}
theorem nI_any (v : Int32) : ∃ n : Nat, v = nI n := ⟨v.toBitVec.toNat, by
  unfold nI
  refine Int32.toBitVec_inj.mp ?_
  show v.toBitVec = BitVec.ofNat 32 v.toBitVec.toNat
  rw [BitVec.ofNat_toNat]; simp⟩
/-- what the reading gives, if there is no fault -/
theorem rdR_ (hT : tkF (Zr S1 5) (Zr S1 6) (Zr S1 7) T zs) (hzs : zs ≤ 1300) (h9 : Zi S1 9 = nI T) (hz : ∀ a ∈ ZL S1, a < Zz S1) {p2 : Nat} (hI : PrI K T S1 S2 p2) (h3 : Zi S2 3 = 0) : ∃ R : yR, R.K = K ∧ R.S = S2 ∧ R.T = T ∧ R.zs = zs ∧ RDI R ∧ TS R 0 0 (Ui S2 19 0) ∧ (R.ps R.im = p2 ∧ R.im ≤ p2) ∧ F20 R (fun v => v = 0) (Ui S2 19 0) := by
  obtain ⟨ns, vv, bb, z2, f2, _, _, hg⟩ := hI
  obtain ⟨_, _, _, n, t, u, c1, c2, c3, c4, c5, c6, ws, ps, ms, w0, w1, p0, p1, hJ⟩ := hg h3
  have hpT := z2.1.2.1
  have hm : ∀ i : Nat, i < n → ws i < ws (i + 1) := fun i hi => (hJ i hi).2.1
  have hq : ∀ i : Nat, i < n → ps i + 2 ≤ ps (i + 1) := fun i hi => by
    have a := (hJ i hi).2.2.2.1; have b := (hJ i hi).2.2.2.2.1
    omega
  have hwl : ∀ i j : Nat, i ≤ j → j ≤ n → ws i ≤ ws j := fun i j a b => by
    have := mono_le2 hm (j - i) (i := i) (by omega)
    rwa [show i + (j - i) = j by omega] at this
  have hpl : ∀ i j : Nat, i ≤ j → j ≤ n → ps i ≤ ps j := fun i j a b => by
    have := mono_le2 (ws := ps) (n := n) (fun i hi => by have := hq i hi; omega) (j - i) (i := i) (by omega)
    rwa [show i + (j - i) = j by omega] at this
  have hni : ∀ i : Nat, i ≤ n → i ≤ ps i := fun i => by
    induction i with
    | zero => intro _; exact Nat.zero_le _
    | succ i ih => intro h; have := hq i (by omega); have := ih (by omega); omega
  have hn := hni n (Nat.le_refl _)
  have hL : ∀ a : Nat, Zz S1 ≤ a → a < Zz S2 → a ∈ ZL S2 := fun a h1 h2 => (f2.2.2.2.1 a).mpr (Or.inr ⟨h1, h2⟩)
  have hR5 : Zr S2 = Zr S1 := f2.2.1.1
  have hIv : ∀ i : Nat, i < n → ∀ a ∈ iv (ws i) (ws (i + 1)), a ∈ ZL S2 := fun i hi a ha => by
    obtain ⟨h1, h2⟩ := iv_m.mp ha
    have e1 := hwl 0 i (Nat.zero_le _) (by omega)
    have e2 := hwl (i + 1) n (by omega) (Nat.le_refl _)
    exact hL a (by omega) (by omega)
  have hk : ∀ i : Nat, ∃ z : Int32, i < n → ∃ fs : List Value, ZF S2 (ws i) = .inr (16, fs) ∧ fs[2]? = some (.int z) ∧ fs[20]? = some (.int 0) := fun i => by
    by_cases hi : i < n
    · obtain ⟨_, _, _, mn, na, g, _, _, _, _, h8⟩ := (hJ i hi).2.2
      rcases h8 with ⟨wa, ta, q', f, k1, _⟩ | ⟨vr, q', f, k1, _⟩ | ⟨lv, wa, ta, pa, lf, lo, q', va, b, bl, rs, f, gl, k1, _⟩
      · exact ⟨10, fun _ => ⟨_, k1, rfl, rfl⟩⟩
      · exact ⟨11, fun _ => ⟨_, k1, rfl, rfl⟩⟩
      · exact ⟨12, fun _ => ⟨_, k1, rfl, rfl⟩⟩
    · exact ⟨0, fun w => absurd w hi⟩
  obtain ⟨ik, hik⟩ := Classical.skolem.mp hk
  have hpw0 : ∀ a : Nat, ∃ o : Option Nat, ∀ i : Nat, i < n → ws i ≤ a → a < ws (i + 1) → o = some (ms i) := fun a => by
    by_cases c : ∃ i : Nat, i < n ∧ ws i ≤ a ∧ a < ws (i + 1)
    · obtain ⟨i, i1, i2, i3⟩ := c
      refine ⟨some (ms i), fun j j1 j2 j3 => ?_⟩
      have e : i = j := by
        rcases Nat.lt_trichotomy i j with q | q | q
        · have := hwl (i + 1) j q (by omega); omega
        · exact q
        · have := hwl (j + 1) i q (by omega); omega
      rw [e]
    · exact ⟨none, fun i a b d => absurd ⟨i, a, b, d⟩ c⟩
  obtain ⟨pw, hpw⟩ := Classical.skolem.mp hpw0
  have hII : ∀ i : Nat, i < n → isIt K (iv (ws i) (ws (i + 1))) (ZF S2) (Zr S2 5) (ws i) (ps i) (ms i) (ps (i + 1)) := fun i hi => by rw [hR5]; exact (hJ i hi).2.2
  have h70 : n ≤ 70 := by omega
  have hpa : ∀ (i : Nat) (fs : List Value) (pa : Nat), i < n → ZF S2 (ws i) = .inr (16, fs) → fs[17]? = some (.ref pa) → ws i ≤ pa ∧ pa < ws (i + 1) := fun i fs pa hi e1 e2 => iv_m.mp (isI_pa (hII i hi) e1 e2)
  refine ⟨(K, S2, T, zs, n, ws, ps, ms, ik, p2, pw), rfl, rfl, rfl, rfl, ⟨h70, c1, fun i j a b => ⟨hpl i j a b, hwl i j a b⟩, ?_, fun i hi => ⟨(hJ i hi).1, hII i hi, ?_, fun fs pa e1 e2 => hpw pa i hi (hpa i fs pa hi e1 e2).1 (hpa i fs pa hi e1 e2).2, hIv i hi⟩⟩, ⟨ZF S2, 0, fun _ => (0, 0, none), fun _ => 0, ⟨⟨⟨?_, (by show zs ≤ 3000; omega), hpT⟩, fun a _ => cs_rf _, ⟨h70, p0, p1, fun i hi => ⟨(hJ i hi).1, isI_ex (fun a ha => ⟨hIv i hi a ha, rfl⟩) (hII i hi), ?_⟩, fun i j pa hij hj fs gs e1 e2 e3 e4 => ?_⟩, ⟨fun t ht => absurd ht (Nat.not_lt_zero t), fun t u ht => absurd ht (Nat.not_lt_zero t)⟩, fun t ht => absurd ht (Nat.not_lt_zero t)⟩, ?_, ?_, Zi_s, rfl, rfl, ?_⟩, fun a ha => ⟨ha, rfl⟩, Nat.le_refl _, ⟨fun j _ _ h19 _ _ _ => Zi_n h19, fun _ _ => rfl, rfl, fun _ _ _ => rfl⟩⟩, ⟨p1, by show n ≤ p2; omega⟩, fun a ha => ?_⟩
  · show ps n ≤ T
    omega
  · obtain ⟨fs, e1, e2, _⟩ := hik i hi
    exact ⟨fs, e1, e2⟩
  · show tkF (Zr S2 5) (Zr S2 6) (Zr S2 7) T zs
    rw [hR5]; exact hT
  · obtain ⟨fs, e1, e2, _⟩ := hik i hi
    exact ⟨fs, e1, e2⟩
  · have a1 := hpa i fs pa (by have hj : j < n := hj; omega) e1 e3
    have a2 := hpa j gs pa hj e2 e4
    have := hwl (i + 1) j hij (by have hj : j < n := hj; omega)
    omega
  · exact (Zi_n (by decide)).trans ((f2.1 9 (by decide) (by decide) (by decide) (by decide) (by decide) (by decide) (by decide) (by decide) (by decide)).trans h9)
  · exact (Zi_n (by decide)).trans c1
  · intro a ha
    show a < Zz S2
    rcases (f2.2.2.2.1 a).mp ha with h | h
    · have := hz a h; have := f2.2.2.2.2.1.1; omega
    · exact h.2
  · obtain ⟨fs, e1, _, e2⟩ := hik a ha
    exact ⟨fs, 0, e1, e2, rfl⟩
/-- rows of one number, as they lie between two calls: no blank rows -/
def s52 (K : Ky) (S : Sg) : Prop := ∀ u : Nat, u < 256 → Zq S 51 u = none ∨ ∃ (a : Nat) (f : Nat → Int32), Zq S 51 u = some a ∧ a ∈ ZL S ∧ ZF S a = .inl (K.1 0, 1, .inl f) ∧ f 0 = nI u ∧ f 1 ≠ 0
/-- run, behind its scan -/
theorem run64_ (hk : ∀ i j : Nat, i < 14 → j < 14 → i ≠ j → K.1 i ≠ K.1 j) (hT : tkF (Zr S1 5) (Zr S1 6) (Zr S1 7) T zs) (hzs : zs ≤ 1300) (h9 : Zi S1 9 = nI T) (hS : mS K S1) (h52 : s52 K S1) (hfu : Zi S1 70 = nI fu) (hfu2 : fu ≤ 20000) (r1 : Zz S1 + 60000 ≤ K.2.1) (r2 : Zn S1 + 600000 ≤ K.2.2) : Rt (f_run64 K S1) (fun S2 _ => rE9 K S1 (110 * zs + 30) (490 * zs + 220) S2) := by
  have hT1 := hT.1; have hT2 := hT.2.1
  obtain ⟨vv, hv⟩ := nI_any (Zi S1 16)
  obtain ⟨bb, hb⟩ := nI_any (Zi S1 17)
  unfold f_run64
  refine Rt.bn (prg_ (T := T) hT.2.2.2.1 (by omega) (by omega) hS.2.2.2.2 hv hb (by omega) (by omega)) (fun S2 _ q => ?_)
  obtain ⟨p2, hI, _⟩ := q
  have hI0 := hI
  obtain ⟨ns, vv2, bb2, z2, f2, b1, b2, _⟩ := hI
  have hpT := z2.1.2.1
  have e2 : ∀ j : Nat, j = 83 ∨ j = 84 ∨ j = 86 ∨ j = 66 ∨ j = 1 ∨ j = 70 → Zi S2 j = Zi S1 j := fun j hj => f2.1 j (by omega) (by omega) (by omega) (by omega) (by omega) (by omega) (by omega) (by omega) (by omega)
  have hq51 : Zq S2 51 = Zq S1 51 := f2.2.1.2.2.1 51 (by decide)
  have h522 : s52 K S2 := fun u hu => by
    rcases h52 u hu with w | ⟨a, f, w1, w2, w3, w4⟩
    · exact Or.inl (by rw [hq51]; exact w)
    · exact Or.inr ⟨a, f, by rw [hq51]; exact w1, (f2.2.2.2.1 a).mpr (Or.inl w2), (f2.2.2.1 a (hS.2.2.2.2 a w2)).trans w3, w4⟩
  have hzz := f2.2.2.2.2.1.1
  have hS2 : mS K S2 := ⟨hS.1.eq (e2 83 (by decide)) (e2 84 (by decide)), by obtain ⟨c, a, b⟩ := hS.2.1; exact ⟨c, a, (e2 86 (by decide)).trans b⟩, by obtain ⟨c, a, b⟩ := hS.2.2.1; exact ⟨c, a, (e2 66 (by decide)).trans b⟩, fun u hu => (h522 u hu).imp id (fun ⟨a, f, w1, w2, w3, w4, _⟩ => ⟨a, f, w1, w2, w3, w4⟩), fun a ha => by
    rcases (f2.2.2.2.1 a).mp ha with h | h
    · have := hS.2.2.2.2 a h; omega
    · exact h.2⟩
  refine Rt.ok (fun h3 => ?_) (fun h3 => ?_)
  · obtain ⟨R, rfl, rfl, rfl, rfl, hD, hTS, ⟨hps, him⟩, hF⟩ := rdR_ hT hzs h9 hS.2.2.2.2 hI0 h3
    have hyRm : yRm R := ⟨by omega, by omega, hk⟩
    have hT9 : Zi R.S 9 = nI R.T := (f2.1 9 (by decide) (by decide) (by decide) (by decide) (by decide) (by decide) (by decide) (by decide) (by decide)).trans h9
    have h70 := hD.1
    have hty : Rt (f_typeAll R.K R.S) (fun S3 _ => TYF R 0 S3) := by
      unfold f_typeAll
      exact Rt.bd (v := Ui R.S 19 0) rfl (tya_ hyRm hD hT9 (by omega) (by omega) hTS (fun _ _ _ _ _ _ _ _ _ => rfl) hF (fun _ _ _ => rfl))
    refine Rt.bn hty (fun S3 _ t3 => ?_)
    have t30 := t3
    obtain ⟨c2, nv2, k1, k2, hS3, _⟩ := t3
    have hS30 := hS3
    obtain ⟨G, tm, Y, ad, s1, s2, s3, s4, s5, s6, s7⟩ := hS3
    have htm := ptN_ge (Y := Y) (tm := tm)
    have zz1 := s1.2.2.2.2.1
    have zz2 := s1.2.2.2.2.2.1
    have e3 : ∀ j : Nat, j = 83 ∨ j = 84 ∨ j = 86 ∨ j = 66 ∨ j = 1 ∨ j = 70 → Zi S3 j = Zi R.S j := fun j hj => s4 j (by omega) (by omega) (by omega) (by omega) (by omega) (by omega)
    have h513 : s51 R.K S3 := fun u hu => by
      rcases h522 u hu with w | ⟨a, f, w1, w2, w3, w4, w5⟩
      · exact Or.inl (by rw [s7 51 (by decide) (by decide)]; exact w)
      · exact Or.inr ⟨a, f, by rw [s7 51 (by decide) (by decide)]; exact w1, hS30.L w2, rl_ri s1.1.2.1 (s2 a w2).1 ((s2 a w2).2.trans w3) w5, w4⟩
    have hS33 : mS R.K S3 := ⟨hS2.1.eq (e3 83 (by decide)) (e3 84 (by decide)), by obtain ⟨c, a, b⟩ := hS2.2.1; exact ⟨c, a, (e3 86 (by decide)).trans b⟩, by obtain ⟨c, a, b⟩ := hS2.2.2.1; exact ⟨c, a, (e3 66 (by decide)).trans b⟩, h513, s1.2.2.2.2.2.2⟩
    have e1 : Zi S3 1 = Zi S1 1 := (e3 1 (by decide)).trans (e2 1 (by decide))
    unfold f_run_79
    refine Rt.ok (fun h33 => ?_) (fun h33 => ?_)
    · refine (lyr_ hyRm hD (by omega) (by omega) (by omega) hzs (by decide) t30 h33 h513 hS33.1 hS33.2.1 hS33.2.2.1 ((e3 70 (by decide)).trans ((e2 70 (by decide)).trans hfu)) hfu2).mo (fun S4 _ q4 => ?_)
      obtain ⟨q1, q2, q3, q4⟩ := q4
      exact ⟨q1, q2.trans e1, by omega, by omega⟩
    · exact run90b h33 ⟨hS33, e1, by omega, by omega⟩
  · unfold f_run_79
    refine Rt.ok (fun w => absurd w h3) (fun _ => ?_)
    exact run90b h3 ⟨hS2, e2 1 (by decide), by omega, by omega⟩
end PS112
end
-- m6.j.lean.txt
section
section PS113
/-- how run ends -/
def PhR (K : Ky) (S0 : Sg) (ln : Nat) (Sf : Sg) (rv : Option Value) : Prop := ∃ v : Int32, rv = some (.int v) ∧ mS K Sf ∧ ∃ l2 : Nat, Zi Sf 1 = nI l2 ∧ l2 ≤ ln ∧ Zz Sf + 110 * l2 ≤ Zz S0 + 110 * ln + 30 ∧ Zn Sf + 490 * l2 ≤ Zn S0 + 490 * ln + 220
def wRun : List Cond := Cond.code yX23_run cX23_run 3 (some .int) :: (wScan RX23 ++ wR)
theorem gd_Scan {T : List Cond} (h : ∀ w ∈ wScan RX23, w ∈ T) : GoodIn T (wScan RX23) := goodIn_app (goodIn_sub (fun w hw => h w (List.mem_append_left _ hw)) (by decide +kernel)) (goodIn_app (goodIn_sub (fun w hw => h w (List.mem_append_right _ (List.mem_append_left _ hw))) wg_c_rscan) (goodIn_app (goodIn_sub (fun w hw => h w (List.mem_append_right _ (List.mem_append_right _ (List.mem_append_left _ hw)))) gd_X23) goodIn_n))
theorem gd_Run {T : List Cond} (h : ∀ w ∈ wRun, w ∈ T) : GoodIn T wRun := fun w hw => by
  have h1 : ([Cond.code yX23_run cX23_run 3 (some .int)] : List Cond).all goodWord = true := by decide +kernel
  rcases List.mem_cons.mp hw with e | hw2
  · rw [e]
    exact ⟨h _ List.mem_cons_self, good_of_word (List.all_eq_true.mp h1 _ List.mem_cons_self)⟩
  · rcases List.mem_append.mp hw2 with hw3 | hw3
    · exact gd_Scan (fun w hw => h w (List.mem_cons_of_mem _ (List.mem_append_left _ hw))) w hw3
    · exact ⟨h w hw, (gd_R w hw3).2⟩
theorem k_mrun {l : Launch} {D : va_G} {K : Ky} {m9 : Nat} {mr : Nat → Nat} {S0 : Sg} {ln t0 t1 t2 t3 : Nat} {n fu : Int32} (hk : ∀ i j : Nat, i < 14 → j < 14 → i ≠ j → K.1 i ≠ K.1 j) (hS : mS K S0) (h52 : s52 K S0) (h1 : Zi S0 1 = nI ln) (hln : ln ≤ 1300) (r1 : Zz S0 + 60000 ≤ K.2.1) (r2 : Zn S0 + 600000 ≤ K.2.2) : Met l yX23_run wRun { frames := 1840, cells := K.2.1 - Zz S0, slots := K.2.2 - Zn S0, locals := 44100 } (va_Pc [.ref m9, .int n, .int fu] (fun U => PI D (fun _ => True) K m9 mr U.heap S0 S0 U.heap [] ∧ va_K D vwCl (TY K.1) U ∧ nsM U ∧ nwA U ∧ stA t0 t1 t2 t3 (AA K m9 mr S0) U U.heap)) (QCP D K m9 mr S0 (PhR K S0 ln)) (K.2.1 - Zz S0) (K.2.2 - Zn S0) (AA K m9 mr S0) := by
  refine Met.ofW (cc := cX23_run) (maxL := 3) (ret := some .int) (by decide) rfl ?_
  intro p e s m args below meth c s₁ B hml hv
  obtain ⟨rfl, hP, hK, hns, hnw, hst⟩ := hv
  have hz : Zz S0 = s.heap.size := hP.2.2.2.1.symm
  have hl := lv_entry [.ref m9, .int n, .int fu] (n := 3) (Nat.le_of_ble_eq_true rfl)
  rw [lg_entry_eq]
  generalize (lg_sl [.ref m9, .int n, .int fu] ++ List.replicate (3 - (lg_sl [.ref m9, .int n, .int fu]).length) Slot.unset).toArray = ls at hl ⊢
  have hl : lv_has ls 3 [(0, .ref m9), (1, .int n), (2, .int fu)] := hl
  have CXm : ∀ (Sf : Sg) (rv : Option Value), PhR K S0 ln Sf rv → CX p l e (headSpec wRun ({ frames := 1840, cells := K.2.1 - Zz S0, slots := K.2.2 - Zn S0, locals := 44100 } : Room)).room s m ([.ref m9, .int n, .int fu] : List Value).toArray below meth c (MQ below (QCP D K m9 mr S0 (PhR K S0 ln)) ([.ref m9, .int n, .int fu] : List Value).toArray s (K.2.1 - Zz S0) (K.2.2 - Zn S0) (AA K m9 mr S0)) D (AA K m9 mr S0) K m9 mr RX23 "run" cX23_run 3 wRun (some .int) 1840 44100 S0 Sf rv := fun Sf rv h =>
    ⟨⟨B.exec, B.bytes, hml, findClass_of_methodNamed B.named, atoms_spec (ws := wRun) B.pre⟩, fun w h => List.mem_cons_of_mem _ (List.mem_append_right _ h), hK, hns, hnw, fun q h => Or.inr (by rw [hz]; exact h), ⟨rfl, rfl, rfl, rfl⟩, B.returns, ⟨B.notSynchronized, (name_of_methodNamed B.named B.method).1⟩, hz, rfl, _, h, rfl⟩
  have h0 : PhR K S0 ln S0 (some (.int (-1))) := ⟨-1, rfl, hS, ln, h1, Nat.le_refl _, by omega, by omega⟩
  obtain ⟨S8, e8⟩ : ∃ S8 : Sg, S8 = Ui (Ui (Ui (Ui (Ui (Ui (Ui S0 2 n) 1 0) 3 0) 4 (-1)) 70 fu) 68 0) 69 0 := ⟨_, rfl⟩
  let V : Sg → Option (Sg × Int32) := fun S => @ite _ (S = S8 ∧ ¬ n < 0 ∧ ¬ Zi S0 1 < n ∧ ¬ fu < 0 ∧ fu ≤ 20000) (Classical.propDecidable _) (some (S0, -1)) none
  have hf : f_runP K V S0 n fu = some (S0, -1) := by
    unfold f_runP f_runP_23
    by_cases a1 : n < 0
    · rw [if_pos a1]
    by_cases a2 : Zi S0 1 < n
    · rw [if_neg a1, if_pos a2]
    by_cases a3 : fu < 0
    · rw [if_neg a1, if_neg a2, if_pos a3]
    by_cases a4 : fu ≤ 20000
    · rw [if_neg a1, if_neg a2, if_neg a3, if_pos a4]
      show V (Ui (Ui (Ui (Ui (Ui (Ui (Ui S0 2 n) 1 0) 3 0) 4 (-1)) 70 fu) 68 0) 69 0) = _
      rw [← e8]
      exact if_pos ⟨rfl, a1, a2, a3, a4⟩
    · rw [if_neg a1, if_neg a2, if_neg a3, if_neg a4]
  have h9 := k_runP (V := V) (S0 := S0) (x1 := n) (x2 := fu) (CXm S0 _ h0) (fun S hVS => ?_) hf s.heap [] ls ⟨hP.1, hP.2.1.self, va_S.rf, hP.2.2.2⟩ hl
  · rw [Nat.sub_self, Nat.sub_self] at h9
    exact h9
  · by_cases cc : S = S8 ∧ ¬ n < 0 ∧ ¬ Zi S0 1 < n ∧ ¬ fu < 0 ∧ fu ≤ 20000
    · obtain ⟨rfl, a1, a2, a3, a4⟩ := cc
      rw [h1] at a2
      obtain ⟨zs, hzs, en⟩ := i32_le a1 (show ln < 2 ^ 31 by omega) a2
      obtain ⟨fuN, hfu, ef⟩ := i32_le (k := 20000) a3 (by decide) (Int32.not_lt.mpr a4)
      have zi : ∀ j : Nat, j ≠ 2 → j ≠ 1 → j ≠ 3 → j ≠ 4 → j ≠ 70 → j ≠ 68 → j ≠ 69 → Zi S j = Zi S0 j := fun j b1 b2 b3 b4 b5 b6 b7 => by
        rw [e8, Zi_n b7, Zi_n b6, Zi_n b5, Zi_n b4, Zi_n b3, Zi_n b2, Zi_n b1]
      have z2 : Zi S 2 = nI zs := by rw [e8, ← en]; rfl
      have z1 : Zi S 1 = 0 := by rw [e8]; rfl
      have z70 : Zi S 70 = nI fuN := by rw [e8, ← ef]; rfl
      have zr : Zz S = Zz S0 ∧ Zn S = Zn S0 ∧ ZL S = ZL S0 ∧ ZF S = ZF S0 ∧ Zq S = Zq S0 := by rw [e8]; exact ⟨rfl, rfl, rfl, rfl, rfl⟩
      refine x_scan (CXm S0 _ h0) (zs := zs) (t0 := t0) (t1 := t1) (t2 := t2) (t3 := t3) (by omega) z2 hst (gd_Scan (fun w hw => List.mem_cons_of_mem _ (List.mem_append_left _ hw))) ⟨by decide, by decide⟩ (Nat.le_of_ble_eq_true rfl) eX23_run_61 (fun T gk ga ge gn hT => ?_)
      obtain ⟨w1, ⟨c, c1, c2⟩, ⟨h, d1, d2⟩, w4, w5⟩ := hS
      have hS8 : mS K (scS S gk ga ge gn T) := ⟨w1.eq ((scS_i (by decide)).trans (zi 83 (by decide) (by decide) (by decide) (by decide) (by decide) (by decide) (by decide))) ((scS_i (by decide)).trans (zi 84 (by decide) (by decide) (by decide) (by decide) (by decide) (by decide) (by decide))), ⟨c, c1, ((scS_i (by decide)).trans (zi 86 (by decide) (by decide) (by decide) (by decide) (by decide) (by decide) (by decide))).trans c2⟩, ⟨h, d1, ((scS_i (by decide)).trans (zi 66 (by decide) (by decide) (by decide) (by decide) (by decide) (by decide) (by decide))).trans d2⟩, fun u hu => by
        show Zq S 51 u = none ∨ ∃ (a : Nat) (f : Nat → Int32), Zq S 51 u = some a ∧ a ∈ ZL S ∧ ZF S a = _ ∧ _
        rw [zr.2.2.1, zr.2.2.2.1, zr.2.2.2.2]; exact w4 u hu, fun a ha => by
        have ha : a ∈ ZL S := ha
        show a < Zz S
        rw [zr.2.2.1] at ha; rw [zr.1]; exact w5 a ha⟩
      have h528 : s52 K (scS S gk ga ge gn T) := fun u hu => by
        show Zq S 51 u = none ∨ ∃ (a : Nat) (f : Nat → Int32), Zq S 51 u = some a ∧ a ∈ ZL S ∧ ZF S a = _ ∧ _
        rw [zr.2.2.1, zr.2.2.2.1, zr.2.2.2.2]; exact h52 u hu
      have zz8 : Zz (scS S gk ga ge gn T) = Zz S0 := zr.1
      have zn8 : Zn (scS S gk ga ge gn T) = Zn S0 := zr.2.1
      obtain ⟨S2, r, hrun, hE1, hE2, hE3, hE4⟩ := run64_ (S1 := scS S gk ga ge gn T) (T := T) (zs := zs) (fu := fuN) hk hT (by omega) rfl hS8 h528 ((scS_i (by decide)).trans z70) hfu (by rw [zz8]; exact r1) (by rw [zn8]; exact r2)
      exact k_run64 (Nat.le_of_ble_eq_true rfl) (Nat.le_of_ble_eq_true rfl) (CXm S2 _ ⟨r, rfl, hE1, 0, hE2.trans ((scS_i (by decide)).trans z1), Nat.zero_le _, by omega, by omega⟩) hrun
    · have hVS : @ite _ (S = S8 ∧ ¬ n < 0 ∧ ¬ Zi S0 1 < n ∧ ¬ fu < 0 ∧ fu ≤ 20000) (Classical.propDecidable _) (some (S0, (-1 : Int32))) none = some (S0, -1) := hVS
      rw [if_neg cc] at hVS
      cases hVS
end PS113
end
