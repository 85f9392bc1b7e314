section PS111
variable {R : yR} {S0 S S1 S2 Sl : Sg} {nv fu : Nat}
theorem LX.unr (h : LX S0 (rst S)) : LX S0 S := ⟨h.1, fun j a b c d => (rst_z b c d.1).symm.trans (h.2.1 j a b c d), h.2.2.1, h.2.2.2.1, h.2.2.2.2.1, h.2.2.2.2.2.1, h.2.2.2.2.2.2.1, h.2.2.2.2.2.2.2⟩
/-- the reference between two calls -/
def s51 (K : Ky) (S : Sg) : Prop := ∀ u : Nat, u < 256 → Zq S 51 u = none ∨ ∃ (a : Nat) (f : Nat → Int32), Zq S 51 u = some a ∧ a ∈ ZL S ∧ ZF S a = .inl (K.1 0, 1, .inl f) ∧ f 0 = nI u
def mS (K : Ky) (S : Sg) : Prop := wq S ∧ (∃ c : Nat, c ≤ 60 ∧ Zi S 86 = nI c) ∧ (∃ h : Nat, h ≤ 4000 ∧ Zi S 66 = nI h) ∧ s51 K S ∧ ∀ a ∈ ZL S, a < Zz S
/-- a run's end: at most z cells, n slots came -/
def rE9 (K : Ky) (S1 : Sg) (z n : Nat) (S2 : Sg) : Prop := mS K S2 ∧ Zi S2 1 = Zi S1 1 ∧ Zz S2 ≤ Zz S1 + z ∧ Zn S2 ≤ Zn S1 + n
theorem mS.ui {K : Ky} {k : Nat} {v : Int32} (h : mS K S) (hk : k = 88 ∨ k = 71 ∨ k = 3 ∨ k = 4) : mS K (Ui S k v) := ⟨h.1.eq (Zi_n (by omega)) (Zi_n (by omega)), by obtain ⟨c, a, b⟩ := h.2.1; exact ⟨c, a, (Zi_n (by omega)).trans b⟩, by obtain ⟨c, a, b⟩ := h.2.2.1; exact ⟨c, a, (Zi_n (by omega)).trans b⟩, h.2.2.2.1, h.2.2.2.2⟩
theorem rE9.ui {K : Ky} {k z n : Nat} {v : Int32} (h : rE9 K S1 z n S) (hk : k = 88 ∨ k = 71 ∨ k = 3 ∨ k = 4) : rE9 K S1 z n (Ui S k v) := ⟨h.1.ui hk, (Zi_n (by omega)).trans h.2.1, h.2.2.1, h.2.2.2⟩
theorem run120 {K : Ky} {z n : Nat} (h : rE9 K S1 z n S) : Rt (f_run_120 K S) (fun S2 _ => rE9 K S1 z n S2) := Rt.bd (v := Ui S 71 (Zi S 70)) rfl (Rt.rt (h.ui (by decide)))
/-- behind a fault -/
theorem run90b {K : Ky} {z n : Nat} (h3 : ¬ Zi S 3 = 0) (h : rE9 K S1 z n S) : Rt (f_run_90 K S) (fun S2 _ => rE9 K S1 z n S2) := by
  unfold f_run_90
  refine Rt.ok (fun w => absurd w h3) (fun _ => ?_)
  unfold f_run_106
  refine Rt.bd (v := Ui S 88 (Zi S 4)) rfl ?_
  exact Rt.ok (fun w => absurd ((Zi_n (by decide)).symm.trans w) h3) (fun _ => run120 (h.ui (by decide)))
theorem flS_rE9 {K : Ky} {z n : Nat} {wh x : Int32} (h : rE9 K S1 z n S) : rE9 K S1 z n (flS S wh x) := by
  unfold flS
  by_cases q : Zi S 3 = 0
  · rw [if_pos q]; exact (h.ui (by decide)).ui (by decide)
  · rw [if_neg q]; exact h
/-- laying and running -/
theorem lyr_ (hK : yRm R) (hD : RDI R) (hT : R.T ≤ 3001) (hpT : R.ps R.im < R.T) (hp : R.ps R.im ≤ 1990) (hzs : R.zs ≤ 1300) (hnv : nv ≤ 10) (h : TYF R nv S0) (h3 : Zi S0 3 = 0) (h51 : s51 R.K S0) (hq : wq S0) (h86 : ∃ c : Nat, c ≤ 60 ∧ Zi S0 86 = nI c) (h66 : ∃ h : Nat, h ≤ 4000 ∧ Zi S0 66 = nI h) (hfu : Zi S0 70 = nI fu) (hfu2 : fu ≤ 20000) : Rt (bnd (f_layAll R.K S0) fun S9 _ => f_run_90 R.K S9) (fun S2 _ => rE9 R.K S0 (20 * R.zs + 40 * R.im) (60 * R.zs + 100 * R.im) S2) := by
  have h0 := h
  obtain ⟨hE, ⟨g, hL⟩, hFT, hM, hz, h12⟩ := enb_ hD hT hp h h3
  obtain ⟨c2, nv2, t1, t2, hS, t4⟩ := h
  obtain ⟨bw, hB, hb⟩ := bw_ hS
  have him := hD.1
  have hb2 := hb (R.ps R.im) hpT
  have hTS := hS
  obtain ⟨G, tm, Y, ad, s1, s2, s3, _⟩ := hS
  have htm : tm ≤ 2000 := by have := ptN_ge (Y := Y) (tm := tm); omega
  have hz1 := s1.2.2.2.2.1
  have hz2 := s1.2.2.2.2.2.1
  have hk1 := hK.1
  have hk2 := hK.2.1
  have hZ : ∀ a ∈ ZL R.S, a ∈ ZL S0 := fun a ha => hTS.L ha
  have hws : ∀ i : Nat, i < R.im → R.ws i ∈ ZL R.S := fun i hi => by
    obtain ⟨_, k2, _, _, k5⟩ := hD.2.2.2.2 i hi
    exact k5 _ k2.1
  refine Rt.bn (lyA_ hE hL hFT hB (fun i j a b => (hD.2.2.1 i j a b).1) hD.2.2.2.1 (fun i hi hk => ?_) (fun i j hi hj hne => hD.wi hi hj hne) h12 (by omega) ⟨by omega, by omega⟩ (lc0 h51 hz) h3) (fun S2 _ q => ?_)
  · obtain ⟨_, k2, _⟩ := hD.2.2.2.2 i hi
    have := k2.2.1
    omega
  -- what the laying leaves for the calls
  have hmE : ∀ (S3 : Sg) (P : Nat), LC R S0 (rst S3) P 0 [] 0 → Zz S3 ≤ Zz S0 + (20 * (bw (R.ps R.im) - bw (R.ps 0)) + 40 * R.im) → Zn S3 ≤ Zn S0 + (60 * (bw (R.ps R.im) - bw (R.ps 0)) + 100 * R.im) → rE9 R.K S0 (20 * R.zs + 40 * R.im) (60 * R.zs + 100 * R.im) S3 := fun S3 P c z1 z2 => by
    have hx := LX.unr c.1
    have e := fun j a b c d => hx.2.1 j a b c d
    refine ⟨⟨hq.eq (e 83 (by decide) (by decide) (by decide) (by decide)) (e 84 (by decide) (by decide) (by decide) (by decide)), ?_, ?_, c.2.2.2.2.2.1.1, c.2.2.2.2.2.2.2⟩, e 1 (by decide) (by decide) (by decide) (by decide), by omega, by omega⟩
    · obtain ⟨a, b, d⟩ := h86
      exact ⟨a, b, (e 86 (by decide) (by decide) (by decide) (by decide)).trans d⟩
    · obtain ⟨a, b, d⟩ := h66
      exact ⟨a, b, (e 66 (by decide) (by decide) (by decide) (by decide)).trans d⟩
  rcases q with ⟨q3, ⟨P, c, hQ⟩, z1, z2⟩ | ⟨S3, wh, x, P, hw, c, q3, z1, z2, e⟩
  · have hx := LX.unr c.1
    have hm := hmE S2 P c z1 z2
    obtain ⟨DD, hP, hd⟩ := prg9_ hD hL.1 hx hL.2.2.2.1 hZ hws hFT hQ
    obtain ⟨mI, fs, gv, m1, m2, m3, m4, m5, _⟩ := hM
    have hmn : (DD mI).mn = 0 := by
      rw [← hd mI m1 m3]
      show fN (obF S0 (R.ws mI)) 3 = 0
      rw [obF_o m4]
      exact fN_i (n := 0) m5 (by decide)
    have e := fun j a b c d => hx.2.1 j a b c d
    unfold f_run_90
    refine Rt.ok (fun _ => ?_) (fun w => absurd q3 w)
    unfold f_run_106
    refine Rt.bd (v := Ui S2 88 (-1)) rfl ?_
    refine Rt.ok (fun _ => ?_) (fun w => absurd ((Zi_n (by decide)).trans q3) w)
    obtain ⟨f, l, w1, w2, w3, w4⟩ := hm.1.1
    refine Rt.bn (rmn_ (Sl := S2) (S1 := Ui S2 88 (-1)) hL hx hP ⟨m1, m3⟩ hmn ⟨rfl, rfl, ⟨rfl, rfl⟩, rfl, rfl, fun _ _ => rfl, fun _ _ => rfl, fun j hj _ => Zi_n (by omega)⟩ ((Zi_n (by decide)).trans ((e 21 (by decide) (by decide) (by decide) (by decide)).trans m2)) (by omega) ((Zi_n (by decide)).trans ((e 70 (by decide) (by decide) (by decide) (by decide)).trans hfu)) hfu2 (hm.1.1.eq (Zi_n (by decide)) (Zi_n (by decide))) (by obtain ⟨a, b, d⟩ := hm.1.2.1; exact ⟨a, b, (Zi_n (by decide)).trans d⟩) (by obtain ⟨a, b, d⟩ := hm.1.2.2.1; exact ⟨a, b, (Zi_n (by decide)).trans d⟩)) (fun S4 _ r => ?_)
    refine run120 ?_
    obtain ⟨⟨r1, r2, ⟨r3, r4⟩, r5, _, _, _, r8⟩, r9, r10, r11, _⟩ := r
    refine ⟨⟨r9, r10, r11, fun u hu => ?_, fun a ha => ?_⟩, (r8 1 (by decide) (by decide)).trans hm.2.1, by rw [r3]; exact hm.2.2.1, by rw [r4]; exact hm.2.2.2⟩
    · rw [r1, r2, r5]; exact hm.1.2.2.2.1 u hu
    · rw [r1] at ha; rw [r3]; exact hm.1.2.2.2.2 a ha
  · rw [e]
    exact run90b (flS_n0 (by rcases hw with w | w <;> rw [w] <;> decide)) (flS_rE9 (hmE S3 P c z1 z2))
end PS111
