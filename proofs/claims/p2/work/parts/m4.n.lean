section PS65
variable {R : yR} {S0 Sl S S1 S2 S3 : Sg} {D : fD} {i k j f nw : Nat} {vt : Nat → Nat → Nat} {tb : Nat → lTb} {x : Nat → kFm} {bs : Nat → Nat} {g : Nat → Int32} {v T : Nat} {ρ : lLc} {y : qY} {rt : Nat × Nat → Nat} {V : Nat × Nat → qV} {C L H : Nat × Nat → List Nat}
/-- the node of a place -/
theorem RQ.fd {n m n2 : Nat} (hL : LFS R S0 g) (hx : LX S0 Sl) (h : RQ R S0 vt tb i D k f x bs Sl nw S) (hE : hFE R S0 D) (hQ : D.Pe < 24000) (hN : kN (yT R S0) (zN R S0) (szN R S0) (nMS S) (Zl S 72) (Zr S 74) f x rt V bs C L H) (hp : (D.I k).pa = some (v, ρ, T)) (hv : v < 40) (hs : (8, v, 0) ∈ D.st k) (h24 : (D.I k).kd ≠ 24) (hn : n = hdN (C (f, v))) (hm : m ≤ ρ.length) (hw : (m = 0 ∧ n2 = n) ∨ gWk (yT R S0) (zN R S0) (nMS S) (D.E.vt v) n (ρ.take m) n2) : ∃ w : Nat, rQ S 38 (nI k) = some (some w) ∧ oI S 18 (some w) 1 = some (nI ρ.length) ∧ f_find R.K S (some w) (nI m) = some (S, nI n2) := by
  obtain ⟨w, va, sa, ta, F, G, mu, w1, w2, w3, w4, w5, w6⟩ := h.pw hL hx hE hp h24
  have k24 := h.k24 hQ
  have e := h.2.2.1.1
  have a2 := h.2.2.2.2.2.1.2.1
  obtain ⟨p1, p2, p3⟩ := hN.hd (nYk_of hL) (d := (f, v)) (Nat.le_refl f) hv (by rw [a2]; exact trL_8.mpr hs)
  refine ⟨w, ?_, ?_, ?_⟩
  · rw [rQ_n (show k < rlen 38 from k24) (by decide), e.2.2.2.1, w1]
  · exact oI_mk (by rw [e.1]; exact w2.1) (by rw [e.2.1]; exact w2.2.1) rfl
  · refine fnd_ hL hx e w2 w3 w4 h.2.2.2.1.2.2 h.2.2.2.2.1 hv hm (n := n) ?_ (by rw [hn]; exact p3) (by rw [w5]; exact hw)
    rw [hn]; exact p1.2.2
/-- a value's end: the reference came on top, its nodes too -/
theorem RQ.eR {q U n : Nat} {d : Nat × Nat} {π : lLc} {hd : Nat → Prop} {fl : List Nat} {tt t : Nat} (hL : LFS R S0 g) (h : RQ R S0 vt tb i D k f x bs Sl nw S) (e : edg D k j) (hJ : kJ (yT R S0) vt tb f x rt V) (hN : kN (yT R S0) (zN R S0) (szN R S0) (nMS S) (Zl S 72) (Zr S 74) f x rt V bs C L H) (hC : kC C L H fl tt (Zr S 67)) (hF : FLs S fl tt) (hnt : nT (D.st k)) (hq : q = 1 ∨ q = 2) (ht : 10000 ≤ t) (hw : wkS ((q, U, 0) :: D.st k) (D.st j)) (hm : kdM (D.I k)) (ho : (D.I k).ho = some (40 + wl (D.st k))) (hhd : ∀ κ : Nat, hd κ → HK D j (40 + wl (D.st k)) κ) (hus : ∀ u : Nat, AB D k u → u < 40 → AL D k u) (hd4 : d.2 < 40) (hn : n < 430000) (hwk : wRn (yT R S0) (zN R S0) (nMS S) (rt d) (hdN (C d)) π n)
  (hJ2 : kJ (yT R S0) vt tb f (kUx x f ((x f).1, (q, U, 0) :: (x f).2.1, 0, lUp (kR (x f)) (40 + wl (x f).2.1) (some (d :: π)), lUp (kH (x f)) (40 + wl (x f).2.1) hd, (fun u => u < 40 ∧ AB D k u), klo (x f), kAn (x f))) (qRt rt (f, 40 + wl (x f).2.1) t) (qUp V (f, 40 + wl (x f).2.1) (qL t)))
  (e2 : SO S S2) (h2 : ∀ q : Nat, q < bs f + wl (D.st k) → Zl S2 72 q = Zl S 72 q) (h3 : Zl S2 72 (bs f + wl (D.st k)) = nL n) (h77 : Zi S2 77 = nI j) (h73 : Zi S2 73 = nI (bs f + wl (D.st k) + 1)) : NXt R S0 vt tb i D k f x bs S S2 := by
  obtain ⟨a1, a2, a3, a4, a5, a6⟩ := h.2.2.2.2.2.1
  have hst := h.st.2
  have h177 := h.pt.2
  have hs := h.1.2.2.2.1.all hnt
  have hN0 := hN.skc (sk2 := Zl S2 72) (by rw [hst]; exact h2)
  have hN2 := hN0.pR (q := q) (U := U) (m := 0) (t := t) (n := n) (d := d) (π := π) (hd := hd) (al2 := fun u => u < 40 ∧ AB D k u) (nYk_of hL) yB_yT hJ a3 (by omega) hq ht (fun u hu => by rw [a5]; exact ⟨hu.1, hus u hu.2 hu.1⟩) hd4 hn hwk (by rw [hst]; exact h3)
  rw [hst] at hJ2 hN2
  refine finR (q := q) (U := U) (hd := hd) hL h.1 e hq hw hs hm ho h.2.2.2.2.2.1 hhd ⟨_, _, C, L, H, fl, tt, hJ2, ?_, ?_, ?_⟩ h77 h73 (by rw [e2.2.2.2.2.2.2.1]) (e2.2.2.2.2.2.2.2 76 (by decide))
  · rw [e2.sam.1, e2.sam.2.1]; exact hN2
  · rw [e2.sam.2.2.1]; exact hC
  · exact e2.sam.fl hF
/-- REFER -/
theorem s_3 (hL : LFS R S0 g) (hx : LX S0 Sl) (hE : hFE R S0 D) (h : RQ R S0 vt tb i D k f x bs Sl k S) (hQ : D.Pe < 24000) (hk : (D.I k).kd = 3) : Rt (f_step R.K S) (fun S2 _ => RTt R S0 vt tb i D k f x bs Sl S S2) := by
  have h24 := h.k24 hQ
  refine stp_3 h hQ hk (fun S1 h1 e70 e3 er el => ?_)
  have hp := h1.pt.1
  unfold tPt at hp
  rw [hk] at hp
  obtain ⟨v, ρ, T, hi, hu, ho, ⟨l, hln⟩, hT9, hc⟩ := hp
  have k24 : (D.I k).kd ≠ 24 := by rw [hk]; decide
  have hne : isRf (D.E.vt v) → ρ ≠ [] := fun w z => by
    rcases hi.2.2.2.1 with ⟨w2, _⟩ | ⟨_, ⟨_, w2⟩ | ⟨ρ2, w2, _⟩⟩
    · exact w2 w
    · have := w.1; omega
    · rw [z] at w2; cases w2
  have ha : (D.I k).ac ≠ 0 ∧ (D.I k).ac ≠ 7 ∧ (D.I k).ac ≠ 6 := by
    rcases hc with ⟨a, _⟩ | ⟨a, _⟩ <;> rw [a] <;> decide
  obtain ⟨rt, V, C, L, H, fl, t9, ⟨hJ, hN, hC, hF⟩, _⟩ := h1.2.2.2.2.2.2.1
  obtain ⟨d, π, n, ⟨c1, c2, c3⟩, c4, c5, c6, c7, c8, c9⟩ := h1.pn hL hJ hN hi hu hne k24 ha
  obtain ⟨a1, a2, a3, a4, a5, a6⟩ := h1.2.2.2.2.2.1
  have hvt : vt (x f).1 = D.E.vt := by rw [a1]; exact h1.2.2.2.2.2.2.2.2.1
  have htb : tb (x f).1 = tbD D := by rw [a1]; exact h1.2.2.2.2.2.2.2.2.2
  obtain ⟨w, r1, r2, r3⟩ := h1.fd (n := hdN (C (f, v))) (m := ρ.length) (n2 := n) hL hx hE hQ hN hi.1 hi.2.1.1 hi.2.2.1 k24 rfl (Nat.le_refl _) (Or.inr (by rw [List.take_length, ← hvt]; exact c8))
  refine Rt.bd r1 (Rt.bd r1 (Rt.bd r2 ?_))
  rw [r3]
  show Rt (bnd (f_push R.K S1 (nL n)) fun S15 v16 => f_step_590 R.K S15) _
  have hb := h1.sb
  refine Rt.bn (psh_ (p := bs f + wl (D.st k)) h1.2.2.2.1.2.1 (by omega)) (fun S2 _ ⟨q1, q2, q3, q4⟩ => ?_)
  unfold f_step_590
  have hed : edg D k (k + 1) := h1.e1 (kd_s hk (by decide))
  have hnt := hi.2.2.2.2.2.2.2
  have hs := h1.1.2.2.2.1.all hnt
  have hst := h1.st.2
  have h177 := h1.pt.2
  have hFn := h1.1.1
  obtain ⟨m1, m2, m3⟩ := dcd_lm (v := v) (s := (D.I k).n3) (ρ := ρ)
  have hus : ∀ u : Nat, 40 ≤ u → u ∉ (D.I k).us := fun u h4 hm => by
    have := hi.2.1.1
    by_cases z : isRf (D.E.vt v)
    · rw [(hu.1 z).1] at hm
      have := List.mem_singleton.mp hm; omega
    · rw [(hu.2 z).1] at hm; cases hm
  have hal : ∀ u : Nat, AB D k u → u < 40 → AL D k u := fun u w h4 => w.al (fun z => by rw [ho] at z; have := Option.some.inj z; omega)
  have hck := hFn.ck h1.1.2.1.1 h1.1.2.1.2.1 h1.1.2.1.2.2 hi.1 ha.1 (fun z => z.1.elim ha.2.1 ha.2.2) (Or.inr ⟨hi.2.2.2.2.1, T, hi.2.2.2.1⟩) (A2 := fun u => (u < 40 ∧ (u < 40 ∧ AB D k u)) ∨ (40 ≤ u ∧ u < 40 + wl (x f).2.1)) (fun u κ z1 z2 => by
    rcases z1 with ⟨z3, _, z4⟩ | ⟨z3, z4⟩
    · exact ⟨by omega, z4, fun z => by rw [ho] at z; have := Option.some.inj z; omega⟩
    · rw [hst] at z4
      refine ⟨by omega, ?_, fun z => by rw [ho] at z; have := Option.some.inj z; omega⟩
      rcases z2 with ⟨_, z2⟩ | ⟨z2, _⟩
      · rcases z2.2.1 z3 with z5 | z5
        · exact (z5.ab (hus u z3)).1
        · exact absurd z5 (pn_mk hs)
      · omega)
  have fin : ∀ q t : Nat, (q = 1 ∧ t = 10000 + 2 * T) ∨ (q = 2 ∧ t = 10001 + 2 * T) → ((D.I k).ac = 1 ∨ (D.I k).ac = 2 → q = 1) → (q = 2 → (D.I k).n3 = 0 ∧ (isRf (D.E.vt v) → D.E.vt v % 2 = 1)) → wkS ((q, T, 0) :: D.st k) (D.st (k + 1)) → NXt R S0 vt tb i D k f x bs S1 S2 := fun q t hkt hq1 hq2 hw => by
    have hJ2 := kJ_bor (q := q) (t := t) (l0 := lm v ρ (D.I k).n3) (d := d) (π := π) (hd := HK D (k + 1) (40 + wl (D.st k))) (al2 := fun u => u < 40 ∧ AB D k u) (v := v) (ρ := ρ) (T := T) hJ a3 (by omega) (fun r m2 => by
      rw [a2]
      exact ⟨fun z => absurd (Or.inr (Or.inl rfl)) (trL_4 (pn_4 hs) _ z), fun z => absurd (Or.inr (Or.inr rfl)) (trL_4 (pn_4 hs) _ z)⟩) hT9 hkt hi.2.1.1 (by rw [a2]; exact trL_8.mpr hi.2.2.1) (fun z => by
      rw [hvt] at z
      rw [a5]
      exact ⟨hi.2.1.1, Or.inl (by rw [(hu.1 z).1]; exact List.mem_singleton_self _)⟩) (fun u z => by rw [a5]; exact ⟨z.1, hal u z.2 z.1⟩) (fun u κ g1 g2 g3 g4 g5 => by
      rw [htb] at g3 g4 g5 ⊢
      rw [a4] at g2
      exact (hck u κ g1 g2 g3 g4 g5).imp hq1 id) (hFn.hn hed (by omega) ho ⟨hln, rfl, Or.inl ⟨hk, T, hi.1⟩⟩) (by rw [htb]; exact lm_100) (by rw [htb]; exact m1) (by rw [htb]; exact m2) (fun z => by
      rw [htb]
      show ¬ ((dcd (lm v ρ (D.I k).n3)).2.2 % 2 = 1)
      rw [m3, (hq2 z).1]; decide) (by rw [htb, hvt]; exact Iff.rfl) (fun z κ hκ => by
      rw [hvt] at z
      rw [a4] at hκ
      rcases hκ with ⟨_, hκ⟩ | ⟨hκ, _⟩
      · exact hFn.hf hed (by omega) ho k24 (by rw [(hu.1 z).2]; exact List.mem_singleton_self _) hκ.1
      · have := hi.2.1.1; omega) (fun z z2 => by
      rw [hvt] at z2 ⊢
      exact yRf6 z2 ((hq2 z).2 z2)) c2 c4 c5 c9
    exact h1.eR (q := q) (U := T) (t := t) hL hed hJ hN hC hF hnt (by omega) (by omega) hw (kdM_k hk (by decide)) ho (fun κ z => z) hal c2 c7 c6 hJ2 q1 (fun p hp => q4 p (by omega)) q3 ((q1.2.2.2.2.2.2.2 77 (by decide)).trans h1.2.2.2.1.1) q2
  refine Rt.rt ⟨q1.rx h1.2.2.1, Or.inr ⟨(q1.2.2.2.2.2.2.2 3 (by decide)).trans e3, (q1.2.2.2.2.2.2.2 70 (by decide)).trans e70, NXt.fr ?_ er (by rw [h1.2.2.2.1.2.2, h.2.2.2.1.2.2])⟩⟩
  rcases hc with ⟨b1, b2, _, _, b3⟩ | ⟨b1, b2, b4, _, _, b3⟩
  · exact fin 1 (10000 + 2 * T) (Or.inl ⟨rfl, rfl⟩) (fun _ => rfl) (fun z => by omega) b3
  · exact fin 2 (10001 + 2 * T) (Or.inr ⟨rfl, rfl⟩) (fun z => by omega) (fun _ => ⟨b2, b4⟩) b3
end PS65
