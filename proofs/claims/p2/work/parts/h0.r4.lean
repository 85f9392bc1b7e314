section
variable {yp g a b lf lt : Nat} {X : tF} {G : Nat → Nat → Nat} {x : Nat → Int32} {y9 : Nat → Nat → Int32} {Z T : tgS} {k : Nat → Option (List tE)}
theorem gF_sh (hty : tyOK yp (tTy Z)) : ∀ sh : Nat, sh < 30 → (gF Z T 20 (4 + sh) = 2 ∨ gF Z T 20 (4 + sh) = 3) → sh < yp := fun sh h30 h => by
  have h34 : 34 ≤ Z.1 7 := hty.1
  rw [gF_20 (by omega)] at h
  rcases Nat.lt_or_ge sh yp with c | c
  · exact c
  · have e : Z.2 20 (4 + sh) = 0 := hty.2.2.2.2.2.1.2.2.2.2 sh c h30
    rw [e] at h
    rcases h with q | q <;> exact absurd q (by decide)
theorem gF_kd (hty : tyOK yp (tTy Z)) : ∀ t : Nat, t < 3040 → (gF Z T 20 t = 4 ∨ gF Z T 20 t = 5 ∨ gF Z T 20 t = 6) → 34 ≤ t ∧ t < Z.1 7 := fun t _ h => by
  have h34 : 34 ≤ Z.1 7 := hty.1
  have hlt : t < Z.1 7 := by
    rcases Nat.lt_or_ge t (Z.1 7) with c | c
    · exact c
    · have e : gF Z T 20 t = -1 := if_neg (by omega)
      rw [e] at h
      rcases h with q | q | q <;> exact absurd q (by decide)
  refine ⟨?_, hlt⟩
  rw [gF_20 hlt] at h
  rcases Nat.lt_or_ge t 34 with c | c
  · exfalso
    have low : ∀ w : Int32, Z.2 20 t = w → w ≠ 4 → w ≠ 5 → w ≠ 6 → False := fun w q q4 q5 q6 => by
      rw [q] at h
      rcases h with h | h | h
      · exact q4 h
      · exact q5 h
      · exact q6 h
    have b0 : Z.2 20 0 = 0 ∧ Z.2 20 1 = 0 ∧ Z.2 20 2 = 0 ∧ Z.2 20 3 = 1 := hty.2.2.2.1
    by_cases c4 : t < 4
    · have hc : t = 0 ∨ t = 1 ∨ t = 2 ∨ t = 3 := by omega
      rcases hc with rfl | rfl | rfl | rfl
      · exact low _ b0.1 (by decide) (by decide) (by decide)
      · exact low _ b0.2.1 (by decide) (by decide) (by decide)
      · exact low _ b0.2.2.1 (by decide) (by decide) (by decide)
      · exact low _ b0.2.2.2 (by decide) (by decide) (by decide)
    · have e : 4 + (t - 4) = t := by omega
      rcases Nat.lt_or_ge (t - 4) yp with c5 | c5
      · have q := hty.2.2.2.2.2.2.1 (t - 4) c5
        have q : Z.2 20 (4 + (t - 4)) = 2 ∨ Z.2 20 (4 + (t - 4)) = 3 := q
        rw [e] at q
        rcases q with q | q
        · exact low _ q (by decide) (by decide) (by decide)
        · exact low _ q (by decide) (by decide) (by decide)
      · have q : Z.2 20 (4 + (t - 4)) = 0 := hty.2.2.2.2.2.1.2.2.2.2 (t - 4) c5 (by omega)
        rw [e] at q
        exact low _ q (by decide) (by decide) (by decide)
  · exact c
theorem tyV_gF {u : Nat} (h : tyV yp (Z.1 7) (Z.2 20) u) : tyV yp (Z.1 7) (gF Z T 20) u := tyV_up h (fun t ht => gF_20 ht) (Nat.le_refl _)
theorem gC_v (hC : gC yp X G g x y9 Z T a b lf lt k) (h7 : Z.1 7 ≤ 3040) : ∀ w : Nat, w < 40 → gF Z T 15 w ≠ -1 → w < T.1 4 ∧ ∃ T0 : Nat, gF Z T 15 w = nI T0 ∧ tyV yp (Z.1 7) (gF Z T 20) T0 := fun w _ hne => by
  have hw := gF_15n hne
  refine ⟨hw, ?_⟩
  rw [gF_15 hw] at hne ⊢
  obtain ⟨u, q1, q2⟩ := (hC.2.2.2.2.2.2.2.2.1 w hw).resolve_left hne
  exact ⟨u, q1, tyV_gF q2⟩
/-- where Moves' last pass comes, on ways from the beginning -/
def gRm (F : tF) (a b : Nat) (hM : Nat → mvT) (j : Nat) : Prop := (a ≤ j ∧ j < b ∧ cA F (fun j => mvp (hM j)) j) ∧ rch F a b j
theorem gRm_0 {F : tF} {et em az : Nat → Int32} {n : Nat} {hM : Nat → mvT} (wM : mvW F X G (G g 1) a b k n et em az hM) (hab : a < b) (h1 : (hM a).2.2.2.1 ≠ 0) : gRm F a b hM a := by
  refine ⟨⟨Nat.le_refl _, hab, ?_⟩, rch_0⟩
  by_cases c : isL (F 0 a)
  · rw [cA_l (h := fun j => mvp (hM j)) c]
    obtain ⟨o, o1, o2, q⟩ := wM.tr a (Nat.le_refl _) hab
    show (hM (a + 1)).2.2.2.1 ≠ 0
    rcases q with ⟨-, L, -, -, -, -, -, q | ⟨-, -, q⟩⟩ | ⟨n1, n2, -⟩
    · rw [q.2]; exact h1
    · rw [q]; decide
    · exfalso
      rcases c with c | c
      · exact n1 ((nI_eq (a := o) (b := 13) (by omega) (by decide)).mp (o1.symm.trans c))
      · exact n2 ((nI_eq (a := o) (b := 14) (by omega) (by decide)).mp (o1.symm.trans c))
  · rw [cA_n (h := fun j => mvp (hM j)) c]; exact h1
theorem mRu_rc {F : tF} {y : qY} {z : qZ} {vg : Nat → Nat} {n i o : Nat} {L : Nat → Nat → lLc → Prop} {Rc : Nat → Prop} (h : mRu F y z vg n k a b L Rc i o) (ho : F 0 i = nI o) (h33 : o < 33) (hr : rch F a b i) : mRu F y z vg n k a b L (fun j => Rc j ∧ rch F a b j) i o := by
  obtain ⟨m1, m2, m3, m4, m5, m6, m7, m8, m9, m10⟩ := h
  exact ⟨fun q => ⟨m1 q, rch_S hr ⟨o, ho, h33, Or.inl ⟨q, rfl⟩⟩⟩, m2, m3, m4, m5, m6, m7, fun q j h1 h2 h3 h4 => ⟨⟨(m8 q j h1 h2 h3 h4).1, rch_S hr ⟨o, ho, h33, Or.inr (Or.inl ⟨q, h1, h2, h3, h4⟩)⟩⟩, (m8 q j h1 h2 h3 h4).2⟩, fun q j h1 h2 h3 h4 => ⟨⟨(m9 q j h1 h2 h3 h4).1, rch_S hr ⟨o, ho, h33, Or.inr (Or.inr (Or.inl ⟨q, h1, h2, h3, h4⟩))⟩⟩, (m9 q j h1 h2 h3 h4).2⟩, fun q j tc c g t1 t2 t3 t4 t5 t6 h1 h2 h3 => ⟨⟨(m10 q j tc c g t1 t2 t3 t4 t5 t6 h1 h2 h3).1, rch_S hr ⟨o, ho, h33, Or.inr (Or.inr (Or.inr ⟨q, tc, c, g, t1, t2, t3, t4, t5, t6, h1, h2, h3⟩))⟩⟩, (m10 q j tc c g t1 t2 t3 t4 t5 t6 h1 h2 h3).2⟩⟩
theorem sgE_mk (hC : gC yp X G g x y9 Z T a b lf lt k) (htb : tbO (gF Z T) X yp (Z.1 7)) (hty : tyOK yp (tTy Z)) (hG : ∀ g : Nat, g < 40 → G g 1 < 3040 → G g 1 = 0 ∨ tyV yp (Z.1 7) (Z.2 20) (G g 1)) {hM : Nat → mvT} {em : Nat → Int32} (wM : mvW (gF Z T) X G (G g 1) a b k (T.1 4) (T.2 15) em (Z.2 22) hM) {N : lK} {tb : lTb} {rl : Nat → Int32} {pl : Nat → Nat → Int32} {me : Int32} {vg : Nat → Nat} (hvg : ∀ w : Nat, w < T.1 4 → T.2 15 w ≠ -1 → vg w = ymF (gF Z T) (cN (T.2 15 w))) (hvg0 : ∀ w : Nat, ¬ (w < T.1 4 ∧ T.2 15 w ≠ -1) → vg w = 0)
    (hR : ∀ (i o : Nat) (s : List tE), a ≤ i → i < b → k i = some s → gF Z T 0 i = nI o → o < 33 → N.2.2 i → lRu (gF Z T) G tb rl pl me k a b N i s o)
    (hb5 : ∀ v : Nat, v < T.1 4 → (tb.2.2.2.2 v ↔ (gF Z T 20 (cN (gF Z T 15 v)) = 5 ∨ gF Z T 20 (cN (gF Z T 15 v)) = 6)))
    (hJ : ∀ (i p v c : Nat) (s : List tE), a ≤ i → i < b → k i = some s → gF Z T 0 i = 4 → gF Z T 1 i = nI p → p < 3001 → gF Z T 6 p = nI v → v < 40 → gF Z T 2 i = nI c → c < 54 → ¬ tb.2.2.2.1 c ∧ tb.1 c = v ∧ tb.2.1 c = wyF (gF Z T) p ∧ (gF Z T 3 i = 1 → ¬ tb.2.2.1 c))
    (hK : ∀ i u l v : Nat, N.1 i u l → ¬ tb.2.2.2.1 l → tb.1 l = v → v < T.1 4 → gF Z T 20 (cN (gF Z T 15 v)) = 5 → tb.2.2.1 l)
    (hU : ∀ i u : Nat, N.2.1 i u → gF Z T 20 (cN (gF Z T 15 u)) = 5 ∨ gF Z T 20 (cN (gF Z T 15 u)) = 6) :
    sgE (yF (gF Z T) X yp (Z.1 7)) (zF (gF Z T) X (Z.1 7)) (gF Z T) X G (G g 1) a b (T.1 4) yp (Z.1 7) k N (LMt (gF Z T) (yF (gF Z T) X yp (Z.1 7)) (zF (gF Z T) X (Z.1 7)) vg hM) (gRm (gF Z T) a b hM) tb rl pl me vg := by
  have h7 : Z.1 7 ≤ 3040 := hty.2.1
  have hv := gC_v hC h7
  have hv2 : ∀ w : Nat, w < 40 → gF Z T 15 w ≠ -1 → ∃ T0 : Nat, gF Z T 15 w = nI T0 ∧ tyV yp (Z.1 7) (gF Z T 20) T0 := fun w h1 h2 => (hv w h1 h2).2
  have hG2 : ∀ g : Nat, g < 40 → G g 1 < 3040 → G g 1 = 0 ∨ tyV yp (Z.1 7) (gF Z T 20) (G g 1) := fun g h1 h2 => (hG g h1 h2).imp id tyV_gF
  obtain ⟨⟨c1, c2, c3, c4, c5, c6, c7⟩, cx, hce, hvl, ⟨hka, hkb⟩, -⟩ := hC
  have g0 : gd (gF Z T) yp (Z.1 7) (bdO (G g 0)) := fun e he => by
    obtain ⟨v, q, -⟩ := bdO_in he
    rw [q]; exact gdE_3 (show 3 ≤ 8 by decide)
  have hgd := fun (i : Nat) (h : rch (gF Z T) a b i) => gd_rch hce hkb hka c1 g0 htb (gF_sh hty) (gF_kd hty) hv2 hG2 h
  obtain ⟨hyz, -⟩ := yz_ok htb.1 htb.2.1 htb.2.2.1 htb.2.2.2
  refine ⟨⟨htb, rfl, rfl, gF_sh hty, gF_kd hty, fun j s hr hs => ?_, fun i o p v s hr hs ho hoo h1 hp h6 hv4 => ?_⟩, hce, fun i s h1 h2 hs => (hvl i s h1 h2 hs).1, hkb, c5, fun w h1 h2 => ?_, fun v i hv4 hi e => ?_, fun i o s h1 h2 hs ho h33 hN hr => ⟨hR i o s h1 h2 hs ho h33 hN, ?_⟩, fun i v π hn => ?_, hb5, hJ, ⟨hK, fun j hr => ⟨hr.1.1, hr.1.2.1⟩⟩, hU⟩
  · obtain ⟨q1, q2, s2, q3, q4⟩ := hgd j hr.2
    rw [hs] at q3
    injection q3 with q3
    rw [← q3] at q4
    exact ⟨q4, (hvl j s q1 q2 hs).2.2.1⟩
  · exact (hvl i s hr.1.1 hr.1.2.1 hs).2.1 o p v ho hoo h1 hp h6 hv4
  · obtain ⟨q1, T0, q2, q3⟩ := hv w h1 h2
    refine ⟨q1, T0, q2, q3, ?_⟩
    have q3' := q3.2
    have e15 : T.2 15 w = nI T0 := (gF_15 q1).symm.trans q2
    rw [hvg w q1 (by rw [e15]; exact nI_ne1 (by omega)), e15, cN_nI (by omega)]
  · rcases Nat.lt_or_ge v (T.1 4) with c | c
    · exact c
    · have e9 : gF Z T 18 v = -1 := if_neg (by omega)
      exact absurd (e.symm.trans e9) (nI_ne1 (by omega))
  · refine mRu_rc (mR_tr wM hkb hyz (fun t => zF_le) (fun v hv9 => ?_) h1 h2 hr.1.2.2 hs ho h33) ho h33 hr.2
    by_cases c : T.2 15 v = -1
    · exact Or.inl (hvg0 v (fun q => q.2 c))
    · right
      obtain ⟨-, T0, q2, q3⟩ := hv v (by omega) (by rw [gF_15 hv9]; exact c)
      have q3' := q3.2
      have e15 : T.2 15 v = nI T0 := (gF_15 hv9).symm.trans q2
      obtain ⟨s1, s2, s3⟩ := ty_sz htb q3
      refine ⟨c, ?_⟩
      rw [hvg v hv9 c, e15, cN_nI (by omega), s1]
      exact nI_cN s2
  · exact Or.inl (hvg0 v (fun q => by omega))
end
