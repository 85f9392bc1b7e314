section
variable {yp g a b lf lt nb tt : Nat} {X : tF} {G : Nat → Nat → Nat} {Z T : tgS} {k : Nat → Option (List tE)} {lo : Nat → Nat} {fc : Nat → Nat → Int32} {fr : Nat → Nat → Nat → Int32}
theorem mvW_fa (hC : gC yp X G g (fc g) (fr g) Z T a b lf lt k) {em : Nat → Int32} {r9 : Int32} {np : Nat} (hm : mvF (gF Z T) k a b (T.1 4) np (T.2 15) em (Z.2 22) r9) (hr : r9 < 0) : ∃ hM : Nat → mvT, mvW (gF Z T) X G (G g 1) a b k (T.1 4) (T.2 15) em (Z.2 22) hM ∧ (hM a).2.2.2.1 ≠ 0 := by
  obtain ⟨⟨c1, c2, c3, c4, c5, -⟩, -, hce, -, ⟨hka, -⟩, -⟩ := hC
  obtain ⟨s0, fr0, rc0, gs, gr, gc, ir9, fi0, -, q2, h, h1, h2, h3⟩ := hm
  refine ⟨h, mvW_of hce c5 (Nat.le_of_lt c1) ⟨_, hka⟩ h3 (by rw [h1]; exact q2) (by rw [h2]) (by rw [h2]; exact hr), ?_⟩
  rw [h1]
  show (1 : Int32) ≠ 0
  decide
/-- at the beginning -/
theorem cS_a {F : tF} {rs : Nat} {C : lnC} {Q : lnQ} {h : Nat → lnT} (w : lnW F X G rs a b k C Q h) (hab : a < b) (h1 : (h a).2.2.2.1 ≠ 0) : cA F (fun j => lnp (h j)) a ∧ ∀ v : Nat, v < C.2.2.2.2.2 → lS ((h a).1 v) (cS F (fun j => lnp (h j)) a v) := by
  by_cases c : isL (F 0 a)
  · rw [cA_l (h := fun j => lnp (h j)) c, cS_l (h := fun j => lnp (h j)) c]
    obtain ⟨L, l1, l2⟩ := ce_lb w.ce a (Nat.le_refl _) hab c
    obtain ⟨-, -, q, -⟩ := lnW_p w a (Nat.le_refl _) hab
    obtain ⟨-, -, -, q1, q2⟩ := q c L l1 l2
    by_cases e : (lnp (h a)).2.2.1 L = 0
    · obtain ⟨e1, e2⟩ := q1 e
      refine ⟨by rw [e2]; exact h1, fun v _ => ?_⟩
      rw [e1]; exact lS_rf _
    · obtain ⟨e1, e2⟩ := q2 e
      exact ⟨e1, fun v hv => (e2 v hv).2 h1⟩
  · rw [cA_n (h := fun j => lnp (h j)) c, cS_n (h := fun j => lnp (h j)) c]
    exact ⟨h1, fun v _ => lS_rf _⟩
theorem ouF_54 {pl : Nat → Nat → Int32} {q : Nat} : 54 ≤ ouF pl g q := by
  unfold ouF
  split <;> omega
theorem ouF_I {pl : Nat → Nat → Int32} {q : Nat} (h : pl g q < 0 ∨ ∃ w : Nat, w < 8 ∧ pl g q = nI w) : (if pl g q < 0 then (62 : Int32) else 54 + pl g q) = nI (ouF pl g q) ∧ ouF pl g q < 64 := by
  unfold ouF
  by_cases c : pl g q < 0
  · rw [if_pos c, if_pos c]; exact ⟨rfl, by decide⟩
  · obtain ⟨w, w1, w2⟩ := h.resolve_left c
    rw [if_neg c, if_neg c, w2, cN_nI (by omega)]
    exact ⟨nI_add 54 w, by omega⟩
theorem gX_0 (hp : pgI yp nb tt nb X G lo fc fr Z) (hC : gC yp X G g (fc g) (fr g) Z T a b lf lt k) (htb : tbO (gF Z T) X yp (Z.1 7)) (h12 : G g 0 ≤ 12) (h30 : G g 1 < 3040) (hG : ∀ g : Nat, g < 40 → G g 1 < 3040 → G g 1 = 0 ∨ tyV yp (Z.1 7) (Z.2 20) (G g 1)) (hpl : ∀ q : Nat, q < G g 0 → fr g 1 q < 0 ∨ ∃ w : Nat, w < 8 ∧ fr g 1 q = nI w) (hrl : fc g 6 < 0 ∨ ∃ w : Nat, w < 8 ∧ fc g 6 = nI w) {em : Nat → Int32} {hM : Nat → mvT} (wM : mvW (gF Z T) X G (G g 1) a b k (T.1 4) (T.2 15) em (Z.2 22) hM) (hM0 : (hM a).2.2.2.1 ≠ 0) (h0 : T.1 5 = 0) (hrs : ¬ rfB (Z.2 20) (nI (G g 1))) : ∃ (N : lK) (L : Nat → Nat → lLc → Prop) (Rm : Nat → Prop) (tb : lTb), gX yp X G (fun g => fc g 6) (fun g => fr g 1) Z g T a b k N L Rm tb := by
  have hty := hp.1
  have h7 : Z.1 7 ≤ 3040 := hty.2.1
  have hC2 := hC
  obtain ⟨⟨c1, c2, c3, c4, c5, c6, c7⟩, -, hce, -, ⟨hka, hkb⟩, -, -, ⟨hB, -⟩, -⟩ := hC2
  have hno : ∀ i : Nat, a ≤ i → i < b → gF Z T 0 i ≠ 4 := fun i h1 h2 h4 => by
    obtain ⟨c, -, q⟩ := hB i h1 h2 h4
    omega
  have hrs2 : ¬ (gF Z T 20 (G g 1) = 5 ∨ gF Z T 20 (G g 1) = 6) := fun q => hrs (by
    obtain ⟨-, q2⟩ := gF_kd (T := T) hty (G g 1) h30 (by rcases q with q | q; exact Or.inr (Or.inl q); exact Or.inr (Or.inr q))
    rw [gF_20 q2] at q
    exact (rf_eq rfl h30).mpr q)
  refine ⟨N0 (gF Z T) k a b, LMt (gF Z T) (yF (gF Z T) X yp (Z.1 7)) (zF (gF Z T) X (Z.1 7)) (gvt Z T) hM, gRm (gF Z T) a b hM, tb0 (gF Z T), fun vt vo hvt hvo => ⟨?_, enF_mk hC htb h7 h12 hvt hvo ⟨Nat.le_refl _, c1, _, hka⟩ (gRm_0 wM c1 hM0) (fun q hq => ⟨ouF_54, fun _ => ouF_54, hpl q hq⟩) hrl⟩⟩
  rw [show vt g = gvt Z T from funext hvt]
  exact sgE_mk hC htb hty hG wM (fun w h1 h2 => if_pos ⟨h1, h2⟩) (fun w h1 => if_neg h1) (fun i o s h1 h2 hs ho h33 _ => lR_0 hce hkb hno hrs2 h1 h2 hs ho h33) (fun v _ => Iff.rfl) (fun i p v c s h1 h2 _ h4 => absurd h4 (hno i h1 h2)) (fun i u l v h1 h2 => absurd h1 h2) (fun i u h => h)
set_option maxHeartbeats 4000000 in
theorem gX_ln (hp : pgI yp nb tt nb X G lo fc fr Z) (hC : gC yp X G g (fc g) (fr g) Z T a b lf lt k) (htb : tbO (gF Z T) X yp (Z.1 7)) (h12 : G g 0 ≤ 12) (hG : ∀ g : Nat, g < 40 → G g 1 < 3040 → G g 1 = 0 ∨ tyV yp (Z.1 7) (Z.2 20) (G g 1)) (hGb : ∀ g : Nat, g < 40 → G g 1 < 3040 → g < nb ∧ fc g 5 = nI (G g 1)) (hG3 : ∀ g : Nat, g < nb → fc g 3 = nI (G g 0) ∧ G g 0 ≤ 12) (hnb : nb ≤ 40) (hpl : ∀ q : Nat, q < G g 0 → fr g 1 q < 0 ∨ ∃ w : Nat, w < 8 ∧ fr g 1 q = nI w) (hrl : fc g 6 < 0 ∨ ∃ w : Nat, w < 8 ∧ fc g 6 = nI w) {em : Nat → Int32} {hM : Nat → mvT} (wM : mvW (gF Z T) X G (G g 1) a b k (T.1 4) (T.2 15) em (Z.2 22) hM) (hM0 : (hM a).2.2.2.1 ≠ 0) {r9 : Int32} (hr9 : r9 < 0) {pof gp : Nat → Int32} {gl gb ga l0 u0 s0 fr1 ft0 hb0 : Nat → Int64} {gsh x9 : Int64} {rc0 : Nat → Int32} {fi0 : Int32} {t : lnT} (e1 : (gp, gl, gsh) = gaS (gF Z T) pof l0 a (b - a)) (e2 : fuP (gF Z T) a b gb (0, u0, 0) (x9, ga, 0)) (e3 : ∀ v : Nat, v < T.1 4 → (v < G g 0 ∧ rfB (Z.2 20) (T.2 15 v) ∧ s0 v = (1 : Int64) <<< ((if fr g 1 v < 0 then (62 : Int32) else 54 + fr g 1 v).toInt64 &&& 63)) ∨ (¬ (v < G g 0 ∧ rfB (Z.2 20) (T.2 15 v)) ∧ s0 v = 0)) (e4 : rcK (gF Z T) k a b rc0) (e5 : lnP (gF Z T) ((gb, gl, gsh, gp, T.1 5, T.1 4) : lnC) ((Z.2 20, T.2 15, T.2 18, T.2 19, fc g 6, nb, fc, fr) : lnQ) a b ((s0, fr1, rc0, 1, 0, fi0, ft0, 0, hb0) : lnT) t) (e6 : t.2.2.2.2.1 = 0) (e7 : t.2.2.2.2.2.1 = r9) : ∃ (N : lK) (L : Nat → Nat → lLc → Prop) (Rm : Nat → Prop) (tb : lTb), gX yp X G (fun g => fc g 6) (fun g => fr g 1) Z g T a b k N L Rm tb := by
  have hty := hp.1
  have h7 : Z.1 7 ≤ 3040 := hty.2.1
  have h34 : 34 ≤ Z.1 7 := hty.1
  have hC2 := hC
  have hv := gC_v hC h7
  have hv2 : ∀ w : Nat, w < 40 → gF Z T 15 w ≠ -1 → ∃ T0 : Nat, gF Z T 15 w = nI T0 ∧ tyV yp (Z.1 7) (gF Z T 20) T0 := fun w h1 h2 => (hv w h1 h2).2
  have hyy := fun (q : Nat) (hq : q < G g 0) => gvt_y hC h7 hq
  obtain ⟨⟨c1, c2, c3, c4, c5, c6, c7⟩, -, hce, hvl, ⟨hka, hkb⟩, -, -, ⟨hB, hB2⟩, -⟩ := hC2
  obtain ⟨h, t1, t2, t3⟩ := e5
  obtain ⟨hU, w1, w2, w3⟩ := e2
  have hB4 : ∀ i : Nat, a ≤ i → i < b → gF Z T 0 i = 4 → ∃ p v l : Nat, gF Z T 1 i = nI p ∧ p < 3001 ∧ gF Z T 6 p = nI v ∧ v < 40 ∧ gF Z T 2 i = nI l ∧ l < 54 := fun i h1 h2 h4 => by
    obtain ⟨o, o1, o2, o3⟩ := iB_o (hce.1 i h1 h2).1
    have e : o = 4 := (nI_eq (a := o) (b := 4) (by omega) (by decide)).mp (o1.symm.trans h4)
    subst e
    obtain ⟨p, v, l, q1, q2, q3, q4, q5, q6⟩ := o3
    exact ⟨p, v, l, q1, q2, q3, q4, q5, q6⟩
  have hBu : ∀ i j : Nat, a ≤ i → i < b → a ≤ j → j < b → gF Z T 0 i = 4 → gF Z T 0 j = 4 → gF Z T 2 i = gF Z T 2 j → i = j := hB2
  have hvl2 : ∀ (i : Nat) (s : List tE), a ≤ i → i < b → k i = some s → vl s ≤ 211 := fun i s h1 h2 hs => (hvl i s h1 h2 hs).1
  have w : lnW (gF Z T) X G (G g 1) a b k ((gb, gl, gsh, gp, T.1 5, T.1 4) : lnC) ((Z.2 20, T.2 15, T.2 18, T.2 19, fc g 6, nb, fc, fr) : lnQ) h := lnW_of hce hvl2 c5 (Nat.le_of_lt c1) ⟨_, hka⟩ t3 (by rw [t1]; exact e4) hG3 hnb (by rw [t1]; rfl) (by rw [t2]; exact e6)
  have hs1 : (h a).2.2.2.1 ≠ 0 := by
    rw [t1]
    show (1 : Int32) ≠ 0
    decide
  obtain ⟨ca, cs⟩ := cS_a w c1 hs1
  have zz : lnZ (gF Z T) X G a b k ((gb, gl, gsh, gp, T.1 5, T.1 4) : lnC) ((Z.2 20, T.2 15, T.2 18, T.2 19, fc g 6, nb, fc, fr) : lnQ) yp (Z.1 7) := by
    refine ⟨htb, hv2, ⟨pof, l0, e1⟩, hB4, hBu, fun j l h1 h2 h4 hl _ => ?_, c6, hkb, fun t ht => (gF_20 ht).symm, fun v hv9 => ⟨(gF_15 hv9).symm, (gF_18 hv9).symm, rfl⟩, fun v h1 h2 => (hv v h1 h2).1, fun v i h1 h2 h3 => ?_, fun g h1 h2 => ⟨(hGb g h1 h2).1, (hGb g h1 h2).2, ?_⟩⟩
    · obtain ⟨c, q1, q2⟩ := hB j h1 h2 h4
      have e : c = l := (nI_eq (by omega) (by omega)).mp (q1.symm.trans hl)
      show l < T.1 5
      omega
    · rcases Nat.lt_or_ge v (T.1 4) with c | c
      · exact c
      · have e9 : gF Z T 18 v = -1 := if_neg (by omega)
        exact absurd (h3.symm.trans e9) (nI_ne1 (by omega))
    · rcases hG g h1 h2 with q | q
      · rw [q]; omega
      · exact q.2
  have gae : ∀ l : Nat, gp l = (gaS (gF Z T) pof l0 a (b - a)).1 l ∧ lbit gsh l = lbit (gaS (gF Z T) pof l0 a (b - a)).2.2 l := fun l => by rw [← e1]; exact ⟨rfl, rfl⟩
  refine ⟨lnkT (gF Z T) k a b (T.1 4) h hU, LMt (gF Z T) (yF (gF Z T) X yp (Z.1 7)) (zF (gF Z T) X (Z.1 7)) (gvt Z T) hM, gRm (gF Z T) a b hM, tbF (gF Z T) gp gsh, fun vt vo hvt hvo => ⟨?_, enF_mk hC htb h7 h12 hvt hvo ⟨Nat.le_refl _, c1, a, Nat.le_refl _, Nat.le_refl _, ca, ⟨_, hka, wl_bdO _⟩, fun m h1 h2 => absurd h1 (by omega)⟩ (gRm_0 wM c1 hM0) (fun q hq => ⟨ouF_54, fun hk => ?_, hpl q hq⟩) hrl⟩⟩
  · rw [show vt g = gvt Z T from funext hvt]
    refine sgE_mk hC htb hty hG wM (fun w h1 h2 => if_pos ⟨h1, h2⟩) (fun w h1 => if_neg h1) (fun i o s h1 h2 hs ho h33 hN => ?_) (fun v _ => Iff.rfl) (fun i p v c s h1 h2 hs h4 f1 fp f6 fv f2 fc9 => ?_) (fun i u l v h1 h2 h3 h4 h5 => ?_) (fun i u h => h.2)
    · obtain ⟨-, -, p, hc⟩ := hN
      have k1 : (hU a).2.2 = 0 := by rw [w2]
      have k2 : (h b).2.2.2.2.2.1 < 0 := by rw [t2, e7]; exact hr9
      have k3 := lR_tr w zz (fun i h1 h2 => (w3 i h1 h2).1) k1 (fun i h1 h2 => (w3 i h1 h2).2) k2 h1 h2 hc hs ho h33
      exact k3
    · obtain ⟨q1, q2, q3⟩ := ga_tb (pof := pof) (lon := l0) hB4 (b - a) (by omega) (fun i j a1 a2 a3 a4 => hBu i j a1 (by omega) a3 (by omega)) i p v c h1 (by omega) h4 f1 fp f6 fv f2 fc9
      have eg : gp c = nI p := (gae c).1.trans q1
      refine ⟨fun z => ?_, ?_, ?_, fun f3 z => ?_⟩
      · have z : 54 ≤ c := z
        omega
      · show cN (gF Z T 6 (cN (gp c))) = v
        rw [eg, cN_nI (by omega), f6, cN_nI (by omega)]
      · show wyF (gF Z T) (cN (gp c)) = _
        rw [eg, cN_nI (by omega)]
      · have z : lbit gsh c = true := z
        rw [(gae c).2, q3, f3] at z
        exact absurd z (by decide)
    · obtain ⟨hb9, -⟩ := h1
      have h2 : ¬ 54 ≤ l := h2
      have hl := hb9.resolve_left h2
      show lbit gsh l = true
      rw [(gae l).2]
      have hne : gF Z T 15 v ≠ -1 := fun q => by
        have h5 : gF Z T 20 (cN (gF Z T 15 v)) = 5 := h5
        have e0 : gF Z T 20 0 = 0 := htb.1.2.2.2.1.1
        rw [q, show cN (-1) = 0 from rfl, e0] at h5
        exact absurd h5 (by decide)
      obtain ⟨T0, q1, q2⟩ := hv2 v (by omega) hne
      have q3 := q2.2
      refine sh_of hce (Nat.le_of_lt c1) htb hB4 hBu q1 q2 ?_ hl (by omega) ?_
      · have h5 : gF Z T 20 (cN (gF Z T 15 v)) = 5 := h5
        rw [q1, cN_nI (by omega)] at h5; exact h5
      · rw [← (gae l).1]; exact h3
  · obtain ⟨y1, y2, y3, y4, y5⟩ := hyy q hq
    refine ⟨Or.inl ouF_54, Or.inl ⟨y4, lS_b (cs q y4) ?_⟩⟩
    rw [t1]
    show lbit (s0 q) _ = true
    obtain ⟨o1, o2⟩ := ouF_I (g := g) (pl := fun g => fr g 1) (hpl q hq)
    rcases e3 q y4 with ⟨-, -, q3⟩ | ⟨q3, -⟩
    · have o1 : (if fr g 1 q < 0 then (62 : Int32) else 54 + fr g 1 q) = nI (ouF (fun g => fr g 1) g q) := o1
      rw [q3, o1]
      show lbit (bt (ouF (fun g => fr g 1) g q)) _ = true
      rw [lbit_bt _ _ o2 o2]
      exact decide_eq_true rfl
    · refine absurd ⟨hq, ?_⟩ q3
      rw [y3]
      refine (rf_eq rfl (by omega)).mpr ?_
      rw [gF_20 y5] at hk; exact hk
/-- a function that was looked over -/
theorem gX_of (hp : pgI yp nb tt nb X G lo fc fr Z) (hC : gC yp X G g (fc g) (fr g) Z T a b lf lt k) (htb : tbO (gF Z T) X yp (Z.1 7)) (hd : hdI nb G fc fr) (hg : g < nb) (hG : ∀ g : Nat, g < nb → G g 1 = 0 ∨ tyV yp (Z.1 7) (Z.2 20) (G g 1)) (hGb : ∀ g : Nat, g < 40 → G g 1 < 3040 → g < nb) (hnb : nb ≤ 40) (hpl : ∀ q : Nat, q < G g 0 → fr g 1 q < 0 ∨ ∃ w : Nat, w < 8 ∧ fr g 1 q = nI w) (hrl : fc g 6 < 0 ∨ ∃ w : Nat, w < 8 ∧ fc g 6 = nI w) {em : Nat → Int32} {r8 r9 : Int32} (hm : mvF (gF Z T) k a b (T.1 4) (G g 0) (T.2 15) em (Z.2 22) r8) (hr8 : r8 < 0) (hl : lnFa (gF Z T) k a b (T.1 4) (G g 0) (T.1 5) nb (Z.2 20) (T.2 15) (T.2 18) (T.2 19) (fr g 1) (nI (G g 1)) (fc g 6) fc fr r9) (hr9 : r9 < 0) : ∃ (N : lK) (L : Nat → Nat → lLc → Prop) (Rm : Nat → Prop) (tb : lTb), gX yp X G (fun g => fc g 6) (fun g => fr g 1) Z g T a b k N L Rm tb := by
  obtain ⟨hM, wM, hM0⟩ := mvW_fa hC hm hr8
  obtain ⟨d1, d2, -⟩ := hd g hg
  have hG2 : ∀ g : Nat, g < 40 → G g 1 < 3040 → G g 1 = 0 ∨ tyV yp (Z.1 7) (Z.2 20) (G g 1) := fun g h1 h2 => hG g (hGb g h1 h2)
  rcases hl with ⟨l1, l2⟩ | ⟨pof, gp, gl, gb, ga, gsh, l0, u0, s0, fr1, ft0, hb0, x9, rc0, fi0, t, e1, e2, e3, e4, e5, e6, e7⟩
  · exact gX_0 hp hC htb d1 d2 hG2 hpl hrl wM hM0 l1 l2
  · exact gX_ln hp hC htb d1 hG2 (fun g h1 h2 => ⟨hGb g h1 h2, (hd g (hGb g h1 h2)).2.2.2.1⟩) (fun g h1 => ⟨(hd g h1).2.2.1, (hd g h1).1⟩) hnb hpl hrl wM hM0 hr9 e1 e2 e3 e4 e5 e6 e7
end
