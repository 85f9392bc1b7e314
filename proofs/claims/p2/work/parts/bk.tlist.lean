/-- the entries of n values of types ty, the last one on top -/
def tAr (F : tF) (ty : Nat → Nat) : Nat → List tE
  | 0 => []
  | n + 1 => tNf F (ty n) :: tAr F ty n
theorem tAr_ps {F X : tF} {r : Nat} : ∀ n : Nat, tPs F X r n = tAr F (fun k => cN (X 2 (r * 12 + k))) n
  | 0 => rfl
  | n + 1 => by unfold tPs tAr; rw [tAr_ps n]
theorem tAr_as {F : tF} {G : Nat → Nat → Nat} {g : Nat} : ∀ n : Nat, tAs F G g n = tAr F (fun k => G g (k + 2)) n
  | 0 => rfl
  | n + 1 => by unfold tAs tAr; rw [tAr_as n]
/-- the code of n values -/
def tAl (nv : Nat) (X : tF) (G : Nat → Nat → Nat) (rs : Nat) (ty : Nat → Nat) (n : Nat) : tR := fun F a b => ∀ (J : Int32 → List tE → Prop) (st : List tE), scX nv F a st → vl st + 12 + rB rs ≤ 211 → sgw (wl st) F X G (rT rs) J a b (some st) (some (tAr F ty n ++ st))
theorem vl_tAr {F : tF} {ty : Nat → Nat} : ∀ n : Nat, vl (tAr F ty n) ≤ n
  | 0 => Nat.le_refl _
  | n + 1 => by
    have h1 := vl_cons (x := tNf F (ty n)) (s := tAr F ty n)
    have h2 := vl_tAr (F := F) (ty := ty) n
    show vl (tNf F (ty n) :: tAr F ty n) ≤ n + 1
    omega
/-- exps of a list are read: so far up to pos, from p0 on -/
def tRl (yp : Nat) (X : tF) (G : Nat → Nat → Nat) (rs tt p0 pos n9 b8 : Nat) (ft f9 : Int32) (s t : tgS) (ty : Nat → Nat) (i : Nat) : Prop := n9 < tt ∧ (f9 ≠ 0 → n9 = tt - 1) ∧ tJ t ∧ t.1 4 = s.1 4 ∧ t.1 5 ≤ s.1 5 + b8 ∧ (f9 = 0 → ft = 0 ∧ n9 = pos ∧ tI yp X t ∧ tOK (s.1 1) (2 * (pos - p0)) (2 * (cL X pos - cL X p0)) (pos - p0) 0 (pos - p0) s t (tAl (s.1 4) X G rs ty i))
theorem tRl_0 {yp rs tt p0 n9 : Nat} {X : tF} {G : Nat → Nat → Nat} {ft f9 : Int32} {s : tgS} {ty : Nat → Nat} (hn : n9 < tt) (hf : f9 ≠ 0 → n9 = tt - 1) (hJ : tJ s) (h : f9 = 0 → ft = 0 ∧ n9 = p0 ∧ tI yp X s) : tRl yp X G rs tt p0 p0 n9 0 ft f9 s s ty 0 := by
  refine ⟨hn, hf, hJ, rfl, by omega, fun z => ?_⟩
  obtain ⟨h1, h2, h3⟩ := h z
  refine ⟨h1, h2, h3, tOK_mono tOK_rf (Nat.le_refl _) (by omega) (fun F a b _ _ hz J st hsc hst => ?_)⟩
  subst hz; exact sgw_nil (vs (by omega))
theorem tRl_S {yp rs tt p0 pos e n9 n2 n3 b8 c i : Nat} {X : tF} {G : Nat → Nat → Nat} {ft f9 f2 : Int32} {s t w : tgS} {ty : Nat → Nat} {qt qv ql : Nat} {qp qm : Int32} (h : tRl yp X G rs tt p0 pos n9 b8 ft f9 s t ty i) (hr : tRw yp X G rs tt pos e n2 c f9 f2 t w qt qv ql qp qm) (hq : f2 = 0 → qt = ty i) (hc : n3 < tt ∧ (f2 ≠ 0 → n3 = tt - 1) ∧ (f2 = 0 → n3 = e + 1)) (hp : f9 = 0 → p0 ≤ pos ∧ pos < e) (hi12 : f2 = 0 → i < 12) : tRl yp X G rs tt p0 (e + 1) n3 (b8 + c) ft f2 s w ty (i + 1) := by
  obtain ⟨a1, a2, a3, a4, a5, a6⟩ := h
  obtain ⟨⟨c1, c2, c3, c4, c5, c6⟩, d5⟩ := hr
  refine ⟨hc.1, hc.2.1, c3, c5.trans a4, by omega, fun z => ?_⟩
  obtain ⟨e1, e2, e3, e4, e5⟩ := d5 z
  rw [a4] at e5
  obtain ⟨g1, g2, g3, g4⟩ := a6 e1
  obtain ⟨p1, p2⟩ := hp e1
  have cl1 := cL_le (X := X) p1; have cl2 := cL_le (X := X) (show pos ≤ e by omega); have cl3 := cL_le (X := X) (show e ≤ e + 1 by omega)
  have hlo := g4.1.1 1 (by decide)
  have hqt := hq z
  refine ⟨g1, hc.2.2 z, e3, tOK_mono (tOK_seq g4 (tOK_lo (lo2 := s.1 1) e5 hlo)) (Nat.le_refl _) (by omega) (fun F x y hxy hF hz J st hsc hst => ?_)⟩
  obtain ⟨m, m1, m2, y1, y2⟩ := hz
  have h12 := hi12 z
  have v1 := vl_tAr (F := F) (ty := ty) i
  have v2 := vl_app (tAr F ty i) st
  have := sgw_app (y1 J st hsc hst) (sgw_mono (w := wl st) (y2 J (tAr F ty i ++ st) (scX_a hsc m1) (by omega)) (by rw [wl_app]; omega)) m1 m2
  rw [hqt] at this
  exact this
/-- a list with commas, from its front: where each one begins -/
theorem sepR_fn {fk : Nat → Int32} {S : Nat → Nat → Nat → Prop} : ∀ (n p q b : Nat), sepR fk S n p q b → ∃ P B : Nat → Nat, P 0 = p ∧ P n = q + 1 ∧ B 0 = 0 ∧ B n = b ∧ (∀ i : Nat, i < n → ∃ c : Nat, 1 ≤ P (i + 1) ∧ S (P i) (P (i + 1) - 1) c ∧ B (i + 1) = B i + c) ∧ ∀ i : Nat, i + 1 < n → fk (P (i + 1) - 1) = 44
  | 0, _, _, _, h => absurd h id
  | n + 1, p, q, b, h => by
    rcases h with ⟨rfl, h⟩ | ⟨r, b1, b2, h1, h2, h3, h4⟩
    · refine ⟨fun i => if i = 0 then p else q + 1, fun i => if i = 0 then 0 else b, rfl, rfl, rfl, rfl, fun i hi => ?_, fun i hi => by omega⟩
      obtain rfl : i = 0 := by omega
      exact ⟨b, Nat.succ_le_succ (Nat.zero_le _), h, by show b = 0 + b; omega⟩
    · obtain ⟨P, B, p0, pn, c0, cn, hs, hk⟩ := sepR_fn n p r b1 h1
      have e1 : ∀ i : Nat, i ≤ n → (if i ≤ n then P i else q + 1) = P i := fun i hi => if_pos hi
      have e2 : ∀ i : Nat, i ≤ n → (if i ≤ n then B i else b) = B i := fun i hi => if_pos hi
      have e3 : (if n + 1 ≤ n then P (n + 1) else q + 1) = q + 1 := if_neg (by omega)
      have e4 : (if n + 1 ≤ n then B (n + 1) else b) = b := if_neg (by omega)
      refine ⟨fun i => if i ≤ n then P i else q + 1, fun i => if i ≤ n then B i else b, (e1 0 (by omega)).trans p0, e3, (e2 0 (by omega)).trans c0, e4, fun i hi => ?_, fun i hi => ?_⟩
      · show ∃ c : Nat, 1 ≤ (if i + 1 ≤ n then P (i + 1) else q + 1) ∧ S (if i ≤ n then P i else q + 1) ((if i + 1 ≤ n then P (i + 1) else q + 1) - 1) c ∧ (if i + 1 ≤ n then B (i + 1) else b) = (if i ≤ n then B i else b) + c
        rcases Nat.lt_or_ge i n with z | z
        · rw [e1 i (by omega), e1 (i + 1) (by omega), e2 i (by omega), e2 (i + 1) (by omega)]; exact hs i z
        · obtain rfl : i = n := by omega
          rw [e1 i (Nat.le_refl _), e2 i (Nat.le_refl _), e3, e4, pn, cn]; exact ⟨b2, by omega, h3, h4⟩
      · show fk ((if i + 1 ≤ n then P (i + 1) else q + 1) - 1) = 44
        rw [e1 (i + 1) (by omega)]
        rcases Nat.lt_or_ge (i + 1) n with z | z
        · exact hk i z
        · rw [show i + 1 = n by omega, pn]; exact h2
theorem sep_up {S : Nat → Nat → Nat → Prop} {n : Nat} {P B : Nat → Nat} (hS : ∀ p q b : Nat, S p q b → p < q) (h : ∀ i : Nat, i < n → ∃ c : Nat, 1 ≤ P (i + 1) ∧ S (P i) (P (i + 1) - 1) c ∧ B (i + 1) = B i + c) : ∀ i j : Nat, i + j = n → P i + 2 * j ≤ P n ∧ B i ≤ B n
  | i, 0, e => by rw [show i = n by omega]; omega
  | i, j + 1, e => by
    obtain ⟨c, h0, h1, h2⟩ := h i (by omega)
    have h3 := hS _ _ _ h1
    have h4 := sep_up hS h (i + 1) j (by omega)
    omega
theorem sep_up2 {S : Nat → Nat → Nat → Prop} {n : Nat} {P B : Nat → Nat} (hS : ∀ p q b : Nat, S p q b → p < q) (h : ∀ i : Nat, i < n → ∃ c : Nat, 1 ≤ P (i + 1) ∧ S (P i) (P (i + 1) - 1) c ∧ B (i + 1) = B i + c) : ∀ i : Nat, i ≤ n → P 0 + 2 * i ≤ P i
  | 0, _ => by omega
  | i + 1, hi => by
    obtain ⟨c, h0, h1, -⟩ := h i (by omega)
    have h3 := hS _ _ _ h1
    have h4 := sep_up2 hS h i (by omega)
    omega
/-- a call: the arguments, then the instruction -/
theorem l_call {yp rs rs1 tt nw p0 pos q n9 n2 nb b b8 g ypr i9 : Nat} {X : tF} {G : Nat → Nat → Nat} {ip ft f9 : Int32} {s t w : tgS} {qt qv ql : Nat} {qp qa qr qm : Int32} (h : tRl yp X G rs1 tt p0 pos n9 b8 ft f9 s t (fun k => G g (k + 2)) (G g 0)) (hrs : rs = rs1 + 4096) (hft : ft = 0) (hip : ip = 0) (hQ : tQ qt qv ql qp qm) (hg : g < nb ∧ nb ≤ 40 ∧ G g 1 < 3040) (hA : tAd t w 21 (nI g) 0 0 (-1)) (hc : n2 < tt ∧ (f9 ≠ 0 → n2 = tt - 1) ∧ (f9 = 0 → n2 = q)) (hb : b8 ≤ b) (hp : nw + 2 ≤ p0 ∧ (f9 = 0 → p0 ≤ pos ∧ pos ≤ q)) (hcp : tCp X nw q s) (hH : tHd yp nb ypr i9 G s) : tRs yp X G rs tt nw q n2 b ip ft f9 s w (G g 1) qv ql 0 qa qr qm := by
  obtain ⟨a1, a2, a3, a4, a5, a6⟩ := h
  refine ⟨⟨hc.1, hc.2.1, tJ_ad a3 hA, ⟨hg.2.2, hQ.2.1, hQ.2.2.1, Or.inl rfl, hQ.2.2.2.2⟩, by rw [hA.1 4 (by decide)]; exact a4, by rw [hA.1 5 (by decide)]; omega⟩, fun z => ?_⟩
  obtain ⟨e1, e2, e3, e4⟩ := a6 z
  obtain ⟨p1, p2⟩ := hp.2 z
  have cl1 := cL_le (X := X) (show nw ≤ p0 by omega); have cl2 := cL_le (X := X) p1; have cl3 := cL_le (X := X) p2
  obtain ⟨c0, c1, c2, c3, c7⟩ := hcp
  obtain ⟨r0, r1, r2, r3, r7⟩ := e4.2.2.1
  have ht0 : t.1 0 < 6000 := by omega
  have hi := tI_ad e3 hA ht0 (by unfold isL; decide)
  have hHw := tHd_x hH (tXt_tr e4.1 (tXt_ad hA ht0))
  refine ⟨hft, hc.2.2 z, hi, fun z => absurd (hip.symm.trans z) (by decide), Or.inr ⟨rfl, (hHw.2.2 g hg.1).1, tOK_mono (tOK_seq e4 (tOK_ad (lo := s.1 1) hA ht0 (by unfold isL; decide))) (Nat.le_refl _) (by omega) (fun F x y hxy hF hz J st hsc hst => ?_)⟩⟩
  obtain ⟨m, m1, m2, y1, rfl, k0, k1, -⟩ := hz
  subst hrs
  have y2 := y1 J st hsc (by rw [rB_up] at hst; omega)
  rw [rT_up]
  refine sgw_app y2 (sgw_one (o := 21) (by rw [← tAr_as, wl_app, wl_as]; show wl st + G (cN (F 1 m)) 0 ≤ _; rw [k1, cN_nI (by omega)]; omega) k0 ⟨g, k1, by omega⟩ (sgw_end y2 m1) (vb1 hst) (fun k hk => ⟨g, st, ⟨by omega, hg.2.2⟩, k1, by rw [tAr_as], hk⟩)) m1 (Nat.le_succ m)
theorem v_tag {lo rs g : Nat} {X : tF} {G : Nat → Nat → Nat} {s t : tgS} (hg : g < 12) (hc : s.1 0 < 6000) (h : tAd s t 11 (nI g) 0 0 (-1)) : tOK lo 1 0 0 0 0 s t (fun F a b => ∀ (J : Int32 → List tE → Prop) (st : List tE), vl st + 1 ≤ 211 → sgw (wl st) F X G rs J a b (some st) (some ((3, g, 0) :: st))) := by
  refine tOK_mono (tOK_ad (lo := lo) h hc (by unfold isL; decide)) (Nat.le_refl _) (by omega) (fun F a b hab hF hR J st hst => ?_)
  obtain ⟨rfl, g0, g1, -⟩ := hR
  exact sgw_one (o := 11) (Nat.le_refl _) g0 (show 11 < 33 by decide) (by omega) (vs (Nat.le_trans vl_cons hst)) (fun k hk => ⟨g, hg, g1, hk⟩)
theorem tSz_F {F H X : tF} {r yt : Nat} (h : ∀ i : Nat, i < yt → F 22 i = H 22 i) : ∀ n : Nat, (∀ k : Nat, k < n → cN (X 2 (r * 12 + k)) < yt) → tSz F X r n = tSz H X r n
  | 0, _ => rfl
  | n + 1, hk => by unfold tSz; rw [tSz_F h n (fun k hk2 => hk k (by omega)), h _ (hk n (by omega))]
/-- a variant: the tag, its parts, then the instruction that fills up -/
theorem l_vrt {yp rs rs1 tt nw p0 q n9 n2 b b8 sh g m : Nat} {X : tF} {G : Nat → Nat → Nat} {ip ft f9 x9 : Int32} {s u t w : tgS} {qt qv ql : Nat} {qp qa qr qm : Int32} (hT : tAd s u 11 (nI g) 0 0 (-1)) (h : tRl yp X G rs1 tt p0 q n9 b8 ft f9 u t (fun k => cN (X 2 ((sh * 12 + g) * 12 + k))) m) (hrs : rs = rs1 + 4096) (hft : ft = 0) (hip : ip = 0) (hQ : tQ qt qv ql qp qm) (hsh : sh < yp) (hk : s.2 20 (4 + sh) = 3) (hg : g < 12 ∧ nI g < X 0 sh) (hm : X 1 (sh * 12 + g) = nI m ∧ m ≤ 12) (hx : f9 = 0 → x9 = s.2 22 (4 + sh) - nI (1 + tSz s.2 X (sh * 12 + g) m)) (hA : tAd t w 12 x9 (nI m) 0 (-1)) (hc : n2 < tt ∧ (f9 ≠ 0 → n2 = tt - 1) ∧ (f9 = 0 → n2 = q)) (hb : b8 ≤ b) (hp : nw + 3 ≤ p0 ∧ p0 ≤ q) (hcp : tCp X nw q s) (hI : tI yp X s) : tRs yp X G rs tt nw q n2 b ip ft f9 s w (4 + sh) qv ql 0 qa qr qm := by
  obtain ⟨a1, a2, a3, a4, a5, a6⟩ := h
  have hyp : yp ≤ 30 := hI.1.2.2.1
  have hy34 : 34 ≤ s.1 7 := hI.1.1
  have cl1 := cL_le (X := X) (show nw ≤ p0 by omega); have cl2 := cL_le (X := X) hp.2
  obtain ⟨c0, c1, c2, c3, c7⟩ := hcp
  have hs0 : s.1 0 < 6000 := by omega
  refine ⟨⟨hc.1, hc.2.1, tJ_ad a3 hA, ⟨by omega, hQ.2.1, hQ.2.2.1, Or.inl rfl, hQ.2.2.2.2⟩, by rw [hA.1 4 (by decide), a4, hT.1 4 (by decide)], by rw [hA.1 5 (by decide)]; have := hT.1 5 (by decide); omega⟩, fun z => ?_⟩
  obtain ⟨e1, e2, e3, e4⟩ := a6 z
  obtain ⟨r0, r1, r2, r3, r7⟩ := e4.2.2.1
  have u0 := (insA_lt hT.2.2.1 hs0).1
  have u1 := hT.1 1 (by decide); have u2 := hT.1 2 (by decide); have u3 := hT.1 3 (by decide); have u7 := hT.1 7 (by decide)
  have ht0 : t.1 0 < 6000 := by omega
  have hi := tI_ad e3 hA ht0 (by unfold isL; decide)
  have hsw := tXt_tr (tXt_ad hT hs0) (tXt_tr e4.1 (tXt_ad hA ht0))
  have h47 : 4 + sh < w.1 7 := by have := hsw.1 7 (by decide); omega
  rw [u1, hT.1 4 (by decide)] at e4
  refine ⟨hft, hc.2.2 z, hi, fun z => absurd (hip.symm.trans z) (by decide), Or.inr ⟨rfl, Or.inr ⟨Or.inl (Or.inr (Or.inl ⟨by omega, by omega⟩)), h47⟩, tOK_mono (tOK_seq (v_tag (lo := s.1 1) (X := X) (G := G) (rs := rT rs1) hg.1 hs0 hT) (tOK_seq e4 (tOK_ad (lo := s.1 1) hA ht0 (by unfold isL; decide)))) (Nat.le_refl _) (by omega) (fun F x y hxy hF hz J st hsc hst => ?_)⟩⟩
  obtain ⟨m0, m1, m2, y0, m3, m4, m5, y1, rfl, k0, k1, k2, -⟩ := hz
  subst hrs
  rw [rT_up]
  have hst1 := hst
  rw [rB_up] at hst1
  have hvt := vl_cons (x := ((3, g, 0) : tE)) (s := st)
  have y2 := sgw_app (y0 J st (by omega)) (sgw_mono (w := wl st) (y1 J ((3, g, 0) :: st) (scX_c hsc m1) (by omega)) wl_le) m1 m4
  have hFs := tFu_dn hF hsw
  have f20 := hFs.1 20 (by decide) (by decide) (4 + sh) (by omega)
  have f22 := hFs.1 22 (by decide) (by decide) (4 + sh) (by omega)
  have hsz : tSz F X (sh * 12 + g) m = tSz s.2 X (sh * 12 + g) m := tSz_F (fun i hi => hFs.1 22 (by decide) (by decide) i hi) m (fun k hk9 => by
    obtain ⟨nv, v1, v2, v3, v4, v5⟩ := hI.2.2.2.1 sh hsh
    rw [v1] at hg
    obtain ⟨mm, w1, w2, w3⟩ := v5 g ((nI_ltI (by omega) (by omega)).mp hg.2)
    have : mm = m := (nI_eq (by omega) (by omega)).mp (w1.symm.trans hm.1)
    subst this
    obtain ⟨uu, x1, x2, x3⟩ := w3 k hk9
    have h30 : s.1 7 ≤ 3040 := hI.1.2.1
    rw [x1, cN_nI (by omega)]; exact x3)
  refine sgw_app y2 (sgw_one (o := 12) (by rw [← tAr_ps, wl_app, wl_ps, wl_n (e := (3, g, 0)) (by show ¬ ((3 : Nat) = 8 ∨ (3 : Nat) = 4 ∨ (3 : Nat) = 5 ∨ (3 : Nat) = 6); decide)]; show wl st + cN (F 2 m3) ≤ _; rw [k2, cN_nI (by omega)]; omega) k0 (show 12 < 33 by decide) (sgw_end y2 (by omega)) (vb1 hst) (fun k hk9 => ?_)) (by omega) (Nat.le_succ m3)
  refine ⟨sh, g, m, st, by omega, by rw [f20]; exact hk, hg.1, hg.2, hm.1, hm.2, k2, ?_, by rw [tAr_ps], ?_⟩
  · rw [k1, f22, hsz]; exact hx z
  · rw [hk9, tNf_0 (by omega) (by rw [f20, hk]; decide) (by rw [f20, hk]; decide)]
theorem exps_fn {fk lk : Nat → Int32} {N : gRel} {m p q b : Nat} (h : eExps fk lk N m p q b) : ∃ (n : Nat) (P B : Nat → Nat), lk p = nI n ∧ n ≤ 3002 ∧ m ≤ n ∧ fk p = 40 ∧ P 0 = p + 1 ∧ B 0 = 0 ∧ B n = b ∧ (∀ i : Nat, i < n → ∃ c : Nat, 1 ≤ P (i + 1) ∧ eOne N (P i) (P (i + 1) - 1) c ∧ B (i + 1) = B i + c) ∧ (∀ i : Nat, i + 1 < n → fk (P (i + 1) - 1) = 44) ∧ (n = 0 → q = p + 2) ∧ (0 < n → P n = q) ∧ fk (q - 1) = 41 ∧ 1 ≤ q := by
  obtain ⟨h1, n, r, h2, h3, h4, h5, h6, h7⟩ := h
  have h8 : fk (q - 1) = 41 := by rw [h7]; exact h6
  rcases h5 with ⟨rfl, rfl, rfl⟩ | h5
  · exact ⟨0, fun _ => p + 1, fun _ => 0, h2, h3, h4, h1, rfl, rfl, rfl, fun i hi => absurd hi (Nat.not_lt_zero i), fun i hi => absurd hi (by omega), fun _ => h7, fun z => absurd z (by omega), h8, by omega⟩
  · obtain ⟨P, B, p0, pn, c0, cn, hs, hk⟩ := sepR_fn n (p + 1) r b h5
    refine ⟨n, P, B, h2, h3, h4, h1, p0, c0, cn, hs, hk, fun z => ?_, fun _ => by rw [pn]; exact h7.symm, h8, by omega⟩
    subst z; exact absurd h5 id
theorem one_lt {fk lF : Nat → Int32} {k0 : Nat} : ∀ p q b : Nat, eOne (gN fk lF k0) p q b → p < q := fun p q b h => by
  obtain ⟨i, h⟩ := h
  exact gN_lt _ _ _ _ _ h
theorem l_flt {yp rs tt nw q n2 b : Nat} {X : tF} {G : Nat → Nat → Nat} {ip ft f2 : Int32} {s : tgS} {qt qv ql : Nat} {qp qa qr qm : Int32} (hf : f2 ≠ 0) (hn : n2 = tt - 1) (ht : nw < tt) (hJ : tJ s) (hQ : tQ qt qv ql qp qm) : tRs yp X G rs tt nw q n2 b ip ft f2 s s qt qv ql qp qa qr qm := ⟨⟨by omega, fun _ => hn, hJ, hQ, rfl, by omega⟩, fun z => absurd z hf⟩
theorem fnL_mem {kI kZ : ClassId} {fa : Nat → Nat → Nat} {fc : Nat → Nat → Int32} {fr : Nat → Nat → Nat → Int32} {g : Nat} : ∀ (n s : Nat), s ≤ g → g < s + n → ∀ q ∈ fnC kI kZ fa fc fr g, q ∈ fnL kI kZ fa fc fr s n
  | 0, s, h1, h2, q, hq => absurd h2 (by omega)
  | n + 1, s, h1, h2, q, hq => by
    show q ∈ fnC kI kZ fa fc fr s ++ fnL kI kZ fa fc fr (s + 1) n
    by_cases e : g = s
    · subst e; exact List.mem_append_left _ hq
    · exact List.mem_append_right _ (fnL_mem n (s + 1) (by omega) (by omega) q hq)
theorem fnX_mem {kI kZ : ClassId} {fa : Nat → Nat → Nat} {fc : Nat → Nat → Int32} {fr : Nat → Nat → Nat → Int32} {g i : Nat} (hg : g < 40) (hi : i < 40) (hne : g ≠ i) : ∀ q ∈ fnC kI kZ fa fc fr g, q ∈ fnX kI kZ fa fc fr i := fun q hq => by
  unfold fnX
  rcases Nat.lt_or_ge g i with z | z
  · exact List.mem_append_left _ (fnL_mem i 0 (by omega) (by omega) q hq)
  · exact List.mem_append_right _ (fnL_mem (39 - i) (i + 1) (by omega) (by omega) q hq)
/-- the code of a struct so far -/
def tBl (nv : Nat) (X : tF) (G : Nat → Nat → Nat) (rs n sh : Nat) (sn : Int32) : tR := fun F a b => ∀ (J : Int32 → List tE → Prop) (st : List tE), scX nv F a st → vl st + 1 + rB rs ≤ 211 → sgw (wl st) F X G (rT rs) J a b (some st) (some (pE n sh sn :: st))
def tRf (yp : Nat) (X : tF) (G : Nat → Nat → Nat) (rs tt nw pos n9 b8 : Nat) (ft f9 : Int32) (s t : tgS) (n sh : Nat) (sn : Int32) : Prop := n9 < tt ∧ (f9 ≠ 0 → n9 = tt - 1) ∧ tJ t ∧ t.1 4 = s.1 4 ∧ t.1 5 ≤ s.1 5 + b8 ∧ (f9 = 0 → ft = 0 ∧ n9 = pos ∧ tI yp X t ∧ tOK (s.1 1) (2 * (pos - nw) - 1) (2 * (cL X pos - cL X nw)) (pos - nw) 0 (pos - nw) s t (tBl (s.1 4) X G rs n sh sn))
theorem tRf_0 {yp rs tt nw n9 n sh : Nat} {X : tF} {G : Nat → Nat → Nat} {ft : Int32} {s t : tgS} (hft : ft = 0) (hn : n9 < tt) (hp : n9 = nw + 3) (hI : tI yp X s) (hJ : tJ s) (hs0 : s.1 0 < 6000) (hsh : sh < yp) (hk : s.2 20 (4 + sh) = 2) (hX : X 1 (sh * 12) = nI n) (hn12 : n ≤ 12) (hA : tAd s t 9 (s.2 22 (4 + sh)) 0 0 (-1)) : tRf yp X G rs tt nw (nw + 3) n9 0 ft ft s t n sh 0 := by
  have hyp : yp ≤ 30 := hI.1.2.2.1
  have h34 : 34 ≤ s.1 7 := hI.1.1
  refine ⟨hn, fun z => absurd hft z, tJ_ad hJ hA, hA.1 4 (by decide), by rw [hA.1 5 (by decide)]; omega, fun _ => ⟨hft, hp, tI_ad hI hA hs0 (by unfold isL; decide), tOK_mono (tOK_ad (lo := s.1 1) hA hs0 (by unfold isL; decide)) (Nat.le_refl _) (by omega) (fun F a b hab hF hz J st hsc hst => ?_)⟩⟩
  obtain ⟨rfl, g0, g1, -⟩ := hz
  have hst2 : vl st + rB rs ≤ 211 := by omega
  have hFs := tFu_dn hF (tXt_ad hA hs0)
  have f20 := hFs.1 20 (by decide) (by decide) (4 + sh) (by omega)
  have f22 := hFs.1 22 (by decide) (by decide) (4 + sh) (by omega)
  exact sgw_one (o := 9) (Nat.le_refl _) g0 (show 9 < 33 by decide) (by omega) (vb1 hst2) (fun k hk9 => ⟨sh, n, by omega, by rw [f20]; exact hk, hX, hn12, by rw [f22]; exact g1, hk9⟩)
theorem tRf_S {yp rs tt nw pos e n9 n2 n3 b8 c n sh j wt ec : Nat} {X : tF} {G : Nat → Nat → Nat} {ft f9 f2 sn x1 x2 x3 : Int32} {s t w v : tgS} {qt qv ql : Nat} {qp qm : Int32} (h : tRf yp X G rs tt nw pos n9 b8 ft f9 s t n sh sn) (hr : tRw yp X G rs tt (pos + 2) e n2 c ft f2 t w qt qv ql qp qm) (hf9 : f9 = 0) (hq : f2 = 0 → qt = wt) (hA : tAd w v 10 x1 x2 x3 (-1)) (hx1 : x1 = X 3 (sh * 12 * 12 + j)) (hx2 : x2 = w.2 22 wt) (hx3 : x3 = s.2 22 (4 + sh)) (hwt : X 2 (sh * 12 * 12 + j) = nI wt ∧ wt < s.1 7) (hsh : sh < yp) (hk : s.2 20 (4 + sh) = 2) (hX : X 1 (sh * 12) = nI n) (hn12 : n ≤ 12) (hj : j < n) (hbit : (sn >>> (nI j &&& 31)) &&& 1 ≠ 1) (hc : n3 < tt ∧ (f2 ≠ 0 → n3 = tt - 1) ∧ (f2 = 0 → n3 = e + 1)) (hp : nw + 3 ≤ pos ∧ pos + 2 < e) (hcp : tCp X nw ec s) (hec : e < ec) (hIs : tI yp X s) (hs7 : s.1 7 ≤ 3040) : tRf yp X G rs tt nw (e + 1) n3 (b8 + c) ft f2 s v n sh (sn ||| ((1 : Int32) <<< (nI j &&& 31))) := by
  obtain ⟨a1, a2, a3, a4, a5, a6⟩ := h
  obtain ⟨⟨c1, c2, c3, c4, c5, c6⟩, d5⟩ := hr
  have hyp : yp ≤ 30 := hIs.1.2.2.1
  have h34 : 34 ≤ s.1 7 := hIs.1.1
  refine ⟨hc.1, hc.2.1, tJ_ad c3 hA, by rw [hA.1 4 (by decide), c5, a4], by rw [hA.1 5 (by decide)]; omega, fun z => ?_⟩
  obtain ⟨e1, e2, e3, e4, e5⟩ := d5 z
  rw [a4] at e5
  obtain ⟨g1, g2, g3, g4⟩ := a6 hf9
  have cl1 := cL_le (X := X) (show nw ≤ pos by omega); have cl2 := cL_le (X := X) (show pos ≤ pos + 2 by omega); have cl3 := cL_le (X := X) (show pos + 2 ≤ e by omega); have cl4 := cL_le (X := X) (show e ≤ e + 1 by omega); have cl5 := cL_le (X := X) (show e ≤ ec by omega)
  have hlo := g4.1.1 1 (by decide)
  obtain ⟨p0, p1, p2, p3, p7⟩ := hcp
  obtain ⟨q0, q1, q2, q3, q7⟩ := g4.2.2.1
  obtain ⟨r0, r1, r2, r3, r7⟩ := e5.2.2.1
  have hw0 : w.1 0 < 6000 := by omega
  have hsw := tXt_tr g4.1 e5.1
  refine ⟨g1, hc.2.2 z, tI_ad e3 hA hw0 (by unfold isL; decide), tOK_mono (tOK_seq (tOK_seq g4 (tOK_lo (lo2 := s.1 1) e5 hlo)) (tOK_ad (lo := s.1 1) hA hw0 (by unfold isL; decide))) (Nat.le_refl _) (by omega) (fun F x y hxy hF hz J st hsc hst => ?_)⟩
  obtain ⟨m, m1, m2, ⟨m3, m4, m5, y1, y2⟩, rfl, k0, k1, k2, k3, -⟩ := hz
  have hst2 : vl st + rB rs ≤ 211 := by omega
  have hvt := vl_cons (x := pE n sh sn) (s := st)
  have hFw := tFu_dn hF (tXt_ad hA hw0)
  have hFs := tFu_dn hFw hsw
  have f20 := hFs.1 20 (by decide) (by decide) (4 + sh) (by omega)
  have f22 := hFs.1 22 (by decide) (by decide) (4 + sh) (by omega)
  have w7 := hsw.1 7 (by decide)
  have f22w := hFw.1 22 (by decide) (by decide) wt (by omega)
  have e9 : cN (X 2 (sh * 12 * 12 + j)) = wt := by rw [hwt.1]; exact cN_nI (by omega)
  have y3 := sgw_mono (w := wl st) (y2 J (pE n sh sn :: st) (scX_c hsc m4) (by omega)) wl_le
  rw [hq z] at y3
  have y4 := sgw_app (y1 J st hsc hst) y3 m4 m5
  refine sgw_app y4 (sgw_one (o := 10) (by rw [wl_t, wl_p]; show wl st + 1 ≤ wl st + 1 + 1; omega) k0 (show 10 < 33 by decide) (sgw_end y4 (by omega)) (vb1 hst2) (fun k hk9 => ⟨sh, j, n, sn, st, by omega, by rw [f20]; exact hk, hX, hn12, hj, hbit, k1.trans hx1, ?_, ?_, by rw [e9], hk9⟩)) m1 (Nat.le_succ m)
  · rw [e9, f22w, k2, hx2]
  · rw [f22, k3, hx3]
theorem l_bld {yp rs rs1 tt nw pos q n9 n2 b b8 n sh : Nat} {X : tF} {G : Nat → Nat → Nat} {ip ft f9 f2 sn : Int32} {s t : tgS} {qt qv ql : Nat} {qp qa qr qm : Int32} (h : tRf yp X G rs1 tt nw pos n9 b8 ft f9 s t n sh sn) (hrs : rs = rs1 + 4096) (hft : ft = 0) (hip : ip = 0) (hQ : tQ qt qv ql qp qm) (hsh : sh < yp) (hk : s.2 20 (4 + sh) = 2) (h2 : (f2 ≠ 0 ∧ n2 = tt - 1) ∨ (f2 = f9 ∧ sn = ((1 : Int32) <<< (nI n &&& 31)) - 1 ∧ n2 < tt ∧ (f9 ≠ 0 → n2 = tt - 1) ∧ (f9 = 0 → n2 = q))) (hb : b8 ≤ b) (hp : f9 = 0 → nw + 3 ≤ pos ∧ pos ≤ q ∧ nw + 2 < q) (hq0 : nw < tt) (hyp : yp ≤ 30) (h34 : 34 ≤ s.1 7) : tRs yp X G rs tt nw q n2 b ip ft f2 s t (4 + sh) qv ql 0 qa qr qm := by
  obtain ⟨a1, a2, a3, a4, a5, a6⟩ := h
  refine ⟨⟨by rcases h2 with z | z; omega; exact z.2.2.1, fun z => ?_, a3, ⟨by omega, hQ.2.1, hQ.2.2.1, Or.inl rfl, hQ.2.2.2.2⟩, a4, by omega⟩, fun z => ?_⟩
  · rcases h2 with z2 | z2
    · exact z2.2
    · exact z2.2.2.2.1 (by rw [← z2.1]; exact z)
  · rcases h2 with z2 | ⟨rfl, z3, z4, z5, z6⟩
    · exact absurd z z2.1
    · obtain ⟨e1, e2, e3, e4⟩ := a6 z
      obtain ⟨p1, p2, p3⟩ := hp z
      have cl1 := cL_le (X := X) p2; have cl2 := cL_le (X := X) (show nw ≤ pos by omega)
      have h47 : 4 + sh < t.1 7 := by have := e4.1.1 7 (by decide); omega
      refine ⟨hft, z6 z, e3, fun z => absurd (hip.symm.trans z) (by decide), Or.inr ⟨rfl, Or.inr ⟨Or.inl (Or.inr (Or.inl ⟨by omega, by omega⟩)), h47⟩, tOK_mono e4 (Nat.le_refl _) (by omega) (fun F x y hxy hF hz J st hsc hst => ?_)⟩⟩
      subst hrs
      rw [rT_up]
      have f20 := (tFu_dn hF e4.1).1 20 (by decide) (by decide) (4 + sh) (by omega)
      rw [tNf_0 (by omega) (by rw [f20, hk]; decide) (by rw [f20, hk]; decide)]
      have y1 := hz J st hsc (by rw [rB_up] at hst; omega)
      unfold pE at y1
      rw [if_pos z3] at y1
      exact y1
theorem vrt_of {fk lF : Nat → Int32} {N : gRel} {nw q b : Nat} (hN : ∀ p q b : Nat, eOne N p q b → p < q) (h : (fk (nw + 3) = 40 ∧ eExps fk lF N 1 (nw + 3) q b) ∨ (fk (nw + 3) ≠ 40 ∧ q = nw + 3 ∧ b = 0)) : ∃ (n p0 : Nat) (P B : Nat → Nat), n ≤ 3002 ∧ ((fk (nw + 3) = 40 ∧ lF (nw + 3) = nI n ∧ p0 = nw + 4) ∨ (fk (nw + 3) ≠ 40 ∧ n = 0 ∧ p0 = nw + 3)) ∧ P 0 = p0 ∧ P n = q ∧ B 0 = 0 ∧ B n = b ∧ (∀ i : Nat, i < n → ∃ c : Nat, 1 ≤ P (i + 1) ∧ eOne N (P i) (P (i + 1) - 1) c ∧ B (i + 1) = B i + c) ∧ (∀ i : Nat, i ≤ n → p0 + 2 * i ≤ P i ∧ P i + 2 * (n - i) ≤ q ∧ B i ≤ b) := by
  rcases h with ⟨h1, h⟩ | ⟨h1, h2, h3⟩
  · obtain ⟨n, P, B, a1, a2, a3, a4, a5, a6, a7, a8, a9, a10, a11, -⟩ := exps_fn h
    have e := a11 (by omega)
    refine ⟨n, nw + 4, P, B, a2, Or.inl ⟨h1, a1, rfl⟩, a5, e, a6, a7, a8, fun i hi => ?_⟩
    have u1 := sep_up2 hN a8 i hi
    have u2 := sep_up hN a8 i (n - i) (by omega)
    omega
  · exact ⟨0, nw + 3, fun _ => nw + 3, fun _ => 0, by omega, Or.inr ⟨h1, rfl, rfl⟩, rfl, h2.symm, rfl, h3.symm, fun i hi => absurd hi (Nat.not_lt_zero i), fun i hi => by dsimp only; omega⟩
theorem bld_of {fk lF : Nat → Int32} {k0 nw q b : Nat} (h : eBuilt fk (gN fk lF k0) nw q b) : fk (nw + 1) = 2 ∧ fk (nw + 2) = 123 ∧ ∃ (n : Nat) (P B : Nat → Nat), P 0 = nw + 3 ∧ P n = q ∧ B 0 = 0 ∧ B n = b ∧ fk (q - 1) = 125 ∧ 1 ≤ n ∧ (∀ i : Nat, i < n → ∃ c : Nat, 1 ≤ P (i + 1) ∧ eFld fk (gN fk lF k0) (P i) (P (i + 1) - 1) c ∧ B (i + 1) = B i + c) ∧ (∀ i : Nat, i + 1 < n → fk (P (i + 1) - 1) = 44) ∧ ∀ i : Nat, i ≤ n → nw + 3 + 2 * i ≤ P i ∧ P i + 2 * (n - i) ≤ q ∧ B i ≤ b := by
  obtain ⟨h1, h2, n, r, h3, h4, h5⟩ := h
  obtain ⟨P, B, p0, pn, c0, cn, hs, hk⟩ := sepR_fn n (nw + 3) r b h3
  have hF : ∀ p q b : Nat, eFld fk (gN fk lF k0) p q b → p < q := fun p q b h => by have := one_lt _ _ _ h.2.2; omega
  have hn : 1 ≤ n := by
    rcases Nat.eq_zero_or_pos n with z | z
    · subst z; exact absurd h3 id
    · exact z
  refine ⟨h1, h2, n, P, B, p0, by rw [pn]; exact h5.symm, c0, cn, by rw [h5]; exact h4, hn, hs, hk, fun i hi => ?_⟩
  have u1 := sep_up2 hF hs i hi
  have u2 := sep_up hF hs i (n - i) (by omega)
  rw [pn] at u2
  omega
