section PS92
variable {R : yR} {K : Ky} {S0 Sl S S1 S2 S3 : Sg} {D : fD} {i k j f nw n v : Nat} {vt : Nat → Nat → Nat} {tb : Nat → lTb} {x : Nat → kFm} {bs : Nat → Nat} {g : Nat → Int32}
/-- only variables' places change -/
def VO (P : Nat → Prop) (S S2 : Sg) : Prop := ZL S2 = ZL S ∧ ZF S2 = ZF S ∧ (Zz S2 = Zz S ∧ Zn S2 = Zn S) ∧ Zq S2 = Zq S ∧ Zf S2 = Zf S ∧ Zl S2 = Zl S ∧ (∀ r : Nat, r ≠ 74 → Zr S2 r = Zr S r) ∧ Zi S2 = Zi S ∧ ∀ q : Nat, ¬ P q → Zr S2 74 q = Zr S 74 q
theorem VO.rf {P : Nat → Prop} : VO P S S := ⟨rfl, rfl, ⟨rfl, rfl⟩, rfl, rfl, rfl, fun _ _ => rfl, rfl, fun _ _ => rfl⟩
theorem VO.tr {P : Nat → Prop} (a : VO P S S1) (b : VO P S1 S2) : VO P S S2 := ⟨b.1.trans a.1, b.2.1.trans a.2.1, ⟨b.2.2.1.1.trans a.2.2.1.1, b.2.2.1.2.trans a.2.2.1.2⟩, b.2.2.2.1.trans a.2.2.2.1, b.2.2.2.2.1.trans a.2.2.2.2.1, b.2.2.2.2.2.1.trans a.2.2.2.2.2.1, fun r h => (b.2.2.2.2.2.2.1 r h).trans (a.2.2.2.2.2.2.1 r h), b.2.2.2.2.2.2.2.1.trans a.2.2.2.2.2.2.2.1, fun q h => (b.2.2.2.2.2.2.2.2 q h).trans (a.2.2.2.2.2.2.2.2 q h)⟩
theorem VO.w {P : Nat → Prop} {p : Nat} {v : Int32} (h : P p) : VO P S (Ur S 74 (upd (Zr S 74) p v)) := ⟨rfl, rfl, ⟨rfl, rfl⟩, rfl, rfl, rfl, fun r hr => Zr_u9 hr, rfl, fun q hq => by rw [Zr_us]; exact upd_n (fun e : q = p => hq (by rw [e]; exact h))⟩
theorem VO.rn {P : Nat → Prop} (e : VO P S S2) : RNx S S2 := ⟨e.1, e.2.1, e.2.2.1, e.2.2.2.1, e.2.2.2.2.1, fun r _ => e.2.2.2.2.2.2.1 r (by omega), fun r _ => by rw [e.2.2.2.2.2.1], fun j _ _ => by rw [e.2.2.2.2.2.2.2.1]⟩
theorem VO.go {A B P : Nat → Prop} (e : VO P S S2) : GO A B P S S2 := ⟨e.rn, fun j _ => by rw [e.2.2.2.2.2.2.2.1], e.2.2.2.2.2.2.1 75 (by decide), fun n _ => by rw [e.2.2.2.2.2.1, e.2.2.2.2.2.2.1 62 (by decide), e.2.2.2.2.2.2.1 63 (by decide)]; exact ⟨rfl, rfl, rfl⟩, fun _ _ => by rw [e.2.2.2.2.2.2.1 67 (by decide)], e.2.2.2.2.2.2.2.2⟩
theorem VO.nm {P : Nat → Prop} (e : VO P S S2) : nMS S2 = nMS S := by
  show (Zl S2 61, Zr S2 62, Zr S2 63) = (Zl S 61, Zr S 62, Zr S 63)
  rw [e.2.2.2.2.2.1, e.2.2.2.2.2.2.1 62 (by decide), e.2.2.2.2.2.2.1 63 (by decide)]
theorem VO.fl {P : Nat → Prop} (e : VO P S S2) {fl : List Nat} {t : Nat} (h : FLs S fl t) : FLs S2 fl t := h.eq (by rw [e.2.2.2.2.2.2.2.1]) (by rw [e.2.2.2.2.2.2.2.1]) (e.2.2.2.2.2.2.1 63 (by decide))
theorem VO.wq {P : Nat → Prop} (e : VO P S S2) (h : wq S) : wq S2 := h.eq (by rw [e.2.2.2.2.2.2.2.1]) (by rw [e.2.2.2.2.2.2.2.1])
/-- the parts' places are the variables' -/
theorem rb15 {a aw m n9 : Nat} {w : Nat → Nat} {cs : Nat → List Nat} {fv : Nat → Option Nat} {gs : List Value} {Q : Sg → Unit → Prop} {P : Nat → Prop} (hL : LFS R S0 g) (hx : LX S0 Sl) (e : RNx Sl S) (h76 : Zi S 76 = nI (f + 1)) (hf : f < 60) (ha : a ∈ ZL Sl ∧ ZF Sl a = .inr (13, gs) ∧ gs[3]? = some (.int (nI n9)) ∧ gs[4]? = some (.ref aw)) (hw : aw ∈ ZL Sl ∧ ZF Sl aw = .inl (R.K.1 5, 12, .inr (.inr (.inr (.inr fv))))) (hn : n9 ≤ 12) (hv : ∀ j : Nat, j < n9 → ∃ (va z : Nat) (mu : Int32), fv j = some va ∧ isU Sl va (w j) (some z) mu ∧ rTy S0 z ∧ (cs j).length = zN R S0 (abT S0 z) ∧ w j < 40 ∧ P (40 * f + w j)) (hk : lkN (Zr S 63) (ftN cs n9)) (h1 : ∀ j : Nat, j < n9 → 1 ≤ (cs j).length ∧ (cs j).length < 99) (hwi : ∀ a b : Nat, a < n9 → b < n9 → w a = w b → a = b) (kf : ∀ S2 : Sg, VO P S S2 → (∀ j : Nat, j < n9 → Zr S2 74 (40 * f + w j) = nI (hdN (cs j))) → Rt (bnd (f_freeNode R.K S2 (nI m)) fun S6 v7 => some (S6, ())) Q) : ∀ (r i d : Nat) (x3 : Int32) (S1 : Sg), i + r = n9 → r < d → VO P S S1 → (i < n9 → x3 = nI (hdN (cs i))) → (∀ j : Nat, j < i → Zr S1 74 (40 * f + w j) = nI (hdN (cs j))) → Rt (f_runBind_15 R.K d S1 (some a) (nI m) x3 (nI i)) Q
  | r, i, 0, _, _, _, hd, _, _, _ => by omega
  | 0, i, d + 1, x3, S1, hi, hd, q1, q2, q3 => by
    obtain rfl : i = n9 := by omega
    have e1 := e.tr q1.rn
    unfold f_runBind_15
    exact Rt.bd (v := nI i) (oI_mk (by rw [e1.1]; exact ha.1) (by rw [e1.2.1]; exact ha.2.1) ha.2.2.1) (Rt.ip (nI_le (Nat.le_refl _) (by omega)) (kf S1 q1 q3))
  | r + 1, i, d + 1, x3, S1, hi, hd, q1, q2, q3 => by
    have hin : i < n9 := by omega
    have e1 := e.tr q1.rn
    obtain ⟨va, z, mu, v1, v2, v3, v4, v5, v6⟩ := hv i hin
    have oR4 : ∀ S2 : Sg, RNx Sl S2 → oR S2 13 (some a) 4 = some (some aw) := fun S2 e2 => oR_mk (v := some aw) (by rw [e2.1]; exact ha.1) (by rw [e2.2.1]; exact ha.2.1) ha.2.2.2
    have aq : ∀ S2 : Sg, RNx Sl S2 → aQ R.K 5 S2 (some aw) (nI i) = some (some va) := fun S2 e2 => by
      rw [← v1]; exact aQ_n (by rw [e2.1]; exact hw.1) (by rw [e2.2.1]; exact hw.2) (by omega) (by omega)
    obtain ⟨sl1, _⟩ := slo_ (R := R) (S := S1) e1 v2 (by rw [q1.2.2.2.2.2.2.2.1]; exact h76)
    unfold f_runBind_15
    refine Rt.bd (v := nI n9) (oI_mk (by rw [e1.1]; exact ha.1) (by rw [e1.2.1]; exact ha.2.1) ha.2.2.1) (Rt.iq (fun z => by have := (nI_leI (by omega) (by omega)).mp z; omega) ?_)
    refine Rt.bd (oR4 S1 e1) (Rt.bd (aq S1 e1) (Rt.be sl1 (Rt.bd (wRI_n (show 40 * f + w i < rlen 74 from by show _ < 2440; omega) (by decide)) ?_)))
    have q4 : VO P S1 (Ur S1 74 (upd (Zr S1 74) (40 * f + w i) x3)) := VO.w v6
    have y4 : Zr (Ur S1 74 (upd (Zr S1 74) (40 * f + w i) x3)) 74 = upd (Zr S1 74) (40 * f + w i) x3 := Zr_us
    generalize Ur S1 74 (upd (Zr S1 74) (40 * f + w i) x3) = S4 at q4 y4
    have e4 := e1.tr q4.rn
    obtain ⟨_, sl2⟩ := slo_ (R := R) (S := S4) e4 v2 (by rw [q4.2.2.2.2.2.2.2.1, q1.2.2.2.2.2.2.2.1]; exact h76)
    refine Rt.bd (oR4 S4 e4) (Rt.bd (aq S4 e4) (Rt.bd sl2 (Rt.be (lvo_ hL hx e4 (o := some z) (fun y hy => by cases hy; exact v3)) ?_)))
    show Rt (bnd (f_along R.K S4 x3 (nI (zN R S0 (abT S0 z)))) _) Q
    obtain ⟨l1, l2⟩ := h1 i hin
    obtain ⟨mm, hmm⟩ : ∃ mm : Nat, (cs i).length = mm + 1 := ⟨(cs i).length - 1, by omega⟩
    obtain ⟨b, hb⟩ : ∃ b : Nat, (cs i)[mm]? = some b := ⟨(cs i)[mm], List.getElem?_eq_getElem (by omega)⟩
    have hk4 : lkN (Zr S4 63) (ftN cs n9) := by
      rw [q4.2.2.2.2.2.2.1 63 (by decide), q1.2.2.2.2.2.2.1 63 (by decide)]; exact hk
    rw [← v4, q2 hin, hmm]
    refine Rt.be (alg1 (L := cs i) (hk4.seg hin) (by omega) (hdN_0 l1) hb) ?_
    rw [nI_1]
    refine rb15 hL hx e h76 hf ha hw hn hv hk h1 hwi kf r (i + 1) d _ S4 (by omega) (by omega) (q1.tr q4) (fun hi1 => ?_) (fun j hj => ?_)
    · have c1 : (ftN cs n9)[psN (fun j => (cs j).length) i + mm]? = some b := (ftN_get hin (by omega)).trans hb
      have c2 := ftN_get (f := cs) (i := 0) hi1 (h1 (i + 1) hi1).1
      rw [hdN_0 (h1 (i + 1) hi1).1] at c2
      have e9 : psN (fun j => (cs j).length) (i + 1) + 0 = psN (fun j => (cs j).length) i + mm + 1 := by
        show psN (fun j => (cs j).length) i + (cs i).length + 0 = _
        omega
      rw [e9] at c2
      exact hk4.2 _ b _ c1 c2
    · rw [y4]
      by_cases c : j = i
      · subst c; rw [upd_s, q2 hin]
      · rw [upd_n (fun z => c (hwi j i (by omega) hin (by omega)))]
        exact q3 j (by omega)
/-- BIND -/
theorem s_22 (hL : LFS R S0 g) (hx : LX S0 Sl) (h : RQ R S0 vt tb i D k f x bs Sl k S) (hQ : D.Pe < 24000) (hk : (D.I k).kd = 22) : Rt (f_step R.K S) (fun S2 _ => RTt R S0 vt tb i D k f x bs Sl S S2) := by
  have h24 := h.k24 hQ
  have hy := nYk_of hL
  have hB := yB_yT (R := R) (S0 := S0)
  refine stp_22 h hQ hk (fun S1 h1 e70 e3 er el => ?_)
  have hp := h1.pt.1
  unfold tPt at hp
  rw [hk] at hp
  obtain ⟨d0, r, hs, hwr, n70, n12, y3, hg2, hvl, hv12, hinj, hvs, _, _, hw⟩ := hp
  rw [h1.1.2.2.2.2] at y3 hg2 hvl hvs
  have hgt := h1.1.2.2.2.1
  rw [hs] at hgt
  have hrn := hgt.tl
  have hb := h1.sb
  have h73 := h1.2.2.2.1.2.1
  have hFn := h1.1.1
  have hEy := h1.1.2.2.2.2
  have n3 : kNm (3, (4 + (D.I k).n1) * 12 + (D.I k).n2, 1) := by show ¬ ((3 : Nat) = 8 ∨ (3 : Nat) = 4 ∨ (3 : Nat) = 5 ∨ (3 : Nat) = 6); decide
  have wst : wl (D.st k) = 1 := by rw [hs, wl_n n3, hwr]
  rw [wst] at h73 hb
  have hX1 := h1.2.2.1
  have e := hX1.1
  obtain ⟨rt, V, C, L, H, fl, t9, ⟨hJ, hN, hC, hF⟩, h3v⟩ := h1.2.2.2.2.2.2.1
  obtain ⟨a1, a2, a3, a4, a5, a6⟩ := h1.2.2.2.2.2.1
  have hvt : vt (x f).1 = D.E.vt := by rw [a1]; exact h1.2.2.2.2.2.2.2.2.1
  have hf6 := h1.2.2.2.2.1
  have hws := h1.2.2.2.2.2.2.2.1
  have h76 := h1.2.2.2.1.2.2
  have hS : (x f).2.1 = (0, 4 + (D.I k).n1, 0) :: trL (AL D k) r := by
    rw [a2, hs]
    show trE (AL D k) (wl r) (3, (4 + (D.I k).n1) * 12 + (D.I k).n2, 1) :: trL (AL D k) r = _
    rw [trE_3 rfl]
    show (0, ((4 + (D.I k).n1) * 12 + (D.I k).n2) / 12, 0) :: _ = _
    rw [show ((4 + (D.I k).n1) * 12 + (D.I k).n2) / 12 = 4 + (D.I k).n1 by omega]
  have hV0 : V (f, 40) [] = some (4 + (D.I k).n1, (D.I k).n2) := by
    have := h3v.1 ((4 + (D.I k).n1) * 12 + (D.I k).n2) 1 (by rw [hs]; exact List.mem_cons_self ..)
    rw [show ((4 + (D.I k).n1) * 12 + (D.I k).n2) / 12 = 4 + (D.I k).n1 by omega, show ((4 + (D.I k).n1) * 12 + (D.I k).n2) % 12 = (D.I k).n2 by omega] at this
    exact this
  have wl0 : wl (trL (AL D k) r) = 0 := by rw [trL_wl]; exact hwr
  -- the value's nodes
  have hE := kK_top hJ hS
  rw [wl0] at hE
  obtain ⟨_, _, _, e0, _⟩ := hE
  obtain ⟨er1, _⟩ := e0 (by omega)
  have er1 : rt (f, 40) = 4 + (D.I k).n1 := er1
  have hw40 : (40 : Nat) < 40 + wl (x f).2.1 := by rw [h1.st.2, wst]; decide
  have hva := ((hN.1 f 40 (Nat.le_refl f)).2.1 (Nat.le_refl _) hw40).2
  rw [er1] at hva
  obtain ⟨kk, m, cs, ls, hs9, p2, p3, p4, p5, p7, p8, p9, p10⟩ : ∃ (kk m : Nat) (cs ls hs : Nat → List Nat), Zl S1 72 (bs f) = nL m ∧ (1 ≤ m ∧ m < 430000) ∧ kdW (Zl S1 61 m) = nI (hdN (ftN cs (D.I k).vs.length)) ∧ lkN (Zr S1 63) (ftN cs (D.I k).vs.length) ∧ L (f, 40) = m :: (ftN cs (D.I k).vs.length ++ ftN ls (D.I k).vs.length) ∧ H (f, 40) = ftN hs (D.I k).vs.length ∧ (∀ a : Nat, cnN a (m :: (ftN cs (D.I k).vs.length ++ ftN ls (D.I k).vs.length)) ≤ 1) ∧ ∀ j : Nat, j < (D.I k).vs.length → pL (yT R S0) (szN R S0) (nMS S1) kk (yQ R S0 (4 + (D.I k).n1) (D.I k).n2 j) (qS (V (f, 40)) [((D.I k).n2 + 2, j)]) (cs j) (ls j) (hs j) := by
    rcases hva with ⟨z, _⟩ | ⟨_, kk, ⟨_, m, gg, cs, ls, hs9, q1, q2, q3, q4, q5, q6, q7, q8, q9, q10⟩ | ⟨z, _⟩ | ⟨z, _⟩⟩
    · rw [y3] at z; cases z
    · rw [hV0] at q1
      obtain ⟨_, q1⟩ := Prod.mk.inj (Option.some.inj q1)
      subst q1
      rw [← hvl] at q5 q7 q8 q9 q10
      refine ⟨kk, m, cs, ls, hs9, q3, q4, q5, q7, q8, q9, fun a => ?_, q10⟩
      rw [← q8]
      by_cases c : a ∈ L (f, 40)
      · obtain ⟨_, _, _, w1, _⟩ := hC.one (r := (f, 40)) hf6 (show 40 < 300 by omega) (Or.inr c)
        omega
      · rw [cnN_z c]; exact Nat.zero_le _
    · rw [y3] at z; cases z
    · exact absurd y3 z
  obtain ⟨n9, hn9⟩ : ∃ n9 : Nat, n9 = (D.I k).vs.length := ⟨_, rfl⟩
  rw [← hn9] at hvl hv12 p4 p5 p7 p8 p9 p10
  obtain ⟨w, hwv⟩ : ∃ w : Nat → Nat, ∀ j : Nat, j < n9 → (D.I k).vs[j]? = some (w j) := ⟨fun j => ((D.I k).vs[j]?).getD 0, fun j hj => by
    rw [hn9] at hj
    show (D.I k).vs[j]? = some (((D.I k).vs[j]?).getD 0)
    rw [List.getElem?_eq_getElem hj]; rfl⟩
  have hwi : ∀ a b : Nat, a < n9 → b < n9 → w a = w b → a = b := fun a b ha hb hab => hinj a b (w a) (hwv a ha) (by rw [hab]; exact hwv b hb)
  have evs : (D.I k).vs = (List.range n9).map w := List.ext_getElem? (fun q => by
    by_cases c : q < n9
    · rw [hwv q c, List.getElem?_map, List.getElem?_range c]; rfl
    · rw [List.getElem?_eq_none (by omega), List.getElem?_eq_none (by rw [List.length_map, List.length_range]; omega)])
  obtain ⟨a, na, aw, bk, tk, vn, fv, z1, z2, z3, z4, z5, _, z7⟩ := h1.2.1.2.2.2.2.2.2.2.2.2.2.2.1 hk
  have hvj : ∀ j : Nat, j < n9 → ∃ (va z : Nat) (mu : Int32), fv j = some va ∧ isU Sl va (w j) (some z) mu ∧ rTy S0 z ∧ abT S0 z = yQ R S0 (4 + (D.I k).n1) (D.I k).n2 j := fun j hj => z7 j (w j) (hwv j hj)
  obtain ⟨_, _, _, ff, _, _, _, _, _, _, _, a8⟩ := vwEi (i := (D.I k).n1) (v := (D.I k).n2) hL hx e y3 hg2
  have hw4 : ∀ i : Nat, i < n9 → w i < 40 ∧ (8, w i, 0) ∉ trL (AL D k) r ∧ vt (x f).1 (w i) = (yT R S0).2.2.2.2 (4 + (D.I k).n1) (D.I k).n2 i ∧ (yT R S0).1 (vt (x f).1 (w i)) ≠ 5 ∧ (yT R S0).1 (vt (x f).1 (w i)) ≠ 6 := fun i hi => by
    obtain ⟨u1, u2, u3⟩ := hvs i (w i) (hwv i hi)
    have hvl : n9 = yP R S0 (4 + (D.I k).n1) (D.I k).n2 := hvl
    obtain ⟨z, _, y2, y3'⟩ := a8 i (by omega)
    have hlt : yQ R S0 (4 + (D.I k).n1) (D.I k).n2 i < 10000 := by
      have := y2.nm hL.1
      omega
    have hnr : ¬ isRf (vt (x f).1 (w i)) := fun q => by
      rw [hvt, u3] at q
      have := q.1
      have this : 10000 ≤ yQ R S0 (4 + (D.I k).n1) (D.I k).n2 i := this
      omega
    exact ⟨u1, fun q => u2 (trL_8.mp q), by rw [hvt]; exact u3, fun q => hnr (yRf.mp (Or.inl q)), fun q => hnr (yRf.mp (Or.inr q))⟩
  have hmt : ∀ e ∈ trL (AL D k) r, ¬ (e.1 = 4 ∨ e.1 = 5 ∨ e.1 = 6) := trL_4 (pn_4 hrn)
  obtain ⟨rt2, V2, j2, F1, F2, F3⟩ := kJ_bnd (w := w) (hd := fun i κ => HK D (k + 1) (w i) κ) hJ a3 hS hmt wl0 n12 y3 hV0 hvl hw4 hwi n9 (Nat.le_refl _)
  generalize hx2 : kUx x f ((x f).1, (4, (D.I k).n1 * 12 + (D.I k).n2, n9) :: (bL8 w n9 ++ trL (AL D k) r), 0, lUm (kR (x f)) w (fun _ => none) n9, lUm (kH (x f)) w (fun i κ => HK D (k + 1) (w i) κ) n9, (fun u => kal (x f) u ∨ ∃ i : Nat, i < n9 ∧ u = w i), (fun u π => klo (x f) u π ∧ ¬ ∃ i : Nat, i < n9 ∧ u = w i), kAn (x f)) = x2 at j2
  have e2 : x2 f = ((x f).1, (4, (D.I k).n1 * 12 + (D.I k).n2, n9) :: (bL8 w n9 ++ trL (AL D k) r), 0, lUm (kR (x f)) w (fun _ => none) n9, lUm (kH (x f)) w (fun i κ => HK D (k + 1) (w i) κ) n9, (fun u => kal (x f) u ∨ ∃ i : Nat, i < n9 ∧ u = w i), (fun u π => klo (x f) u π ∧ ¬ ∃ i : Nat, i < n9 ∧ u = w i), kAn (x f)) := by rw [← hx2, kUx_eq]
  have j3 := kJ_popM j2 (e := (4, (D.I k).n1 * 12 + (D.I k).n2, n9)) (r := bL8 w n9 ++ trL (AL D k) r) (by rw [e2]) (by rw [e2]) (Or.inl rfl) (fun e he => by
    rcases List.mem_append.mp he with z | z
    · rw [bL8_8 e z]; decide
    · exact hmt e z)
  rw [e2, ← hx2, kUx2] at j3
  have hcv := hC.val (n := 0) hf6 (by omega)
  have hcm : m ∉ fl ∧ m ≤ t9 := hcv m (by show m ∈ L (f, 40); rw [p7]; exact List.mem_cons_self ..)
  have hcn : ∀ j : Nat, j < n9 → m ∉ cs j ∧ m ∉ ls j := fun j hj => by
    have q := p9 m
    have q1 : cnN m (m :: (ftN cs n9 ++ ftN ls n9)) = 1 + (cnN m (ftN cs n9) + cnN m (ftN ls n9)) := by
      show (if m = m then 1 else 0) + cnN m (ftN cs n9 ++ ftN ls n9) = _
      rw [if_pos rfl, cnN_app]
    exact ⟨fun z => by have := cnN_mem.mp (ftN_mem.mpr ⟨j, hj, z⟩); omega, fun z => by have := cnN_mem.mp (ftN_mem.mpr ⟨j, hj, z⟩); omega⟩
  have hlen : ∀ j : Nat, j < n9 → (cs j).length = zN R S0 (yQ R S0 (4 + (D.I k).n1) (D.I k).n2 j) := fun j hj => (p10 j hj).len hy
  refine Rt.bn (Q := fun S2 _ => RTt R S0 vt tb i D k f x bs Sl S S2) ?_ (fun S2 _ q => by unfold f_step_590; exact Rt.rt q) |> fun q => Rt.bd (v := some a) (by rw [rQ_n (show k < rlen 41 from h24) (by decide), e.2.2.2.1, z1]) q
  unfold f_runBind
  refine Rt.bn (pop_ (p := bs f) h73 (by omega)) (fun S3 xv ⟨c1, c2, c3, c4, c5⟩ => ?_)
  rw [c2, p2, nL_t]
  have e3' := (c3.rx hX1).1
  refine Rt.be (kid_ (n := hdN (ftN cs n9)) p3.2 (by rw [c5]; exact p4)) ?_
  have h3z : Zr S3 = Zr S1 := c3.2.2.2.2.2.2.1
  refine rb15 (n9 := n9) (w := w) (cs := cs) (fv := fv) (P := fun p => ∃ i : Nat, i < n9 ∧ p = 40 * f + w i) hL hx e3' ((c3.2.2.2.2.2.2.2 76 (by decide)).trans h76) hf6 ⟨z2, z3, by rw [hn9]; rfl, rfl⟩ ⟨z4, z5⟩ hv12 (fun j hj => by
    obtain ⟨va, z, mu, u1, u2, u3, u4⟩ := hvj j hj
    exact ⟨va, z, mu, u1, u2, u3, by rw [u4]; exact hlen j hj, (hw4 j hj).1, j, hj, rfl⟩) (by rw [h3z]; exact p5) (fun j hj => by
    have := hy.1 (yQ R S0 (4 + (D.I k).n1) (D.I k).n2 j)
    rw [hlen j hj]; omega) hwi (fun S4 q1 q2 => ?_) n9 0 bigN _ S3 (by omega) (by unfold bigN; omega) VO.rf (fun h0 => ?_) (fun j hj => absurd hj (Nat.not_lt_zero j))
  · refine Rt.bn (frn_ (n := m) (q1.fl (c3.sam.fl hF)) p3.1 hcm.2 hcm.1) (fun S5 _ ⟨f1, f2, f3, f4⟩ => ?_)
    have go : GO (fun a => a = m) (fun _ => False) (fun p => ∃ i : Nat, i < n9 ∧ p = 40 * f + w i) S1 S5 := (c3.go.tr q1.go).tr f2.go
    have n5 : ∀ a : Nat, a ≠ m → Zl S5 61 a = Zl S1 61 a ∧ Zr S5 62 a = Zr S1 62 a ∧ Zr S5 63 a = Zr S1 63 a := fun a ha => go.2.2.2.1 a ha
    have w74 : Zr S5 74 = Zr S4 74 := f2.2.2.2.2.2.2.1 74 (by decide) (by decide)
    obtain ⟨nv1, nv2⟩ := hN.nv (X := ((x f).1, bL8 w n9 ++ trL (AL D k) r, 0, lUm (kR (x f)) w (fun _ => none) n9, lUm (kH (x f)) w (fun i κ => HK D (k + 1) (w i) κ) n9, (fun u => kal (x f) u ∨ ∃ i : Nat, i < n9 ∧ u = w i), (fun u π => klo (x f) u π ∧ ¬ ∃ i : Nat, i < n9 ∧ u = w i), kAn (x f))) (n := n9) (w := w) (c := cs) (l := ls) (h := hs9) (M2 := nMS S5) (sk2 := Zl S5 72) (pl2 := Zr S5 74) (tk2 := Zr S5 67) (fl2 := m :: fl) (t2 := t9) (A := fun a => a = m) (rt2 := rt2) (V2 := kC3 V2 f) hy hJ hC hf6 hws (by rw [h1.st.2, wst]; exact Nat.le_refl _) (by show wl (bL8 w n9 ++ trL (AL D k) r) = 0; rw [bL8_wl]; exact wl0) (fun u => by
        rw [hS]
        show (8, u, 0) ∈ bL8 w n9 ++ trL (AL D k) r ↔ (∃ i : Nat, i < n9 ∧ u = w i) ∨ (8, u, 0) ∈ (0, 4 + (D.I k).n1, 0) :: trL (AL D k) r
        rw [List.mem_append, bL8_m, List.mem_cons]
        constructor
        · rintro (q | q)
          · exact Or.inl q
          · exact Or.inr (Or.inr q)
        · rintro (q | q | q)
          · exact Or.inl q
          · have := (Prod.mk.inj q).1
            omega
          · exact Or.inr q) rfl (fun i hi => ⟨(hw4 i hi).1, fun z => by
        rw [hS] at z
        rcases List.mem_cons.mp z with z | z
        · have := (Prod.mk.inj z).1
          omega
        · exact (hw4 i hi).2.1 z⟩) hwi (fun q hq => by
        have hq2 : q.1 ≠ f ∨ (q.2 < 40 ∧ ∀ i : Nat, i < n9 → q.2 ≠ w i) := by
          by_cases c : q.1 = f
          · refine Or.inr ⟨?_, fun i hi z => hq ⟨c, Or.inl ⟨i, hi, z⟩⟩⟩
            by_cases c2 : q.2 < 40
            · exact c2
            · exact absurd ⟨c, Or.inr (by omega)⟩ hq
          · exact Or.inl c
        obtain ⟨u1, u2⟩ := F3 q hq2
        refine ⟨u2, ?_⟩
        obtain ⟨qa, qb⟩ := q
        rw [kC3_out (hq2.imp id (fun z => by have := z.1; have this : qb < 40 := this; omega))]
        exact u1) (fun i hi => by
        obtain ⟨u1, u2⟩ := F2 i hi
        obtain ⟨v4, _, vT, _⟩ := hw4 i hi
        rw [u2, vT, kC3_out (Or.inr (by omega)), u1, w74]
        refine ⟨⟨kk, (p10 i hi).st (fun a ha => ?_) (fun a ha => n5 a (fun z => (hcn i hi).2 (by rw [← z]; exact ha)))⟩, (p5.seg hi).cg (fun a ha => (n5 a (fun z => (hcn i hi).1 (by rw [← z]; exact ha))).2.2), q2 i hi⟩
        obtain ⟨y1, y2, _⟩ := n5 a (fun z => (hcn i hi).1 (by rw [← z]; exact ha))
        exact ⟨y1, y2⟩) (fun j u hj hu h8 => by
        refine go.2.2.2.2.2 _ (fun ⟨i, i1, i2⟩ => ?_)
        have w4 := (hw4 i i1).1
        obtain rfl : j = f := by omega
        obtain rfl : u = w i := by omega
        rw [hS] at h8
        rcases List.mem_cons.mp h8 with z | z
        · have := (Prod.mk.inj z).1
          omega
        · exact (hw4 i i1).2.1 z) (fun u d π hu hA hR => by
        have hR : lUm (kR (x f)) w (fun _ => none) n9 u = some (d :: π) := hR
        by_cases c0 : ∃ i : Nat, i < n9 ∧ u = w i
        · obtain ⟨i, i1, i2⟩ := c0
          rw [i2, lUm_i i1 hwi] at hR; cases hR
        · rw [lUm_o (fun i hi z => c0 ⟨i, hi, z⟩)] at hR
          refine Or.inl ⟨?_, hR, c0⟩
          rcases hA with ⟨q1, q2⟩ | ⟨q1, _⟩
          · exact Or.inl ⟨q1, q2.resolve_right c0⟩
          · omega) (fun a z => go.2.2.2.1 a z) (fun a z => Or.inr (Or.inr (by rw [z, p7]; exact List.mem_cons_self ..))) (fun a => by
        rw [p7]
        show _ + ((if m = a then 1 else 0) + cnN a fl) + _ = ((if m = a then 1 else 0) + cnN a (ftN cs n9 ++ ftN ls n9)) + _ + _
        rw [cnN_app, ftN_cn, ftN_cn, psN_ad (u := fun i => cnN a (cs i)) (v := fun i => cnN a (ls i))]
        omega) (fun q => by rw [p8, ftN_cn]; exact ⟨Nat.le_refl _, go.2.2.2.2.1 q (fun z => z)⟩) (fun q hq => by rw [f2.2.2.2.2.2.1 72 (by decide), q1.2.2.2.2.2.1, c5])
    refine Rt.rt ⟨hX1.go go (f2.wq (q1.wq (c3.wq hX1.2.1))) ?_, Or.inr ⟨(go.2.1 3 (by decide)).trans e3, (go.2.1 70 (by decide)).trans e70, NXt.fr ?_ er ?_⟩⟩
    · rw [f2.2.2.2.2.2.2.2.1 81 (by decide) (by decide), q1.2.2.2.2.2.2.2.1, c3.2.2.2.2.2.2.2 81 (by decide)]; exact hX1.2.2.2.2
    · have hed : edg D k (k + 1) := h1.e1 (kd_s hk (by decide))
      have hno9 : (D.I k).ho = none := d0.2.2.1
      have hno : ∀ u : Nat, (D.I k).ho ≠ some u := fun u z => by rw [hno9] at z; cases z
      rw [evs, ← bL8_l] at hw
      have hjn : ∀ a ∈ D.st (k + 1), pnE a := wkS_pn hw (fun a ha => by
        rcases List.mem_append.mp ha with q | q
        · obtain ⟨b1, b2, b3⟩ := a
          have h8 := bL8_8 _ q
          have h8 : b1 = 8 := h8
          subst h8
          exact ⟨by show (8 : Nat) ≠ 3; decide, by show (8 : Nat) ≠ 4; decide, by show (8 : Nat) ≠ 5; decide, by show (8 : Nat) ≠ 6; decide, fun z => by have z : (8 : Nat) = 1 ∨ (8 : Nat) = 2 := z; omega⟩
        · exact hrn a q)
      have wj : wl (D.st (k + 1)) = 0 := by rw [wkS_wl hw, bL8_wl]; exact hwr
      refine finG (X := ((x f).1, bL8 w n9 ++ trL (AL D k) r, 0, lUm (kR (x f)) w (fun _ => none) n9, lUm (kH (x f)) w (fun i κ => HK D (k + 1) (w i) κ) n9, (fun u => kal (x f) u ∨ ∃ i : Nat, i < n9 ∧ u = w i), (fun u π => klo (x f) u π ∧ ¬ ∃ i : Nat, i < n9 ∧ u = w i), kAn (x f))) hL h1.1 hed ⟨_, _, _, _, _, m :: fl, t9, j3, nv1, nv2, f1⟩ rfl a1 rfl (by
        show wkS (bL8 w n9 ++ trL (AL D k) r) _
        rw [← trL_8s bL8_8]
        exact trL_t hw (fun n hn => by rw [bL8_wl, hwr] at hn; omega)) (gtS.of hjn) hjn (fun u hu q => ?_) (fun u κ hu q z => ?_) (fun m κ hm => by rw [wj] at hm; omega) (fun κ r1 m q => ?_) (fun u π hw4' _ q => ?_) ((go.2.1 77 (by decide)).trans h1.2.2.2.1.1) ?_ go.2.2.1 (go.2.1 76 (by decide))
      · refine Or.inl ?_
        rw [a5]
        exact ⟨hu, hFn.al hed (by omega) (hno u) q⟩
      · have z : lUm (kH (x f)) w (fun i κ => HK D (k + 1) (w i) κ) n9 u κ := z
        by_cases c0 : ∃ i : Nat, i < n9 ∧ u = w i
        · obtain ⟨i, i1, i2⟩ := c0
          rw [i2, lUm_i i1 hwi] at z
          rw [i2]; exact z
        · rw [lUm_o (fun i hi z => c0 ⟨i, hi, z⟩), a4] at z
          rcases z with ⟨_, z⟩ | ⟨z, _⟩
          · exact hFn.hk hed (by omega) (hno u) z.1
          · omega
      · rcases q with q | q
        · exact absurd (Or.inr (Or.inl rfl)) (trL_4 (pn_4 hjn) _ q)
        · exact absurd (Or.inr (Or.inr rfl)) (trL_4 (pn_4 hjn) _ q)
      · obtain ⟨q, qn⟩ := q
        rw [a6] at q
        refine hFn.lv9 hL hEy hed hw4' q (Or.inr (Or.inr (Or.inl hk))) (fun z => qn ?_) (by rw [hk]; decide)
        rw [evs] at z
        obtain ⟨i, i1, i2⟩ := List.mem_map.mp z
        exact ⟨i, List.mem_range.mp i1, i2.symm⟩
      · rw [f2.2.2.2.2.2.2.2.1 73 (by decide) (by decide), q1.2.2.2.2.2.2.2.1, c4, wj]; rfl
    · rw [h1.2.2.2.1.2.2, h.2.2.2.1.2.2]
  · obtain ⟨q, hq⟩ : ∃ q : Nat, n9 = q + 1 := ⟨n9 - 1, by omega⟩
    have h0' : 0 < n9 := h0
    have l1 : 1 ≤ (cs 0).length := by rw [hlen 0 h0']; exact (hy.1 _).1
    have c2 := ftN_get (f := cs) (i := 0) h0' l1
    rw [hdN_0 l1] at c2
    have c3' := hdN_0 (c := ftN cs n9) (by
      have := (List.getElem?_eq_some_iff.mp c2).1
      omega)
    have e9 : psN (fun j => (cs j).length) 0 + 0 = 0 := rfl
    rw [e9, c3'] at c2
    rw [Option.some.inj c2]
end PS92
