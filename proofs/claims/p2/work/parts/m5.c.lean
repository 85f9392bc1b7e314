section PS80
variable {R : yR} {K : Ky} {S0 Sl S S1 S2 S3 : Sg} {D : fD} {i k j f nw : Nat} {vt : Nat → Nat → Nat} {tb : Nat → lTb} {x : Nat → kFm} {bs : Nat → Nat} {g : Nat → Int32} {rt : Nat × Nat → Nat} {V : Nat × Nat → qV} {C L H : Nat × Nat → List Nat} {A : Nat → Prop} {r : List tE}
theorem HO.ui {v : Int32} {j : Nat} (h : j = 68 ∨ j = 69) : HO A S (Ui S j v) := ⟨rfl, rfl, ⟨rfl, rfl⟩, rfl, rfl, rfl, fun _ _ => rfl, fun q h1 h2 => Zi_n (by omega), fun _ _ => rfl⟩
theorem qS_B {U : Nat} {W : qV} : qS (qB U W) [(1, 0)] = W := funext fun σ => (if_pos ⟨rfl, rfl⟩ : (if (1 : Nat) = 1 ∧ (0 : Nat) = 0 then W σ else none) = W σ)
/-- cells of the heap are taken -/
theorem bu26 {p m : Nat} {o : Option Nat} {Q : Sg → Unit → Prop} (hp : p + m ≤ 4000) (kk : ∀ S2 : Sg, HO (fun q => q ∈ rgN p m) S S2 → (∀ q ∈ rgN p m, Zr S2 67 q = 1) → Rt (f_boxUp_77 K S2 o (nI m) (nI p)) Q) : ∀ (d k : Nat) (S1 : Sg), m < k + d → k ≤ m → HO (fun q => q ∈ rgN p m) S S1 → (∀ q : Nat, p ≤ q → q < p + k → Zr S1 67 q = 1) → Rt (f_boxUp_26 K d S1 o (nI m) (nI p) (nI k)) Q
  | 0, k, S1, hd, hk, _, _ => by omega
  | d + 1, k, S1, hd, hk, e, hz => by
    unfold f_boxUp_26
    refine Rt.it (fun w => ?_) (fun w => ?_)
    · have : m ≤ k := (nI_leI (by omega) (by omega)).mp w
      obtain rfl : k = m := by omega
      have e1 : HO (fun q => q ∈ rgN p k) S1 (Ui S1 68 (Zi S1 68 + nI k)) := HO.ui (Or.inl rfl)
      have z1 : Zr (Ui S1 68 (Zi S1 68 + nI k)) = Zr S1 := rfl
      refine Rt.bd (v := Ui S1 68 (Zi S1 68 + nI k)) rfl ?_
      generalize Ui S1 68 (Zi S1 68 + nI k) = S4 at e1 z1
      refine Rt.it (fun _ => kk S4 (e.tr e1) (fun q hq => by rw [z1]; exact hz q (rgN_mem.mp hq).1 (rgN_mem.mp hq).2)) (fun _ => Rt.bd (v := Ui S4 69 (Zi S4 68)) rfl (kk _ ((e.tr e1).tr (HO.ui (Or.inr rfl))) (fun q hq => ?_)))
      show Zr S4 67 q = 1
      rw [z1]; exact hz q (rgN_mem.mp hq).1 (rgN_mem.mp hq).2
    · have hlt : k < m := by
        by_cases q : k < m
        · exact q
        · exact absurd (nI_le (a := m) (b := k) (by omega) (by omega)) w
      rw [nI_add]
      refine Rt.bd (wZ_n (show p + k < rlen 67 from by show _ < 4000; omega) (by decide) (Or.inr rfl)) ?_
      rw [nI_1]
      have e2 : HO (fun q => q ∈ rgN p m) S1 (Ur S1 67 (upd (Zr S1 67) (p + k) 1)) := HO.w (rgN_mem.mpr ⟨by omega, by omega⟩)
      refine bu26 hp kk d (k + 1) _ (by omega) (by omega) (e.tr e2) (fun q q1 q2 => ?_)
      rw [Zr_us]
      by_cases w2 : q = p + k
      · rw [w2, upd_s]
      · rw [upd_n w2]; exact hz q q1 (by omega)
/-- a value of the stack -/
theorem RQ.val {n T m : Nat} (h1 : RQ R S0 vt tb i D k f x bs Sl nw S) (hJ : kJ (yT R S0) vt tb f x rt V) (hN : kN (yT R S0) (zN R S0) (szN R S0) (nMS S) (Zl S 72) (Zr S 74) f x rt V bs C L H) (hn : n < wl (D.st k)) (hE : kE (yT R S0) rt V f (x f) n (0, T, m)) (hT0 : T ≠ 0) : rt (f, 40 + n) = T ∧ qFu (yT R S0) T (V (f, 40 + n)) ∧ vaR (yT R S0) (szN R S0) (nMS S) T (V (f, 40 + n)) (Zl S 72 (bs f + n)) (L (f, 40 + n)) (H (f, 40 + n)) ∧ (yT R S0).1 T ≠ 5 ∧ (yT R S0).1 T ≠ 6 := by
  obtain ⟨_, e5, e6, e0, _⟩ := hE
  obtain ⟨e1, e2⟩ := e0 hT0
  have ok := hJ.1 (f, 40 + n)
  have q := (hN.1 f (40 + n) (Nat.le_refl f)).2.1 (by omega) (by rw [h1.st.2]; omega)
  rw [e1] at ok q
  refine ⟨e1, ⟨ok, e2⟩, ?_, e5, e6⟩
  have q2 := q.2
  rw [show 40 + n - 40 = n by omega] at q2
  exact q2
theorem kK_top {y : qY} {e : tE} {s : List tE} (hJ : kJ y vt tb f x rt V) (hS : (x f).2.1 = e :: s) : kE y rt V f (x f) (wl s) e := by
  have := hJ.2.2.2.2.1 f (Nat.le_refl f)
  rw [hS] at this
  exact this.1
/-- the value on top -/
theorem RQ.top {T m : Nat} (h1 : RQ R S0 vt tb i D k f x bs Sl nw S) (hJ : kJ (yT R S0) vt tb f x rt V) (hN : kN (yT R S0) (zN R S0) (szN R S0) (nMS S) (Zl S 72) (Zr S 74) f x rt V bs C L H) (hs : D.st k = (0, T, m) :: r) (hT0 : T ≠ 0) : rt (f, 40 + wl r) = T ∧ qFu (yT R S0) T (V (f, 40 + wl r)) ∧ vaR (yT R S0) (szN R S0) (nMS S) T (V (f, 40 + wl r)) (Zl S 72 (bs f + wl r)) (L (f, 40 + wl r)) (H (f, 40 + wl r)) ∧ (yT R S0).1 T ≠ 5 ∧ (yT R S0).1 T ≠ 6 := by
  have hS : (x f).2.1 = (0, T, m) :: trL (AL D k) r := by
    rw [h1.st.1, hs]
    exact trL_0 (E := [(0, T, m)]) (fun e he => by rw [List.mem_singleton.mp he])
  have hE := kK_top hJ hS
  rw [trL_wl] at hE
  exact h1.val hJ hN (by rw [hs, wl_n (nm_0 rfl)]; omega) hE hT0
/-- the nodes of a value are not free -/
theorem kC.val {n : Nat} {fl : List Nat} {t : Nat} {tk : Nat → Int32} (hC : kC C L H fl t tk) (hf : f < 60) (hn : 40 + n < 300) : ∀ a ∈ L (f, 40 + n), a ∉ fl ∧ a ≤ t := fun a ha => by
  obtain ⟨q1, q2, q3, _⟩ := hC.one (r := (f, 40 + n)) hf (show 40 + n < 300 from hn) (Or.inr ha)
  exact ⟨q1, q3⟩
theorem psN_1u {w : Nat → Nat} : psN w 1 = w 0 := by show 0 + w 0 = w 0; omega
theorem wl_01 {T : Nat} {r : List tE} : wl [(0, T, 0)] = 1 ∧ wl ((0, T, 0) :: r) = wl r + 1 := ⟨wl_n (nm_0 rfl), wl_n (nm_0 rfl)⟩
/-- BOX -/
theorem s_7 (hL : LFS R S0 g) (hx : LX S0 Sl) (h : RQ R S0 vt tb i D k f x bs Sl k S) (hQ : D.Pe < 24000) (hk : (D.I k).kd = 7) : Rt (f_step R.K S) (fun S2 _ => RTt R S0 vt tb i D k f x bs Sl S S2) := by
  have h24 := h.k24 hQ
  have hy := nYk_of hL
  refine stp_7 h hQ hk (fun S1 h1 e70 e3 er el => ?_)
  have hp := h1.pt.1
  unfold tPt at hp
  rw [hk] at hp
  obtain ⟨d0, U, r, hs, n0, n9, hU4, hUT, u1, u2, _, _, hw⟩ := hp
  rw [h1.1.2.2.2.2] at hU4 hUT
  have hgt := h1.1.2.2.2.1
  rw [hs] at hgt
  have hb := h1.sb
  have h73 := h1.2.2.2.1.2.1
  have h177 := h1.pt.2
  rw [hs, (wl_01 (r := r)).2] at h73 hb h177
  obtain ⟨z, y1, y2, y3⟩ := h1.2.1.2.2.2.2.2.2.2.1 (Or.inl hk)
  have hX1 := h1.2.2.1
  have hq39 : Zq S1 = Zq Sl := hX1.1.2.2.2.1
  obtain ⟨rt, V, C, L, H, fl, t9, ⟨hJ, hN, hC, hF⟩, _⟩ := h1.2.2.2.2.2.2.1
  have hf6 := h1.2.2.2.2.1
  obtain ⟨v1, v2, v3, v4, v5⟩ := h1.top hJ hN hs n0
  have hsz := (hy.1 (D.I k).n1)
  obtain ⟨hh, hh1, hh2⟩ := hX1.2.2.2.1
  have hro := hN.room hy hC hf6 h1.2.2.2.2.2.2.2.1 hF.2.2.2.2
  refine Rt.bd (v := some z) (by rw [rQ_n (show k < rlen 39 from h24) (by decide), hq39, y1]) ?_
  unfold f_boxUp
  have key : Rt (bnd (f_sizeOf R.K (f_sizeOfItem R.K 80) S1 (some z)) fun S1 v2 => bnd (f_findRoom R.K S1 v2) fun S3 v4 => if 0 ≤ v4 then (f_boxUp_26 R.K bigN S3 (some z) v2 v4 0) else ((pM S3 3 9).bind fun S5 => some (S5, ()))) (fun S2 _ => RTt R S0 vt tb i D k f x bs Sl S S2) := by
    refine Rt.be (szr_ hL hx hX1.1 y2) ?_
    rw [y3]
    refine Rt.bn (fnr_ hh2 hh1 hsz.2.2.1 (by have := hsz.2.2.2.1; have : szN R S0 (D.I k).n1 ≤ 16 := this; omega)) (fun S3 r3 ⟨es, hr3⟩ => ?_)
    obtain rfl : S1 = S3 := es.symm
    rcases hr3 with hr3 | ⟨p, hr3, hp1, hp2⟩
    · rw [hr3]
      refine Rt.iq (by decide) (Rt.bd (v := Ui S1 3 9) rfl (Rt.rt ⟨hX1.f3, Or.inl ?_⟩))
      rw [show Zi (Ui S1 3 9) 3 = 9 from Zi_s]; decide
    · rw [hr3]
      have hp4 : p + szN R S0 (D.I k).n1 ≤ 4000 := by omega
      refine Rt.ip (nI_le (a := 0) (b := p) (Nat.zero_le _) (by omega)) (bu26 (S := S1) hp4 (fun S4 q1 q2 => ?_) bigN 0 S1 (by unfold bigN; have := hsz.2.2.2.1; have : szN R S0 (D.I k).n1 ≤ 16 := this; omega) (Nat.zero_le _) HO.rf (fun q a b => by omega))
      unfold f_boxUp_77
      refine Rt.bn (nod_ (q1.fls hF) (fun z => by rw [z] at hro; have hro : t9 ≤ 0 + 424640 := hro; omega)) (fun S5 r5 ⟨m, l2, t2, a1, a2, a3, a4, a5, a6, a7, a8, a9, a10⟩ => ?_)
      have frs : Frs fl t9 [m] l2 t2 := Frs.one hF.2.2.2.1 hF.2.2.2.2 a10
      have hm1 := (frs.1 m (List.mem_singleton_self m)).2.2
      have hmt : m ≤ t2 := a3
      have ht2 : t2 < 430000 := a5.2.1
      have x72 : Zl S5 72 = Zl S1 72 := by rw [a6.2.2.2.2.2.1 72 (by decide), q1.2.2.2.2.2.1]
      have x73 : Zi S5 73 = nI (bs f + wl r + 1) := by
        rw [a6.2.2.2.2.2.2.2.1 73 (by decide) (by decide), q1.2.2.2.2.2.2.2.1 73 (by decide) (by decide)]; exact h73
      have go5 : GO (fun a => a ∈ fl ∨ t9 < a) (fun q => q ∈ rgN p (szN R S0 (D.I k).n1)) (fun _ => False) S1 S5 := q1.go.tr (a6.go.mo (fun a w => by rw [w]; exact hm1) (fun _ w => w) (fun _ w => w))
      refine Rt.bn (pop_ (p := bs f + wl r) x73 (by omega)) (fun S6 v6 ⟨_, c2, c3, c4, c5⟩ => ?_)
      have go6 := go5.tr c3.go
      have hcv := hC.val (n := wl r) hf6 (by omega)
      have hag : agN (nMS S1) (nMS S6) (L (f, 40 + wl r)) := go6.ag (fun a ha w => by
        obtain ⟨w1, w2⟩ := hcv a ha
        rcases w with w | w
        · exact w1 w
        · omega)
      have ev6 : v6 = Zl S1 72 (bs f + wl r) := by rw [c2, x72]
      rw [ev6]
      refine Rt.bn (fpl_ (T := (D.I k).n1) (W := V (f, 40 + wl r)) (l := L (f, 40 + wl r)) (h := H (f, 40 + wl r)) (fl := l2) (t := t2) hL hx (hX1.1.tr go6.1) y2 y3 (v3.st hag) (c3.sam.fl a5) (fun n hn => hC.f1 n (frs.2.2.1 n hn)) (by have e9 := frs.2.2.2.2; have e9 : l2.length + 1 + t9 = fl.length + t2 := e9; omega) (fun a ha => ⟨fun w => (hcv a ha).1 (frs.2.2.1 a w), Nat.le_trans (hcv a ha).2 frs.2.1⟩)) (fun S7 r7 ⟨c, l1, fl3, t3, k3, b1, b2, b3, b4, b5, _, b6⟩ => ?_)
      have go7 := go6.tr (b5.go.mo (B2 := fun q => q ∈ rgN p (szN R S0 (D.I k).n1)) (P2 := fun _ => False) (A2 := fun a => a ∈ fl ∨ t9 < a) (A := fun a => (a ∈ l2 ∨ t2 < a) ∧ a ∈ c) (fun a w => by
        rcases w.1 with w | w
        · exact Or.inl (frs.2.2.1 a w)
        · have := frs.2.1; exact Or.inr (by omega)) (fun _ w => w) (fun _ w => w))
      have hc1 : 1 ≤ c.length := by rw [b2.len hy]; exact hsz.1
      have hdc := b3.1 _ (hdN_i hc1)
      have hcm : m ∉ c ∧ m ∉ l1 := by
        have e9 := b6 m
        have e8 := frs.ct hF hC.f1 a5.2.2.2.1 a2 m
        have e7 : cnN m (L (f, 40 + wl r)) = 0 := cnN_z (fun w => by
          obtain ⟨w1, w2⟩ := hcv m w
          rcases hm1 with z | z
          · exact w1 z
          · omega)
        have e6 : cnN m l2 = 0 := cnN_z a4
        have i2 : ind t2 m = 1 := if_pos ⟨a2, a3⟩
        have i3 : ind t3 m ≤ 1 := by unfold ind; by_cases w : 1 ≤ m ∧ m ≤ t3; rw [if_pos w]; exact Nat.le_refl _; rw [if_neg w]; exact Nat.zero_le _
        exact ⟨fun w => by have := cnN_mem.mp w; omega, fun w => by have := cnN_mem.mp w; omega⟩
      rw [b1, a1]
      refine Rt.bd (wJ_n (show m < rlen 61 from (by show m < 430000; omega)) (by decide)) ?_
      show Rt (bnd (f_push R.K (Ul S7 61 (vp_updL (Zl S7 61) m (nL (hdN c) + (nL p <<< (Int32.toInt64 20 &&& 63)) + (nL (szN R S0 (D.I k).n1) <<< (Int32.toInt64 40 &&& 63))))) (nL m)) fun S16 v17 => some (S16, ())) _
      have wth := wth_b (a := hdN c) (b := p) (c := szN R S0 (D.I k).n1) (by omega) (by omega) (by have := hsz.2.2.2.1; have : szN R S0 (D.I k).n1 ≤ 16 := this; omega)
      generalize hW : nL (hdN c) + (nL p <<< (Int32.toInt64 20 &&& 63)) + (nL (szN R S0 (D.I k).n1) <<< (Int32.toInt64 40 &&& 63)) = ww at wth
      have e8 : NO (fun a => a = m) S7 (Ul S7 61 (vp_updL (Zl S7 61) m ww)) := NO.w1 rfl
      have z8 : Zl (Ul S7 61 (vp_updL (Zl S7 61) m ww)) 61 m = ww := by rw [Zl_us, upL_s]
      have y8 : Zr (Ul S7 61 (vp_updL (Zl S7 61) m ww)) = Zr S7 := rfl
      have i8 : Zi (Ul S7 61 (vp_updL (Zl S7 61) m ww)) = Zi S7 := rfl
      have f8 : FLs (Ul S7 61 (vp_updL (Zl S7 61) m ww)) fl3 t3 := b4.eq rfl rfl rfl
      generalize Ul S7 61 (vp_updL (Zl S7 61) m ww) = S8 at e8 z8 y8 i8 f8
      have x73' : Zi S8 73 = nI (bs f + wl r) := by rw [i8, b5.2.2.2.2.2.2.2.1 73 (by decide) (by decide), c4]
      refine Rt.bn (psh_ (p := bs f + wl r) x73' (by omega)) (fun S9 _ ⟨s1, s2, s3, s4⟩ => ?_)
      have go9 : GO (fun a => a ∈ fl ∨ t9 < a) (fun q => q ∈ rgN p (szN R S0 (D.I k).n1)) (fun _ => False) S1 S9 := (go7.tr (e8.go.mo (fun a w => by rw [w]; exact hm1) (fun _ w => w) (fun _ w => w))).tr s1.go
      have x72' : ∀ q : Nat, q < bs f + wl r → Zl S9 72 q = Zl S1 72 q := fun q hq => by
        rw [s4 q (by omega), e8.2.2.2.2.2.1 72 (by decide), b5.2.2.2.2.2.1 72 (by decide), c5, x72]
      have n9 : ∀ a : Nat, a ≠ m → Zl S9 61 a = Zl S7 61 a ∧ Zr S9 62 a = Zr S7 62 a ∧ Zr S9 63 a = Zr S7 63 a := fun a ha => by
        obtain ⟨w1, w2, w3⟩ := e8.2.2.2.2.2.2.2.2 a ha
        rw [s1.2.2.2.2.2.1 61 (by decide), s1.2.2.2.2.2.2.1]
        exact ⟨w1, w2, w3⟩
      have hw67 : ∀ q : Nat, Zr S9 67 q = Zr S4 67 q := fun q => by
        rw [s1.2.2.2.2.2.2.1, y8, b5.2.2.2.2.2.2.1 67 (by decide) (by decide), c3.2.2.2.2.2.2.1, a6.2.2.2.2.2.2.1 67 (by decide) (by decide)]
      refine Rt.rt ⟨hX1.go go9 (s1.wq (e8.wq (b5.wq (c3.wq (a6.wq (q1.wq hX1.2.1)))))) ?_, Or.inr ⟨(go9.2.1 3 (by decide)).trans e3, (go9.2.1 70 (by decide)).trans e70, NXt.fr ?_ er ?_⟩⟩
      · rw [s1.2.2.2.2.2.2.2 81 (by decide), i8, b5.2.2.2.2.2.2.2.1 81 (by decide) (by decide), c3.2.2.2.2.2.2.2 81 (by decide), a6.2.2.2.2.2.2.2.1 81 (by decide) (by decide), q1.2.2.2.2.2.2.2.1 81 (by decide) (by decide)]
        exact hX1.2.2.2.2
      · have hUn : (yT R S0).1 U ≠ 5 ∧ (yT R S0).1 U ≠ 6 ∧ (yT R S0).1 U ≠ 2 := by
          rw [hU4]; decide
        have z9 : Zl S9 61 m = ww := by rw [s1.2.2.2.2.2.1 61 (by decide)]; exact z8
        refine h1.vs (E := [(0, (D.I k).n1, 0)]) (P := [(0, U, 0)]) (r := r) (lv := m :: (c ++ l1)) (hv := rgN p (szN R S0 (D.I k).n1) ++ H (f, 40 + wl r)) (fl2 := fl3) (t2 := t3) hL (h1.e1 (kd_s hk (by decide))) hJ hN hC hs (fun e he => by rw [List.mem_singleton.mp he]) hgt.tl hw (kdM_k hk (by decide)) d0.2.2.1 (Or.inr ⟨U, qB U (V (f, 40 + wl r)), rfl, by omega, hUn.1, hUn.2.1, qFu_B hU4 (by rw [hUT]; exact v2), Or.inr ⟨hUn.2.2, k3, Or.inr (Or.inl ⟨hU4, m, p, c, l1, H (f, 40 + wl r), ⟨_, rfl⟩, s3, ⟨a2, by omega⟩, ?_, ?_, ?_, ?_, ?_, rfl, ?_, ?_⟩)⟩⟩) go9 (fun a w => w.imp id (fun z => Or.inl z)) (fun a => ?_) (fun q => ?_) (s1.sam.fl f8) x72' h1.2.2.2.1.1 ?_
        · show kdW (Zl S9 61 m) = _
          rw [z9]; exact wth.1
        · show vrW (Zl S9 61 m) = _
          rw [z9]; exact wth.2.1
        · show blW (Zl S9 61 m) = _
          rw [z9, hUT]; exact wth.2.2
        · rw [hUT]; exact hp4
        · exact b3.cg (fun a ha => (n9 a (fun w => hcm.1 (by rw [← w]; exact ha))).2.2)
        · rw [hUT]
        · rw [hUT, qS_B]
          exact b2.st (fun a ha => by
            obtain ⟨w1, w2, _⟩ := n9 a (fun w => hcm.1 (by rw [← w]; exact ha))
            exact ⟨w1, w2⟩) (fun a ha => n9 a (fun w => hcm.2 (by rw [← w]; exact ha)))
        · rw [(wl_01 (r := [])).1, psN_1u]
          have e9 := frs.ct hF hC.f1 a5.2.2.2.1 a2 a
          have e8 := b6 a
          show (if m = a then 1 else 0) + cnN a (c ++ l1) + cnN a fl3 + ind t9 a = cnN a (L (f, 40 + wl r)) + cnN a fl + ind t3 a
          rw [cnN_app]; omega
        · rw [(wl_01 (r := [])).1, psN_1u]
          show (cnN q (rgN p (szN R S0 (D.I k).n1) ++ H (f, 40 + wl r)) ≤ cnN q (H (f, 40 + wl r)) ∧ (Zr S9 67 q = Zr S1 67 q ∨ cnN q (rgN p (szN R S0 (D.I k).n1) ++ H (f, 40 + wl r)) < cnN q (H (f, 40 + wl r)))) ∨ _
          rw [cnN_app]
          by_cases hq : q ∈ rgN p (szN R S0 (D.I k).n1)
          · have hq0 := hp2 q (rgN_mem.mp hq).1 (rgN_mem.mp hq).2
            have hz : cnN q (H (f, 40 + wl r)) = 0 := by
              have g1 : cnN q (H (f, 40 + wl r)) ≤ sm2 (fun r => cnN q (H r)) := sm2_i1 (G := fun r => cnN q (H r)) hf6 (show 40 + wl r < 300 by omega)
              rcases Nat.eq_zero_or_pos (cnN q (H (f, 40 + wl r))) with w | w
              · exact w
              · exact absurd hq0 ((hC.2 q).2 (by omega)).2
            refine Or.inr ⟨hq0, ?_, ?_, ?_⟩
            · rw [hz]; exact rgN_nd
            · have := (rgN_mem.mp hq).2; omega
            · rw [hw67, q2 q hq]; decide
          · rw [cnN_z hq]
            exact Or.inl ⟨by omega, Or.inl ((hw67 q).trans (q1.2.2.2.2.2.2.2.2 q hq))⟩
        · rw [s2, show [(0, U, 0)] ++ r = (0, U, 0) :: r from rfl, wl_01.2]
          congr 1
      · rw [h1.2.2.2.1.2.2, h.2.2.2.1.2.2]
  refine Rt.bn key (fun S2 _ q => ?_)
  unfold f_step_590
  exact Rt.rt q
end PS80
