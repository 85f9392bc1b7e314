section PS97
variable {R : yR} {K : Ky} {S0 Sl S S1 S2 S3 : Sg} {D : fD} {i k j f nw n v z T t : Nat} {vt : Nat → Nat → Nat} {tb : Nat → lTb} {x : Nat → kFm} {bs : Nat → Nat} {g : Nat → Int32} {X : kFm} {y : qY} {zn sz rk : Nat → Nat} {M M2 : nM} {sk sk2 : Nat → Int64} {pl pl2 : Nat → Int32} {rt rt2 : Nat × Nat → Nat} {V V2 : Nat × Nat → qV} {C L H : Nat × Nat → List Nat} {fl fl2 l h c0 : List Nat} {tk tk2 : Nat → Int32} {W : qV} {xv : Int64} {π : lLc}
/-- setPlace -/
theorem asp9_ (hL : LFS R S0 g) (hx : LX S0 Sl) (e : RNx Sl S) (hr : rTy S0 z) (eT : abT S0 z = T) (hva : vaR (yT R S0) (szN R S0) (nMS S) T W xv l h) (hW : (yT R S0).1 T = 2 → qF (yT R S0) W [] T) (hf : FLs S fl t) (hlen : c0.length = zN R S0 T) (hk : lkN (Zr S 63) c0) (hd0 : c0.Nodup) (hcl : ∀ a ∈ l, a ∉ fl ∧ a ≤ t ∧ a ∉ c0) (hcn : ∀ a ∈ c0, a ∉ fl ∧ a < 430000) (hl1 : ∀ a : Nat, cnN a l ≤ 1) : Rt (f_setPlace R.K S (some z) (nI (hdN c0)) xv) (fun S2 _ => ∃ (k1 : Nat) (l1 fl2 : List Nat), pL (yT R S0) (szN R S0) (nMS S2) k1 T W c0 l1 h ∧ FLs S2 fl2 t ∧ NO (fun a => a ∈ c0 ∨ a ∈ l) S S2 ∧ (∀ a ∈ c0, Zr S2 63 a = Zr S 63 a) ∧ (∀ a : Nat, cnN a l1 + cnN a fl2 = cnN a l + cnN a fl) ∧ ((yT R S0).1 T ≠ 2 → ∃ m : Nat, c0 = [m] ∧ Zl S2 61 m = xv)) := by
  have hy := nYk_of hL
  obtain ⟨kd, o1, o2⟩ := kd3_ hL hx hr
  rw [eT] at o2
  have hz := hy.1 T
  unfold f_setPlace
  refine Rt.bd (o1 S e) (Rt.it (fun w => ?_) (fun w => ?_))
  · rcases hva with ⟨y2, k, c, l1, q2, q3, q4, q5⟩ | ⟨q1, _⟩
    · subst q5
      rw [q4]
      have hcl2 := q2.len hy
      refine Rt.be (lvo_ hL hx e (o := some z) (fun y hy => by cases hy; exact hr)) ?_
      show Rt (f_setPlace_37 R.K bigN S (Int64.toInt32 (nL (hdN c))) (nI (hdN c0)) (nI (zN R S0 (abT S0 z)))) _
      rw [eT, nL_t, ← hcl2]
      have c1 : ∀ a ∈ c, a ∉ fl ∧ a ≤ t ∧ a ∉ c0 := fun a ha => hcl a (List.mem_append_left _ ha)
      refine (st37 c c0 bigN S fl (nI (hdN c)) (nI (hdN c0)) (by rw [hlen, hcl2]) (by unfold bigN; have : zN R S0 T ≤ 16 := hz.2.1; omega) (by have : zN R S0 T ≤ 16 := hz.2.1; omega) hf q3 hk (cnN_nd.mpr (fun a => ?_)) hd0 (fun a ha => ⟨(c1 a ha).2.1, (c1 a ha).1, (c1 a ha).2.2⟩) (fun b hb => (hcn b hb).1) (fun a ha => ?_) (fun b hb => ?_)).mo (fun S2 _ ⟨u1, u2, u3⟩ => ⟨k, l1, c.reverse ++ fl, ?_, u1, u2.mo (fun a ha => ha.elim (fun z => Or.inr (List.mem_append_left _ z)) Or.inl), fun a ha => ?_, fun a => ?_, fun z => absurd y2 z⟩)
      · have := hl1 a
        rw [cnN_app] at this
        omega
      · rw [hdN_0 (by rw [hcl2]; exact hz.1)] at ha
        rw [Option.some.inj ha]
      · rw [hdN_0 (by rw [hlen]; exact hz.1)] at hb
        rw [Option.some.inj hb]
      · refine q2.cp (hW y2) (by rw [hlen, hcl2]) (fun i a b h1 h2 => ⟨(u3 i a b h1 h2).1, (u3 i a b h1 h2).2.1⟩) (u2.ag (fun a ha z => ?_))
        rcases z with z | z
        · have := hl1 a
          rw [cnN_app] at this
          have z1 := cnN_mem.mp z
          have z2 := cnN_mem.mp ha
          omega
        · exact (hcl a (List.mem_append_right _ ha)).2.2 z
      · obtain ⟨i, hi⟩ := List.getElem?_of_mem ha
        have hi2 : i < c.length := by
          have := (List.getElem?_eq_some_iff.mp hi).1
          rw [hcl2, ← hlen]; exact this
        exact (u3 i c[i] a (List.getElem?_eq_getElem hi2) hi).2.2
      · rw [cnN_app, cnN_app, cnN_rev]; omega
    · exact absurd (o2.mp w) q1
  · rcases hva with ⟨q1, _⟩ | ⟨q1, k, q2⟩
    · exact absurd (o2.mpr q1) w
    · obtain ⟨n, rfl⟩ : ∃ n : Nat, c0 = [n] := by
        have h1 : c0.length = 1 := hlen.trans (hy.2.1 T q1)
        cases c0 with
        | nil => cases h1
        | cons a c0 =>
          cases c0 with
          | nil => exact ⟨a, rfl⟩
          | cons b c0 =>
            have h1 : c0.length + 1 + 1 = 1 := h1
            omega
      obtain ⟨hnf, hn4⟩ := hcn n (List.mem_singleton_self n)
      have hnl : n ∉ l := fun w => (hcl n w).2.2 (List.mem_singleton_self n)
      rw [show hdN [n] = n from rfl]
      refine Rt.bd (wJ_n (show n < rlen 61 from hn4) (by decide)) ?_
      have e1 : NO (fun m => m = n) S (Ul S 61 (vp_updL (Zl S 61) n xv)) := NO.w1 rfl
      have f6 : FLs (Ul S 61 (vp_updL (Zl S 61) n xv)) fl t := hf.no e1 (fun m hm w => hnf (by rw [← w]; exact hm)) rfl rfl
      have v1 : Zl (Ul S 61 (vp_updL (Zl S 61) n xv)) 61 n = xv := by rw [Zl_us, upL_s]
      have x1 : Zr (Ul S 61 (vp_updL (Zl S 61) n xv)) = Zr S := rfl
      generalize Ul S 61 (vp_updL (Zl S 61) n xv) = Sa at e1 f6 v1 x1
      refine Rt.bd (wZ_n (show n < rlen 62 from hn4) (by decide) (Or.inr rfl)) ?_
      have e2 : NO (fun m => m = n) Sa (Ur Sa 62 (upd (Zr Sa 62) n 1)) := NO.w2 rfl
      have f7 := f6.no e2 (fun m hm w => hnf (by rw [← w]; exact hm)) rfl rfl
      have v2 : Zl (Ur Sa 62 (upd (Zr Sa 62) n 1)) 61 = Zl Sa 61 := rfl
      have v3 : Zr (Ur Sa 62 (upd (Zr Sa 62) n 1)) 62 n = 1 := by rw [Zr_us, upd_s]
      have v4 : Zr (Ur Sa 62 (upd (Zr Sa 62) n 1)) 63 = Zr Sa 63 := Zr_u9 (by decide)
      generalize Ur Sa 62 (upd (Zr Sa 62) n 1) = Sb at e2 f7 v2 v3 v4
      have e3 := e1.tr e2
      refine Rt.rt ⟨k + 1, l, fl, Or.inr ⟨q1, n, rfl, Or.inr ⟨v3, ?_⟩⟩, f7, e3.mo (fun a ha => Or.inl (List.mem_singleton.mpr ha)), fun a _ => by rw [v4, x1], fun a => rfl, fun _ => ⟨n, rfl, by rw [v2, v1]⟩⟩
      show vL (yT R S0) (szN R S0) (nMS Sb) k T W (Zl Sb 61 n) l h
      rw [v2, v1]
      exact q2.st (e3.ag (fun a ha w => hnl (by rw [← w]; exact ha)))
/-- a value is put into a place, it leaves the stack -/
theorem kN.as {k1 : Nat} {l0 g0 rest hr l1 h1 : List Nat} {d : Nat × Nat} {A : Nat → Prop} (hy : nYk y zn sz rk) (hJ : kJ y vt tb f x rt V) (hN : kN y zn sz M sk pl f x rt V bs C L H) (hC : kC C L H fl t tk) (hf6 : f < 60) (hw1 : ∀ j : Nat, j ≤ f → wl (x j).2.1 ≤ 177) (hd1 : d.1 ≤ f) (hd4 : d.2 < 40) (hdS : (8, d.2, 0) ∈ (x d.1).2.1) (wlx : wl (x f).2.1 = 1) (hX0 : wl X.2.1 = 0) (hX8 : ∀ u : Nat, (8, u, 0) ∈ X.2.1 ↔ (8, u, 0) ∈ (x f).2.1)
  (hV : ∀ q : Nat × Nat, q ≠ d → ¬ (q.1 = f ∧ 40 ≤ q.2) → rt2 q = rt q ∧ V2 q = V q) (hrd : rt2 d = rt d) (hVd : V2 d = qG (V d) π W)
  (pc : ∀ a : Nat, cnN a (C d) + cnN a (L d) = cnN a c0 + cnN a l0 + cnN a rest) (ph : ∀ a : Nat, cnN a (H d) = cnN a g0 + cnN a hr) (pm : ∀ a ∈ C d, a ∈ c0 ∨ a ∈ rest) (pf : foR y zn sz M (rt d) T (V d) π (C d) c0 rest hr)
  (hM : ∀ a : Nat, ¬ A a → M2.w a = M.w a ∧ M2.h a = M.h a ∧ M2.x a = M.x a) (hA : ∀ a : Nat, A a → (a ∈ c0 ∨ a ∈ l0) ∨ a ∈ L (f, 40)) (hx0 : ∀ a ∈ c0, M2.x a = M.x a) (hnew : pL y sz M2 k1 T W c0 l1 h1)
  (hfl2 : ∀ a : Nat, cnN a l1 + cnN a fl2 = cnN a l0 + cnN a (L (f, 40)) + cnN a fl) (hh1 : ∀ q : Nat, cnN q h1 ≤ cnN q (H (f, 40))) (htk : ∀ q : Nat, tk2 q = tk q ∨ 1 ≤ cnN q g0)
  (hrr : ∀ (j u : Nat) (e : Nat × Nat) (π9 : lLc), j ≤ f → kA (kUx x f X j) u → kSc (kUx x f X j).2.1 u → kR (kUx x f X j) u = some (e :: π9) → ((j, u) ≠ d ∧ kA (x j) u ∧ kR (x j) u = some (e :: π9) ∧ (e = d → lP π π9 → π9 = π)) ∨ ((j, u) = d ∧ e ≠ d ∧ (e.1 ≤ f ∧ e.2 < 40 ∧ (8, e.2, 0) ∈ (x e.1).2.1) ∧ ∃ m n2 : Nat, C d = [m] ∧ M2.w m = nL n2 ∧ n2 < 430000 ∧ wRn y zn M (rt e) (hdN (C e)) π9 n2 ∧ ∃ T9 : Nat, qW y (rt e) π9 T9 ∧ prS (V e) π9))
  (hsk : ∀ q : Nat, q < bs f → sk2 q = sk q) : ∃ l2 h2 : List Nat, kN y zn sz M2 sk2 pl f (kUx x f X) rt2 V2 bs C (u2N L d (f, 40) l2 []) (u2N H d (f, 40) h2 []) ∧ kC C (u2N L d (f, 40) l2 []) (u2N H d (f, 40) h2 []) fl2 t tk2 := by
  have hf := Nat.le_refl f
  have h177 := hw1 f hf
  have e1 : ((f, 40) : Nat × Nat) ≠ d := fun w => by rw [← w] at hd4; exact absurd hd4 (by show ¬ (40 < 40); omega)
  have d60 : d.1 < 60 := by omega
  have d300 : d.2 < 300 := by omega
  have top : ∀ u : Nat, 40 ≤ u → C (f, u) = [] ∧ (u ≠ 40 → L (f, u) = [] ∧ H (f, u) = []) := fun u hu => by
    obtain ⟨q1, q2, q3⟩ := hN.1 f u hf
    by_cases e : u < 40 + wl (x f).2.1
    · exact ⟨(q2 hu e).1, fun z => by omega⟩
    · obtain ⟨z1, z2, z3⟩ := q3 (fun z => by rcases z with z | z <;> omega)
      exact ⟨z1, fun _ => ⟨z2, z3⟩⟩
  have inV : ∀ a : Nat, 1 ≤ cnN a c0 + cnN a l0 + cnN a rest → cnN a c0 + cnN a l0 + cnN a rest = 1 ∧ ∀ q : Nat × Nat, q.1 < 60 → q.2 < 300 → (a ∈ C q ∨ a ∈ L q) → q = d := fun a ha => by
    have hm : a ∈ C d ∨ a ∈ L d := by
      have := pc a
      by_cases w : a ∈ C d
      · exact Or.inl w
      · have := cnN_z w
        exact Or.inr (cnN_mem.mpr (by omega))
    obtain ⟨q1, q2, q3, q4, q5⟩ := hC.one d60 d300 hm
    exact ⟨by rw [← pc a]; exact q4, q5⟩
  have one : ∀ a : Nat, (a ∈ c0 ∨ a ∈ l0) → 1 ≤ cnN a c0 + cnN a l0 := fun a w => by
    rcases w with w | w
    · have := cnN_mem.mp w; omega
    · have := cnN_mem.mp w; omega
  have dj : ∀ (q : Nat × Nat) (a : Nat), q ≠ d → q ≠ (f, 40) → q.1 ≤ f → kSc (x q.1).2.1 q.2 → (a ∈ C q ∨ a ∈ L q) → ¬ A a := fun q a h1 h12 h2 h3 h4 w => by
    have hq := hw1 q.1 h2
    have q300 : q.2 < 300 := by rcases h3 with z | z <;> omega
    rcases hA a w with z | z
    · have := one a z
      exact h1 ((inV a (by omega)).2 q (by omega) q300 h4)
    · obtain ⟨_, _, _, _, q5⟩ := hC.one (r := q) (by omega) q300 h4
      exact h12 (q5 (f, 40) hf6 (show 40 < 300 by omega) (Or.inr z)).symm
  have dr : ∀ a ∈ rest, ¬ A a := fun a ha w => by
    have m1 := cnN_mem.mp ha
    obtain ⟨z3, z4⟩ := inV a (by omega)
    rcases hA a w with z | z
    · have := one a z; omega
    · exact e1 (z4 (f, 40) hf6 (show 40 < 300 by omega) (Or.inr z))
  obtain ⟨f1, f2⟩ := pf M2 (fun a ha => hM a (dr a ha)) hx0
  obtain ⟨k2, l2, h2, g1, g2, g3⟩ := f1 W k1 l1 h1 hnew
  obtain ⟨_, hlk, hpl⟩ := (hN.1 d.1 d.2 hd1).1 hd4 hdS
  have hlk2 : lkN M2.x (C d) := hlk.cg (fun a ha => by
    rcases pm a ha with w | w
    · exact hx0 a w
    · exact (hM a (dr a w)).2.2)
  have hag : ∀ q : Nat × Nat, q ≠ d → ¬ (q.1 = f ∧ 40 ≤ q.2) → q.1 ≤ f → agN M M2 (C q) ∧ agN M M2 (L q) := fun q h1 h12 h2 => by
    have n40 : q ≠ (f, 40) := fun z => h12 (by rw [z]; exact ⟨rfl, Nat.le_refl 40⟩)
    by_cases c : kSc (x q.1).2.1 q.2
    · exact ⟨fun a ha => hM a (dj q a h1 n40 h2 c (Or.inl ha)), fun a ha => hM a (dj q a h1 n40 h2 c (Or.inr ha))⟩
    · obtain ⟨z1, z2, _⟩ := (hN.1 q.1 q.2 h2).2.2 c
      have z1 : C q = [] := z1
      have z2 : L q = [] := z2
      rw [z1, z2]
      exact ⟨fun _ w => (by cases w), fun _ w => (by cases w)⟩
  refine ⟨l2, h2, kN.up (bs := bs) (bs2 := bs) (f2 := f) hy hJ hN (fun r => r.1 ≤ f ∧ r ≠ d ∧ ¬ (r.1 = f ∧ 40 ≤ r.2)) (fun j u ⟨k1, k2, k3⟩ => ?_) (fun j u hj hk => ?_) (fun j u hj => ?_) ⟨hN.2.2.1.1, fun j hj => ?_⟩ (fun j u e π9 hj ha hc he => ?_), ?_⟩
  · have n40 : (j, u) ≠ (f, 40) := fun z => k3 (by rw [z]; exact ⟨rfl, Nat.le_refl 40⟩)
    obtain ⟨v1, v2⟩ := hV (j, u) k2 k3
    obtain ⟨a1, a2⟩ := hag (j, u) k2 k3 k1
    refine ⟨⟨k1, rfl⟩, ?_, fun a => ?_, ⟨v1, v2⟩, ⟨rfl, u2N_o k2 n40, u2N_o k2 n40⟩, a1, a2, fun _ _ => rfl, fun a b => ?_⟩
    · by_cases e : j = f
      · subst e; rw [kUx_top]; exact hX8 u
      · rw [kUx_lo e]
    · have e : j ≠ f := fun w => k3 ⟨w, a⟩
      rw [kUx_lo e]
    · have e : j ≠ f := fun w => k3 ⟨w, a⟩
      have k1 : j ≤ f := k1
      have := (hN.bsm k1 hf).2 (by omega)
      exact hsk _ (by omega)
  · by_cases c : (j, u) = d
    · subst c
      rw [hrd, hVd, u2N_1, u2N_1]
      have h8 : (8, u, 0) ∈ (kUx x f X j).2.1 := by
        by_cases e : j = f
        · subst e; rw [kUx_top]; exact (hX8 u).mpr hdS
        · rw [kUx_lo e]; exact hdS
      exact ⟨fun _ _ => ⟨⟨k2, g1⟩, hlk2, hpl⟩, fun w => by have hd4 : u < 40 := hd4; omega, fun w => absurd (Or.inl ⟨hd4, h8⟩) w⟩
    · have c2 : j = f ∧ 40 ≤ u := Classical.byContradiction (fun w => hk ⟨hj, c, w⟩)
      obtain ⟨c2, c3⟩ := c2
      subst c2
      rw [kUx_top]
      obtain ⟨t1, t2⟩ := top u c3
      have hLH : u2N L d (j, 40) l2 [] (j, u) = [] ∧ u2N H d (j, 40) h2 [] (j, u) = [] := by
        by_cases c4 : u = 40
        · subst c4
          exact ⟨u2N_2 e1, u2N_2 e1⟩
        · have n1 : ((j, u) : Nat × Nat) ≠ (j, 40) := fun w => c4 (Prod.mk.inj w).2
          rw [u2N_o c n1, u2N_o c n1]
          exact t2 c4
      rw [t1, hLH.1, hLH.2]
      exact ⟨fun w => by omega, fun _ w => by rw [hX0] at w; omega, fun _ => ⟨rfl, rfl, rfl⟩⟩
  · have n1 : ((j, u) : Nat × Nat) ≠ d := fun w => by rw [← w] at hd1; have hd1 : j ≤ f := hd1; omega
    have n2 : ((j, u) : Nat × Nat) ≠ (f, 40) := fun w => by have := (Prod.mk.inj w).1; omega
    rw [u2N_o n1 n2, u2N_o n1 n2]
    exact hN.2.1 j u hj
  · rw [kUx_lo (by omega)]; exact hN.2.2.1.2 j hj
  · have hju : ¬ (j = f ∧ 40 ≤ u) := fun ⟨w1, w2⟩ => by
      subst w1
      rw [kUx_top] at hc
      rcases hc with z | z
      · omega
      · rw [hX0] at z; omega
    rcases hrr j u e π9 hj ha hc he with ⟨q1, q2, q3, q4⟩ | ⟨q1, q2, q3, m, n2, q4, q5, q6, q7, T9, q8, q9⟩
    · obtain ⟨l1', l2', l3, T9, l4, l5, l6⟩ := hJ.ld hj q2 q3
      by_cases ed : e = d
      · refine Or.inr ?_
        subst ed
        have oc : kSc (x j).2.1 u := by
          by_cases ejf : j = f
          · subst ejf
            rw [kUx_top] at hc
            rcases hc with ⟨z1, z2⟩ | ⟨z1, z2⟩
            · exact Or.inl ⟨z1, (hX8 u).mp z2⟩
            · rw [hX0] at z2; omega
          · rw [kUx_lo ejf] at hc; exact hc
        have n40 : ((j, u) : Nat × Nat) ≠ (f, 40) := fun z => hju ⟨(Prod.mk.inj z).1, by rw [(Prod.mk.inj z).2]; exact Nat.le_refl 40⟩
        obtain ⟨n, n1, n2, n3, n4⟩ := hN.2.2.2 j u e π9 hj q2 oc q3
        refine ⟨n, n1, ?_, fun a => ?_, fun a => ?_⟩
        · rw [hrd]
          exact f2 π9 T9 n l4 l6 (q4 rfl) n2
        · obtain ⟨m, i1, i2⟩ := n3 a
          have hm : m ∈ C (j, u) := by rw [i1]; exact List.mem_singleton_self m
          exact ⟨m, i1, (hM m (dj (j, u) m q1 n40 hj oc (Or.inl hm))).1.trans i2⟩
        · have ejf : j ≠ f := fun w => hju ⟨w, a⟩
          have hlt : u < 40 + wl (x j).2.1 := by
            rcases oc with z | z <;> omega
          have := (hN.bsm hj hf).2 (by omega)
          rw [hsk _ (by omega)]; exact n4 a
      · exact Or.inl ⟨⟨hj, q1, hju⟩, ⟨l1', ed, fun w => by omega⟩, q2, q3⟩
    · refine Or.inr ?_
      obtain ⟨q31, q32, q33⟩ := q3
      obtain ⟨a1, a2⟩ := hag e q2 (fun w => by omega) q31
      have hre := (hV e q2 (fun w => by omega)).1
      subst q1
      refine ⟨n2, q6, ?_, fun _ => ⟨m, q4, q5⟩, fun w => by have hd4 : u < 40 := hd4; omega⟩
      rw [hre]
      exact ((hN.hd hy q31 q32 q33).1).wk hy q8 q9 q7 a1 a2
  · have r0 : ∀ i : Nat, i < 2 → i = 0 ∨ i = 1 := fun i hi => by omega
    have pn : ∀ q : Nat, psN (fun i => cnN q (u2N H d (f, 40) h2 [] (if i = 0 then d else (f, 40)))) 2 = cnN q h1 + cnN q hr ∧ psN (fun i => cnN q (H (if i = 0 then d else (f, 40)))) 2 = cnN q g0 + cnN q hr + cnN q (H (f, 40)) ∧ cnN q g0 + cnN q hr + cnN q (H (f, 40)) ≤ 1 := fun q => by
      rw [psN_two, psN_two]
      have w1 := g3 q
      have w2 := ph q
      have w5 : cnN q (H d) + cnN q (H (f, 40)) ≤ sm2 (fun r => cnN q (H r)) := sm2_ij (G := fun r => cnN q (H r)) d60 d300 hf6 (show 40 < 300 by omega) e1.symm
      have w6 := (hC.2 q).1
      refine ⟨?_, ?_, by omega⟩
      · show cnN q (u2N H d (f, 40) h2 [] d) + cnN q (u2N H d (f, 40) h2 [] (f, 40)) = _
        rw [u2N_1, u2N_2 e1]
        show cnN q h2 + 0 = _
        omega
      · show cnN q (H d) + cnN q (H (f, 40)) = _
        omega
    refine hC.fam (r := fun i => if i = 0 then d else (f, 40)) (n := 2) (fun i hi => ?_) (fun i j hi hj he => ?_) (fun q hq => ?_) (fun a => ?_) (fun q => Or.inl ?_)
    · rcases r0 i hi with e | e <;> subst e
      · exact ⟨d60, d300⟩
      · exact ⟨hf6, show 40 < 300 by omega⟩
    · rcases r0 i hi with e | e <;> rcases r0 j hj with e2 | e2 <;> subst e <;> subst e2
      · rfl
      · exact absurd he.symm e1
      · exact absurd he e1
      · rfl
    · have n1 := hq 0 (by omega)
      have n2 := hq 1 (by omega)
      exact ⟨rfl, u2N_o n1 n2, u2N_o n1 n2⟩
    · rw [psN_two, psN_two]
      show (cnN a (C d) + cnN a (u2N L d (f, 40) l2 [] d)) + (cnN a (C (f, 40)) + cnN a (u2N L d (f, 40) l2 [] (f, 40))) + cnN a fl2 + ind t a = (cnN a (C d) + cnN a (L d)) + (cnN a (C (f, 40)) + cnN a (L (f, 40))) + cnN a fl + ind t a
      rw [u2N_1, u2N_2 e1]
      have w1 := g2 a
      have w2 := pc a
      have w3 := hfl2 a
      have w4 : cnN a ([] : List Nat) = 0 := rfl
      rw [w4]
      omega
    · obtain ⟨w1, w2, w3⟩ := pn q
      have z1 := hh1 q
      rw [w1, w2]
      exact ⟨by omega, (htk q).imp id (fun z => ⟨by omega, by omega⟩)⟩
end PS97
