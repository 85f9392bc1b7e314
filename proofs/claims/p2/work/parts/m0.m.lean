section LY12
variable {R : yR} {S0 Sb S S1 S2 : Sg} {P P1 P2 h h1 h2 L L1 L2 Lb z n : Nat} {Γ Γ2 : List Nat} {x : pRc} {E : eV} {k : Nat} {lv : Prop} {i : iR} {s s1 s2 : List tE} {J : Nat → List tE → Prop}
theorem tP_0 (hk : i.kd = 0) (h : (iD0 i ∧ nT s) ∧ J (k + 1) s) : tPt E k lv i s J := by unfold tPt; rw [hk]; exact h
theorem tP_1 (hk : i.kd = 1) (h : (iD0 i ∧ nT s) ∧ ∃ t : Nat, (t = 1 ∨ t = 2) ∧ J (k + 1) ((0, t, 0) :: s)) : tPt E k lv i s J := by unfold tPt; rw [hk]; exact h
theorem tP_27 (hk : i.kd = 27) (h : (iD0 i ∧ nT s) ∧ ∃ t : Nat, (t = 1 ∨ t = 2) ∧ J (k + 1) ((0, t, 0) :: s)) : tPt E k lv i s J := by unfold tPt; rw [hk]; exact h
theorem tP_2 (hk : i.kd = 2) (h : i.ln = none ∧ ∃ (v : Nat) (ρ : lLc) (T : Nat), iPa E i s v ρ T ∧ iUv E i v ∧ (isRf T → i.ho = some (40 + wl s)) ∧ (¬ isRf T → i.ho = none) ∧ ((i.ac = 1 ∧ cpT T) ∨ (i.ac = 4 ∧ ¬ cpT T ∧ qM ρ) ∨ (i.ac = 5 ∧ ¬ cpT T ∧ ¬ isRf (E.vt v) ∧ ∃ σ : lLc, ρ = σ ++ [(1, 0)] ∧ qM σ)) ∧ J (k + 1) (eT T :: s)) : tPt E k lv i s J := by unfold tPt; rw [hk]; exact h
theorem tP_3 (hk : i.kd = 3) (h : ∃ (v : Nat) (ρ : lLc) (T : Nat), iPa E i s v ρ T ∧ iUv E i v ∧ i.ho = some (40 + wl s) ∧ (∃ l : Nat, i.ln = some l) ∧ T < 10000 ∧ ((i.ac = 2 ∧ i.n3 = 1 ∧ J (k + 1) ((1, T, 0) :: s)) ∨ (i.ac = 3 ∧ i.n3 = 0 ∧ (isRf (E.vt v) → E.vt v % 2 = 1) ∧ J (k + 1) ((2, T, 0) :: s)))) : tPt E k lv i s J := by unfold tPt; rw [hk]; exact h
theorem tP_4 (hk : i.kd = 4) (h : iD0 i ∧ ∃ (t1 t2 t : Nat) (r : List tE), (t1 = 1 ∨ t1 = 2) ∧ (t2 = 1 ∨ t2 = 2) ∧ (t = 1 ∨ t = 2) ∧ s = (0, t1, 0) :: (0, t2, 0) :: r ∧ J (k + 1) ((0, t, 0) :: r)) : tPt E k lv i s J := by unfold tPt; rw [hk]; exact h
theorem tP_5 (hk : i.kd = 5) (h : iD0 i ∧ ∃ (t : Nat) (r : List tE), (t = 1 ∨ t = 2) ∧ s = (0, t, 0) :: r ∧ J (k + 1) s) : tPt E k lv i s J := by unfold tPt; rw [hk]; exact h
theorem tP_6 (hk : i.kd = 6) (h : iD0 i ∧ ∃ (t : Nat) (r : List tE), (t = 1 ∨ t = 2) ∧ s = (0, t, 0) :: r ∧ J (k + 1) s) : tPt E k lv i s J := by unfold tPt; rw [hk]; exact h
theorem tP_7 (hk : i.kd = 7) (h : iD0 i ∧ ∃ (U : Nat) (r : List tE), s = (0, i.n1, 0) :: r ∧ i.n1 ≠ 0 ∧ i.n1 < 10000 ∧ E.y.1 U = 4 ∧ E.y.2.1 U = i.n1 ∧ 100 ≤ U ∧ U < 10000 ∧ J (k + 1) ((0, U, 0) :: r)) : tPt E k lv i s J := by unfold tPt; rw [hk]; exact h
theorem tP_8 (hk : i.kd = 8) (h : iD0 i ∧ ∃ (fo : Nat → Nat) (r : List tE), E.y.1 (4 + i.n1) = 2 ∧ i.n1 < 70 ∧ i.n3 = E.y.2.2.2.1 (4 + i.n1) 0 ∧ i.n3 ≤ 12 ∧ i.vs = (List.range i.n3).map fo ∧ (∀ q : Nat, q < i.n3 → fo q < i.n3) ∧ (∀ a b : Nat, a < i.n3 → b < i.n3 → fo a = fo b → a = b) ∧ s = dsl (fun q => (0, E.y.2.2.2.2 (4 + i.n1) 0 (fo q), 0)) i.n3 ++ r ∧ J (k + 1) ((0, 4 + i.n1, 0) :: r)) : tPt E k lv i s J := by unfold tPt; rw [hk]; exact h
theorem tP_9 (hk : i.kd = 9) (h : (iD0 i ∧ nT s) ∧ ∃ r : List tE, E.y.1 (4 + i.n1) = 3 ∧ i.n1 < 70 ∧ i.n2 < E.y.2.2.1 (4 + i.n1) ∧ i.n3 = E.y.2.2.2.1 (4 + i.n1) i.n2 ∧ i.n3 ≤ 12 ∧ s = dsl (fun q => (0, E.y.2.2.2.2 (4 + i.n1) i.n2 q, 0)) i.n3 ++ r ∧ J (k + 1) ((0, 4 + i.n1, 0) :: r)) : tPt E k lv i s J := by unfold tPt; rw [hk]; exact h
theorem tP_10 (hk : i.kd = 10) (h : i.ac = 0 ∧ i.pa = none ∧ (i.ln = none ∧ nT s) ∧ ∃ r : List tE, i.n3 = (E.hd i.n1).1 ∧ i.n3 ≤ 12 ∧ i.n1 < 70 ∧ s = dsl (fun q => eT ((E.hd i.n1).2.1 q)) i.n3 ++ r ∧ (∀ q : Nat, q < i.n3 → (E.hd i.n1).2.1 q ≠ 0) ∧ i.us = arL (wl r) (fun q => decide (10000 ≤ (E.hd i.n1).2.1 q ∧ (E.hd i.n1).2.1 q < 30000)) i.n3 ∧ i.fr = arL (wl r) (fun q => decide (10000 ≤ (E.hd i.n1).2.1 q ∧ (E.hd i.n1).2.1 q < 30000) && (decide (E.rl i.n1 < 0) || decide (E.lf i.n1 q = E.rl i.n1))) i.n3 ∧ (((E.hd i.n1).2.2 = 0 ∧ i.ho = none ∧ J (k + 1) r) ∨ ((E.hd i.n1).2.2 ≠ 0 ∧ (isRf (E.hd i.n1).2.2 → i.ho = some (40 + wl r)) ∧ (¬ isRf (E.hd i.n1).2.2 → i.ho = none) ∧ J (k + 1) (eT (E.hd i.n1).2.2 :: r)))) : tPt E k lv i s J := by unfold tPt; rw [hk]; exact h
theorem tP_11 (hk : i.kd = 11) (h : iD0 i ∧ ∃ (T : Nat) (r : List tE), s = (0, T, 0) :: r ∧ T ≠ 0 ∧ T < 10000 ∧ (T = i.n1 ∨ (isRf i.n1 ∧ T = 1)) ∧ J (k + 1) r) : tPt E k lv i s J := by unfold tPt; rw [hk]; exact h
theorem tP_12 (hk : i.kd = 12) (h : i.ac = 0 ∧ i.pa = none ∧ i.ln = none ∧ ∃ (v : Nat) (r : List tE), i.vs = [v] ∧ v < 40 ∧ i.ho = some v ∧ E.vt v ≠ 0 ∧ s = eT (E.vt v) :: r ∧ (8, v, 0) ∉ r ∧ wl r = 0 ∧ (isRf (E.vt v) → i.us = [40] ∧ i.fr = [40]) ∧ (¬ isRf (E.vt v) → i.us = [] ∧ i.fr = []) ∧ i.n1 = E.vt v ∧ J (k + 1) ((8, v, 0) :: r)) : tPt E k lv i s J := by unfold tPt; rw [hk]; exact h
theorem tP_13 (hk : i.kd = 13) (h : i.ac = 0 ∧ i.pa = none ∧ (i.ln = none ∧ nT s) ∧ i.us = [] ∧ i.fr = [] ∧ ∃ v : Nat, i.vs = [v] ∧ v < 40 ∧ i.ho = some v ∧ (8, v, 0) ∉ s ∧ wl s = 0 ∧ i.n1 = E.vt v ∧ J (k + 1) ((8, v, 0) :: s)) : tPt E k lv i s J := by unfold tPt; rw [hk]; exact h
theorem tP_14 (hk : i.kd = 14) (h : i.ac = 6 ∧ i.ln = none ∧ ∃ (v : Nat) (ρ : lLc) (T : Nat) (r : List tE), iPa E i r v ρ T ∧ s = eT T :: r ∧ wl r = 0 ∧ ((ρ = [] ∧ i.ho = some v ∧ (isRf T → i.us = [40] ∧ i.fr = [40]) ∧ (¬ isRf T → i.us = [] ∧ i.fr = [])) ∨ (ρ ≠ [] ∧ i.ho = none ∧ i.fr = [] ∧ (isRf (E.vt v) → i.us = [v] ∧ E.vt v % 2 = 1) ∧ (¬ isRf (E.vt v) → i.us = []))) ∧ J (k + 1) r) : tPt E k lv i s J := by unfold tPt; rw [hk]; exact h
theorem tP_15 (hk : i.kd = 15) (h : iD0 i ∧ ∃ (t : Nat) (r : List tE), (t = 1 ∨ t = 2) ∧ s = (0, t, 0) :: r ∧ J (k + 1) r) : tPt E k lv i s J := by unfold tPt; rw [hk]; exact h
theorem tP_16 (hk : i.kd = 16) (h : (iD0 i ∧ nT s) ∧ ∃ j : Nat, i.sc = [j] ∧ J j s) : tPt E k lv i s J := by unfold tPt; rw [hk]; exact h
theorem tP_17 (hk : i.kd = 17) (h : iD0 i ∧ ∃ (t j : Nat) (r : List tE), (t = 1 ∨ t = 2) ∧ s = (0, t, 0) :: r ∧ i.sc = [k + 1, j] ∧ J (k + 1) r ∧ J j r) : tPt E k lv i s J := by unfold tPt; rw [hk]; exact h
theorem tP_18 (hk : i.kd = 18) (h : iD0 i ∧ ∃ (t j : Nat) (r : List tE), (t = 1 ∨ t = 2) ∧ s = (0, t, 0) :: r ∧ i.sc = [k + 1, j] ∧ J (k + 1) r ∧ J j s) : tPt E k lv i s J := by unfold tPt; rw [hk]; exact h
theorem tP_19 (hk : i.kd = 19) (h : iD0 i ∧ ∃ (t j : Nat) (r : List tE), (t = 1 ∨ t = 2) ∧ s = (0, t, 0) :: r ∧ i.sc = [k + 1, j] ∧ J (k + 1) r ∧ J j s) : tPt E k lv i s J := by unfold tPt; rw [hk]; exact h
theorem tP_20 (hk : i.kd = 20) (h : iD0 i ∧ ∃ r : List tE, s = (0, 4 + i.n1, 0) :: r ∧ wl r = 0 ∧ i.n1 < 70 ∧ E.y.1 (4 + i.n1) = 3 ∧ i.sc.length = E.y.2.2.1 (4 + i.n1) ∧ i.sc.length ≤ 12 ∧ ∀ g j : Nat, i.sc[g]? = some j → k < j ∧ J j ((3, (4 + i.n1) * 12 + g, 1) :: r)) : tPt E k lv i s J := by unfold tPt; rw [hk]; exact h
theorem tP_21 (hk : i.kd = 21) (h : i.ho = none ∧ i.ln = none ∧ ∃ (v : Nat) (ρ : lLc), iPa E i s v ρ (4 + i.n1) ∧ iUv E i v ∧ wl s = 0 ∧ i.n1 < 70 ∧ E.y.1 (4 + i.n1) = 3 ∧ ((i.ac = 2 ∧ i.n3 = 1) ∨ (i.ac = 3 ∧ i.n3 = 0 ∧ (isRf (E.vt v) → E.vt v % 2 = 1))) ∧ i.sc.length = E.y.2.2.1 (4 + i.n1) ∧ i.sc.length ≤ 12 ∧ ∀ g j : Nat, i.sc[g]? = some j → k < j ∧ ((E.y.2.2.2.1 (4 + i.n1) g = 0 ∧ J j s) ∨ (0 < E.y.2.2.2.1 (4 + i.n1) g ∧ J j ((if i.n3 = 1 then 5 else 6, i.n1 * 12 + g, 64 * cdP v ρ) :: s)))) : tPt E k lv i s J := by unfold tPt; rw [hk]; exact h
theorem tP_22 (hk : i.kd = 22) (h : iD0 i ∧ ∃ r : List tE, s = (3, (4 + i.n1) * 12 + i.n2, 1) :: r ∧ wl r = 0 ∧ i.n1 < 70 ∧ i.n2 < 12 ∧ E.y.1 (4 + i.n1) = 3 ∧ i.n2 < E.y.2.2.1 (4 + i.n1) ∧ i.vs.length = E.y.2.2.2.1 (4 + i.n1) i.n2 ∧ i.vs.length ≤ 12 ∧ (∀ a b v : Nat, i.vs[a]? = some v → i.vs[b]? = some v → a = b) ∧ (∀ q v : Nat, i.vs[q]? = some v → v < 40 ∧ (8, v, 0) ∉ r ∧ E.vt v = E.y.2.2.2.2 (4 + i.n1) i.n2 q) ∧ J (k + 1) ((i.vs.reverse.map (fun v => (8, v, 0))) ++ r)) : tPt E k lv i s J := by unfold tPt; rw [hk]; exact h
theorem tP_23 (hk : i.kd = 23) (h : i.ac = 0 ∧ ∃ (v : Nat) (ρ : lLc) (w q g m : Nat) (r : List tE), i.vs = [w] ∧ w < 40 ∧ i.ho = some w ∧ (∃ l : Nat, i.ln = some l) ∧ s = (if i.n3 = 1 then 5 else 6, q * 12 + g, 64 * cdP v ρ + m) :: r ∧ (wl r = 0 ∧ nT r ∧ (i.n3 ≠ 1 → isRf (E.vt v) → E.vt v % 2 = 1)) ∧ (8, w, 0) ∉ r ∧ q < 70 ∧ g < 12 ∧ E.y.1 (4 + q) = 3 ∧ g < E.y.2.2.1 (4 + q) ∧ m < E.y.2.2.2.1 (4 + q) g ∧ i.pa = some (v, ρ ++ [(g + 2, m)], E.y.2.2.2.2 (4 + q) g m) ∧ (v < 40 ∧ E.ad v = i.n2) ∧ (8, v, 0) ∈ r ∧ pTy E.y (E.vt v) ρ (4 + q) ∧ qMs ρ ∧ ρ.length ≤ 4 ∧ iUv E i v ∧ E.vt w = (if i.n3 = 1 then 10000 else 10001) + 2 * E.y.2.2.2.2 (4 + q) g m ∧ E.y.2.2.2.2 (4 + q) g m < 10000 ∧ ((m + 1 = E.y.2.2.2.1 (4 + q) g ∧ J (k + 1) ((8, w, 0) :: r)) ∨ (m + 1 < E.y.2.2.2.1 (4 + q) g ∧ J (k + 1) ((if i.n3 = 1 then 5 else 6, q * 12 + g, 64 * cdP v ρ + (m + 1)) :: (8, w, 0) :: r)))) : tPt E k lv i s J := by unfold tPt; rw [hk]; exact h
theorem tP_24 (hk : i.kd = 24) (h : i.ac = 7 ∧ i.ln = none ∧ i.us = [] ∧ i.fr = [] ∧ ∃ (v : Nat) (e r : List tE), i.vs = [v] ∧ (v < 40 ∧ E.ad v = i.n2) ∧ i.ho = some v ∧ i.pa = some (v, [], E.vt v) ∧ i.n1 = E.vt v ∧ s = e ++ (8, v, 0) :: r ∧ (8, v, 0) ∉ r ∧ (e = [] ∨ (e = [eT E.gv] ∧ E.gv ≠ 0)) ∧ wl r = 0 ∧ J (k + 1) (e ++ r)) : tPt E k lv i s J := by unfold tPt; rw [hk]; exact h
theorem tP_25 (hk : i.kd = 25) (h : i.ac = 0 ∧ i.pa = none ∧ i.ho = none ∧ i.ln = none ∧ i.us = [40] ∧ i.fr = [] ∧ i.n1 = 40 ∧ s = [eT E.gv] ∧ isRf E.gv ∧ J (k + 1) [eU E.gv]) : tPt E k lv i s J := by unfold tPt; rw [hk]; exact h
theorem tP_26 (hk : i.kd = 26) (h : iD0 i ∧ (lv → (s = [] ∧ E.gv = 0) ∨ (s = [eU E.gv] ∧ E.gv ≠ 0))) : tPt E k lv i s J := by unfold tPt; rw [hk]; exact h
theorem tsg.fl {a b : Nat} {x y : List tE} {cl cl2 : Prop} (h : tsg R S0 S E L a b x y cl) (hc : cl2 → cl) : tsg R S0 S E L a b x y cl2 := by
  obtain ⟨st, W, h1, h2, h3, h4, h5⟩ := h
  exact ⟨st, W, h1, h2, h3, fun w => h4 (hc w), h5⟩
/-- a piece of code was laid -/
def GV (R : yR) (S0 S S2 : Sg) (E : eV) (P P2 h h2 : Nat) (Γ Γ2 : List Nat) (L L2 : Nat) (s s2 : List tE) (cl : Prop) (z n : Nat) : Prop := LC R S0 S2 P2 h2 Γ2 L2 ∧ LZ P L S S2 ∧ tsg R S0 S2 E L2 P P2 s s2 cl ∧ Zz S2 ≤ Zz S + z ∧ Zn S2 ≤ Zn S + n ∧ P ≤ P2 ∧ L ≤ L2 ∧ RFx S0 S P S2 P2
theorem GV.tr {Γ3 : List Nat} {z2 n2 z3 n3 : Nat} {cl cl2 cl3 : Prop} (a : GV R S0 S S1 E P P1 h h1 Γ Γ2 L L1 s s1 cl z n) (b : GV R S0 S1 S2 E P1 P2 h1 h2 Γ2 Γ3 L1 L2 s1 s2 cl2 z2 n2) (hc : cl3 → cl ∨ cl2) (hz : z + z2 ≤ z3) (hn : n + n2 ≤ n3) : GV R S0 S S2 E P P2 h h2 Γ Γ3 L L2 s s2 cl3 z3 n3 := by
  obtain ⟨a1, a2, a3, a4, a5, a6, a7, a8⟩ := a
  obtain ⟨b1, b2, b3, b4, b5, b6, b7, b8⟩ := b
  exact ⟨b1, a2.tr b2 a6 a7, (((a3.st b2).up b7).app b3).fl hc, by omega, by omega, by omega, by omega, a8.tr b8 a2.1 b2⟩
theorem GV.wk {s0 s3 : List tE} {cl cl2 : Prop} (a : GV R S0 S S1 E P P1 h h1 Γ Γ2 L L1 s s1 cl z n) (h3 : wkS s0 s) (h4 : wkS s1 s3) (hc : cl2 → cl) (hp : P < P1) : GV R S0 S S1 E P P1 h h1 Γ Γ2 L L1 s0 s3 cl2 z n := ⟨a.1, a.2.1, a.2.2.1.wk h3 h4 hc hp, a.2.2.2⟩
/-- what lies at the point, as an instruction -/
theorem rz_g {K : Nat} (hK : i.kd = K) (a : AT S P x) (hk : K < 28) (hj : K ≠ 26 ∧ K ≠ 16 ∧ K ≠ 17 ∧ K ≠ 18 ∧ K ≠ 19 ∧ K ≠ 20 ∧ K ≠ 21) (h27 : x.1 27 = nI K) (h33 : x.1 33 = nI i.ac) (ha : i.ac < 8) (h34 : x.1 34 = oNm i.ho) (h35 : x.1 35 = oNm i.ln) (h37 : rAr R S (x.2.2 37) i.us) (h36 : rAr R S (x.2.2 36) i.fr) (h32 : ∃ tk : Nat, x.1 32 = nI tk ∧ tk < R.T) (h38 : (x.2.2 38 = none ∧ i.pa = none) ∨ ∃ (w v T : Nat) (ρ : lLc), x.2.2 38 = some w ∧ i.pa = some (v, ρ, T) ∧ isPt R S0 S w v ρ T ∧ pVa S w i.n2) (hln : ∀ l : Nat, i.ln = some l → Zq S 43 l = x.2.2 38 ∧ Zr S 44 l = nI i.n3 ∧ i.n3 ≤ 1 ∧ Zr S 45 l = -1) (h30 : x.1 30 = -1) (hsc : i.sc = [P + 1])
  (c39 : (K = 7 ∨ K = 11 ∨ K = 15) → ∃ y : Nat, x.2.2 39 = some y ∧ rTy S0 y ∧ abT S0 y = i.n1)
  (c28 : (K = 8 ∨ K = 9 ∨ K = 10) → x.1 28 = nI i.n1 ∧ x.1 29 = nI i.n2 ∧ x.2.1 = Int32.toInt64 (nI i.n3))
  (c42 : K = 8 → rAr R S (x.2.2 42) i.vs)
  (c40 : (K = 12 ∨ K = 13 ∨ K = 23 ∨ K = 24) → ∃ (va v : Nat) (ty : Option Nat) (mu : Int32), x.2.2 40 = some va ∧ i.vs = [v] ∧ isU S va v ty mu ∧ abU S0 ty = i.n1 ∧ ∀ y : Nat, ty = some y → rTy S0 y)
  (c41 : K = 22 → rAm R S0 S (x.2.2 41) i.n1 i.n2 i.vs) (c25 : K = 25 → x.1 28 = nI i.n1) (c10 : K = 10 → R.ik i.n1 = 12 ∧ i.n1 < R.im := by intro w; exact absurd w (by decide)) : rz R S0 S P i := by
  subst hK
  have e : ∀ r : Nat, 27 ≤ r → r ≤ 35 → r ≠ 31 → Zr S r P = x.1 r := a.1
  have q : ∀ r : Nat, 36 ≤ r → r ≤ 42 → Zq S r P = x.2.2 r := a.2.2
  unfold rz
  rw [e 27 (by decide) (by decide) (by decide), e 28 (by decide) (by decide) (by decide), e 29 (by decide) (by decide) (by decide), e 30 (by decide) (by decide) (by decide), e 32 (by decide) (by decide) (by decide), e 33 (by decide) (by decide) (by decide), e 34 (by decide) (by decide) (by decide), e 35 (by decide) (by decide) (by decide), q 36 (by decide) (by decide), q 37 (by decide) (by decide), q 38 (by decide) (by decide), q 39 (by decide) (by decide), q 40 (by decide) (by decide), q 41 (by decide) (by decide), q 42 (by decide) (by decide), a.2.1]
  exact ⟨h27, hk, h33, ha, h34, h35, h37, h36, h32, h38, hln, Or.inr (Or.inr (Or.inr (Or.inr ⟨hj.1, hj.2.1, hj.2.2.1, hj.2.2.2.1, hj.2.2.2.2.1, hj.2.2.2.2.2.1, hj.2.2.2.2.2.2, h30, hsc⟩))), c39, c28, c42, c40, c41, c25, c10⟩
/-- the variables alive: their numbers, types, marks on the stack -/
def ALv (S0 : Sg) (E : eV) (Γ : List Nat) (s : List tE) : Prop := nT s ∧ ∀ v ∈ Γ, ∀ (ix : Nat) (nm : Int32) (tv : Nat) (mt : Int32), isV S0 v ix nm (some tv) mt → ∃ jx : Nat, isV S0 v jx nm (some tv) mt ∧ (jx < 40 ∧ E.ad jx = v) ∧ E.vt jx = abT S0 tv ∧ (8, jx, 0) ∈ s
theorem nT_0 : nT [] := fun e r q => by cases q
theorem pnE_k {a b : Nat} (h : a = 0 ∨ a = 1 ∨ a = 2 ∨ a = 8) : pnE (a, b, 0) := ⟨by show a ≠ 3; omega, by show a ≠ 4; omega, by show a ≠ 5; omega, by show a ≠ 6; omega, fun _ => rfl⟩
theorem pnE_eT {t : Nat} : pnE (eT t) := by
  unfold eT
  by_cases c : 10000 ≤ t
  · rw [if_pos c]
    by_cases c2 : t % 2 = 0
    · rw [if_pos c2]; exact pnE_k (by decide)
    · rw [if_neg c2]; exact pnE_k (by decide)
  · rw [if_neg c]; exact pnE_k (by decide)
theorem nT_c {e : tE} (h : pnE e) : nT (e :: s) := fun e2 r q => by cases q; exact h
theorem nT_eT {t : Nat} : nT (eT t :: s) := nT_c pnE_eT
theorem ALv.mo (a : ALv S0 E Γ s) (h : ∀ e ∈ s, e ∈ s2) (hn : nT s2) : ALv S0 E Γ s2 := ⟨hn, fun v hv ix nm tv mt q => by
  obtain ⟨jx, j1, j2, j3, j4⟩ := a.2 v hv ix nm tv mt q
  exact ⟨jx, j1, j2, j3, h _ j4⟩⟩
end LY12
