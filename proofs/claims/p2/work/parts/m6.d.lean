/-- how far it is to the end, at most -/
def wK (D : fD) (k : Nat) : Nat := if (D.I k).kd = 0 then 1 else D.Pe - k + 1
/-- a function's head, as its callers know it -/
def cLk (R : yR) (S0 : Sg) (D : fD) (g : Nat) (D2 : fD) : Prop := (D.E.hd g).1 = D2.mn ∧ (∀ q : Nat, q < D2.mn → (D.E.hd g).2.1 q = D2.E.vt q) ∧ (D.E.hd g).2.2 = D2.E.gv ∧ D.E.rl g = rlS R S0 g ∧ ∀ q : Nat, D.E.lf g q = lfS R S0 g q
/-- the program: its functions -/
def PRG (R : yR) (S0 Sl : Sg) (vt : Nat → Nat → Nat) (tb : Nat → lTb) (DD : Nat → fD) (G : Nat → Prop) : Prop := ∀ i : Nat, G i → (FnD R S0 i (DD i) ∧ (DD i).E.y = yT R S0 ∧ hFE R S0 (DD i)) ∧ ((DD i).Ps < (DD i).Pe ∧ (DD i).Pe < 24000) ∧ (∀ k : Nat, (DD i).Ps ≤ k → k < (DD i).Pe → rzq R S0 Sl k ((DD i).I k)) ∧ (vt i = (DD i).E.vt ∧ tb i = tbD (DD i)) ∧ cRw R S0 Sl i (DD i).mn (DD i).Ps (DD i).E.vt ∧ (¬ isRf (DD i).E.gv → eU (DD i).E.gv = (0, (DD i).E.gv, 0) ∧ eT (DD i).E.gv = (0, (DD i).E.gv, 0)) ∧ ∀ k : Nat, (DD i).Ps ≤ k → k < (DD i).Pe → ((DD i).I k).kd = 10 → G ((DD i).I k).n1 ∧ cLk R S0 (DD i) ((DD i).I k).n1 (DD ((DD i).I k).n1)
/-- frame j waits at the call k0 -/
def WTq (R : yR) (S0 : Sg) (vt : Nat → Nat → Nat) (DD : Nat → fD) (G : Nat → Prop) (x : Nat → kFm) (j : Nat) (S : Sg) (k0 : Nat) : Prop := ∃ r0 : List tE, G (x j).1 ∧ PK R S0 (x j).1 (DD (x j).1) k0 ∧ ((DD (x j).1).I k0).kd = 10 ∧ ((DD (x j).1).I k0).n1 = (x (j + 1)).1 ∧ x j = cWt R S0 (x j).1 (DD (x j).1) k0 r0 (x j) ∧ (DD (x j).1).st k0 = dsl (fun q => eT (((DD (x j).1).E.hd (x (j + 1)).1).2.1 q)) ((DD (x j).1).I k0).n3 ++ r0 ∧ kAn (x (j + 1)) = kAo (yT R S0) (vt (x (j + 1)).1) (kR (x j)) (wl r0) ((DD (x j).1).I k0).n3 (fun q => q) ∧ (∀ q : Nat, q < ((DD (x j).1).I k0).n3 → kR (x j) (40 + wl r0 + q) ≠ none → isRf ((DD (x (j + 1)).1).E.vt q)) ∧ Zr S 75 (j + 1) = nI (k0 + 1) ∧ edg (DD (x j).1) k0 (k0 + 1)
/-- the running, M steps from its end at most -/
def RUN (R : yR) (S0 Sl : Sg) (vt : Nat → Nat → Nat) (tb : Nat → lTb) (DD : Nat → fD) (G : Nat → Prop) (M : Nat) (S : Sg) : Prop := ∃ (f k fu : Nat) (x : Nat → kFm) (bs ks : Nat → Nat), G (x f).1 ∧ RQ R S0 vt tb (x f).1 (DD (x f).1) k f x bs Sl k S ∧ (∀ j : Nat, j < f → WTq R S0 vt DD G x j S (ks j)) ∧ (Zi S 70 = nI fu ∧ fu ≤ 20000) ∧ M = fu * 50000 + wK (DD (x f).1) k + psN (fun j => wK (DD (x j).1) (ks j + 1)) f
section PS107
variable {R : yR} {S0 Sl S S1 S2 S3 : Sg} {D D0 : fD} {i k j f n fu M : Nat} {vt : Nat → Nat → Nat} {tb : Nat → lTb} {x x2 : Nat → kFm} {bs ks : Nat → Nat} {g : Nat → Int32} {X : kFm} {DD : Nat → fD} {G : Nat → Prop}
theorem WTq.cg (h : WTq R S0 vt DD G x j S k) (e1 : x2 j = x j) (e2 : (x2 (j + 1)).1 = (x (j + 1)).1) (e3 : kAn (x2 (j + 1)) = kAn (x (j + 1))) (e4 : Zr S2 75 (j + 1) = Zr S 75 (j + 1)) : WTq R S0 vt DD G x2 j S2 k := by
  obtain ⟨r0, h1, h2, h3, h4, h5, h6, h7, h8, h9, h10⟩ := h
  unfold WTq
  rw [e1, e2, e3, e4]
  exact ⟨r0, h1, h2, h3, h4, h5, h6, h7, h8, h9, h10⟩
/-- the next point: the running goes on -/
theorem NXt.run (hP : PRG R S0 Sl vt tb DD G) (hG : G i) (hx1 : (x f).1 = i) (hf : f < 60) (hws : ∀ j : Nat, j < f → wl (x j).2.1 ≤ 177) (hlow : ∀ j : Nat, j < f → WTq R S0 vt DD G x j S (ks j)) (h76 : Zi S 76 = nI (f + 1)) (hX : RX Sl S2) (hfu : Zi S2 70 = nI fu ∧ fu ≤ 20000) (h : NXt R S0 vt tb i (DD i) k f x bs S S2) : ∃ j : Nat, edg (DD i) k j ∧ RUN R S0 Sl vt tb DD G (fu * 50000 + wK (DD i) j + psN (fun j => wK (DD (x j).1) (ks j + 1)) f) S2 := by
  obtain ⟨j, X, e, pk, h77, h73, ⟨h75, h76'⟩, hat, hAn, h3⟩ := h
  obtain ⟨_, _, p3, p4, _⟩ := hP i hG
  have e1 : (kUx x f X f).1 = i := by rw [kUx_top]; exact hat.1
  refine ⟨j, e, f, j, fu, kUx x f X, bs, ks, by rw [e1]; exact hG, ?_, fun q hq => ?_, hfu, ?_⟩
  · rw [e1]
    refine ⟨pk, p3 j pk.2.1.1 pk.2.1.2.1, hX, ⟨h77, h73, h76'.trans h76⟩, hf, by rw [kUx_top]; exact hat, h3, fun q hq => ?_, p4⟩
    by_cases c : q = f
    · rw [c, kUx_top, hat.2.1, trL_wl]
      exact (pk.1.pt pk.2.1.1 pk.2.1.2.1).2
    · rw [kUx_lo c]; exact hws q (by omega)
  · have q1 : kUx x f X q = x q := kUx_lo (by omega)
    by_cases c : q + 1 = f
    · subst c
      exact (hlow q hq).cg q1 (by rw [kUx_top, hat.1, hx1]) (by rw [kUx_top, hAn]) (by rw [h75])
    · exact (hlow q hq).cg q1 (by rw [kUx_lo c]) (by rw [kUx_lo c]) (by rw [h75])
  · rw [e1]
    congr 1
    exact psN_cg (fun q hq => by rw [kUx_lo (by omega)])
theorem wK_1 : 1 ≤ wK D k := by
  unfold wK
  by_cases c : (D.I k).kd = 0
  · rw [if_pos c]; exact Nat.le_refl _
  · rw [if_neg c]; omega
theorem wK_m (h : D.Pe < 24000) : wK D k ≤ 24001 := by
  unfold wK
  by_cases c : (D.I k).kd = 0
  · rw [if_pos c]; omega
  · rw [if_neg c]; omega
/-- every kind but FUEL, CALL, RETURN -/
theorem s_all (hL : LFS R S0 g) (hx : LX S0 Sl) (hE : hFE R S0 D) (h : RQ R S0 vt tb i D k f x bs Sl k S) (hQ : D.Pe < 24000) (h0 : (D.I k).kd ≠ 0) (h10 : (D.I k).kd ≠ 10) (h26 : (D.I k).kd ≠ 26) : Rt (f_step R.K S) (fun S2 _ => RTt R S0 vt tb i D k f x bs Sl S S2) := by
  have h28 := h.2.1.2.1
  have hh : (D.I k).kd = 1 ∨ (D.I k).kd = 2 ∨ (D.I k).kd = 3 ∨ (D.I k).kd = 4 ∨ (D.I k).kd = 5 ∨ (D.I k).kd = 6 ∨ (D.I k).kd = 7 ∨ (D.I k).kd = 8 ∨ (D.I k).kd = 9 ∨ (D.I k).kd = 11 ∨ (D.I k).kd = 12 ∨ (D.I k).kd = 13 ∨ (D.I k).kd = 14 ∨ (D.I k).kd = 15 ∨ (D.I k).kd = 16 ∨ (D.I k).kd = 17 ∨ (D.I k).kd = 18 ∨ (D.I k).kd = 19 ∨ (D.I k).kd = 20 ∨ (D.I k).kd = 21 ∨ (D.I k).kd = 22 ∨ (D.I k).kd = 23 ∨ (D.I k).kd = 24 ∨ (D.I k).kd = 25 ∨ (D.I k).kd = 27 := by omega
  rcases hh with c | c | c | c | c | c | c | c | c | c | c | c | c | c | c | c | c | c | c | c | c | c | c | c | c
  · exact s_1 hL h hQ c
  · exact s_2 hL hx hE h hQ c
  · exact s_3 hL hx hE h hQ c
  · exact s_4 hL h hQ c
  · exact s_5 hL h hQ c
  · exact s_6 hL h hQ c
  · exact s_7 hL hx h hQ c
  · exact s_8 hL hx h hQ c
  · exact s_9 hL hx h hQ c
  · exact s_11 hL hx h hQ c
  · exact s_12 hL hx h hQ c
  · exact s_13 hL hx h hQ c
  · exact s_14 hL hx hE h hQ c
  · exact s_15 hL hx h hQ c
  · exact s_16 hL h hQ c
  · exact s_17 hL h hQ c
  · exact s_18 hL h hQ c
  · exact s_19 hL h hQ c
  · exact s_20 hL hx h hQ c
  · exact s_21 hL hx hE h hQ c
  · exact s_22 hL hx h hQ c
  · exact s_23 hL hx hE h hQ c
  · exact s_24 hL hx h hQ c
  · exact s_25 hL h hQ c
  · exact s_27 hL h hQ c
/-- one step -/
theorem RUN.step (hL : LFS R S0 g) (hx : LX S0 Sl) (hP : PRG R S0 Sl vt tb DD G) (h : RUN R S0 Sl vt tb DD G M S) : Rt (f_step R.K S) (fun S2 _ => RX Sl S2 ∧ (Zi S2 3 ≠ 0 ∨ Zi S2 77 = -1 ∨ ∃ M2 : Nat, M2 < M ∧ RUN R S0 Sl vt tb DD G M2 S2)) := by
  obtain ⟨f, k, fu, x, bs, ks, hG, hR, hlow, ⟨hfu, hfu2⟩, rfl⟩ := h
  generalize hi : (x f).1 = i at *
  obtain ⟨⟨p1, p2, p3⟩, ⟨p4, p5⟩, p6, p7, p8, p9, p10⟩ := hP i hG
  have hf6 := hR.2.2.2.2.1
  have hws := hR.2.2.2.2.2.2.2.1
  have h76 := hR.2.2.2.1.2.2
  have hkr := hR.1.2.1
  have hx9 := wK_m (k := k) p5
  by_cases h0 : ((DD i).I k).kd = 0
  · refine (s_0 hL hR p5 h0 hfu hfu2).mo (fun S2 _ ⟨q1, q2⟩ => ⟨q1, ?_⟩)
    rcases q2 with q2 | ⟨q2, ⟨m, q3, q4⟩, q5⟩
    · exact Or.inl q2
    · obtain ⟨j, _, q6⟩ := NXt.run hP hG hi hf6 (fun j hj => hws j (by omega)) hlow h76 q1 ⟨q4, by omega⟩ q5
      refine Or.inr (Or.inr ⟨_, ?_, q6⟩)
      have := wK_m (k := j) p5
      have := wK_1 (D := DD i) (k := k)
      subst q3
      omega
  · by_cases h10 : ((DD i).I k).kd = 10
    · obtain ⟨c1, c2, c3, c4, c5, c6⟩ := p10 k hkr.1 hkr.2.1 h10
      obtain ⟨⟨d1, d2, d3⟩, ⟨d4, d5⟩, d6, d7, d8, _, _⟩ := hP _ c1
      refine (s_10 hL hx hR p5 h10 hfu hfu2 d1 d2 d4 (d6 _ (Nat.le_refl _) d4) d7 ⟨c2, c3⟩ d8).mo (fun S2 _ ⟨q1, q2⟩ => ⟨q1, ?_⟩)
      rcases q2 with q2 | ⟨q2, ⟨m, q3, q4⟩, r, X, bs2, q5, q6, q7, q8, q9, q10, q11⟩
      · exact Or.inl q2
      · have e1 : kUx (kUx x f (cWt R S0 i (DD i) k r (x f))) (f + 1) X (f + 1) = X := kUx_eq
        have eX : X.1 = ((DD i).I k).n1 := by
          have := q7.2.2.2.2.2.1.1
          rw [e1] at this
          exact this
        have ef : kUx (kUx x f (cWt R S0 i (DD i) k r (x f))) (f + 1) X f = cWt R S0 i (DD i) k r (x f) := by rw [kUx_ne (by omega)]; exact kUx_eq
        have ej : ∀ j : Nat, j < f → kUx (kUx x f (cWt R S0 i (DD i) k r (x f))) (f + 1) X j = x j := fun j hj => by rw [kUx_ne (by omega), kUx_ne (by omega)]
        refine Or.inr (Or.inr ⟨m * 50000 + wK (DD ((DD i).I k).n1) (DD ((DD i).I k).n1).Ps + (psN (fun j => wK (DD (x j).1) (ks j + 1)) f + wK (DD i) (k + 1)), ?_, f + 1, (DD ((DD i).I k).n1).Ps, m, kUx (kUx x f (cWt R S0 i (DD i) k r (x f))) (f + 1) X, bs2, (fun j => if j = f then k else ks j), by rw [e1, eX]; exact c1, by rw [e1, eX]; exact q7, fun j hj => ?_, ⟨q4, by omega⟩, ?_⟩)
        · have := wK_m (k := (DD ((DD i).I k).n1).Ps) d5
          have := wK_m (k := k + 1) p5
          subst q3
          omega
        · by_cases c : j = f
          · subst c
            show WTq R S0 vt DD G _ j S2 (if j = j then k else ks j)
            rw [if_pos rfl]
            have ec : (cWt R S0 i (DD i) k r (x j)).1 = i := hi
            unfold WTq
            rw [ef, e1, eX, ec]
            exact ⟨r, hG, hR.1, h10, rfl, rfl, q5, q6, q9, q10, hR.e1 (kd_s h10 (by decide))⟩
          · show WTq R S0 vt DD G _ j S2 (if j = f then k else ks j)
            rw [if_neg c]
            have hj2 : j < f := by omega
            by_cases c2 : j + 1 = f
            · subst c2
              exact (hlow j hj2).cg (ej j hj2) (by rw [ef]; rfl) (by rw [ef]; rfl) (by rw [q11 _ (by omega)])
            · exact (hlow j hj2).cg (ej j hj2) (by rw [ej (j + 1) (by omega)]) (by rw [ej (j + 1) (by omega)]) (by rw [q11 _ (by omega)])
        · rw [e1, eX]
          congr 1
          show _ = psN _ f + wK (DD (kUx (kUx x f (cWt R S0 i (DD i) k r (x f))) (f + 1) X f).1) ((if f = f then k else ks f) + 1)
          rw [ef, if_pos rfl]
          have : (cWt R S0 i (DD i) k r (x f)).1 = i := hi
          rw [this]
          congr 1
          exact psN_cg (fun j hj => by
            rw [ej j hj]
            show _ = wK (DD (x j).1) ((if j = f then k else ks j) + 1)
            rw [if_neg (by omega)])
    · by_cases h26 : ((DD i).I k).kd = 26
      · cases f with
        | zero =>
          exact (s_26m hR p5 h26).mo (fun S2 _ ⟨q1, _, q2⟩ => ⟨q1, Or.inr (Or.inl q2)⟩)
        | succ f =>
          obtain ⟨r0, w1, w2, w3, w4, w5, w6, w7, w8, w9, w10⟩ := hlow f (Nat.lt_succ_self f)
          rw [hi] at w4 w6 w7 w8
          obtain ⟨_, ⟨_, u5⟩, u6, _, _, _, u10⟩ := hP _ w1
          obtain ⟨_, c2, c3, c4, c5, c6⟩ := u10 (ks f) w2.2.1.1 w2.2.1.2.1 w3
          rw [w4] at c2 c3 c4 c5 c6
          refine (s_26 hL hR p5 h26 w2 w3 w4 w5 rfl w6 w7 w8 w9 ⟨c2, c3, c4⟩ ⟨c5, c6⟩ w10 p9).mo (fun S2 _ ⟨q1, q2, q3, q4, q5, q6⟩ => ⟨q1, Or.inr (Or.inr ?_)⟩)
          obtain ⟨j, e9, q7⟩ := NXt.run (S := S2) (ks := ks) (fu := fu) hP w1 rfl (by omega) (fun j hj => hws j (by omega)) (fun j hj => (hlow j (by omega)).cg rfl rfl rfl (by rw [q4])) q5 q1 ⟨q3.trans hfu, hfu2⟩ q6
          have hj : j = ks f + 1 := by
            have hz := (u6 (ks f) w2.2.1.1 w2.2.1.2.1).2.2.2.2.2.2.1
            rcases hz with ⟨z, _⟩ | ⟨z, _⟩ | ⟨z, _⟩ | ⟨z, _⟩ | ⟨_, _, _, _, _, _, _, _, z⟩
            · omega
            · omega
            · omega
            · omega
            · have := e9.2.2.2
              rw [z] at this
              exact List.mem_singleton.mp this
          refine ⟨_, ?_, q7⟩
          rw [hj]
          show _ < fu * 50000 + wK (DD i) k + (psN (fun j => wK (DD (x j).1) (ks j + 1)) f + wK (DD (x f).1) (ks f + 1))
          have := wK_1 (D := DD i) (k := k)
          omega
      · refine (s_all hL hx p3 hR p5 h0 h10 h26).mo (fun S2 _ ⟨q1, q2⟩ => ⟨q1, ?_⟩)
        rcases q2 with q2 | ⟨q2, q3, q5⟩
        · exact Or.inl q2
        · obtain ⟨j, e9, q6⟩ := NXt.run hP hG hi hf6 (fun j hj => hws j (by omega)) hlow h76 q1 ⟨q3.trans hfu, hfu2⟩ q5
          refine Or.inr (Or.inr ⟨_, ?_, q6⟩)
          have hb := (p1.1.2.2 k hkr.1 hkr.2.1).1 j e9.2.2.2
          have hw : wK (DD i) j < wK (DD i) k := by
            unfold wK
            rw [if_neg h0]
            by_cases c : ((DD i).I j).kd = 0
            · rw [if_pos c]
              have := hkr.2.1
              omega
            · rw [if_neg c]
              have := hb.2.2.2.resolve_right c
              have := hb.2.1
              omega
          omega
/-- the loop -/
theorem run81 (hL : LFS R S0 g) (hx : LX S0 Sl) (hP : PRG R S0 Sl vt tb DD G) : ∀ (d M : Nat) (S : Sg), M < d → RX Sl S → (Zi S 3 ≠ 0 ∨ Zi S 77 = -1 ∨ RUN R S0 Sl vt tb DD G M S) → Rt (f_runMain_81 R.K d S) (fun S2 _ => RX Sl S2)
  | 0, M, S, hd, _, _ => by omega
  | d + 1, M, S, hd, hX, h => by
    unfold f_runMain_81
    refine Rt.it (fun _ => Rt.rt hX) (fun hpc => ?_)
    refine Rt.ok (fun h3 => ?_) (fun _ => Rt.rt hX)
    rcases h with h | h | h
    · exact absurd h3 h
    · rw [h] at hpc
      exact absurd (by decide) hpc
    · have hM : 1 ≤ M := by
        obtain ⟨f, k, fu, x, bs, ks, _, _, _, _, hM⟩ := h
        have := wK_1 (D := DD (x f).1) (k := k)
        omega
      refine Rt.bn (h.step hL hx hP) (fun S2 _ ⟨q1, q2⟩ => ?_)
      rcases q2 with q2 | q2 | ⟨M2, q2, q3⟩
      · exact run81 hL hx hP d 0 S2 (by omega) q1 (Or.inl q2)
      · exact run81 hL hx hP d 0 S2 (by omega) q1 (Or.inr (Or.inl q2))
      · exact run81 hL hx hP d M2 S2 (by omega) q1 (Or.inr (Or.inr q3))
end PS107
