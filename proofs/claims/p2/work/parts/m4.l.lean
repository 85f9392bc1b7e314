/-- what a function's code is told over -/
def hFE (R : yR) (S0 : Sg) (D : fD) : Prop := ∃ (Λ : List Nat) (gv : Nat), D.E = eVf R S0 Λ gv ∧ FEn R S0 (eVf R S0 Λ gv) Λ gv
section PS63
variable {R : yR} {S0 Sl S S1 S2 S3 : Sg} {D : fD} {i k j f nw : Nat} {vt : Nat → Nat → Nat} {tb : Nat → lTb} {x : Nat → kFm} {bs : Nat → Nat} {g : Nat → Int32} {v T : Nat} {ρ : lLc} {y : qY} {zn sz rk : Nat → Nat} {M : nM} {sk : Nat → Int64} {pl : Nat → Int32} {rt : Nat × Nat → Nat} {V : Nat × Nat → qV} {C L H : Nat × Nat → List Nat}
/-- the path's rows at a point -/
theorem RQ.pw (hL : LFS R S0 g) (hx : LX S0 Sl) (h : RQ R S0 vt tb i D k f x bs Sl nw S) (hE : hFE R S0 D) (hp : (D.I k).pa = some (v, ρ, T)) (h24 : (D.I k).kd ≠ 24) : ∃ (w va sa ta : Nat) (F : Nat → Int32) (G : Nat → Option Nat) (mu : Int32), Zq Sl 38 k = some w ∧ pRw R S0 Sl w va ρ F G sa ta ∧ (∀ j z : Nat, j ≤ ρ.length → G j = some z → rTy S0 z) ∧ isU Sl va v (G 0) mu ∧ abU S0 (G 0) = D.E.vt v ∧ T = abU S0 (G ρ.length) := by
  obtain ⟨Λ, gv, e1, e2⟩ := hE
  have hpt := h.pt.1
  rcases h.2.1.2.2.2.2.2.1 with ⟨_, z⟩ | ⟨w, v2, T2, ρ2, a1, a2, a3, a4⟩
  · rw [hp] at z; cases z
  · rw [hp] at a2; cases a2
    rw [e1] at hpt
    have ht := (tv_ e2 hx hpt h24 hp).1
    obtain ⟨va, sa, ta, F, G, mu, b1, b2, b3, b4, b5, b6, b7, b8, b9⟩ := a3
    obtain ⟨gs, c1, c2⟩ := a4
    have hva : va = (D.I k).n2 := by
      rw [b2] at c1; cases c1
      cases c2; rfl
    refine ⟨w, va, sa, ta, F, G, mu, a1, ⟨b1, b2, b4, b5, b6, b9⟩, b7, b3, ?_, b8⟩
    rw [e1, ← ht, ← hva]
    obtain ⟨u1, nm, wh, u2⟩ := b3
    unfold vTp
    rw [obF_o u2]
    unfold rN
    show abU S0 (G 0) = abU S0 (match (some (va_rf (G 0)) : Option Value) with | some (.ref a) => some a | _ => none)
    cases G 0 <;> rfl
theorem pR_nm {q U m : Nat} (hq : q = 1 ∨ q = 2) : kNm (q, U, m) := by
  rcases hq with e | e <;> subst e
  · show ¬ ((1 : Nat) = 8 ∨ (1 : Nat) = 4 ∨ (1 : Nat) = 5 ∨ (1 : Nat) = 6); decide
  · show ¬ ((2 : Nat) = 8 ∨ (2 : Nat) = 4 ∨ (2 : Nat) = 5 ∨ (2 : Nat) = 6); decide
/-- a reference comes on top: its nodes -/
theorem kN.pR {q U m t n : Nat} {d : Nat × Nat} {π : lLc} {hd : Nat → Prop} {al2 : Nat → Prop} (hy : nYk y zn sz rk) (hB : yB y) (hJ : kJ y vt tb f x rt V) (h : kN y zn sz M sk pl f x rt V bs C L H) (h0 : (x f).2.2.1 = 0) (hl : wl (x f).2.1 < 211) (hq : q = 1 ∨ q = 2) (ht : 10000 ≤ t) (hal : ∀ u : Nat, al2 u → kal (x f) u) (hd4 : d.2 < 40) (hn : n < 430000) (hw : wRn y zn M (rt d) (hdN (C d)) π n) (hsk : sk (bs f + wl (x f).2.1) = nL n) : kN y zn sz M sk pl f (kUx x f ((x f).1, (q, U, m) :: (x f).2.1, 0, lUp (kR (x f)) (40 + wl (x f).2.1) (some (d :: π)), lUp (kH (x f)) (40 + wl (x f).2.1) hd, al2, klo (x f), kAn (x f))) (qRt rt (f, 40 + wl (x f).2.1) t) (qUp V (f, 40 + wl (x f).2.1) (qL t)) bs C L H := by
  have hnm : kNm (q, U, m) := pR_nm hq
  obtain ⟨n2, n3, n4⟩ := hB.2.1 t ht
  obtain ⟨c0, l0, hh0⟩ := (h.1 f (40 + wl (x f).2.1) (Nat.le_refl _)).2.2 (fun w => by rcases w with w | w <;> omega)
  refine kN.r1 (u0 := 40 + wl (x f).2.1) hy hJ h (fun j hj => kUx_lo hj) (fun u hu => by rw [kUx_top]; exact nm_8 hnm) (fun u hu h4 => by rw [kUx_top]; exact wl_u hnm hu h4) (fun r hr => ⟨qRt_ne hr, qUp_ne hr, rfl, rfl, rfl⟩) (fun r _ _ _ => ⟨agN.rf, agN.rf⟩) (fun _ _ _ _ _ => rfl) (fun _ _ _ _ _ => rfl) ?_ (fun j u d2 π2 hj ha hc hr => ?_)
  · rw [qRt_eq, qUp_eq, kUx_top, c0, l0, hh0]
    refine ⟨fun a => by omega, fun _ _ => ⟨rfl, vaR.mk n2 n3 n4 ⟨(t, 0), rfl⟩⟩, fun w => absurd (Or.inr ⟨by omega, ?_⟩) w⟩
    show 40 + wl (x f).2.1 < 40 + wl ((q, U, m) :: (x f).2.1)
    rw [wl_n hnm]; omega
  · by_cases e : j = f
    · subst e
      rw [kUx_top] at ha hr
      have hr : lUp (kR (x j)) (40 + wl (x j).2.1) (some (d :: π)) u = some (d2 :: π2) := hr
      by_cases hu : u = 40 + wl (x j).2.1
      · subst hu
        rw [lUp_eq] at hr
        cases hr
        refine Or.inr ⟨n, hn, ?_, fun w => by omega, fun _ => ?_⟩
        · rw [qRt_ne (ne40 (j := j) (u := 0) hd4)]; exact hw
        · rw [show 40 + wl (x j).2.1 - 40 = wl (x j).2.1 by omega]; exact hsk
      · rw [lUp_ne hu] at hr
        have ha2 : kA (x j) u := by
          rcases ha with ⟨z1, z2⟩ | ⟨z1, z2⟩
          · exact Or.inl ⟨z1, hal u z2⟩
          · have z2 : u < 40 + wl ((q, U, m) :: (x j).2.1) + 0 := z2
            rw [wl_n hnm] at z2; exact Or.inr ⟨z1, by omega⟩
        exact Or.inl ⟨fun w => hu (Prod.mk.inj w).2, ne40 (j := j) (u := 0) (hJ.ld (Nat.le_refl _) ha2 hr).2.1, ha2, hr⟩
    · rw [kUx_lo e] at ha hr
      exact Or.inl ⟨fun w => e (Prod.mk.inj w).1, ne40 (j := f) (u := 0) (hJ.ld hj ha hr).2.1, ha, hr⟩
/-- a step's end: a reference came on top -/
theorem finR {q U : Nat} {R2 : Nat → Option lLc} {hd : Nat → Prop} (hL : LFS R S0 g) (hk : PK R S0 i D k) (e : edg D k j) (hq : q = 1 ∨ q = 2) (hw : wkS ((q, U, 0) :: D.st k) (D.st j)) (hs : ∀ a ∈ D.st k, pnE a) (hm : kdM (D.I k)) (ho : (D.I k).ho = some (40 + wl (D.st k))) (hat : atT R S0 i D k (x f)) (hhd : ∀ κ : Nat, hd κ → HK D j (40 + wl (D.st k)) κ)
  (h : kT (yT R S0) (zN R S0) (szN R S0) vt tb f (kUx x f ((x f).1, (q, U, 0) :: (x f).2.1, 0, R2, lUp (kH (x f)) (40 + wl (D.st k)) hd, (fun u => u < 40 ∧ AB D k u), klo (x f), kAn (x f))) bs S2) (h77 : Zi S2 77 = nI j) (h73 : Zi S2 73 = nI (bs f + wl (D.st k) + 1)) (h75 : Zr S2 75 = Zr S 75) (h76 : Zi S2 76 = Zi S 76) : NXt R S0 vt tb i D k f x bs S S2 := by
  obtain ⟨hD, hkk, hW, hG, hE⟩ := hk
  obtain ⟨a1, a2, a3, a4, a5, a6⟩ := hat
  have hy := nYk_of hL
  have hnm : kNm (q, U, 0) := pR_nm hq
  have hpq : pnE (q, U, 0) := pnE_k (by omega)
  have hj : ∀ a ∈ D.st j, pnE a := wkS_pn hw (fun a ha => by
    rcases List.mem_cons.mp ha with w | w
    · rw [w]; exact hpq
    · exact hs a w)
  obtain ⟨j1, j2, j3, j4, j5⟩ := hD.in e
  have h177 := (hD.pt hkk.1 hkk.2.1).2
  have hwl := wkS_wl hw
  rw [wl_n hnm] at hwl
  have hno : ∀ u : Nat, u ≠ 40 + wl (D.st k) → (D.I k).ho ≠ some u := fun u hu w => by rw [ho] at w; exact hu (Option.some.inj w).symm
  have b1 : ∀ u κ : Nat, u < 40 → AL D j u → kH (kUx x f ((x f).1, (q, U, 0) :: (x f).2.1, 0, R2, lUp (kH (x f)) (40 + wl (D.st k)) hd, (fun u => u < 40 ∧ AB D k u), klo (x f), kAn (x f)) f) u κ → HK D j u κ := fun u κ hu q1 w => by
    rw [kUx_top] at w
    have w : lUp (kH (x f)) (40 + wl (D.st k)) hd u κ := w
    rw [lUp_ne (by omega), a4] at w
    rcases w with ⟨_, w⟩ | ⟨w, _⟩
    · exact hD.hk e (by omega) (hno u (by omega)) w.1
    · omega
  have b2 : ∀ m κ : Nat, m < wl (D.st j) → AL D j (40 + m) ∨ mkS (D.st j) → kH (kUx x f ((x f).1, (q, U, 0) :: (x f).2.1, 0, R2, lUp (kH (x f)) (40 + wl (D.st k)) hd, (fun u => u < 40 ∧ AB D k u), klo (x f), kAn (x f)) f) (40 + m) κ → HK D j (40 + m) κ ∧ (mkS (D.st j) → m = 0 → okl R S0 i D κ) := fun m κ hm2 q1 w => by
    rw [kUx_top] at w
    have w : lUp (kH (x f)) (40 + wl (D.st k)) hd (40 + m) κ := w
    refine ⟨?_, fun z => absurd z (pn_mk hj)⟩
    by_cases z : m = wl (D.st k)
    · subst z
      rw [lUp_eq] at w
      exact hhd κ w
    · rw [lUp_ne (by omega), a4] at w
      rcases w with ⟨_, w⟩ | ⟨w, _⟩
      · exact hD.hk e (by omega) (hno _ (by omega)) w.1
      · omega
  have b3 : ∀ (κ r m : Nat), (5, r, m) ∈ trL (AL D j) (D.st j) ∨ (6, r, m) ∈ trL (AL D j) (D.st j) → kH (kUx x f ((x f).1, (q, U, 0) :: (x f).2.1, 0, R2, lUp (kH (x f)) (40 + wl (D.st k)) hd, (fun u => u < 40 ∧ AB D k u), klo (x f), kAn (x f)) f) 300 κ → HA R S0 i D j 300 κ := fun κ r m q1 => by
    rcases q1 with q1 | q1
    · exact absurd (Or.inr (Or.inl rfl)) (trL_4 (pn_4 hj) _ q1)
    · exact absurd (Or.inr (Or.inr rfl)) (trL_4 (pn_4 hj) _ q1)
  obtain ⟨X, x1, x2, x3⟩ := kT.fin (D := D) (j := j) (i := i) (R := R) (S0 := S0) hy yB_yT h (by rw [kUx_top]) (by rw [kUx_top]; exact a1) (by
    rw [kUx_top]
    show wkS ((q, U, 0) :: (x f).2.1) _
    rw [a2]
    exact trL_c hw (show q ≠ 3 by omega) (show q ≠ 5 by omega) (show q ≠ 6 by omega) (fun n hn => hD.al e (by omega) (hno _ (by omega)))) (fun u hu q1 => by rw [kUx_top]; exact ⟨hu, hD.ab e (by omega) q1⟩) b1 b2 b3 (fun v π hv _ w => by
    rw [kUx_top] at w
    have w : klo (x f) v π := w
    rw [a6] at w
    exact hD.lo hy hE e hv w (fun c _ _ => hm.nk))
  rw [kUx_top] at x2
  rw [kUx2] at x3
  exact ⟨j, X, e, ⟨hD, ⟨j1, j2, j5⟩, j3 hW, gtS.of hj, hE⟩, h77, by rw [h73, hwl]; rfl, ⟨h75, h76⟩, x1, x2, x3.t3 hj⟩
end PS63
