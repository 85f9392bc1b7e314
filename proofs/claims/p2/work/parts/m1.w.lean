-- m1.w.lean.txt
section
section LY48
variable {R : yR} {S0 Sb Sx S S1 S2 S3 : Sg} {P P1 P2 P3 Pe h h0 h1 h2 hc L L1 L2 Le Lb z n z2 n2 : Nat} {Γ Γ0 Γ1 Γ2 Λ : List Nat} {E : eV} {s s1 s2 yD x y : List tE} {gv : Nat} {js ks us : List Nat} {bw : Nat → Nat} {cl cl2 : Prop} {i a b : Nat}
theorem tsgR.sx (h : tsgR R S0 S E L a b x) (hx : LX S S2) (hp : PX b S S2) (hq : QX L S S2) : tsgR R S0 S2 E L a b x := by
  obtain ⟨st, W, h1, h2, h3, h6⟩ := h
  refine ⟨st, W, h1, h2, h3, fun k hk hb => ?_⟩
  obtain ⟨i, q1, q2, q3, q4⟩ := h6 k hk hb
  exact ⟨i, q1.st hx (hp k hb) (fun l e => hq l (q2 l e)), q2, fun j hj => ⟨(q3 j hj).1, (q3 j hj).2.1, (q3 j hj).2.2.1, (by
    by_cases e : k < j
    · exact Or.inl e
    · exact Or.inr (((hp j (by omega)).1 27 (by decide) (by decide)).trans ((q3 j hj).2.2.2.resolve_left e)))⟩, q4⟩
/-- a function is laid -/
theorem lfn_ (hE : ENb R S0) (hi : i < R.im) (hik : R.ik i = 12) (hT : FnT R S0 i) (hB : BWt R bw) (hpm : R.ps i < R.ms i) (c : LC R S0 S P h Γ L) (kk : P = 0 ∨ K0 S P) (hP : P + 8 * (bw (R.ps (i + 1)) - bw (R.ps i)) < 24000) (hr : RMl R S (20 * (bw (R.ps (i + 1)) - bw (R.ps i)) + 40) (60 * (bw (R.ps (i + 1)) - bw (R.ps i)) + 100)) : Rt (f_layFunction R.K S (nI i)) (fun S2 _ => ∃ (Λ : List Nat) (gv mn Pe L0 Le h2 : Nat) (Γ2 : List Nat), FnL R S0 S2 Λ gv i mn P Pe L0 Le ∧ LC R S0 S2 Pe h2 Γ2 Le ∧ LX S S2 ∧ PX P S S2 ∧ (∀ j : Nat, j < R.im → j ≠ i → R.ws j ≠ R.ws i → ∀ fs : List Value, ZF S (R.ws j) = .inr (16, fs) → ZF S2 (R.ws j) = .inr (16, fs)) ∧ Pe ≤ P + 8 * (bw (R.ps (i + 1)) - bw (R.ps i)) ∧ Zz S2 ≤ Zz S + (20 * (bw (R.ps (i + 1)) - bw (R.ps i)) + 40) ∧ Zn S2 ≤ Zn S + (60 * (bw (R.ps (i + 1)) - bw (R.ps i)) + 100) ∧ K0 S2 Pe) := by
  have hE2 := hE
  obtain ⟨hL, hY, _, hIT, ⟨h11, _⟩, hT3, _, _⟩ := hE2
  obtain ⟨fs, mn, ta, pa, bl, va, b, gv, f, fp, Λ, ⟨a1, a2, a3, a4, a5, a6, a7, a8⟩, b1, b2, ⟨b3, b3x, b4⟩, ⟨b5, b6, b7, b8, b9, b10, b11⟩, b12, b13, b14, b15⟩ := hT
  have hF : FEn R S0 (eVf R S0 Λ gv) Λ gv := fen_ hE b2 (by omega) b13
  obtain ⟨n1, n2, fs2, mn2, na, g2, n3, n4, n5, n6, n7, n8, n9, n10, n11⟩ := hIT i hi
  obtain rfl : fs2 = fs := by rw [a2] at n3; cases n3; rfl
  have hK : ∃ (lo : Nat) (go : Nat → Int32), fs2[13]? = some (.ref lo) ∧ nXo R lo ∧ ZF S0 lo = .inl (R.K.1 0, 13, .inl go) := by
    rcases n11 with ⟨w, _⟩ | ⟨w, _⟩ | ⟨_, ta, gv, lo, f, go, rl, _, _, _, _, w1, _, w2, w3, w4, _⟩
    · rw [hik] at w; exact absurd w (by decide)
    · rw [hik] at w; exact absurd w (by decide)
    · exact ⟨lo, go, w2, w3, w4⟩
  obtain ⟨lo, go, l1, l2, l3⟩ := hK
  have hw1 := hB.mo (p := R.ps i) (q := R.ms i) (by omega) (by omega)
  have hw2 := hB.mo (p := R.ms i) (q := R.ps (i + 1)) (by omega) (by omega)
  obtain ⟨w1, fsS, w2, w3, w4⟩ := c.1.it (hL _ a1.1) a2
  have hlen : 18 ≤ fsS.length := by
    have := (List.getElem?_eq_some_iff.mp a8).1
    omega
  have hbc : bl ∈ ZL R.S ∧ ∃ la mn2 : Nat, ZF S0 bl = .inr (14, [.int (nI (R.ms i)), .int (nI (R.ps (i + 1) - 1)), .ref la, .int (nI mn2)]) := by
    obtain ⟨h1, _, _, la, cap, mn2, f, gs, h2, _⟩ := b14
    exact ⟨h1.1, la, mn2, h2⟩
  obtain ⟨hbk, la, mnb, hbF⟩ := hbc
  have hi70 : i < 70 := by have := hY.2.1; omega
  have hq11 : rQ S 11 (nI i) = some (some (R.ws i)) := by rw [rQ_n (show i < rlen 11 from hi70) (by decide), c.1.2.2.2.2.1 11 (fun w => by rcases w with w | w | w <;> omega), h11, n2]
  unfold f_layFunction
  refine Rt.bd hq11 ?_
  rw [c.2.1]
  refine Rt.bd (pV_e (f2 := fsS.set 5 (.int (nI P))) w1 w2 (Nat.ble_eq.mpr (by omega)) rfl) ?_
  have hset : ∀ (l : Nat), l ≠ 4 → l ≠ 5 → (fsS.set 5 (.int (nI P)))[l]? = fsS[l]? := fun l _ h5 => List.getElem?_set_ne (fun w => h5 w.symm)
  obtain ⟨c1, x1, e1⟩ := c.ui w2 (f2 := fsS.set 5 (.int (nI P))) List.length_set hset
  have oth : ∀ b : Nat, b ≠ R.ws i → ZF (UF S (R.ws i) (.inr (16, fsS.set 5 (.int (nI P))))) b = ZF S b := fun b hb => ZF_n hb
  have row1 : Zr (UF S (R.ws i) (.inr (16, fsS.set 5 (.int (nI P))))) = Zr S ∧ Zl (UF S (R.ws i) (.inr (16, fsS.set 5 (.int (nI P))))) = Zl S ∧ Zq (UF S (R.ws i) (.inr (16, fsS.set 5 (.int (nI P))))) = Zq S ∧ Zz (UF S (R.ws i) (.inr (16, fsS.set 5 (.int (nI P))))) = Zz S ∧ Zn (UF S (R.ws i) (.inr (16, fsS.set 5 (.int (nI P))))) = Zn S := ⟨rfl, rfl, rfl, rfl, rfl⟩
  generalize UF S (R.ws i) (.inr (16, fsS.set 5 (.int (nI P)))) = A1 at c1 x1 e1 oth row1
  refine Rt.bd (v := Ui A1 47 0) rfl (Rt.bd (v := Ui (Ui A1 47 0) 48 0) rfl (Rt.bd (v := Ui (Ui (Ui A1 47 0) 48 0) 50 0) rfl ?_))
  have c4 : LC R S0 (Ui (Ui (Ui A1 47 (nI 0)) 48 (nI 0)) 50 (nI 0)) P 0 [] 0 := ((c1.ll (L2 := 0) (fun l _ h2 => by rw [show Zi (Ui A1 47 (nI 0)) 47 = nI 0 from Zi_s] at h2; exact absurd h2 (nI_pos (n := l) (by omega)))).hh (h2 := 0)).a0
  have x4 : LX A1 (Ui (Ui (Ui A1 47 (nI 0)) 48 (nI 0)) 50 (nI 0)) := ((LZ.ui (P := 0) (L := 0) (by decide)).1.tr (LZ.ui (P := 0) (L := 0) (by decide)).1).tr (LZ.ui (P := 0) (L := 0) (by decide)).1
  show Rt (f_layFunction_32 R.K bigN (Ui (Ui (Ui A1 47 (nI 0)) 48 (nI 0)) 50 (nI 0)) (some (R.ws i)) (nI 0)) _
  have row4 : Zr (Ui (Ui (Ui A1 47 (nI 0)) 48 (nI 0)) 50 (nI 0)) = Zr A1 ∧ Zl (Ui (Ui (Ui A1 47 (nI 0)) 48 (nI 0)) 50 (nI 0)) = Zl A1 ∧ Zq (Ui (Ui (Ui A1 47 (nI 0)) 48 (nI 0)) 50 (nI 0)) = Zq A1 ∧ Zz (Ui (Ui (Ui A1 47 (nI 0)) 48 (nI 0)) 50 (nI 0)) = Zz A1 ∧ Zn (Ui (Ui (Ui A1 47 (nI 0)) 48 (nI 0)) 50 (nI 0)) = Zn A1 ∧ ZF (Ui (Ui (Ui A1 47 (nI 0)) 48 (nI 0)) 50 (nI 0)) = ZF A1 ∧ ZL (Ui (Ui (Ui A1 47 (nI 0)) 48 (nI 0)) 50 (nI 0)) = ZL A1 := ⟨rfl, rfl, rfl, rfl, rfl, rfl, rfl⟩
  generalize Ui (Ui (Ui A1 47 (nI 0)) 48 (nI 0)) 50 (nI 0) = A4 at c4 x4 row4
  have hlenΛ : (Λ.take mn).length = mn := by rw [List.length_take]; omega
  have hGJ : GJ Λ (Λ.take mn) (ksV 0 mn) := by
    have := GJ.kn (Λ := Λ) (Γ := []) (js := []) (us := Λ) (v := 0) (n := mn) rfl (fun _ h => by cases h) (fun j hj => by
      obtain ⟨v, x, nm, p1, _⟩ := b12 j hj
      exact ⟨v, p1, by rw [Nat.zero_add]; exact p1⟩)
    rw [List.append_nil, List.nil_append] at this; exact this
  have hkl : (ksV 0 mn).length = mn := ksV_len
  have sz4 : Zz A4 = Zz S := row4.2.2.2.1.trans row1.2.2.2.1
  have sn4 : Zn A4 = Zn S := row4.2.2.2.2.1.trans row1.2.2.2.2
  refine lfn32 (S := A4) (P := P) (Λ := Λ) (E := eVf R S0 Λ gv) hF hi a2 a1.1 a3 a4 a5 l1 a7 a8 b1 ⟨l2.1, l3⟩ ⟨b3, b4⟩ b12 (by omega) (by omega) (fun S1 L1 g1 hO hL1 e27 => ?_) bigN 0 A4 0 (by unfold bigN; omega) (Nat.zero_le _) ⟨c4, LZ.rf, tsg.nil wkS.rf, by omega, by omega, Nat.le_refl _, Nat.le_refl _, RFx.rf⟩ ⟨fun l hl => by omega, fun q hq => by omega⟩ (Nat.le_refl _) rfl
  have kk1 : P = 0 ∨ K0 S1 P := kk.imp id (fun w => by unfold K0; rw [e27, row4.1, row1.1]; exact w)
  have rR : ∀ {S' : Sg} {k a : Nat}, LX S0 S' → fs2[k]? = some (.ref a) → k ≠ 4 → k ≠ 5 → oR S' 16 (some (R.ws i)) k = some (some a) := fun hx hk h4 h5 => by
    obtain ⟨w1, f2, w2, w3, w4⟩ := hx.it (hL _ a1.1) a2
    exact oR_mk w1 w2 ((w4 _ h4 (Or.inl h5)).trans hk)
  have rm1 : RMl R S1 (20 * (bw (R.ps (i + 1)) - bw (R.ps i)) + 40) (60 * (bw (R.ps (i + 1)) - bw (R.ps i)) + 100) := ⟨by have := g1.2.2.2.1; have := hr.1; omega, by have := g1.2.2.2.2.1; have := hr.2; omega⟩
  refine Rt.bd (rR g1.1.1 a7 (by decide) (by decide)) (Rt.bn (lbk_ 45 40 (by decide) bl (R.ms i) (R.ps (i + 1)) 0 b mn va (Λ.take mn) b14 S1 P L1 (ksV 0 mn) ⟨hF, hB, g1.1, kk1, hGJ, fun j hj => by have := ksV_lt hj; omega, ⟨by omega, by omega⟩, ⟨by omega, by omega⟩, by omega, ⟨Nat.zero_le _, by omega⟩, rm1.le (by omega) (by omega)⟩) (fun S2 _ t2 => ?_))
  obtain ⟨P2, L2, z2, n2, g2, d1, d2, d3, d4, d5⟩ := t2
  have hPP : P ≤ P2 := g2.2.2.2.2.2.1
  have rT : ∀ {S' : Sg}, LX S0 S' → oI S' 14 (some bl) 1 = some (nI (R.ps (i + 1) - 1)) := fun hx => hx.vi (by decide) (by decide) (oI_mk (hL bl hbk) hbF rfl)
  refine Rt.bd (rR g2.1.1 a7 (by decide) (by decide)) (Rt.bd (rT g2.1.1) ?_)
  have hG2 : GJ Λ (Λ.take mn) (ksV 0 mn ++ []) := by rw [List.append_nil]; exact hGJ
  refine Rt.bn (gou_ (h0 := 0) (Γ0 := Λ.take mn) (e := []) (ks := ksV 0 mn) (js1 := []) hF (Or.inl rfl) (x1 := 0) rfl rfl (by omega) g2.1 hG2 (by omega) (by omega) (g2.rm rm1 (by omega) (by omega))) (fun S3 _ g3 => ?_)
  rw [List.append_nil] at g3
  have g23 := g2.tr g3 (cl3 := eBx S0 bl) (fun w => Or.inl w) (Nat.le_refl _) (Nat.le_refl _)
  refine Rt.bd (rR g3.1.1 a7 (by decide) (by decide)) (Rt.bd (rT g3.1.1) ?_)
  refine pnt_ (Lb := L2) (Sb := S3) (z := 0) (n := 0) (by omega) g3.1 LZ.rf (Nat.le_refl _) (by omega) (by omega) UsK.rf (fun S5 p5 _ => ?_)
  have z15 : LZ P 0 A4 S5 := (g1.2.1.tr g23.2.1 (Nat.le_refl _) (Nat.zero_le _)).tr p5.2.1 (by omega) (Nat.zero_le _)
  have hwm4 : R.ws i ∈ ZL A4 := (x4.1 _ (x1.1 _ w1).1).1
  have f5 : ZF S5 (R.ws i) = .inr (16, fsS.set 5 (.int (nI P))) := z15.2.2.2 _ hwm4 _ (by rw [row4.2.2.2.2.2.1]; exact e1)
  have hwm5 : R.ws i ∈ ZL S5 := (z15.1.1 _ hwm4).1
  have e26 : Zi S5 26 = nI (P2 + (ksV 0 mn).length + 1) := p5.1.2.1
  rw [e26]
  refine Rt.bd (pV_e (f2 := (fsS.set 5 (.int (nI P))).set 4 (.int (nI (P2 + (ksV 0 mn).length + 1)))) hwm5 f5 (Nat.ble_eq.mpr (by rw [List.length_set]; omega)) rfl) (Rt.rt ?_)
  obtain ⟨c6, x6, e6⟩ := p5.1.ui f5 (f2 := (fsS.set 5 (.int (nI P))).set 4 (.int (nI (P2 + (ksV 0 mn).length + 1)))) List.length_set (fun l h4 _ => List.getElem?_set_ne (fun w => h4 w.symm))
  have row6 : Zr (UF S5 (R.ws i) (.inr (16, (fsS.set 5 (.int (nI P))).set 4 (.int (nI (P2 + (ksV 0 mn).length + 1)))))) = Zr S5 ∧ Zl (UF S5 (R.ws i) (.inr (16, (fsS.set 5 (.int (nI P))).set 4 (.int (nI (P2 + (ksV 0 mn).length + 1)))))) = Zl S5 ∧ Zq (UF S5 (R.ws i) (.inr (16, (fsS.set 5 (.int (nI P))).set 4 (.int (nI (P2 + (ksV 0 mn).length + 1)))))) = Zq S5 ∧ Zz (UF S5 (R.ws i) (.inr (16, (fsS.set 5 (.int (nI P))).set 4 (.int (nI (P2 + (ksV 0 mn).length + 1)))))) = Zz S5 ∧ Zn (UF S5 (R.ws i) (.inr (16, (fsS.set 5 (.int (nI P))).set 4 (.int (nI (P2 + (ksV 0 mn).length + 1)))))) = Zn S5 := ⟨rfl, rfl, rfl, rfl, rfl⟩
  have oth6 : ∀ b : Nat, b ≠ R.ws i → ZF (UF S5 (R.ws i) (.inr (16, (fsS.set 5 (.int (nI P))).set 4 (.int (nI (P2 + (ksV 0 mn).length + 1)))))) b = ZF S5 b := fun b hb => ZF_n hb
  generalize UF S5 (R.ws i) (.inr (16, (fsS.set 5 (.int (nI P))).set 4 (.int (nI (P2 + (ksV 0 mn).length + 1))))) = B at c6 x6 e6 row6 oth6
  have px6 : ∀ b : Nat, PX b S5 B := fun b k _ => ⟨fun r _ _ => by rw [row6.1], by rw [row6.2.1], fun r _ _ => by rw [row6.2.2.1]⟩
  have qx6 : ∀ l : Nat, QX l S5 B := fun _ l _ => ⟨by rw [row6.2.2.1], fun r _ _ => by rw [row6.1]⟩
  have pa1 : PX P S A4 := fun k _ => ⟨fun r _ _ => by rw [row4.1, row1.1], by rw [row4.2.1, row1.2.1], fun r _ _ => by rw [row4.2.2.1, row1.2.2.1]⟩
  have hgv : eBx S0 bl ∨ (([] : List tE) = [] ∧ (eVf R S0 Λ gv).gv = 0) ∨ (([] : List tE) = [eU (eVf R S0 Λ gv).gv] ∧ (eVf R S0 Λ gv).gv ≠ 0) := by
    rcases b15 with w | w
    · refine Or.inr (Or.inl ⟨rfl, ?_⟩)
      show abT S0 gv = 0
      obtain ⟨t, _, _, _, q1, q2⟩ := abV_is hY w
      rw [q2, if_neg (by decide), if_neg (by decide), q1]; rfl
    · exact Or.inl ⟨45, w⟩
  have T := ((g23.2.2.1.st p5.2.1).rt (pp := R.ps (i + 1) - 1) p5.2.2.1 pl0_o (by omega) (by decide) hgv).sx x6 (px6 _) (qx6 _)
  have kk6 : K0 B (P2 + (ksV 0 mn).length + 1) := by
    have h27 : Zr B 27 = Zr S5 27 := by rw [row6.1]
    by_cases e0 : P2 + (ksV 0 mn).length = 0
    · have h5 := p5.2.2.1.1 27 (by decide) (by decide) (by decide)
      rw [e0] at h5
      refine ⟨by omega, ?_, ?_⟩
      · rw [h27, h5]; exact (show (26 : Int32) ≠ 18 by decide)
      · rw [h27, h5]; exact (show (26 : Int32) ≠ 19 by decide)
    · have k3 : K0 S3 (P2 + (ksV 0 mn).length) := by
        rcases d5 with e | e
        · have z3 := g3.2.2.1
          refine ⟨by omega, ?_⟩
          obtain ⟨st, W, hst, _, _, _, _, h6⟩ := z3
          obtain ⟨i0, q1, q2, q3, q4, q5⟩ := h6 0 (by omega) (by omega)
          have hne : ∀ K : Nat, (K = 18 ∨ K = 19) → Zr S3 27 0 ≠ nI K := fun K hK w => by
            have hkd : i0.kd = K := nI_ij (q1.1.symm.trans w) (by have := q1.2.1; omega) (by omega)
            have hs : ∃ (t : Nat) (r : List tE), st 0 = (0, t, 0) :: r := by
              unfold tPt at q5
              rw [hkd] at q5
              rcases hK with e9 | e9 <;> subst e9
              · obtain ⟨_, t, j, r, _, hs, _⟩ := q5; exact ⟨t, r, hs⟩
              · obtain ⟨_, t, j, r, _, hs, _⟩ := q5; exact ⟨t, r, hs⟩
            obtain ⟨t, r, hs⟩ := hs
            rw [e, hs] at hst
            obtain ⟨k9, hk9⟩ : ∃ k9 : Nat, mn = k9 + 1 := ⟨mn - 1, by omega⟩
            rw [hk9] at hst
            have hw := hst.1
            rcases hw with hw | ⟨t2, _, hw, ⟨t3, _, hw3⟩ | ⟨T, hw3 | hw3⟩⟩
            · cases hw
            · cases hw3
            · cases hw3
            · cases hw3
          exact ⟨hne 18 (Or.inl rfl), hne 19 (Or.inr rfl)⟩
        · exact e.st g3.2.1 (by omega)
      have := k3.st p5.2.1 (Nat.le_succ _)
      unfold K0; rw [h27]; exact this
  have hz5 : Zz S5 ≤ Zz S + (20 * (bw (R.ps (i + 1)) - bw (R.ps i)) + 40) := by
    have q1 := g1.2.2.2.1; have q2 := g23.2.2.2.1; have q3 := p5.2.2.2.1; omega
  have hn5 : Zn S5 ≤ Zn S + (60 * (bw (R.ps (i + 1)) - bw (R.ps i)) + 100) := by
    have q1 := g1.2.2.2.2.1; have q2 := g23.2.2.2.2.1; have q3 := p5.2.2.2.2.1; omega
  have hOB : OUl R S0 B (eVf R S0 Λ gv) i mn L1 := (hO.st g23.2.1.2.2.1).st (fun l hl => (QX.tr (L2 := L2) p5.2.1.2.2.1 (qx6 _) (Nat.le_refl _)) l (by have := g2.2.2.2.2.2.2.1; omega))
  refine ⟨Λ, gv, mn, P2 + (ksV 0 mn).length + 1, L1, L2, 0, Λ.take mn, ⟨hF, T, hOB, g2.2.2.2.2.2.2.1, by omega, a4, by omega, ?_, fun q hq => ?_, ?_, by omega, _, e6, ?_, ?_, by omega⟩, c6, ((x1.tr x4).tr z15.1).tr x6, (pa1.tr z15.2.1 (Nat.le_refl _)).tr (px6 P) (Nat.le_refl _), fun j hj hji hw fs e => ?_, by omega, by rw [row6.2.2.2.1]; exact hz5, by rw [row6.2.2.2.2]; exact hn5, kk6⟩
  · show fN (obF S0 (R.ws i)) 3 = mn
    rw [obF_o a2, fN_i a3 (by omega)]
  · obtain ⟨v, x, nm, p1, p2, p3, p4⟩ := b12 q hq
    obtain ⟨x', px1, px2⟩ := b1.2.2 q hq
    rw [p3] at px1; cases px1
    have e1 : (hdS R S0 i).2.1 q = abT S0 x := by
      show (match rN (obF S0 (R.ws i)) 10 with
        | some ta => abU S0 (roQ S0 ta q)
        | none => 0) = _
      rw [obF_o a2, rN_r a5]
      show abU S0 (roQ S0 ta q) = _
      rw [roQ_o b1.2.1, p3]; rfl
    have e2 : (eVf R S0 Λ gv).vt q = abT S0 x := by
      show vtS S0 Λ q = _
      unfold vtS; rw [p1]
      show abU S0 (rN (obF S0 v) 2) = _
      rw [isV_t p4]; rfl
    rw [e1, e2]
    exact ⟨rfl, px2.n0 hY⟩
  · show abU S0 (rN (obF S0 (R.ws i)) 15) = _
    rw [obF_o a2, rN_r a6]; rfl
  · exact List.getElem?_set_self (by rw [List.length_set]; omega)
  · rw [List.getElem?_set_ne (by decide)]
    exact List.getElem?_set_self (by omega)
  · rw [oth6 _ hw]
    refine z15.2.2.2 _ ?_ _ (by rw [row4.2.2.2.2.2.1, oth _ hw]; exact e)
    obtain ⟨n1', _⟩ := hIT j hj
    exact (x4.1 _ (x1.1 _ (c.1.1 _ (hL _ n1'.1)).1).1).1
end LY48
end
-- m2.a.lean.txt
section
/-- the passes write these rows alone -/
def PSx (S S2 : Sg) : Prop := ZL S2 = ZL S ∧ ZF S2 = ZF S ∧ (Zz S2 = Zz S ∧ Zn S2 = Zn S) ∧ Zq S2 = Zq S ∧ Zf S2 = Zf S ∧ (∀ r : Nat, r ≠ 52 → Zr S2 r = Zr S r) ∧ (∀ j : Nat, j ≠ 57 → Zi S2 j = Zi S j) ∧ ∀ r : Nat, ¬ (53 ≤ r ∧ r ≤ 60) → Zl S2 r = Zl S r
/-- what follows at place n -/
def scN (l : List Nat) (n : Nat) : Int32 := match l[n]? with
  | some j => nI j
  | none => -1
section PS0
variable {R : yR} {S0 S S1 S2 : Sg} {k n : Nat} {i : iR}
theorem PSx.rf : PSx S S := ⟨rfl, rfl, ⟨rfl, rfl⟩, rfl, rfl, fun _ _ => rfl, fun _ _ => rfl, fun _ _ => rfl⟩
theorem PSx.tr (a : PSx S S1) (b : PSx S1 S2) : PSx S S2 := ⟨b.1.trans a.1, b.2.1.trans a.2.1, ⟨b.2.2.1.1.trans a.2.2.1.1, b.2.2.1.2.trans a.2.2.1.2⟩, b.2.2.2.1.trans a.2.2.2.1, b.2.2.2.2.1.trans a.2.2.2.2.1, fun r h => (b.2.2.2.2.2.1 r h).trans (a.2.2.2.2.2.1 r h), fun r h => (b.2.2.2.2.2.2.1 r h).trans (a.2.2.2.2.2.2.1 r h), fun r h => (b.2.2.2.2.2.2.2 r h).trans (a.2.2.2.2.2.2.2 r h)⟩
theorem PSx.ur {f : Nat → Int32} : PSx S (Ur S 52 f) := ⟨rfl, rfl, ⟨rfl, rfl⟩, rfl, rfl, fun _ h => va_up_ne _ _ h, fun _ _ => rfl, fun _ _ => rfl⟩
theorem PSx.ul {r : Nat} {f : Nat → Int64} (hr : 53 ≤ r ∧ r ≤ 60) : PSx S (Ul S r f) := ⟨rfl, rfl, ⟨rfl, rfl⟩, rfl, rfl, fun _ _ => rfl, fun _ _ => rfl, fun r2 h => va_up_ne _ _ (fun e => h (by omega))⟩
theorem PSx.ui {v : Int32} : PSx S (Ui S 57 v) := ⟨rfl, rfl, ⟨rfl, rfl⟩, rfl, rfl, fun _ _ => rfl, fun _ h => Zi_n h, fun _ _ => rfl⟩
theorem PSx.lx (h : PSx S S2) : LX S S2 := ⟨fun a ha => ⟨by rw [h.1]; exact ha, Or.inl (by rw [h.2.1])⟩, fun j _ _ _ d => h.2.2.2.2.2.2.1 j d.2, fun r hr => h.2.2.2.2.2.1 r (fun e => hr (Or.inr (Or.inr e))), fun r hr => h.2.2.2.2.2.2.2 r hr.2, fun r _ => by rw [h.2.2.2.1], h.2.2.2.2.1, Nat.le_of_eq h.2.2.1.1.symm, Nat.le_of_eq h.2.2.1.2.symm⟩
theorem PSx.px (h : PSx S S2) {P : Nat} : PX P S S2 := fun k _ => ⟨fun r h1 h2 => by rw [h.2.2.2.2.2.1 r (by omega)], by rw [h.2.2.2.2.2.2.2 31 (by omega)], fun r _ _ => by rw [h.2.2.2.1]⟩
theorem PSx.qx (h : PSx S S2) {L : Nat} : QX L S S2 := fun l _ => ⟨by rw [h.2.2.2.1], fun r h1 h2 => by rw [h.2.2.2.2.2.1 r (by omega)]⟩
theorem rz.ps (h : PSx S S2) (q : rz R S0 S k i) : rz R S0 S2 k i := q.st h.lx (h.px (P := k + 1) k (Nat.lt_succ_self _)) (fun l _ => h.qx (L := l + 1) l (Nat.lt_succ_self _))
theorem LC.ps {P h L : Nat} {Γ : List Nat} (e : PSx S S2) (c : LC R S0 S P h Γ L) : LC R S0 S2 P h Γ L := ⟨c.1.tr e.lx, (e.2.2.2.2.2.2.1 26 (by decide)).trans c.2.1, (e.2.2.2.2.2.2.1 48 (by decide)).trans c.2.2.1, ⟨(e.2.2.2.2.2.2.1 50 (by decide)).trans c.2.2.2.1.1, by rw [e.2.2.2.1]; exact c.2.2.2.1.2⟩, (e.2.2.2.2.2.2.1 47 (by decide)).trans c.2.2.2.2.1, c.2.2.2.2.2.1.st e.lx (by rw [e.2.2.2.1]) (c.2.2.2.2.2.1.2.st e.lx (fun l _ _ => by rw [e.2.2.2.1]) (fun l _ _ => Or.inl (by rw [e.2.2.2.2.2.1 45 (by decide)])) (e.2.2.2.2.2.2.1 47 (by decide))), c.2.2.2.2.2.2.1.st e.lx (fun a _ _ _ => by rw [e.2.1]), by rw [e.1, e.2.2.1.1]; exact c.2.2.2.2.2.2.2⟩
theorem nI_e {a b : Nat} (ha : a < 2 ^ 31) (hb : b < 2 ^ 31) (h : nI a = nI b) : a = b := by
  have := congrArg Int32.toNatClampNeg h
  rwa [nI_clamp (by omega), nI_clamp (by omega)] at this
theorem nI_nn {a : Nat} (ha : a < 2 ^ 31) : ¬ nI a < 0 := Int32.not_lt.mpr (nI_le (a := 0) (b := a) (Nat.zero_le _) ha)
theorem aLn_n {K : Ky} {a n : Nat} {f : Nat → Int32} (ha : a ∈ ZL S) (hF : ZF S a = .inl (K.1 0, n, .inl f)) : aLn K 0 S (some a) = some (nI n) := by
  unfold aLn
  rw [aC_mk ha hF]
  show (if K.1 0 = K.1 0 then some (Int32.ofNat n) else none) = _
  rw [if_pos rfl]; rfl
/-- follows -/
theorem flw_ (q : rz R S0 S k i) (hk : k < 24000) (hn : n ≤ i.sc.length) (hl : i.sc.length ≤ 1000000) : f_follows R.K S (nI k) (nI n) = some (S, scN i.sc n) := by
  obtain ⟨q1, q2, _, _, _, _, _, _, _, _, _, q12, _⟩ := q
  have r27 : rI S 27 (nI k) = some (nI i.kd) := by rw [rI_n (show k < rlen 27 from hk) (by decide), q1]
  have n26 : i.kd ≠ 26 → ¬ nI i.kd = (26 : Int32) := fun h e => h (nI_e (b := 26) (by omega) (by decide) e)
  have n16 : i.kd ≠ 16 → ¬ nI i.kd = (16 : Int32) := fun h e => h (nI_e (b := 16) (by omega) (by decide) e)
  have n20 : i.kd ≠ 20 → ¬ nI i.kd = (20 : Int32) := fun h e => h (nI_e (b := 20) (by omega) (by decide) e)
  have n21 : i.kd ≠ 21 → ¬ nI i.kd = (21 : Int32) := fun h e => h (nI_e (b := 21) (by omega) (by decide) e)
  unfold f_follows
  rw [r27]
  simp only [Option.bind_some]
  rcases q12 with ⟨h1, h2⟩ | ⟨h1, j, h2, h3, h4⟩ | ⟨h1, j, h2, h3, h4⟩ | ⟨h1, h2, h3⟩ | ⟨h1, h2, h3, h4, h5, h6, h7, h8, h9⟩
  · rw [if_pos (show nI i.kd = 26 by rw [h1]; rfl), h2]
    cases n <;> rfl
  · rw [if_neg (n26 (by omega)), if_pos (show nI i.kd = 16 by rw [h1]; rfl)]
    rw [h3] at hn ⊢
    have hn : n ≤ 1 := hn
    rcases (by omega : n = 0 ∨ n = 1) with e | e <;> subst e
    · rw [if_pos (show nI 0 = 0 from rfl), rI_n (show k < rlen 30 from hk) (by decide), h2]; rfl
    · rw [if_neg (show ¬ nI 1 = 0 by decide)]; rfl
  · rw [if_neg (n26 (by omega)), if_neg (n16 (by omega)), if_neg (n20 (by omega)), if_neg (n21 (by omega))]
    rw [h3] at hn ⊢
    have hn : n ≤ 2 := hn
    rcases (by omega : n = 0 ∨ n = 1 ∨ n = 2) with e | e | e <;> subst e
    · rw [if_pos (show nI 0 = 0 from rfl), nI_1]; rfl
    · rw [if_neg (show ¬ nI 1 = 0 by decide), if_pos (show nI 1 = 1 from rfl), rI_n (show k < rlen 30 from hk) (by decide), h2]; rfl
    · rw [if_neg (show ¬ nI 2 = 0 by decide), if_neg (show ¬ nI 2 = 1 by decide)]; rfl
  · have h61 : f_follows_61 R.K S (nI k) (nI n) = some (S, scN i.sc n) := by
      rcases h2 with ⟨_, w⟩ | ⟨a, f, a1, a2, a3, a4, a5⟩
      · exact absurd w h3
      · have r42 : rQ S 42 (nI k) = some (some a) := by rw [rQ_n (show k < rlen 42 from hk) (by decide), a1]
        unfold f_follows_61
        rw [r42]
        simp only [Option.bind_some]
        rw [aLn_n a2 a3]
        simp only [Option.bind_some]
        by_cases e : n = i.sc.length
        · subst e
          rw [if_pos (nI_le (Nat.le_refl _) (by omega))]
          unfold f_follows_84 scN
          rw [List.getElem?_eq_none (Nat.le_refl _)]
        · have hlt : n < i.sc.length := by omega
          rw [if_neg (Int32.not_le.mpr (nI_lt hlt (by omega))), aI_n a2 a3 hlt (by omega)]
          simp only [Option.bind_some]
          unfold f_follows_84 scN
          obtain ⟨b1, b2⟩ := a5 n _ (List.getElem?_eq_getElem hlt)
          rw [List.getElem?_eq_getElem hlt, b1]
    rcases h1 with h1 | h1
    · rw [if_neg (n26 (by omega)), if_neg (n16 (by omega)), if_pos (show nI i.kd = 20 by rw [h1]; rfl)]; exact h61
    · rw [if_neg (n26 (by omega)), if_neg (n16 (by omega)), if_neg (n20 (by omega)), if_pos (show nI i.kd = 21 by rw [h1]; rfl)]; exact h61
  · rw [if_neg (n26 h1), if_neg (n16 h2), if_neg (n20 h6), if_neg (n21 h7)]
    rw [h9] at hn ⊢
    have hn : n ≤ 1 := hn
    rcases (by omega : n = 0 ∨ n = 1) with e | e <;> subst e
    · rw [if_pos (show nI 0 = 0 from rfl), nI_1]; rfl
    · rw [if_neg (show ¬ nI 1 = 0 by decide), if_pos (show nI 1 = 1 from rfl), rI_n (show k < rlen 30 from hk) (by decide), h8]; rfl
end PS0
/-- bit b of the set that begins at word base of a row -/
def rb (f : Nat → Int64) (base b : Nat) : Bool := lbit (f (base + b / 64)) (b % 64)
/-- a bit is set, or taken away -/
def pB (f : Nat → Int64) (base b : Nat) (on : Bool) : Nat → Int64 := vp_updL f (base + b / 64) (if on then f (base + b / 64) ||| bt (b % 64) else f (base + b / 64) &&& (bt (b % 64) ^^^ -1))
section PS0B
variable {K : Ky} {S : Sg} {r base b : Nat}
theorem nI_and63 (a : Nat) : nI a &&& 63 = nI (a % 64) := by
  refine nI_ofb ?_
  rw [Int32.toBitVec_and, nI_bv]
  apply BitVec.eq_of_toNat_eq
  rw [BitVec.toNat_and, BitVec.toNat_ofNat, BitVec.toNat_ofNat]
  show (a % 2 ^ 32) &&& 63 = a % 64 % 2 ^ 32
  rw [show (63 : Nat) = 2 ^ 6 - 1 by decide, Nat.and_two_pow_sub_one_eq_mod]
  omega
theorem nI_sh6 {a : Nat} (ha : a < 2 ^ 31) : nI a >>> (6 &&& 31) = nI (a / 64) := nI_shr (k := 6) ha (by decide)
theorem get_ (hb : b < 1000) (h : base + b / 64 < rlen r) (hr : rlen r < 2 ^ 31) : f_get K S r (nI base) (nI b) = some (S, if rb (Zl S r) base b = true then 1 else 0) := by
  unfold f_get f_get_25 zB
  rw [nI_sh6 (by omega), nI_add, rJ_n h hr, nI_and63]
  simp only [Option.bind_some]
  have e : lg_cmp (lushF (Zl S r (base + b / 64)) (nI (b % 64)) &&& 1) 1 = 0 ↔ rb (Zl S r) base b = true := usB_bit (ub := Zl S r (base + b / 64)) (v := b % 64) (by omega)
  by_cases q : rb (Zl S r) base b = true
  · rw [if_pos (e.mpr q), if_pos q]; rfl
  · rw [if_neg (fun w => q (e.mp w)), if_neg q]; rfl
theorem put_ {on : Bool} (hb : b < 1000) (h : base + b / 64 < rlen r) (hr : rlen r < 2 ^ 31) : f_put K S r (nI base) (nI b) (if on = true then 1 else 0) = some (Ul S r (pB (Zl S r) base b on), ()) := by
  unfold f_put f_put_48 pB
  rw [nI_sh6 (by omega), nI_add, rJ_n h hr, nI_and63]
  simp only [Option.bind_some]
  cases on
  · rw [if_pos (show (if false = true then (1 : Int32) else 0) = 0 from rfl), wJ_n h hr]; rfl
  · rw [if_neg (show ¬ (if true = true then (1 : Int32) else 0) = 0 by decide), wJ_n h hr]; rfl
theorem rb_pB {f : Nat → Int64} {on : Bool} {base2 c : Nat} : rb (pB f base b on) base2 c = if base2 + c / 64 = base + b / 64 ∧ c % 64 = b % 64 then on else rb f base2 c := by
  have hc : c % 64 < 64 := by omega
  have hb : b % 64 < 64 := by omega
  unfold rb pB
  by_cases e : base2 + c / 64 = base + b / 64
  · rw [e, show vp_updL f (base + b / 64) (if on = true then f (base + b / 64) ||| bt (b % 64) else f (base + b / 64) &&& (bt (b % 64) ^^^ -1)) (base + b / 64) = _ from if_pos rfl]
    cases on
    · rw [if_neg (by decide), lbit_and, lbit_not _ _ hc, lbit_bt _ _ hb hc]
      by_cases q : c % 64 = b % 64
      · rw [if_pos ⟨rfl, q⟩, decide_eq_true q]; simp
      · rw [if_neg (fun w => q w.2), decide_eq_false q]; simp
    · rw [if_pos rfl, lbit_or, lbit_bt _ _ hb hc]
      by_cases q : c % 64 = b % 64
      · rw [if_pos ⟨rfl, q⟩, decide_eq_true q]; simp
      · rw [if_neg (fun w => q w.2), decide_eq_false q]; simp
  · rw [show vp_updL f (base + b / 64) (if on = true then f (base + b / 64) ||| bt (b % 64) else f (base + b / 64) &&& (bt (b % 64) ^^^ -1)) (base2 + c / 64) = f (base2 + c / 64) from if_neg e]
    exact (if_neg (fun w => e w.1)).symm
end PS0B
end
-- m2.b.lean.txt
section
/-- holders are few -/
def hBd (i : iR) : Prop := (∀ h : Nat, i.ho = some h → h < 256) ∧ (∀ u ∈ i.us, u < 256) ∧ (∀ u ∈ i.fr, u < 256) ∧ i.us.length ≤ 12 ∧ i.fr.length ≤ 12 ∧ (∀ l : Nat, i.ln = some l → l < 160) ∧ (i.ac ≠ 0 → i.pa ≠ none)
/-- a function's points, as the passes see them -/
def PCx (R : yR) (S0 S : Sg) (ws Ps Pe : Nat) (I : Nat → iR) : Prop := Ps < Pe ∧ Pe < 24000 ∧ (ws ∈ ZL S ∧ ∃ fs : List Value, ZF S ws = .inr (16, fs) ∧ fs[4]? = some (.int (nI Pe)) ∧ fs[5]? = some (.int (nI Ps))) ∧ ∀ k : Nat, Ps ≤ k → k < Pe → rz R S0 S k (I k) ∧ (∀ j ∈ (I k).sc, Ps ≤ j ∧ j < Pe) ∧ (I k).sc.length ≤ 12 ∧ hBd (I k)
/-- how many of m flags from a on are 0 -/
def cn (f : Nat → Int32) (a : Nat) : Nat → Nat
  | 0 => 0
  | m + 1 => cn f a m + (if f (a + m) = 0 then 1 else 0)
section PS1
variable {R : yR} {S0 S S1 S2 Sr : Sg} {ws Ps Pe k n : Nat} {I : Nat → iR} {f : Nat → Int32}
theorem PCx.ps (e : PSx S S2) (h : PCx R S0 S ws Ps Pe I) : PCx R S0 S2 ws Ps Pe I := by
  obtain ⟨h1, h2, ⟨h3, fs, h4, h5⟩, h6⟩ := h
  exact ⟨h1, h2, ⟨by rw [e.1]; exact h3, fs, by rw [e.2.1]; exact h4, h5⟩, fun k a b => ⟨(h6 k a b).1.ps e, (h6 k a b).2⟩⟩
theorem PCx.r4 (h : PCx R S0 S ws Ps Pe I) : oI S 16 (some ws) 4 = some (nI Pe) := by
  obtain ⟨_, _, ⟨h3, fs, h4, h5, h6⟩, _⟩ := h
  exact oI_mk h3 h4 h5
theorem PCx.r5 (h : PCx R S0 S ws Ps Pe I) : oI S 16 (some ws) 5 = some (nI Ps) := by
  obtain ⟨_, _, ⟨h3, fs, h4, h5, h6⟩, _⟩ := h
  exact oI_mk h3 h4 h6
theorem PCx.fl (h : PCx R S0 S ws Ps Pe I) (h1 : Ps ≤ k) (h2 : k < Pe) (hn : n ≤ (I k).sc.length) : f_follows R.K S (nI k) (nI n) = some (S, scN (I k).sc n) := flw_ (h.2.2.2 k h1 h2).1 (by have := h.2.1; omega) hn (by have := (h.2.2.2 k h1 h2).2.2.1; omega)
theorem PCx.sc (h : PCx R S0 S ws Ps Pe I) (h1 : Ps ≤ k) (h2 : k < Pe) : (n = (I k).sc.length → scN (I k).sc n < 0) ∧ (n < (I k).sc.length → ∃ j : Nat, (I k).sc[n]? = some j ∧ scN (I k).sc n = nI j ∧ Ps ≤ j ∧ j < Pe ∧ ¬ scN (I k).sc n < 0) := by
  refine ⟨fun e => ?_, fun e => ?_⟩
  · unfold scN; rw [e, List.getElem?_eq_none (Nat.le_refl _)]; decide
  · have hg := List.getElem?_eq_getElem e
    have hm : (I k).sc[n] ∈ (I k).sc := List.getElem_mem e
    obtain ⟨a, b⟩ := (h.2.2.2 k h1 h2).2.1 _ hm
    have hs : scN (I k).sc n = nI ((I k).sc[n]) := by unfold scN; rw [hg]
    exact ⟨_, hg, hs, a, b, by rw [hs]; exact nI_nn (by have := h.2.1; omega)⟩
theorem cn_le {g : Nat → Int32} {a : Nat} : ∀ {m : Nat}, (∀ j : Nat, g j = 0 → f j = 0) → cn g a m ≤ cn f a m
  | 0, _ => Nat.le_refl _
  | m + 1, h => by
    have := cn_le (a := a) (m := m) h
    show cn g a m + _ ≤ cn f a m + _
    by_cases e : g (a + m) = 0
    · rw [if_pos e, if_pos (h _ e)]; omega
    · rw [if_neg e]; omega
theorem cn_lt {g : Nat → Int32} {a j : Nat} : ∀ {m : Nat}, (∀ j : Nat, g j = 0 → f j = 0) → a ≤ j → j < a + m → f j = 0 → g j ≠ 0 → cn g a m < cn f a m
  | 0, _, h1, h2, _, _ => by omega
  | m + 1, h, h1, h2, h3, h4 => by
    show cn g a m + _ < cn f a m + _
    by_cases e : j = a + m
    · subst e
      have := cn_le (a := a) (m := m) h
      rw [if_neg h4, if_pos h3]; omega
    · have := cn_lt (m := m) h h1 (by omega) h3 h4
      by_cases e2 : g (a + m) = 0
      · rw [if_pos e2, if_pos (h _ e2)]; omega
      · rw [if_neg e2]; omega
theorem cn_b {a : Nat} : ∀ {m : Nat}, cn f a m ≤ m
  | 0 => Nat.le_refl _
  | m + 1 => by
    have := cn_b (a := a) (m := m)
    show cn f a m + _ ≤ m + 1
    by_cases e : f (a + m) = 0
    · rw [if_pos e]; omega
    · rw [if_neg e]; omega
/-- a round of reach, before point k (its first n successors are done) -/
def RcI (R : yR) (S0 Sr S : Sg) (ws Ps Pe : Nat) (I : Nat → iR) (x2 : Int32) (k n : Nat) : Prop := PSx Sr S ∧ PCx R S0 S ws Ps Pe I ∧ (∀ r : Nat, 53 ≤ r → r ≤ 60 → Zl S r = Zl Sr r) ∧ Zi S = Zi Sr ∧ (∀ j : Nat, Ps ≤ j → j < Pe → Zr S 52 j = 0 ∨ Zr S 52 j = 1) ∧ Zr S 52 Ps = 1 ∧ (∀ j : Nat, Zr S 52 j = 0 → Zr Sr 52 j = 0) ∧ ((x2 = 0 ∧ Zr S 52 = Zr Sr 52 ∧ (∀ k' : Nat, Ps ≤ k' → k' < k → Zr S 52 k' = 1 → ∀ j ∈ (I k').sc, Zr S 52 j = 1) ∧ (Zr S 52 k = 1 → ∀ m j : Nat, m < n → (I k).sc[m]? = some j → Zr S 52 j = 1)) ∨ (x2 = 1 ∧ cn (Zr S 52) Ps (Pe - Ps) < cn (Zr Sr 52) Ps (Pe - Ps)))
theorem rch62 {k40 : Sg → Option Nat → Int32 → Option (Sg × Unit)} {k51 : Sg → Option Nat → Int32 → Int32 → Option (Sg × Unit)} {Q : Sg → Unit → Prop} (h1 : Ps ≤ k) (h2 : k < Pe) (kn : ∀ (S2 : Sg) (y2 : Int32), RcI R S0 Sr S2 ws Ps Pe I y2 (k + 1) 0 → Rt (k51 S2 (some ws) y2 (nI (k + 1))) Q) : ∀ (d n : Nat) (S : Sg) (x2 : Int32), (I k).sc.length < n + d → n ≤ (I k).sc.length → RcI R S0 Sr S ws Ps Pe I x2 k n → Rt (f_reach_62 R.K k40 k51 d S (some ws) x2 (nI k) (nI n)) Q
  | 0, n, S, x2, hd, hn, _ => by omega
  | d + 1, n, S, x2, hd, hn, hi => by
    have hi2 := hi
    obtain ⟨e, hC, hl, hz, hb, hp, hm, hx⟩ := hi
    have hk4 : k < 24000 := by have := hC.2.1; omega
    obtain ⟨s1, s2⟩ := hC.sc (n := n) h1 h2
    have h117 : (n = (I k).sc.length ∨ Zr S 52 k = 0) → Rt (f_reach_117 R.K k40 k51 S (some ws) x2 (nI k)) Q := fun hw => by
      unfold f_reach_117
      rw [nI_1]
      refine kn S x2 ⟨e, hC, hl, hz, hb, hp, hm, hx.imp (fun ⟨a, b, c, d⟩ => ⟨a, b, fun k' q1 q2 q3 j hj => ?_, fun _ m j hm => by omega⟩) id⟩
      by_cases ek : k' = k
      · subst ek
        rcases hw with hw | hw
        · obtain ⟨m, hm2⟩ := List.mem_iff_getElem?.mp hj
          exact d q3 m j (by have := (List.getElem?_eq_some_iff.mp hm2).1; omega) hm2
        · rw [hw] at q3; exact absurd q3 (by decide)
      · exact c k' q1 (by omega) q3 j hj
    unfold f_reach_62
    refine Rt.bd (rI_n (show k < rlen 52 from hk4) (by decide)) (Rt.it (fun w => h117 (Or.inr w)) (fun w => ?_))
    have hk1 : Zr S 52 k = 1 := (hb k h1 h2).resolve_left w
    refine Rt.be (hC.fl h1 h2 hn) (Rt.it (fun w2 => ?_) (fun w2 => ?_))
    · refine h117 (Or.inl ?_)
      by_cases q : n < (I k).sc.length
      · obtain ⟨j, _, _, _, _, b⟩ := s2 q; exact absurd w2 b
      · omega
    · have hlt : n < (I k).sc.length := by
        by_cases q : n < (I k).sc.length
        · exact q
        · exact absurd (s1 (by omega)) w2
      obtain ⟨j, j1, j2, j3, j4, _⟩ := s2 hlt
      refine Rt.be (hC.fl h1 h2 hn) ?_
      rw [j2]
      have hj4 : j < 24000 := by have := hC.2.1; omega
      refine Rt.bd (rI_n (show j < rlen 52 from hj4) (by decide)) (Rt.it (fun w3 => ?_) (fun w3 => ?_))
      · refine Rt.be (hC.fl h1 h2 hn) ?_
        rw [j2]
        refine Rt.bd (wZ_n (show j < rlen 52 from hj4) (by decide) (Or.inr rfl)) ?_
        unfold f_reach_111
        rw [nI_1]
        have e2 : PSx S (Ur S 52 (upd (Zr S 52) j 1)) := PSx.ur
        have er : Zr (Ur S 52 (upd (Zr S 52) j 1)) 52 = upd (Zr S 52) j 1 := Zr_us
        refine rch62 h1 h2 kn d (n + 1) _ 1 (by omega) (by omega) ⟨e.tr e2, hC.ps e2, hl, hz, fun q q1 q2 => ?_, ?_, fun q hq => ?_, Or.inr ⟨rfl, ?_⟩⟩
        · rw [er]
          by_cases z : q = j
          · rw [z, upd_s]; exact Or.inr rfl
          · rw [upd_n z]; exact hb q q1 q2
        · rw [er]
          by_cases z : Ps = j
          · rw [z, upd_s]
          · rw [upd_n z]; exact hp
        · rw [er] at hq
          by_cases z : q = j
          · rw [z, upd_s] at hq; exact absurd hq (by decide)
          · rw [upd_n z] at hq; exact hm q hq
        · rw [er]
          have c1 : cn (upd (Zr S 52) j 1) Ps (Pe - Ps) < cn (Zr S 52) Ps (Pe - Ps) := cn_lt (fun q hq => by
            by_cases z : q = j
            · rw [z, upd_s] at hq; exact absurd hq (by decide)
            · rw [upd_n z] at hq; exact hq) j3 (by omega) w3 (by rw [upd_s]; decide)
          have c2 : cn (Zr S 52) Ps (Pe - Ps) ≤ cn (Zr Sr 52) Ps (Pe - Ps) := cn_le hm
          omega
      · have hj1 : Zr S 52 j = 1 := (hb j j3 j4).resolve_left w3
        unfold f_reach_111
        rw [nI_1]
        refine rch62 h1 h2 kn d (n + 1) S x2 (by omega) (by omega) ⟨e, hC, hl, hz, hb, hp, hm, hx.imp (fun ⟨a, b, c, dd⟩ => ⟨a, b, c, fun q m j' hm2 hj' => ?_⟩) id⟩
        by_cases z : m = n
        · subst z; rw [j1] at hj'; cases hj'; exact hj1
        · exact dd q m j' (by omega) hj'
theorem rch51 {k40 : Sg → Option Nat → Int32 → Option (Sg × Unit)} {Q : Sg → Unit → Prop} (kn : ∀ (S2 : Sg) (y2 : Int32), RcI R S0 Sr S2 ws Ps Pe I y2 Pe 0 → Rt (k40 S2 (some ws) y2) Q) : ∀ (d k : Nat) (S : Sg) (x2 : Int32), Pe < k + d → Ps ≤ k → k ≤ Pe → RcI R S0 Sr S ws Ps Pe I x2 k 0 → Rt (f_reach_51 R.K k40 d S (some ws) x2 (nI k)) Q
  | 0, k, S, x2, hd, _, hk, _ => by omega
  | d + 1, k, S, x2, hd, h1, hk, hi => by
    have hC := hi.2.1
    have h24 := hC.2.1
    unfold f_reach_51
    refine Rt.bd hC.r4 (Rt.it (fun w => ?_) (fun w => ?_))
    · have : Pe ≤ k := (nI_leI (by omega) (by omega)).mp w
      obtain rfl : k = Pe := by omega
      exact kn S x2 hi
    · have hlt : k < Pe := by
        by_cases q : k < Pe
        · exact q
        · exact absurd (nI_le (a := Pe) (b := k) (by omega) (by omega)) w
      exact rch62 h1 hlt (fun S2 y2 hi2 => rch51 kn d (k + 1) S2 y2 (by omega) (by omega) (by omega) hi2) bigN 0 S x2 (by unfold bigN; have := (hC.2.2.2 k h1 hlt).2.2.1; omega) (Nat.zero_le _) hi
/-- the rounds of reach: what is reached is closed at the end -/
theorem rch40 {Q : Sg → Unit → Prop} (kf : ∀ S2 : Sg, PSx S S2 → PCx R S0 S2 ws Ps Pe I → (∀ j : Nat, Ps ≤ j → j < Pe → Zr S2 52 j = 0 ∨ Zr S2 52 j = 1) → Zr S2 52 Ps = 1 → (∀ k : Nat, Ps ≤ k → k < Pe → Zr S2 52 k = 1 → ∀ j ∈ (I k).sc, Zr S2 52 j = 1) → Zi S2 = Zi S → (∀ r : Nat, 53 ≤ r → r ≤ 60 → Zl S2 r = Zl S r) → Q S2 ()) : ∀ (d : Nat) (S1 : Sg) (x2 : Int32), cn (Zr S1 52) Ps (Pe - Ps) + 1 < d → PSx S S1 → PCx R S0 S1 ws Ps Pe I → (∀ j : Nat, Ps ≤ j → j < Pe → Zr S1 52 j = 0 ∨ Zr S1 52 j = 1) → Zr S1 52 Ps = 1 → Zi S1 = Zi S → (∀ r : Nat, 53 ≤ r → r ≤ 60 → Zl S1 r = Zl S r) → (x2 = 1 ∨ (x2 = 0 ∧ ∀ k : Nat, Ps ≤ k → k < Pe → Zr S1 52 k = 1 → ∀ j ∈ (I k).sc, Zr S1 52 j = 1)) → Rt (f_reach_40 R.K d S1 (some ws) x2) Q
  | 0, S1, x2, hd, _, _, _, _, _, _, _ => by omega
  | d + 1, S1, x2, hd, e, hC, hb, hp, hz, hl, hx => by
    unfold f_reach_40
    refine Rt.it (fun w => ?_) (fun w => ?_)
    · refine Rt.rt (kf S1 e hC hb hp ?_ hz hl)
      rcases hx with q | q
      · rw [q] at w; exact absurd w (by decide)
      · exact q.2
    · refine Rt.bd hC.r5 ?_
      refine rch51 (Sr := S1) (fun S2 y2 hi => ?_) bigN Ps S1 0 (by unfold bigN; have := hC.2.1; omega) (Nat.le_refl _) (Nat.le_of_lt hC.1) ⟨PSx.rf, hC, fun _ _ _ => rfl, rfl, hb, hp, fun _ q => q, Or.inl ⟨rfl, rfl, fun k' q1 q2 => by omega, fun _ m j hm => by omega⟩⟩
      obtain ⟨e2, hC2, hl2, hz2, hb2, hp2, hm2, hx2⟩ := hi
      have hcl : cn (Zr S2 52) Ps (Pe - Ps) ≤ cn (Zr S1 52) Ps (Pe - Ps) := cn_le hm2
      rcases hx2 with ⟨q1, q2, q3, q4⟩ | ⟨q1, q2⟩
      · subst q1
        cases d with
        | zero => omega
        | succ d =>
          unfold f_reach_40
          exact Rt.ip rfl (Rt.rt (kf S2 (e.tr e2) hC2 hb2 hp2 (fun k a b => q3 k a b) (hz2.trans hz) (fun r a b => (hl2 r a b).trans (hl r a b))))
      · exact rch40 kf d S2 y2 (by omega) (e.tr e2) hC2 hb2 hp2 (hz2.trans hz) (fun r a b => (hl2 r a b).trans (hl r a b)) (Or.inl q1)
/-- the flags are cleared -/
theorem rch5 {Q : Sg → Unit → Prop} (kf : ∀ S2 : Sg, PSx S S2 → PCx R S0 S2 ws Ps Pe I → (∀ j : Nat, Ps ≤ j → j < Pe → Zr S2 52 j = 0 ∨ Zr S2 52 j = 1) → Zr S2 52 Ps = 1 → Zi S2 = Zi S → (∀ r : Nat, 53 ≤ r → r ≤ 60 → Zl S2 r = Zl S r) → Rt (f_reach_40 R.K bigN S2 (some ws) 1) Q) : ∀ (d k : Nat) (S1 : Sg), Pe < k + d → Ps ≤ k → k ≤ Pe → PSx S S1 → PCx R S0 S1 ws Ps Pe I → (∀ j : Nat, Ps ≤ j → j < k → Zr S1 52 j = 0 ∨ Zr S1 52 j = 1) → (Ps < k → Zr S1 52 Ps = 1) → Zi S1 = Zi S → (∀ r : Nat, 53 ≤ r → r ≤ 60 → Zl S1 r = Zl S r) → Rt (f_reach_5 R.K d S1 (some ws) (nI k)) Q
  | 0, k, S1, hd, _, _, _, _, _, _, _, _ => by omega
  | d + 1, k, S1, hd, h1, hk, e, hC, hb, hp, hz, hl => by
    have h24 := hC.2.1
    have hPP := hC.1
    unfold f_reach_5
    refine Rt.bd hC.r4 (Rt.it (fun w => ?_) (fun w => ?_))
    · have : Pe ≤ k := (nI_leI (by omega) (by omega)).mp w
      obtain rfl : k = Pe := by omega
      exact kf S1 e hC hb (hp (by omega)) hz hl
    · have hlt : k < Pe := by
        by_cases q : k < Pe
        · exact q
        · exact absurd (nI_le (a := Pe) (b := k) (by omega) (by omega)) w
      have h31 : ∀ v : Int32, (v = 0 ∨ v = 1) → (k = Ps → v = 1) → Rt (f_reach_31 R.K ((f_reach_5 R.K d)) S1 (some ws) (nI k) v (nI k)) Q := fun v hv hv1 => by
        unfold f_reach_31
        refine Rt.bd (wZ_n (show k < rlen 52 from by show k < 24000; omega) (by decide) hv) ?_
        rw [nI_1]
        have e2 : PSx S1 (Ur S1 52 (upd (Zr S1 52) k v)) := PSx.ur
        have er : Zr (Ur S1 52 (upd (Zr S1 52) k v)) 52 = upd (Zr S1 52) k v := Zr_us
        refine rch5 kf d (k + 1) _ (by omega) (by omega) (by omega) (e.tr e2) (hC.ps e2) (fun j j1 j2 => ?_) (fun _ => ?_) hz hl
        · rw [er]
          by_cases z : j = k
          · rw [z, upd_s]; exact hv
          · rw [upd_n z]; exact hb j j1 (by omega)
        · rw [er]
          by_cases z : Ps = k
          · rw [z, upd_s]; exact hv1 z.symm
          · rw [upd_n z]; exact hp (by omega)
      refine Rt.bd hC.r5 (Rt.it (fun w2 => h31 1 (Or.inr rfl) (fun _ => rfl)) (fun w2 => h31 0 (Or.inl rfl) (fun q => absurd (by rw [q]) w2)))
/-- reach -/
theorem rch_ (hC : PCx R S0 S ws Ps Pe I) : Rt (f_reach R.K S (some ws)) (fun S2 _ => PSx S S2 ∧ PCx R S0 S2 ws Ps Pe I ∧ (∀ j : Nat, Ps ≤ j → j < Pe → Zr S2 52 j = 0 ∨ Zr S2 52 j = 1) ∧ Zr S2 52 Ps = 1 ∧ (∀ k : Nat, Ps ≤ k → k < Pe → Zr S2 52 k = 1 → ∀ j ∈ (I k).sc, Zr S2 52 j = 1) ∧ Zi S2 = Zi S ∧ ∀ r : Nat, 53 ≤ r → r ≤ 60 → Zl S2 r = Zl S r) := by
  have h24 := hC.2.1
  unfold f_reach
  refine Rt.bd hC.r5 (rch5 (fun S2 e2 hC2 hb2 hp2 hz2 hl2 => ?_) bigN Ps S (by unfold bigN; omega) (Nat.le_refl _) (Nat.le_of_lt hC.1) PSx.rf hC (fun j a b => by omega) (fun a => by omega) rfl (fun _ _ _ => rfl))
  exact rch40 (S := S) (fun S3 a b c d e f g => ⟨a, b, c, d, e, f, g⟩) bigN S2 1 (by unfold bigN; have := cn_b (f := Zr S2 52) (a := Ps) (m := Pe - Ps); omega) e2 hC2 hb2 hp2 hz2 hl2 (Or.inl rfl)
end PS1
end
-- m2.c.lean.txt
section
/-- only the rows of longs in P are written -/
def OXs (P : Nat → Prop) (S S2 : Sg) : Prop := PSx S S2 ∧ (∀ r : Nat, ¬ P r → Zl S2 r = Zl S r) ∧ Zr S2 = Zr S ∧ Zi S2 = Zi S
/-- how many of the first n bits are 0 -/
def zc (x : Int64) : Nat → Nat
  | 0 => 0
  | n + 1 => zc x n + (if lbit x n = true then 0 else 1)
/-- .. of m words from a on -/
def cw (f : Nat → Int64) (a : Nat) : Nat → Nat
  | 0 => 0
  | m + 1 => cw f a m + zc (f (a + m)) 64
/-- all that f has g has -/
def sbL (f g : Nat → Int64) : Prop := ∀ w b : Nat, lbit (f w) b = true → lbit (g w) b = true
section PS2
variable {R : yR} {S0 S S1 S2 Sr : Sg} {ws Ps Pe k n : Nat} {I : Nat → iR} {f g : Nat → Int64} {P : Nat → Prop} {x y : Int64}
theorem OXs.rf : OXs P S S := ⟨PSx.rf, fun _ _ => rfl, rfl, rfl⟩
theorem OXs.tr (a : OXs P S S1) (b : OXs P S1 S2) : OXs P S S2 := ⟨a.1.tr b.1, fun r h => (b.2.1 r h).trans (a.2.1 r h), b.2.2.1.trans a.2.2.1, b.2.2.2.trans a.2.2.2⟩
theorem OXs.ul {r : Nat} {f : Nat → Int64} (hr : 53 ≤ r ∧ r ≤ 60) (h : P r) : OXs P S (Ul S r f) := ⟨PSx.ul hr, fun r2 h2 => va_up_ne _ _ (fun e => h2 (e ▸ h)), rfl, rfl⟩
theorem OXs.mo {P2 : Nat → Prop} (a : OXs P S S2) (h : ∀ r : Nat, P r → P2 r) : OXs P2 S S2 := ⟨a.1, fun r q => a.2.1 r (fun w => q (h r w)), a.2.2⟩
theorem Zl_us {r : Nat} {f : Nat → Int64} : Zl (Ul S r f) r = f := va_up_self _ _ _
theorem Zl_un {r r2 : Nat} {f : Nat → Int64} (h : r2 ≠ r) : Zl (Ul S r f) r2 = Zl S r2 := va_up_ne _ _ h
theorem zc_le : ∀ {n : Nat}, (∀ b : Nat, lbit x b = true → lbit y b = true) → zc y n ≤ zc x n
  | 0, _ => Nat.le_refl _
  | n + 1, h => by
    have := zc_le (n := n) h
    show zc y n + _ ≤ zc x n + _
    by_cases e : lbit x n = true
    · rw [if_pos e, if_pos (h _ e)]; omega
    · rw [if_neg e]
      by_cases e2 : lbit y n = true
      · rw [if_pos e2]; omega
      · rw [if_neg e2]; omega
theorem zc_lt {b : Nat} : ∀ {n : Nat}, (∀ b : Nat, lbit x b = true → lbit y b = true) → b < n → lbit x b = false → lbit y b = true → zc y n < zc x n
  | 0, _, h, _, _ => by omega
  | n + 1, h, h1, h2, h3 => by
    show zc y n + _ < zc x n + _
    by_cases e : b = n
    · subst e
      have := zc_le (n := b) h
      rw [if_pos h3, if_neg (by rw [h2]; decide)]; omega
    · have := zc_lt (n := n) h (by omega) h2 h3
      by_cases e1 : lbit x n = true
      · rw [if_pos e1, if_pos (h _ e1)]; omega
      · rw [if_neg e1]
        by_cases e2 : lbit y n = true
        · rw [if_pos e2]; omega
        · rw [if_neg e2]; omega
theorem zc_b : ∀ {n : Nat}, zc x n ≤ n
  | 0 => Nat.le_refl _
  | n + 1 => by
    have := zc_b (n := n)
    show zc x n + _ ≤ n + 1
    by_cases e : lbit x n = true
    · rw [if_pos e]; omega
    · rw [if_neg e]; omega
theorem cw_le {a : Nat} : ∀ {m : Nat}, sbL f g → cw g a m ≤ cw f a m
  | 0, _ => Nat.le_refl _
  | m + 1, h => by
    have := cw_le (a := a) (m := m) h
    have := zc_le (n := 64) (h (a + m))
    show cw g a m + _ ≤ cw f a m + _
    omega
theorem cw_lt {a w : Nat} : ∀ {m : Nat}, sbL f g → a ≤ w → w < a + m → f w ≠ g w → cw g a m < cw f a m
  | 0, _, h1, h2, _ => by omega
  | m + 1, h, h1, h2, h3 => by
    show cw g a m + _ < cw f a m + _
    by_cases e : w = a + m
    · subst e
      have := cw_le (a := a) (m := m) h
      have hb : ∃ b : Nat, b < 64 ∧ lbit (f (a + m)) b = false ∧ lbit (g (a + m)) b = true := by
        refine Classical.byContradiction (fun q => h3 (lbit_eq (fun b hb => ?_)))
        by_cases q1 : lbit (f (a + m)) b = true
        · rw [q1, h _ _ q1]
        · by_cases q2 : lbit (g (a + m)) b = true
          · exact absurd ⟨b, hb, by simpa using q1, q2⟩ q
          · rw [show lbit (f (a + m)) b = false by simpa using q1, show lbit (g (a + m)) b = false by simpa using q2]
      obtain ⟨b, b1, b2, b3⟩ := hb
      have := zc_lt (n := 64) (h (a + m)) b1 b2 b3
      omega
    · have := cw_lt (m := m) h h1 (by omega) h3
      have := zc_le (n := 64) (h (a + m))
      omega
theorem cw_b {a : Nat} : ∀ {m : Nat}, cw f a m ≤ 64 * m
  | 0 => Nat.le_refl _
  | m + 1 => by
    have := cw_b (a := a) (m := m)
    have := zc_b (x := f (a + m)) (n := 64)
    show cw f a m + _ ≤ _
    omega
theorem sbL.rf : sbL f f := fun _ _ h => h
theorem sbL.tr {h : Nat → Int64} (a : sbL f g) (b : sbL g h) : sbL f h := fun w c q => b w c (a w c q)
theorem sbL.or {j : Nat} {v : Int64} : sbL f (vp_updL f j (f j ||| v)) := fun w b h => by
  by_cases e : w = j
  · subst e
    rw [show vp_updL f w (f w ||| v) w = f w ||| v from if_pos rfl, lbit_or, h]; rfl
  · rw [show vp_updL f j (f j ||| v) w = f w from if_neg e]; exact h
theorem upL_s {j : Nat} {v : Int64} : vp_updL f j v j = v := if_pos rfl
theorem upL_n {j w : Nat} {v : Int64} (h : w ≠ j) : vp_updL f j v w = f w := if_neg h
/-- who is used at point j or behind -/
def AHd (i : iR) (f : Nat → Int64) (j h : Nat) : Prop := h ∈ i.us ∨ (rb f (4 * j) h = true ∧ i.ho ≠ some h)
theorem ah55 {j : Nat} {B : Nat → Prop} (hC : PCx R S0 S ws Ps Pe I) (h1 : Ps ≤ j) (h2 : j < Pe) : ∀ (d n : Nat) (S1 : Sg), (I j).us.length < n + d → n ≤ (I j).us.length → OXs (fun r => r = 60) S S1 → (∀ h : Nat, h < 256 → (rb (Zl S1 60) 0 h = true ↔ (B h ∨ ∃ m : Nat, m < n ∧ (I j).us[m]? = some h))) → Rt (f_ahead_55 R.K d S1 (nI j) (nI n)) (fun S2 _ => OXs (fun r => r = 60) S S2 ∧ ∀ h : Nat, h < 256 → (rb (Zl S2 60) 0 h = true ↔ (B h ∨ h ∈ (I j).us)))
  | 0, n, S1, hd, hn, _, _ => by omega
  | d + 1, n, S1, hd, hn, e, hr => by
    obtain ⟨hz, hs, hsl, hb⟩ := hC.2.2.2 j h1 h2
    have h24 := hC.2.1
    have hz1 := hz.ps e.1
    obtain ⟨_, _, _, _, _, _, q7, _⟩ := hz1
    have hend : n = (I j).us.length → Rt (f_ahead_98 R.K S1) (fun S2 _ => OXs (fun r => r = 60) S S2 ∧ ∀ h : Nat, h < 256 → (rb (Zl S2 60) 0 h = true ↔ (B h ∨ h ∈ (I j).us))) := fun hh => by
      unfold f_ahead_98
      refine Rt.rt ⟨e, fun h hh2 => (hr h hh2).trans ⟨fun w => w.imp id (fun ⟨m, _, q⟩ => List.mem_of_getElem? q), fun w => w.imp id (fun q => ?_)⟩⟩
      obtain ⟨m, hm⟩ := List.mem_iff_getElem?.mp q
      exact ⟨m, by have := (List.getElem?_eq_some_iff.mp hm).1; omega, hm⟩
    unfold f_ahead_55
    have r37 : rQ S1 37 (nI j) = some (Zq S1 37 j) := rQ_n (show j < rlen 37 from by show j < 24000; omega) (by decide)
    rcases q7 with ⟨a1, a2⟩ | ⟨a, ff, a1, a2, a3, a4, a5⟩
    · rw [a1] at r37
      exact Rt.bd r37 (Rt.ip rfl (hend (by rw [a2] at hn ⊢; exact Nat.le_zero.mp hn)))
    · rw [a1] at r37
      have hlen : (I j).us.length ≤ 12 := hb.2.2.2.1
      refine Rt.bd r37 (Rt.iq (by simp) (Rt.bd r37 (Rt.bd (aLn_n a2 a3) (Rt.it (fun w => ?_) (fun w => ?_)))))
      · exact hend (by have := (nI_leI (by omega) (by omega)).mp w; omega)
      · have hlt : n < (I j).us.length := by
          by_cases q : n < (I j).us.length
          · exact q
          · exact absurd (nI_le (a := (I j).us.length) (b := n) (by omega) (by omega)) w
        have hg := List.getElem?_eq_getElem hlt
        obtain ⟨b1, b2⟩ := a5 n _ hg
        have hu := hb.2.1 _ (List.getElem_mem hlt)
        refine Rt.bd r37 (Rt.bd (by rw [aI_n a2 a3 hlt (by omega), b1]) ?_)
        refine Rt.be (put_ (base := 0) (on := true) (by omega) (show 0 + (I j).us[n] / 64 < rlen 60 from by show _ < 4; omega) (by decide)) ?_
        rw [nI_1]
        have e2 : OXs (fun r => r = 60) S1 (Ul S1 60 (pB (Zl S1 60) 0 (I j).us[n] true)) := OXs.ul (by decide) rfl
        refine ah55 hC h1 h2 d (n + 1) _ (by omega) (by omega) (e.tr e2) (fun h hh => ?_)
        rw [Zl_us, rb_pB]
        by_cases c : 0 + h / 64 = 0 + (I j).us[n] / 64 ∧ h % 64 = (I j).us[n] % 64
        · have : h = (I j).us[n] := by omega
          rw [if_pos c]
          exact ⟨fun _ => Or.inr ⟨n, Nat.lt_succ_self _, by rw [this]; exact hg⟩, fun _ => rfl⟩
        · rw [if_neg c, hr h hh]
          refine ⟨fun w => w.imp id (fun ⟨m, m1, m2⟩ => ⟨m, by omega, m2⟩), fun w => w.imp id (fun ⟨m, m1, m2⟩ => ⟨m, ?_, m2⟩)⟩
          by_cases em : m = n
          · subst em
            rw [hg] at m2
            have := Option.some.inj m2
            exact absurd ⟨by omega, by omega⟩ c
          · omega
end PS2
end
-- m2.d.lean.txt
section
section PS3
variable {R : yR} {S0 S S1 S2 Sr : Sg} {ws Ps Pe k n : Nat} {I : Nat → iR} {f g : Nat → Int64} {P : Nat → Prop} {x y : Int64}
theorem nI_4 (n : Nat) : 4 * nI n = nI (4 * n) := (Int32.ofNat_mul 4 n).symm
theorem nI_p2 {j a : Nat} (hj : j < 2 ^ 31) (ha : a < 2 ^ 31) : nI j - 1 < nI a ↔ j ≤ a := by
  cases j with
  | zero =>
    refine ⟨fun _ => Nat.zero_le _, fun _ => ?_⟩
    have h : (nI 0 - 1 : Int32) < 0 := by decide
    exact Int32.lt_of_lt_of_le h (nI_le (a := 0) (b := a) (Nat.zero_le _) ha)
  | succ m =>
    rw [nI_pred m, nI_ltI (by omega) ha]
    omega
theorem upL_id {j : Nat} {v : Int64} (h : v = f j) : vp_updL f j v = f := funext (fun w => by
  by_cases e : w = j
  · subst e; rw [upL_s, h]
  · rw [upL_n e])
theorem ah2 {j : Nat} (hC : PCx R S0 S ws Ps Pe I) (h1 : Ps ≤ j) (h2 : j < Pe) : ∀ (d w : Nat) (S1 : Sg), 4 < w + d → w ≤ 4 → OXs (fun r => r = 60) S S1 → (∀ v : Nat, v < w → Zl S1 60 v = Zl S 58 (4 * j + v)) → Rt (f_ahead_2 R.K d S1 (nI j) (nI w)) (fun S2 _ => OXs (fun r => r = 60) S S2 ∧ ∀ h : Nat, h < 256 → (rb (Zl S2 60) 0 h = true ↔ AHd (I j) (Zl S 58) j h))
  | 0, w, S1, hd, hn, _, _ => by omega
  | d + 1, w, S1, hd, hn, e, hr => by
    obtain ⟨hz, hs, hsl, hb⟩ := hC.2.2.2 j h1 h2
    have h24 := hC.2.1
    unfold f_ahead_2
    refine Rt.it (fun q => ?_) (fun q => ?_)
    · have hw : 4 ≤ w := (nI_leI (a := 4) (b := w) (by decide) (by omega)).mp q
      obtain rfl : w = 4 := by omega
      have hz1 := hz.ps e.1
      obtain ⟨_, _, _, _, q5, _⟩ := hz1
      have r34 : rI S1 34 (nI j) = some (oNm (I j).ho) := by rw [rI_n (show j < rlen 34 from by show j < 24000; omega) (by decide), q5]
      have hrb : ∀ h : Nat, h < 256 → rb (Zl S1 60) 0 h = rb (Zl S 58) (4 * j) h := fun h hh => by
        unfold rb; rw [Nat.zero_add, hr (h / 64) (by omega)]
      have h53 : ∀ (S3 : Sg), OXs (fun r => r = 60) S S3 → (∀ h : Nat, h < 256 → (rb (Zl S3 60) 0 h = true ↔ (rb (Zl S 58) (4 * j) h = true ∧ (I j).ho ≠ some h))) → Rt (f_ahead_53 R.K S3 (nI j)) (fun S2 _ => OXs (fun r => r = 60) S S2 ∧ ∀ h : Nat, h < 256 → (rb (Zl S2 60) 0 h = true ↔ AHd (I j) (Zl S 58) j h)) := fun S3 e3 h3 => by
        unfold f_ahead_53
        refine (ah55 (B := fun h => rb (Zl S 58) (4 * j) h = true ∧ (I j).ho ≠ some h) hC h1 h2 bigN 0 S3 (by unfold bigN; have := hb.2.2.2.1; omega) (Nat.zero_le _) e3 (fun h hh => (h3 h hh).trans ⟨Or.inl, fun w => w.elim id (fun ⟨m, hm, _⟩ => by omega)⟩)).mo (fun S4 _ ⟨a, b⟩ => ⟨a, fun h hh => (b h hh).trans ⟨fun w => w.elim Or.inr Or.inl, fun w => w.elim Or.inr Or.inl⟩⟩)
      refine Rt.bd r34 (Rt.it (fun q2 => ?_) (fun q2 => ?_))
      · refine h53 S1 e (fun h hh => ?_)
        rw [hrb h hh]
        refine ⟨fun w => ⟨w, fun e9 => ?_⟩, fun w => w.1⟩
        rw [e9] at q2
        exact absurd q2 (nI_nn (a := h) (by omega))
      · refine Rt.bd r34 ?_
        cases hho : (I j).ho with
        | none => rw [hho] at q2; exact absurd (show (-1 : Int32) < 0 by decide) q2
        | some u =>
          have hu := hb.1 u hho
          refine Rt.be (put_ (base := 0) (on := false) (b := u) (by omega) (show 0 + u / 64 < rlen 60 from by show _ < 4; omega) (by decide)) ?_
          have e2 : OXs (fun r => r = 60) S1 (Ul S1 60 (pB (Zl S1 60) 0 u false)) := OXs.ul (by decide) rfl
          refine h53 _ (e.tr e2) (fun h hh => ?_)
          rw [Zl_us, rb_pB]
          by_cases c : 0 + h / 64 = 0 + u / 64 ∧ h % 64 = u % 64
          · have : h = u := by omega
            rw [if_pos c, hho]
            exact ⟨fun w => absurd w (by decide), fun w => absurd (by rw [this]) w.2⟩
          · rw [if_neg c, hrb h hh, hho]
            exact ⟨fun w => ⟨w, fun e9 => c (by have := Option.some.inj e9; subst this; exact ⟨rfl, rfl⟩)⟩, fun w => w.1⟩
    · have hw : w < 4 := by
        by_cases q2 : w < 4
        · exact q2
        · exact absurd (nI_le (a := 4) (b := w) (by omega) (by omega)) q
      rw [nI_4, nI_add]
      refine Rt.bd (rJ_n (show 4 * j + w < rlen 58 from by show _ < 96000; omega) (by decide)) (Rt.bd (wJ_n (show w < rlen 60 from hw) (by decide)) ?_)
      rw [nI_1]
      have e2 : OXs (fun r => r = 60) S1 (Ul S1 60 (vp_updL (Zl S1 60) w (Zl S1 58 (4 * j + w)))) := OXs.ul (by decide) rfl
      refine ah2 hC h1 h2 d (w + 1) _ (by omega) (by omega) (e.tr e2) (fun v hv => ?_)
      rw [Zl_us]
      by_cases ev : v = w
      · subst ev; rw [upL_s, e.2.1 58 (by decide)]
      · rw [upL_n ev]; exact hr v (by omega)
theorem ahd_ {j : Nat} (hC : PCx R S0 S ws Ps Pe I) (h1 : Ps ≤ j) (h2 : j < Pe) : Rt (f_ahead R.K S (nI j)) (fun S2 _ => OXs (fun r => r = 60) S S2 ∧ ∀ h : Nat, h < 256 → (rb (Zl S2 60) 0 h = true ↔ AHd (I j) (Zl S 58) j h)) := by
  unfold f_ahead
  exact ah2 hC h1 h2 bigN 0 S (by unfold bigN; omega) (Nat.zero_le _) OXs.rf (fun v hv => by omega)
/-- what is used behind point k is told there -/
def LvC (I : Nat → iR) (f : Nat → Int64) (k : Nat) (j : Nat) : Prop := ∀ h : Nat, h < 256 → AHd (I j) f j h → rb f (4 * k) h = true
/-- a round of lives: points from kk on are done, of the one below n successors -/
def LvI (R : yR) (S0 Sr S : Sg) (ws Ps Pe : Nat) (I : Nat → iR) (x2 : Int32) (kk n : Nat) : Prop := OXs (fun r => r = 58 ∨ r = 60) Sr S ∧ PCx R S0 S ws Ps Pe I ∧ sbL (Zl Sr 58) (Zl S 58) ∧ ((x2 = 0 ∧ Zl S 58 = Zl Sr 58 ∧ (∀ k' : Nat, kk ≤ k' → k' < Pe → ∀ j ∈ (I k').sc, LvC I (Zl S 58) k' j) ∧ (∀ m j : Nat, m < n → (I (kk - 1)).sc[m]? = some j → LvC I (Zl S 58) (kk - 1) j)) ∨ (x2 = 1 ∧ cw (Zl S 58) (4 * Ps) (4 * (Pe - Ps)) < cw (Zl Sr 58) (4 * Ps) (4 * (Pe - Ps))))
theorem lv80 {k32 : Sg → Option Nat → Int32 → Option (Sg × Unit)} {k45 : Sg → Option Nat → Int32 → Int32 → Option (Sg × Unit)} {k56 : Sg → Option Nat → Int32 → Int32 → Int32 → Option (Sg × Unit)} {Q : Sg → Unit → Prop} {j : Nat} (h1 : Ps ≤ k) (h2 : k < Pe) (hj : (I k).sc[n]? = some j) (kn : ∀ (S2 : Sg) (y2 : Int32), LvI R S0 Sr S2 ws Ps Pe I y2 (k + 1) (n + 1) → Rt (k56 S2 (some ws) y2 (nI k) (nI (n + 1))) Q) : ∀ (d w : Nat) (S : Sg) (x2 : Int32), 4 < w + d → w ≤ 4 → LvI R S0 Sr S ws Ps Pe I x2 (k + 1) n → (x2 = 0 → (∀ h : Nat, h < 256 → (rb (Zl S 60) 0 h = true ↔ AHd (I j) (Zl Sr 58) j h)) ∧ ∀ v b : Nat, v < w → lbit (Zl S 60 v) b = true → lbit (Zl S 58 (4 * k + v)) b = true) → Rt (f_spreadLives_80 R.K k32 k45 k56 d S (some ws) x2 (nI k) (nI n) (nI w)) Q
  | 0, w, S, x2, hd, hn, _, _ => by omega
  | d + 1, w, S, x2, hd, hn, hi, hA => by
    have hi2 := hi
    obtain ⟨e, hC, hs, hx⟩ := hi2
    have h24 := hC.2.1
    unfold f_spreadLives_80
    refine Rt.it (fun q => ?_) (fun q => ?_)
    · have hw : 4 ≤ w := (nI_leI (a := 4) (b := w) (by decide) (by omega)).mp q
      obtain rfl : w = 4 := by omega
      rw [nI_1]
      refine kn S x2 ⟨e, hC, hs, hx.imp (fun ⟨a, b, c, dd⟩ => ⟨a, b, c, fun m j' hm hj' => ?_⟩) id⟩
      by_cases em : m = n
      · subst em
        rw [show k + 1 - 1 = k from rfl, hj] at hj'
        cases hj'
        obtain ⟨a1, a2⟩ := hA a
        intro h hh hah
        rw [show k + 1 - 1 = k from rfl]
        rw [b] at hah ⊢
        have := (a1 h hh).mpr hah
        unfold rb at this ⊢
        rw [Nat.zero_add] at this
        rw [← b]
        exact a2 (h / 64) (h % 64) (by omega) this
      · exact dd m j' (by omega) hj'
    · have hw : w < 4 := by
        by_cases q2 : w < 4
        · exact q2
        · exact absurd (nI_le (a := 4) (b := w) (by omega) (by omega)) q
      rw [nI_4, nI_add]
      have r58 : rJ S 58 (nI (4 * k + w)) = some (Zl S 58 (4 * k + w)) := rJ_n (show 4 * k + w < rlen 58 from by show _ < 96000; omega) (by decide)
      have r60 : rJ S 60 (nI w) = some (Zl S 60 w) := rJ_n (show w < rlen 60 from hw) (by decide)
      have h126 : ∀ y2 : Int32, ((y2 = x2 ∧ Zl S 58 (4 * k + w) ||| Zl S 60 w = Zl S 58 (4 * k + w)) ∨ (y2 = 1 ∧ Zl S 58 (4 * k + w) ||| Zl S 60 w ≠ Zl S 58 (4 * k + w))) → Rt (f_spreadLives_126 R.K k32 k45 k56 ((f_spreadLives_80 R.K k32 k45 k56 d)) S (some ws) y2 (nI k) (nI n) (nI w) (Zl S 58 (4 * k + w) ||| Zl S 60 w)) Q := fun y2 hy => by
        unfold f_spreadLives_126
        rw [nI_4, nI_add]
        refine Rt.bd (wJ_n (show 4 * k + w < rlen 58 from by show _ < 96000; omega) (by decide)) ?_
        rw [nI_1]
        have e2 : OXs (fun r => r = 58 ∨ r = 60) S (Ul S 58 (vp_updL (Zl S 58) (4 * k + w) (Zl S 58 (4 * k + w) ||| Zl S 60 w))) := OXs.ul (by decide) (Or.inl rfl)
        have e58 : Zl (Ul S 58 (vp_updL (Zl S 58) (4 * k + w) (Zl S 58 (4 * k + w) ||| Zl S 60 w))) 58 = vp_updL (Zl S 58) (4 * k + w) (Zl S 58 (4 * k + w) ||| Zl S 60 w) := Zl_us
        have e60 : Zl (Ul S 58 (vp_updL (Zl S 58) (4 * k + w) (Zl S 58 (4 * k + w) ||| Zl S 60 w))) 60 = Zl S 60 := Zl_un (by decide)
        have hs2 : sbL (Zl S 58) (vp_updL (Zl S 58) (4 * k + w) (Zl S 58 (4 * k + w) ||| Zl S 60 w)) := sbL.or
        rcases hy with ⟨hy1, hy2⟩ | ⟨hy1, hy2⟩
        · have hid : vp_updL (Zl S 58) (4 * k + w) (Zl S 58 (4 * k + w) ||| Zl S 60 w) = Zl S 58 := upL_id hy2
          refine lv80 h1 h2 hj kn d (w + 1) _ y2 (by omega) (by omega) ⟨e.tr e2, hC.ps e2.1, by rw [e58, hid]; exact hs, by rw [e58, hid, hy1]; exact hx⟩ (fun y0 => ?_)
          rw [e58, e60, hid]
          obtain ⟨a1, a2⟩ := hA (hy1.symm.trans y0)
          refine ⟨a1, fun v b hv hb => ?_⟩
          by_cases ev : v = w
          · subst ev; rw [← hy2, lbit_or, hb]; simp
          · exact a2 v b (by omega) hb
        · refine lv80 h1 h2 hj kn d (w + 1) _ y2 (by omega) (by omega) ⟨e.tr e2, hC.ps e2.1, by rw [e58]; exact hs.tr hs2, Or.inr ⟨hy1, ?_⟩⟩ (fun y0 => absurd (hy1.symm.trans y0) (by decide))
          rw [e58]
          have c1 := cw_lt (a := 4 * Ps) (w := 4 * k + w) (m := 4 * (Pe - Ps)) hs2 (by omega) (by omega) (by rw [upL_s]; exact fun w => hy2 w.symm)
          have c2 := cw_le (a := 4 * Ps) (m := 4 * (Pe - Ps)) hs
          omega
      refine Rt.bd r58 (Rt.bd r60 (Rt.bd r58 (Rt.it (fun q2 => h126 x2 (Or.inl ⟨rfl, lgc0.mp q2⟩)) (fun q2 => h126 1 (Or.inr ⟨rfl, fun w => q2 (lgc0.mpr w)⟩)))))
end PS3
end
-- m2.e.lean.txt
section
section PS4
variable {R : yR} {S0 S S1 S2 Sr : Sg} {ws Ps Pe k n : Nat} {I : Nat → iR} {f g : Nat → Int64} {P : Nat → Prop} {x y : Int64}
theorem lv56 {k32 : Sg → Option Nat → Int32 → Option (Sg × Unit)} {k45 : Sg → Option Nat → Int32 → Int32 → Option (Sg × Unit)} {Q : Sg → Unit → Prop} (h1 : Ps ≤ k) (h2 : k < Pe) (kn : ∀ (S2 : Sg) (y2 : Int32), LvI R S0 Sr S2 ws Ps Pe I y2 k 0 → Rt (k45 S2 (some ws) y2 (nI k - 1)) Q) : ∀ (d n : Nat) (S : Sg) (x2 : Int32), (I k).sc.length < n + d → n ≤ (I k).sc.length → LvI R S0 Sr S ws Ps Pe I x2 (k + 1) n → Rt (f_spreadLives_56 R.K k32 k45 d S (some ws) x2 (nI k) (nI n)) Q
  | 0, n, S, x2, hd, hn, _ => by omega
  | d + 1, n, S, x2, hd, hn, hi => by
    have hi2 := hi
    obtain ⟨e, hC, hs, hx⟩ := hi2
    obtain ⟨s1, s2⟩ := hC.sc (n := n) h1 h2
    unfold f_spreadLives_56
    refine Rt.be (hC.fl h1 h2 hn) (Rt.it (fun w2 => ?_) (fun w2 => ?_))
    · have hnl : n = (I k).sc.length := by
        by_cases q : n < (I k).sc.length
        · obtain ⟨j, _, _, _, _, b⟩ := s2 q; exact absurd w2 b
        · omega
      rw [show nI k + (-1) = nI k - 1 from (Int32.sub_eq_add_neg _ _).symm]
      refine kn S x2 ⟨e, hC, hs, hx.imp (fun ⟨a, b, c, dd⟩ => ⟨a, b, fun k' q1 q2 j hj => ?_, fun m j hm => by omega⟩) id⟩
      by_cases ek : k' = k
      · subst ek
        obtain ⟨m, hm⟩ := List.mem_iff_getElem?.mp hj
        exact dd m j (by have := (List.getElem?_eq_some_iff.mp hm).1; omega) hm
      · exact c k' (by omega) q2 j hj
    · have hlt : n < (I k).sc.length := by
        by_cases q : n < (I k).sc.length
        · exact q
        · exact absurd (s1 (by omega)) w2
      obtain ⟨j, j1, j2, j3, j4, _⟩ := s2 hlt
      refine Rt.be (hC.fl h1 h2 hn) ?_
      rw [j2]
      refine Rt.bn (ahd_ hC j3 j4) (fun S2 _ t2 => ?_)
      obtain ⟨e2, hb2⟩ := t2
      have e58 : Zl S2 58 = Zl S 58 := e2.2.1 58 (by decide)
      have hi3 : LvI R S0 Sr S2 ws Ps Pe I x2 (k + 1) n := ⟨e.tr (e2.mo (fun r h => Or.inr h)), hC.ps e2.1, by rw [e58]; exact hs, by rw [e58]; exact hx⟩
      refine lv80 h1 h2 j1 (fun S3 y3 hi4 => lv56 h1 h2 kn d (n + 1) S3 y3 (by omega) (by omega) hi4) bigN 0 S2 x2 (by unfold bigN; omega) (Nat.zero_le _) hi3 (fun x0 => ⟨fun h hh => ?_, fun v b hv => by omega⟩)
      rw [hb2 h hh]
      rcases hx with ⟨_, b, _⟩ | ⟨b, _⟩
      · rw [b]
      · exact absurd (b.symm.trans x0) (by decide)
theorem lv45 {k32 : Sg → Option Nat → Int32 → Option (Sg × Unit)} {Q : Sg → Unit → Prop} (kn : ∀ (S2 : Sg) (y2 : Int32), LvI R S0 Sr S2 ws Ps Pe I y2 Ps 0 → Rt (k32 S2 (some ws) y2) Q) : ∀ (d kk : Nat) (S : Sg) (x2 : Int32), kk < Ps + d → Ps ≤ kk → kk ≤ Pe → LvI R S0 Sr S ws Ps Pe I x2 kk 0 → Rt (f_spreadLives_45 R.K k32 d S (some ws) x2 (nI kk - 1)) Q
  | 0, kk, S, x2, hd, _, hk, _ => by omega
  | d + 1, kk, S, x2, hd, h1, hk, hi => by
    have hC := hi.2.1
    have h24 := hC.2.1
    unfold f_spreadLives_45
    refine Rt.bd hC.r5 (Rt.it (fun w => ?_) (fun w => ?_))
    · have : kk ≤ Ps := (nI_p2 (by omega) (by omega)).mp w
      obtain rfl : kk = Ps := by omega
      exact kn S x2 hi
    · have hlt : Ps < kk := by
        by_cases q : kk ≤ Ps
        · exact absurd ((nI_p2 (by omega) (by omega)).mpr q) w
        · omega
      obtain ⟨k, rfl⟩ : ∃ k : Nat, kk = k + 1 := ⟨kk - 1, by omega⟩
      rw [nI_pred k]
      exact lv56 (by omega) (by omega) (fun S2 y2 hi2 => lv45 kn d k S2 y2 (by omega) (by omega) (by omega) hi2) bigN 0 S x2 (by unfold bigN; have := (hC.2.2.2 k (by omega) (by omega)).2.2.1; omega) (Nat.zero_le _) hi
/-- who is used behind each point -/
def LvD (I : Nat → iR) (f : Nat → Int64) (Ps Pe : Nat) : Prop := ∀ k : Nat, Ps ≤ k → k < Pe → ∀ j ∈ (I k).sc, LvC I f k j
theorem lv32 {Q : Sg → Unit → Prop} (kf : ∀ S2 : Sg, OXs (fun r => r = 58 ∨ r = 60) S S2 → PCx R S0 S2 ws Ps Pe I → LvD I (Zl S2 58) Ps Pe → Q S2 ()) : ∀ (d : Nat) (S1 : Sg) (x2 : Int32), cw (Zl S1 58) (4 * Ps) (4 * (Pe - Ps)) + 1 < d → OXs (fun r => r = 58 ∨ r = 60) S S1 → PCx R S0 S1 ws Ps Pe I → (x2 = 1 ∨ (x2 = 0 ∧ LvD I (Zl S1 58) Ps Pe)) → Rt (f_spreadLives_32 R.K d S1 (some ws) x2) Q
  | 0, S1, x2, hd, _, _, _ => by omega
  | d + 1, S1, x2, hd, e, hC, hx => by
    unfold f_spreadLives_32
    refine Rt.it (fun w => ?_) (fun w => ?_)
    · refine Rt.rt (kf S1 e hC ?_)
      rcases hx with q | q
      · rw [q] at w; exact absurd w (by decide)
      · exact q.2
    · refine Rt.bd hC.r4 ?_
      refine lv45 (Sr := S1) (fun S2 y2 hi => ?_) bigN Pe S1 0 (by unfold bigN; have := hC.2.1; omega) (Nat.le_of_lt hC.1) (Nat.le_refl _) ⟨OXs.rf, hC, sbL.rf, Or.inl ⟨rfl, rfl, fun k' q1 q2 => by omega, fun m j hm => by omega⟩⟩
      obtain ⟨e2, hC2, hs2, hx2⟩ := hi
      rcases hx2 with ⟨q1, q2, q3, q4⟩ | ⟨q1, q2⟩
      · subst q1
        cases d with
        | zero => omega
        | succ d =>
          unfold f_spreadLives_32
          exact Rt.ip rfl (Rt.rt (kf S2 (e.tr e2) hC2 (fun k a b => q3 k a b)))
      · exact lv32 kf d S2 y2 (by omega) (e.tr e2) hC2 (Or.inl q1)
theorem lv7 {Q : Sg → Unit → Prop} (kf : ∀ S2 : Sg, OXs (fun r => r = 58 ∨ r = 60) S S2 → PCx R S0 S2 ws Ps Pe I → Rt (f_spreadLives_32 R.K bigN S2 (some ws) 1) Q) : ∀ (d k : Nat) (S1 : Sg), 4 * Pe < k + d → k ≤ 4 * Pe → OXs (fun r => r = 58 ∨ r = 60) S S1 → PCx R S0 S1 ws Ps Pe I → Rt (f_spreadLives_7 R.K d S1 (some ws) (nI k)) Q
  | 0, k, S1, hd, _, _, _ => by omega
  | d + 1, k, S1, hd, hk, e, hC => by
    have h24 := hC.2.1
    unfold f_spreadLives_7
    refine Rt.bd hC.r4 ?_
    rw [nI_4]
    refine Rt.it (fun w => kf S1 e hC) (fun w => ?_)
    have hlt : k < 4 * Pe := by
      by_cases q : k < 4 * Pe
      · exact q
      · exact absurd (nI_le (a := 4 * Pe) (b := k) (by omega) (by omega)) w
    refine Rt.bd (wJ_n (show k < rlen 58 from by show k < 96000; omega) (by decide)) ?_
    rw [nI_1]
    have e2 : OXs (fun r => r = 58 ∨ r = 60) S1 (Ul S1 58 (vp_updL (Zl S1 58) k 0)) := OXs.ul (by decide) (Or.inl rfl)
    exact lv7 kf d (k + 1) _ (by omega) (by omega) (e.tr e2) (hC.ps e2.1)
/-- spreadLives -/
theorem lives_ (hC : PCx R S0 S ws Ps Pe I) : Rt (f_spreadLives R.K S (some ws)) (fun S2 _ => OXs (fun r => r = 58 ∨ r = 60) S S2 ∧ PCx R S0 S2 ws Ps Pe I ∧ LvD I (Zl S2 58) Ps Pe) := by
  have h24 := hC.2.1
  have hPP := hC.1
  unfold f_spreadLives
  refine Rt.bd hC.r5 ?_
  rw [nI_4]
  refine lv7 (fun S2 e2 hC2 => ?_) bigN (4 * Ps) S (by unfold bigN; omega) (by omega) OXs.rf hC
  exact lv32 (S := S) (fun S3 a b c => ⟨a, b, c⟩) bigN S2 1 (by unfold bigN; have := cw_b (f := Zl S2 58) (a := 4 * Ps) (m := 4 * (Pe - Ps)); omega) e2 hC2 (Or.inl rfl)
end PS4
end
-- m2.f.lean.txt
section
/-- who holds loan l behind point k -/
def HBh (i : iR) (f : Nat → Int64) (k l h : Nat) : Prop := (i.ho = some h ∧ (i.ln = some l ∨ (i.kd ≠ 24 ∧ ∃ u ∈ i.fr, rb f (4 * k) u = true))) ∨ (i.ho ≠ some h ∧ rb f (4 * k) h = true)
section PS5
variable {R : yR} {S0 S S1 S2 Sr : Sg} {ws Ps Pe k n l : Nat} {I : Nat → iR} {f g : Nat → Int64} {P : Nat → Prop} {x y : Int64}
theorem hb120 {u : Nat} {on : Bool} {v : Int32} (hC : PCx R S0 S ws Ps Pe I) (h1 : Ps ≤ k) (h2 : k < Pe) (hho : (I k).ho = some u) (hv : v = if on = true then 1 else 0) (e : OXs (fun r => r = 60) S S1) (hr : ∀ h : Nat, h < 256 → rb (Zl S1 60) 0 h = rb (Zl S 59) (4 * k) h) (hon : on = true ↔ ((I k).ln = some l ∨ ((I k).kd ≠ 24 ∧ ∃ u ∈ (I k).fr, rb (Zl S 59) (4 * k) u = true))) : Rt (f_holdBehind_120 R.K S1 (nI k) v) (fun S2 _ => OXs (fun r => r = 60) S S2 ∧ ∀ h : Nat, h < 256 → (rb (Zl S2 60) 0 h = true ↔ HBh (I k) (Zl S 59) k l h)) := by
  obtain ⟨hz, hs, hsl, hb⟩ := hC.2.2.2 k h1 h2
  have h24 := hC.2.1
  obtain ⟨_, _, _, _, q5, _⟩ := hz.ps e.1
  have r34 : rI S1 34 (nI k) = some (nI u) := by rw [rI_n (show k < rlen 34 from by show k < 24000; omega) (by decide), q5, hho]; rfl
  have hu := hb.1 u hho
  unfold f_holdBehind_120
  refine Rt.bd r34 ?_
  rw [hv]
  refine Rt.be (put_ (base := 0) (on := on) (b := u) (by omega) (show 0 + u / 64 < rlen 60 from by show _ < 4; omega) (by decide)) (Rt.rt ?_)
  have e2 : OXs (fun r => r = 60) S1 (Ul S1 60 (pB (Zl S1 60) 0 u on)) := OXs.ul (by decide) rfl
  refine ⟨e.tr e2, fun h hh => ?_⟩
  rw [Zl_us, rb_pB]
  by_cases c : 0 + h / 64 = 0 + u / 64 ∧ h % 64 = u % 64
  · have : h = u := by omega
    subst this
    rw [if_pos c]
    unfold HBh
    rw [hho]
    exact ⟨fun w => Or.inl ⟨rfl, hon.mp w⟩, fun w => w.elim (fun w => hon.mpr w.2) (fun w => absurd rfl w.1)⟩
  · rw [if_neg c, hr h hh]
    have hne : (I k).ho ≠ some h := fun w => by rw [hho] at w; cases w; exact c ⟨rfl, rfl⟩
    exact ⟨fun w => Or.inr ⟨hne, w⟩, fun w => w.elim (fun w => absurd w.1 hne) (fun w => w.2)⟩
theorem hb58 {u : Nat} (hC : PCx R S0 S ws Ps Pe I) (h1 : Ps ≤ k) (h2 : k < Pe) (hho : (I k).ho = some u) : ∀ (d n : Nat) (on : Bool) (S1 : Sg), (I k).fr.length < n + d → n ≤ (I k).fr.length → OXs (fun r => r = 60) S S1 → (∀ h : Nat, h < 256 → rb (Zl S1 60) 0 h = rb (Zl S 59) (4 * k) h) → (on = true ↔ ((I k).ln = some l ∨ ((I k).kd ≠ 24 ∧ ∃ m u : Nat, m < n ∧ (I k).fr[m]? = some u ∧ rb (Zl S 59) (4 * k) u = true))) → Rt (f_holdBehind_58 R.K d S1 (nI k) (if on = true then 1 else 0) (nI n)) (fun S2 _ => OXs (fun r => r = 60) S S2 ∧ ∀ h : Nat, h < 256 → (rb (Zl S2 60) 0 h = true ↔ HBh (I k) (Zl S 59) k l h))
  | 0, n, on, S1, hd, hn, _, _, _ => by omega
  | d + 1, n, on, S1, hd, hn, e, hr, hon => by
    obtain ⟨hz, hs, hsl, hb⟩ := hC.2.2.2 k h1 h2
    have h24 := hC.2.1
    obtain ⟨q1, q2, _, _, q5, _, _, q8, _⟩ := hz.ps e.1
    have r27 : rI S1 27 (nI k) = some (nI (I k).kd) := by rw [rI_n (show k < rlen 27 from by show k < 24000; omega) (by decide), q1]
    have hall : ((I k).kd = 24 ∨ n = (I k).fr.length) → Rt (f_holdBehind_120 R.K S1 (nI k) (if on = true then 1 else 0)) (fun S2 _ => OXs (fun r => r = 60) S S2 ∧ ∀ h : Nat, h < 256 → (rb (Zl S2 60) 0 h = true ↔ HBh (I k) (Zl S 59) k l h)) := fun hw => hb120 hC h1 h2 hho rfl e hr (hon.trans ⟨fun w => w.imp id (fun ⟨a, m, u, b, c, d⟩ => ⟨a, u, List.mem_of_getElem? c, d⟩), fun w => w.imp id (fun ⟨a, u, b, c⟩ => ⟨a, by
      obtain ⟨m, hm⟩ := List.mem_iff_getElem?.mp b
      rcases hw with hw | hw
      · exact absurd hw a
      · exact ⟨m, u, by have := (List.getElem?_eq_some_iff.mp hm).1; omega, hm, c⟩⟩)⟩)
    unfold f_holdBehind_58
    refine Rt.bd r27 (Rt.it (fun w => hall (Or.inl (nI_e (b := 24) (by omega) (by decide) w))) (fun w => ?_))
    have hk24 : (I k).kd ≠ 24 := fun e => w (by rw [e]; rfl)
    have r36 : rQ S1 36 (nI k) = some (Zq S1 36 k) := rQ_n (show k < rlen 36 from by show k < 24000; omega) (by decide)
    rcases q8 with ⟨a1, a2⟩ | ⟨a, ff, a1, a2, a3, a4, a5⟩
    · rw [a1] at r36
      exact Rt.bd r36 (Rt.ip rfl (hall (Or.inr (by rw [a2] at hn ⊢; exact Nat.le_zero.mp hn))))
    · rw [a1] at r36
      have hlen : (I k).fr.length ≤ 12 := hb.2.2.2.2.1
      refine Rt.bd r36 (Rt.iq (by simp) (Rt.bd r36 (Rt.bd (aLn_n a2 a3) (Rt.it (fun w => ?_) (fun w => ?_)))))
      · exact hall (Or.inr (by have := (nI_leI (by omega) (by omega)).mp w; omega))
      · have hlt : n < (I k).fr.length := by
          by_cases q : n < (I k).fr.length
          · exact q
          · exact absurd (nI_le (a := (I k).fr.length) (b := n) (by omega) (by omega)) w
        have hg := List.getElem?_eq_getElem hlt
        obtain ⟨b1, b2⟩ := a5 n _ hg
        have hu := hb.2.2.1 _ (List.getElem_mem hlt)
        refine Rt.bd r36 (Rt.bd (by rw [aI_n a2 a3 hlt (by omega), b1]) ?_)
        rw [nI_4]
        have e59 : Zl S1 59 = Zl S 59 := e.2.1 59 (by decide)
        refine Rt.be (get_ (base := 4 * k) (b := (I k).fr[n]) (by omega) (show 4 * k + (I k).fr[n] / 64 < rlen 59 from by show _ < 96000; omega) (by decide)) ?_
        rw [e59]
        unfold f_holdBehind_114
        rw [nI_1]
        by_cases c : rb (Zl S 59) (4 * k) (I k).fr[n] = true
        · rw [if_pos c]
          refine Rt.iq (by decide) (hb58 hC h1 h2 hho d (n + 1) true S1 (by omega) (by omega) e hr ⟨fun _ => Or.inr ⟨hk24, n, _, Nat.lt_succ_self _, hg, c⟩, fun _ => rfl⟩)
        · rw [if_neg c]
          refine Rt.ip rfl (hb58 hC h1 h2 hho d (n + 1) on S1 (by omega) (by omega) e hr (hon.trans ⟨fun w => w.imp id (fun ⟨a, m, u, b, c, d⟩ => ⟨a, m, u, by omega, c, d⟩), fun w => w.imp id (fun ⟨a, m, u, b, c', d⟩ => ⟨a, m, u, ?_, c', d⟩)⟩))
          by_cases em : m = n
          · subst em; rw [hg] at c'; cases c'; exact absurd d c
          · omega
theorem hb2 (hC : PCx R S0 S ws Ps Pe I) (h1 : Ps ≤ k) (h2 : k < Pe) (hl : l < 160) : ∀ (d w : Nat) (S1 : Sg), 4 < w + d → w ≤ 4 → OXs (fun r => r = 60) S S1 → (∀ v : Nat, v < w → Zl S1 60 v = Zl S 59 (4 * k + v)) → Rt (f_holdBehind_2 R.K d S1 (nI k) (nI l) (nI w)) (fun S2 _ => OXs (fun r => r = 60) S S2 ∧ ∀ h : Nat, h < 256 → (rb (Zl S2 60) 0 h = true ↔ HBh (I k) (Zl S 59) k l h))
  | 0, w, S1, hd, hn, _, _ => by omega
  | d + 1, w, S1, hd, hn, e, hr => by
    obtain ⟨hz, hs, hsl, hb⟩ := hC.2.2.2 k h1 h2
    have h24 := hC.2.1
    unfold f_holdBehind_2
    refine Rt.it (fun q => ?_) (fun q => ?_)
    · have hw : 4 ≤ w := (nI_leI (a := 4) (b := w) (by decide) (by omega)).mp q
      obtain rfl : w = 4 := by omega
      obtain ⟨_, _, _, _, q5, q6, _⟩ := hz.ps e.1
      have r34 : rI S1 34 (nI k) = some (oNm (I k).ho) := by rw [rI_n (show k < rlen 34 from by show k < 24000; omega) (by decide), q5]
      have r35 : rI S1 35 (nI k) = some (oNm (I k).ln) := by rw [rI_n (show k < rlen 35 from by show k < 24000; omega) (by decide), q6]
      have hrb : ∀ h : Nat, h < 256 → rb (Zl S1 60) 0 h = rb (Zl S 59) (4 * k) h := fun h hh => by
        unfold rb; rw [Nat.zero_add, hr (h / 64) (by omega)]
      refine Rt.bd r34 ?_
      cases hho : (I k).ho with
      | none =>
        refine Rt.iq (show ¬ (0 : Int32) ≤ -1 by decide) (Rt.rt ⟨e, fun h hh => ?_⟩)
        rw [hrb h hh]
        unfold HBh
        rw [hho]
        exact ⟨fun w => Or.inr ⟨(by simp), w⟩, fun w => w.elim (fun w => by cases w.1) (fun w => w.2)⟩
      | some u =>
        refine Rt.ip (nI_le (a := 0) (b := u) (Nat.zero_le _) (by have := hb.1 u hho; omega)) (Rt.bd r35 ?_)
        have hln : oNm (I k).ln = nI l ↔ (I k).ln = some l := by
          cases hq : (I k).ln with
          | none =>
            refine ⟨fun w => ?_, fun w => by cases w⟩
            exact absurd (show nI l < 0 by rw [← w]; decide) (nI_nn (by omega))
          | some l' =>
            have := hb.2.2.2.2.2.1 l' hq
            exact ⟨fun w => by rw [nI_e (a := l') (b := l) (by omega) (by omega) w], fun w => by cases w; rfl⟩
        unfold f_holdBehind_54
        refine Rt.it (fun w => ?_) (fun w => ?_)
        · exact hb58 hC h1 h2 hho bigN 0 true S1 (by unfold bigN; have := hb.2.2.2.2.1; omega) (Nat.zero_le _) e hrb ⟨fun _ => Or.inl (hln.mp w), fun _ => rfl⟩
        · exact hb58 hC h1 h2 hho bigN 0 false S1 (by unfold bigN; have := hb.2.2.2.2.1; omega) (Nat.zero_le _) e hrb ⟨fun q => absurd q (by decide), fun q => q.elim (fun q => absurd (hln.mpr q) w) (fun ⟨_, m, _, hm, _⟩ => by omega)⟩
    · have hw : w < 4 := by
        by_cases q2 : w < 4
        · exact q2
        · exact absurd (nI_le (a := 4) (b := w) (by omega) (by omega)) q
      rw [nI_4, nI_add]
      refine Rt.bd (rJ_n (show 4 * k + w < rlen 59 from by show _ < 96000; omega) (by decide)) (Rt.bd (wJ_n (show w < rlen 60 from hw) (by decide)) ?_)
      rw [nI_1]
      have e2 : OXs (fun r => r = 60) S1 (Ul S1 60 (vp_updL (Zl S1 60) w (Zl S1 59 (4 * k + w)))) := OXs.ul (by decide) rfl
      refine hb2 hC h1 h2 hl d (w + 1) _ (by omega) (by omega) (e.tr e2) (fun v hv => ?_)
      rw [Zl_us]
      by_cases ev : v = w
      · subst ev; rw [upL_s, e.2.1 59 (by decide)]
      · rw [upL_n ev]; exact hr v (by omega)
/-- holdBehind -/
theorem hbd_ (hC : PCx R S0 S ws Ps Pe I) (h1 : Ps ≤ k) (h2 : k < Pe) (hl : l < 160) : Rt (f_holdBehind R.K S (nI k) (nI l)) (fun S2 _ => OXs (fun r => r = 60) S S2 ∧ ∀ h : Nat, h < 256 → (rb (Zl S2 60) 0 h = true ↔ HBh (I k) (Zl S 59) k l h)) := by
  unfold f_holdBehind
  exact hb2 hC h1 h2 hl bigN 0 S (by unfold bigN; omega) (Nat.zero_le _) OXs.rf (fun v hv => by omega)
end PS5
end
