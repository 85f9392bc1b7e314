section LY48
variable {R : yR} {S0 Sb Sx S S1 S2 S3 : Sg} {P P1 P2 P3 Pe h h0 h1 h2 hc L L1 L2 Le Lb z n z2 n2 : Nat} {Γ Γ0 Γ1 Γ2 Λ : List Nat} {E : eV} {s s1 s2 yD x y : List tE} {gv : Nat} {js ks us : List Nat} {bw : Nat → Nat} {cl cl2 : Prop} {i a b : Nat}
theorem tsgR.sx (h : tsgR R S0 S E L a b x) (hx : LX S S2) (hp : PX b S S2) (hq : QX L S S2) : tsgR R S0 S2 E L a b x := by
  obtain ⟨st, W, h1, h2, h3, h6⟩ := h
  refine ⟨st, W, h1, h2, h3, fun k hk hb => ?_⟩
  obtain ⟨i, q1, q2, q3, q4⟩ := h6 k hk hb
  exact ⟨i, q1.st hx (hp k hb) (fun l e => hq l (q2 l e)), q2, fun j hj => ⟨(q3 j hj).1, (q3 j hj).2.1, (q3 j hj).2.2.1, (by
    by_cases e : k < j
    · exact Or.inl e
    · exact Or.inr (((hp j (by omega)).1 27 (by decide) (by decide)).trans ((q3 j hj).2.2.2.resolve_left e)))⟩, q4⟩
/-- a function is laid -/
theorem lfn_ (hE : ENb R S0) (hi : i < R.im) (hik : R.ik i = 12) (hT : FnT R S0 i) (hB : BWt R bw) (hpm : R.ps i < R.ms i) (c : LC R S0 S P h Γ L) (kk : P = 0 ∨ K0 S P) (hP : P + 8 * (bw (R.ps (i + 1)) - bw (R.ps i)) < 24000) (hr : RMl R S (20 * (bw (R.ps (i + 1)) - bw (R.ps i)) + 40) (60 * (bw (R.ps (i + 1)) - bw (R.ps i)) + 100)) : Rt (f_layFunction R.K S (nI i)) (fun S2 _ => ∃ (Λ : List Nat) (gv mn Pe L0 Le h2 : Nat) (Γ2 : List Nat), FnL R S0 S2 Λ gv i mn P Pe L0 Le ∧ LC R S0 S2 Pe h2 Γ2 Le ∧ LX S S2 ∧ PX P S S2 ∧ (∀ j : Nat, j < R.im → j ≠ i → R.ws j ≠ R.ws i → ∀ fs : List Value, ZF S (R.ws j) = .inr (16, fs) → ZF S2 (R.ws j) = .inr (16, fs)) ∧ Pe ≤ P + 8 * (bw (R.ps (i + 1)) - bw (R.ps i)) ∧ Zz S2 ≤ Zz S + (20 * (bw (R.ps (i + 1)) - bw (R.ps i)) + 40) ∧ Zn S2 ≤ Zn S + (60 * (bw (R.ps (i + 1)) - bw (R.ps i)) + 100) ∧ K0 S2 Pe) := by
  have hE2 := hE
  obtain ⟨hL, hY, _, hIT, ⟨h11, _⟩, hT3, _, _⟩ := hE2
  obtain ⟨fs, mn, ta, pa, bl, va, b, gv, f, fp, Λ, ⟨a1, a2, a3, a4, a5, a6, a7, a8⟩, b1, b2, ⟨b3, b3x, b4⟩, ⟨b5, b6, b7, b8, b9, b10, b11⟩, b12, b13, b14, b15⟩ := hT
  have hF : FEn R S0 (eVf R S0 Λ gv) Λ gv := fen_ hE b2 (by omega) b13
  obtain ⟨n1, n2, fs2, mn2, na, g2, n3, n4, n5, n6, n7, n8, n9, n10, n11⟩ := hIT i hi
  obtain rfl : fs2 = fs := by rw [a2] at n3; cases n3; rfl
  have hK : ∃ (lo : Nat) (go : Nat → Int32), fs2[13]? = some (.ref lo) ∧ nXo R lo ∧ ZF S0 lo = .inl (R.K.1 0, 13, .inl go) := by
    rcases n11 with ⟨w, _⟩ | ⟨w, _⟩ | ⟨_, ta, gv, lo, f, go, rl, _, _, _, _, w1, _, w2, w3, w4, _⟩
    · rw [hik] at w; exact absurd w (by decide)
    · rw [hik] at w; exact absurd w (by decide)
    · exact ⟨lo, go, w2, w3, w4⟩
  obtain ⟨lo, go, l1, l2, l3⟩ := hK
  have hw1 := hB.mo (p := R.ps i) (q := R.ms i) (by omega) (by omega)
  have hw2 := hB.mo (p := R.ms i) (q := R.ps (i + 1)) (by omega) (by omega)
  obtain ⟨w1, fsS, w2, w3, w4⟩ := c.1.it (hL _ a1.1) a2
  have hlen : 18 ≤ fsS.length := by
    have := (List.getElem?_eq_some_iff.mp a8).1
    omega
  have hbc : bl ∈ ZL R.S ∧ ∃ la mn2 : Nat, ZF S0 bl = .inr (14, [.int (nI (R.ms i)), .int (nI (R.ps (i + 1) - 1)), .ref la, .int (nI mn2)]) := by
    obtain ⟨h1, _, _, la, cap, mn2, f, gs, h2, _⟩ := b14
    exact ⟨h1.1, la, mn2, h2⟩
  obtain ⟨hbk, la, mnb, hbF⟩ := hbc
  have hi70 : i < 70 := by have := hY.2.1; omega
  have hq11 : rQ S 11 (nI i) = some (some (R.ws i)) := by rw [rQ_n (show i < rlen 11 from hi70) (by decide), c.1.2.2.2.2.1 11 (fun w => by rcases w with w | w | w <;> omega), h11, n2]
  unfold f_layFunction
  refine Rt.bd hq11 ?_
  rw [c.2.1]
  refine Rt.bd (pV_e (f2 := fsS.set 5 (.int (nI P))) w1 w2 (Nat.ble_eq.mpr (by omega)) rfl) ?_
  have hset : ∀ (l : Nat), l ≠ 4 → l ≠ 5 → (fsS.set 5 (.int (nI P)))[l]? = fsS[l]? := fun l _ h5 => List.getElem?_set_ne (fun w => h5 w.symm)
  obtain ⟨c1, x1, e1⟩ := c.ui w2 (f2 := fsS.set 5 (.int (nI P))) List.length_set hset
  have oth : ∀ b : Nat, b ≠ R.ws i → ZF (UF S (R.ws i) (.inr (16, fsS.set 5 (.int (nI P))))) b = ZF S b := fun b hb => ZF_n hb
  have row1 : Zr (UF S (R.ws i) (.inr (16, fsS.set 5 (.int (nI P))))) = Zr S ∧ Zl (UF S (R.ws i) (.inr (16, fsS.set 5 (.int (nI P))))) = Zl S ∧ Zq (UF S (R.ws i) (.inr (16, fsS.set 5 (.int (nI P))))) = Zq S ∧ Zz (UF S (R.ws i) (.inr (16, fsS.set 5 (.int (nI P))))) = Zz S ∧ Zn (UF S (R.ws i) (.inr (16, fsS.set 5 (.int (nI P))))) = Zn S := ⟨rfl, rfl, rfl, rfl, rfl⟩
  generalize UF S (R.ws i) (.inr (16, fsS.set 5 (.int (nI P)))) = A1 at c1 x1 e1 oth row1
  refine Rt.bd (v := Ui A1 47 0) rfl (Rt.bd (v := Ui (Ui A1 47 0) 48 0) rfl (Rt.bd (v := Ui (Ui (Ui A1 47 0) 48 0) 50 0) rfl ?_))
  have c4 : LC R S0 (Ui (Ui (Ui A1 47 (nI 0)) 48 (nI 0)) 50 (nI 0)) P 0 [] 0 := ((c1.ll (L2 := 0) (fun l _ h2 => by rw [show Zi (Ui A1 47 (nI 0)) 47 = nI 0 from Zi_s] at h2; exact absurd h2 (nI_pos (n := l) (by omega)))).hh (h2 := 0)).a0
  have x4 : LX A1 (Ui (Ui (Ui A1 47 (nI 0)) 48 (nI 0)) 50 (nI 0)) := ((LZ.ui (P := 0) (L := 0) (by decide)).1.tr (LZ.ui (P := 0) (L := 0) (by decide)).1).tr (LZ.ui (P := 0) (L := 0) (by decide)).1
  show Rt (f_layFunction_32 R.K bigN (Ui (Ui (Ui A1 47 (nI 0)) 48 (nI 0)) 50 (nI 0)) (some (R.ws i)) (nI 0)) _
  have row4 : Zr (Ui (Ui (Ui A1 47 (nI 0)) 48 (nI 0)) 50 (nI 0)) = Zr A1 ∧ Zl (Ui (Ui (Ui A1 47 (nI 0)) 48 (nI 0)) 50 (nI 0)) = Zl A1 ∧ Zq (Ui (Ui (Ui A1 47 (nI 0)) 48 (nI 0)) 50 (nI 0)) = Zq A1 ∧ Zz (Ui (Ui (Ui A1 47 (nI 0)) 48 (nI 0)) 50 (nI 0)) = Zz A1 ∧ Zn (Ui (Ui (Ui A1 47 (nI 0)) 48 (nI 0)) 50 (nI 0)) = Zn A1 ∧ ZF (Ui (Ui (Ui A1 47 (nI 0)) 48 (nI 0)) 50 (nI 0)) = ZF A1 ∧ ZL (Ui (Ui (Ui A1 47 (nI 0)) 48 (nI 0)) 50 (nI 0)) = ZL A1 := ⟨rfl, rfl, rfl, rfl, rfl, rfl, rfl⟩
  generalize Ui (Ui (Ui A1 47 (nI 0)) 48 (nI 0)) 50 (nI 0) = A4 at c4 x4 row4
  have hlenΛ : (Λ.take mn).length = mn := by rw [List.length_take]; omega
  have hGJ : GJ Λ (Λ.take mn) (ksV 0 mn) := by
    have := GJ.kn (Λ := Λ) (Γ := []) (js := []) (us := Λ) (v := 0) (n := mn) rfl (fun _ h => by cases h) (fun j hj => by
      obtain ⟨v, x, nm, p1, _⟩ := b12 j hj
      exact ⟨v, p1, by rw [Nat.zero_add]; exact p1⟩)
    rw [List.append_nil, List.nil_append] at this; exact this
  have hkl : (ksV 0 mn).length = mn := ksV_len
  have sz4 : Zz A4 = Zz S := row4.2.2.2.1.trans row1.2.2.2.1
  have sn4 : Zn A4 = Zn S := row4.2.2.2.2.1.trans row1.2.2.2.2
  refine lfn32 (S := A4) (P := P) (Λ := Λ) (E := eVf R S0 Λ gv) hF hi a2 a1.1 a3 a4 a5 l1 a7 a8 b1 ⟨l2.1, l3⟩ ⟨b3, b4⟩ b12 (by omega) (by omega) (fun S1 L1 g1 hO hL1 e27 => ?_) bigN 0 A4 0 (by unfold bigN; omega) (Nat.zero_le _) ⟨c4, LZ.rf, tsg.nil wkS.rf, by omega, by omega, Nat.le_refl _, Nat.le_refl _, RFx.rf⟩ ⟨fun l hl => by omega, fun q hq => by omega⟩ (Nat.le_refl _) rfl
  have kk1 : P = 0 ∨ K0 S1 P := kk.imp id (fun w => by unfold K0; rw [e27, row4.1, row1.1]; exact w)
  have rR : ∀ {S' : Sg} {k a : Nat}, LX S0 S' → fs2[k]? = some (.ref a) → k ≠ 4 → k ≠ 5 → oR S' 16 (some (R.ws i)) k = some (some a) := fun hx hk h4 h5 => by
    obtain ⟨w1, f2, w2, w3, w4⟩ := hx.it (hL _ a1.1) a2
    exact oR_mk w1 w2 ((w4 _ h4 (Or.inl h5)).trans hk)
  have rm1 : RMl R S1 (20 * (bw (R.ps (i + 1)) - bw (R.ps i)) + 40) (60 * (bw (R.ps (i + 1)) - bw (R.ps i)) + 100) := ⟨by have := g1.2.2.2.1; have := hr.1; omega, by have := g1.2.2.2.2.1; have := hr.2; omega⟩
  refine Rt.bd (rR g1.1.1 a7 (by decide) (by decide)) (Rt.bn (lbk_ 45 40 (by decide) bl (R.ms i) (R.ps (i + 1)) 0 b mn va (Λ.take mn) b14 S1 P L1 (ksV 0 mn) ⟨hF, hB, g1.1, kk1, hGJ, fun j hj => by have := ksV_lt hj; omega, ⟨by omega, by omega⟩, ⟨by omega, by omega⟩, by omega, ⟨Nat.zero_le _, by omega⟩, rm1.le (by omega) (by omega)⟩) (fun S2 _ t2 => ?_))
  obtain ⟨P2, L2, z2, n2, g2, d1, d2, d3, d4, d5⟩ := t2
  have hPP : P ≤ P2 := g2.2.2.2.2.2.1
  have rT : ∀ {S' : Sg}, LX S0 S' → oI S' 14 (some bl) 1 = some (nI (R.ps (i + 1) - 1)) := fun hx => hx.vi (by decide) (by decide) (oI_mk (hL bl hbk) hbF rfl)
  refine Rt.bd (rR g2.1.1 a7 (by decide) (by decide)) (Rt.bd (rT g2.1.1) ?_)
  have hG2 : GJ Λ (Λ.take mn) (ksV 0 mn ++ []) := by rw [List.append_nil]; exact hGJ
  refine Rt.bn (gou_ (h0 := 0) (Γ0 := Λ.take mn) (e := []) (ks := ksV 0 mn) (js1 := []) hF (Or.inl rfl) (x1 := 0) rfl rfl (by omega) g2.1 hG2 (by omega) (by omega) (g2.rm rm1 (by omega) (by omega))) (fun S3 _ g3 => ?_)
  rw [List.append_nil] at g3
  have g23 := g2.tr g3 (cl3 := eBx S0 bl) (fun w => Or.inl w) (Nat.le_refl _) (Nat.le_refl _)
  refine Rt.bd (rR g3.1.1 a7 (by decide) (by decide)) (Rt.bd (rT g3.1.1) ?_)
  refine pnt_ (Lb := L2) (Sb := S3) (z := 0) (n := 0) (by omega) g3.1 LZ.rf (Nat.le_refl _) (by omega) (by omega) UsK.rf (fun S5 p5 _ => ?_)
  have z15 : LZ P 0 A4 S5 := (g1.2.1.tr g23.2.1 (Nat.le_refl _) (Nat.zero_le _)).tr p5.2.1 (by omega) (Nat.zero_le _)
  have hwm4 : R.ws i ∈ ZL A4 := (x4.1 _ (x1.1 _ w1).1).1
  have f5 : ZF S5 (R.ws i) = .inr (16, fsS.set 5 (.int (nI P))) := z15.2.2.2 _ hwm4 _ (by rw [row4.2.2.2.2.2.1]; exact e1)
  have hwm5 : R.ws i ∈ ZL S5 := (z15.1.1 _ hwm4).1
  have e26 : Zi S5 26 = nI (P2 + (ksV 0 mn).length + 1) := p5.1.2.1
  rw [e26]
  refine Rt.bd (pV_e (f2 := (fsS.set 5 (.int (nI P))).set 4 (.int (nI (P2 + (ksV 0 mn).length + 1)))) hwm5 f5 (Nat.ble_eq.mpr (by rw [List.length_set]; omega)) rfl) (Rt.rt ?_)
  obtain ⟨c6, x6, e6⟩ := p5.1.ui f5 (f2 := (fsS.set 5 (.int (nI P))).set 4 (.int (nI (P2 + (ksV 0 mn).length + 1)))) List.length_set (fun l h4 _ => List.getElem?_set_ne (fun w => h4 w.symm))
  have row6 : Zr (UF S5 (R.ws i) (.inr (16, (fsS.set 5 (.int (nI P))).set 4 (.int (nI (P2 + (ksV 0 mn).length + 1)))))) = Zr S5 ∧ Zl (UF S5 (R.ws i) (.inr (16, (fsS.set 5 (.int (nI P))).set 4 (.int (nI (P2 + (ksV 0 mn).length + 1)))))) = Zl S5 ∧ Zq (UF S5 (R.ws i) (.inr (16, (fsS.set 5 (.int (nI P))).set 4 (.int (nI (P2 + (ksV 0 mn).length + 1)))))) = Zq S5 ∧ Zz (UF S5 (R.ws i) (.inr (16, (fsS.set 5 (.int (nI P))).set 4 (.int (nI (P2 + (ksV 0 mn).length + 1)))))) = Zz S5 ∧ Zn (UF S5 (R.ws i) (.inr (16, (fsS.set 5 (.int (nI P))).set 4 (.int (nI (P2 + (ksV 0 mn).length + 1)))))) = Zn S5 := ⟨rfl, rfl, rfl, rfl, rfl⟩
  have oth6 : ∀ b : Nat, b ≠ R.ws i → ZF (UF S5 (R.ws i) (.inr (16, (fsS.set 5 (.int (nI P))).set 4 (.int (nI (P2 + (ksV 0 mn).length + 1)))))) b = ZF S5 b := fun b hb => ZF_n hb
  generalize UF S5 (R.ws i) (.inr (16, (fsS.set 5 (.int (nI P))).set 4 (.int (nI (P2 + (ksV 0 mn).length + 1))))) = B at c6 x6 e6 row6 oth6
  have px6 : ∀ b : Nat, PX b S5 B := fun b k _ => ⟨fun r _ _ => by rw [row6.1], by rw [row6.2.1], fun r _ _ => by rw [row6.2.2.1]⟩
  have qx6 : ∀ l : Nat, QX l S5 B := fun _ l _ => ⟨by rw [row6.2.2.1], fun r _ _ => by rw [row6.1]⟩
  have pa1 : PX P S A4 := fun k _ => ⟨fun r _ _ => by rw [row4.1, row1.1], by rw [row4.2.1, row1.2.1], fun r _ _ => by rw [row4.2.2.1, row1.2.2.1]⟩
  have hgv : eBx S0 bl ∨ (([] : List tE) = [] ∧ (eVf R S0 Λ gv).gv = 0) ∨ (([] : List tE) = [eU (eVf R S0 Λ gv).gv] ∧ (eVf R S0 Λ gv).gv ≠ 0) := by
    rcases b15 with w | w
    · refine Or.inr (Or.inl ⟨rfl, ?_⟩)
      show abT S0 gv = 0
      obtain ⟨t, _, _, _, q1, q2⟩ := abV_is hY w
      rw [q2, if_neg (by decide), if_neg (by decide), q1]; rfl
    · exact Or.inl ⟨45, w⟩
  have T := ((g23.2.2.1.st p5.2.1).rt (pp := R.ps (i + 1) - 1) p5.2.2.1 pl0_o (by omega) (by decide) hgv).sx x6 (px6 _) (qx6 _)
  have kk6 : K0 B (P2 + (ksV 0 mn).length + 1) := by
    have h27 : Zr B 27 = Zr S5 27 := by rw [row6.1]
    by_cases e0 : P2 + (ksV 0 mn).length = 0
    · have h5 := p5.2.2.1.1 27 (by decide) (by decide) (by decide)
      rw [e0] at h5
      refine ⟨by omega, ?_, ?_⟩
      · rw [h27, h5]; exact (show (26 : Int32) ≠ 18 by decide)
      · rw [h27, h5]; exact (show (26 : Int32) ≠ 19 by decide)
    · have k3 : K0 S3 (P2 + (ksV 0 mn).length) := by
        rcases d5 with e | e
        · have z3 := g3.2.2.1
          refine ⟨by omega, ?_⟩
          obtain ⟨st, W, hst, _, _, _, _, h6⟩ := z3
          obtain ⟨i0, q1, q2, q3, q4, q5⟩ := h6 0 (by omega) (by omega)
          have hne : ∀ K : Nat, (K = 18 ∨ K = 19) → Zr S3 27 0 ≠ nI K := fun K hK w => by
            have hkd : i0.kd = K := nI_ij (q1.1.symm.trans w) (by have := q1.2.1; omega) (by omega)
            have hs : ∃ (t : Nat) (r : List tE), st 0 = (0, t, 0) :: r := by
              unfold tPt at q5
              rw [hkd] at q5
              rcases hK with e9 | e9 <;> subst e9
              · obtain ⟨_, t, j, r, _, hs, _⟩ := q5; exact ⟨t, r, hs⟩
              · obtain ⟨_, t, j, r, _, hs, _⟩ := q5; exact ⟨t, r, hs⟩
            obtain ⟨t, r, hs⟩ := hs
            rw [e, hs] at hst
            obtain ⟨k9, hk9⟩ : ∃ k9 : Nat, mn = k9 + 1 := ⟨mn - 1, by omega⟩
            rw [hk9] at hst
            have hw := hst.1
            rcases hw with hw | ⟨t2, _, hw, ⟨t3, _, hw3⟩ | ⟨T, hw3 | hw3⟩⟩
            · cases hw
            · cases hw3
            · cases hw3
            · cases hw3
          exact ⟨hne 18 (Or.inl rfl), hne 19 (Or.inr rfl)⟩
        · exact e.st g3.2.1 (by omega)
      have := k3.st p5.2.1 (Nat.le_succ _)
      unfold K0; rw [h27]; exact this
  have hz5 : Zz S5 ≤ Zz S + (20 * (bw (R.ps (i + 1)) - bw (R.ps i)) + 40) := by
    have q1 := g1.2.2.2.1; have q2 := g23.2.2.2.1; have q3 := p5.2.2.2.1; omega
  have hn5 : Zn S5 ≤ Zn S + (60 * (bw (R.ps (i + 1)) - bw (R.ps i)) + 100) := by
    have q1 := g1.2.2.2.2.1; have q2 := g23.2.2.2.2.1; have q3 := p5.2.2.2.2.1; omega
  have hOB : OUl R S0 B (eVf R S0 Λ gv) i mn L1 := (hO.st g23.2.1.2.2.1).st (fun l hl => (QX.tr (L2 := L2) p5.2.1.2.2.1 (qx6 _) (Nat.le_refl _)) l (by have := g2.2.2.2.2.2.2.1; omega))
  refine ⟨Λ, gv, mn, P2 + (ksV 0 mn).length + 1, L1, L2, 0, Λ.take mn, ⟨hF, T, hOB, g2.2.2.2.2.2.2.1, by omega, a4, by omega, ?_, fun q hq => ?_, ?_, by omega, _, e6, ?_, ?_, by omega⟩, c6, ((x1.tr x4).tr z15.1).tr x6, (pa1.tr z15.2.1 (Nat.le_refl _)).tr (px6 P) (Nat.le_refl _), fun j hj hji hw fs e => ?_, by omega, by rw [row6.2.2.2.1]; exact hz5, by rw [row6.2.2.2.2]; exact hn5, kk6⟩
  · show fN (obF S0 (R.ws i)) 3 = mn
    rw [obF_o a2, fN_i a3 (by omega)]
  · obtain ⟨v, x, nm, p1, p2, p3, p4⟩ := b12 q hq
    obtain ⟨x', px1, px2⟩ := b1.2.2 q hq
    rw [p3] at px1; cases px1
    have e1 : (hdS R S0 i).2.1 q = abT S0 x := by
      show (match rN (obF S0 (R.ws i)) 10 with
        | some ta => abU S0 (roQ S0 ta q)
        | none => 0) = _
      rw [obF_o a2, rN_r a5]
      show abU S0 (roQ S0 ta q) = _
      rw [roQ_o b1.2.1, p3]; rfl
    have e2 : (eVf R S0 Λ gv).vt q = abT S0 x := by
      show vtS S0 Λ q = _
      unfold vtS; rw [p1]
      show abU S0 (rN (obF S0 v) 2) = _
      rw [isV_t p4]; rfl
    rw [e1, e2]
    exact ⟨rfl, px2.n0 hY⟩
  · show abU S0 (rN (obF S0 (R.ws i)) 15) = _
    rw [obF_o a2, rN_r a6]; rfl
  · exact List.getElem?_set_self (by rw [List.length_set]; omega)
  · rw [List.getElem?_set_ne (by decide)]
    exact List.getElem?_set_self (by omega)
  · rw [oth6 _ hw]
    refine z15.2.2.2 _ ?_ _ (by rw [row4.2.2.2.2.2.1, oth _ hw]; exact e)
    obtain ⟨n1', _⟩ := hIT j hj
    exact (x4.1 _ (x1.1 _ (c.1.1 _ (hL _ n1'.1)).1).1).1
end LY48
