section FMN
variable {R : yR} {c nv : Nat} {S : Sg}
theorem ism_ (h : TS R c nv S) {ta : Nat} (hta : ta < R.T) : Rt (f_isMain R.K S (nI ta)) (fun S2 r => S2 = S ∧ (r = 0 ∨ r = 1)) := by
  obtain ⟨G, tm, Y, ad, h1, h2, h3, h4⟩ := h
  exact isMain_ h1 hta
theorem TS.u21 (h : TS R c nv S) {x : Int32} : TS R c nv (Ui S 21 x) := by
  obtain ⟨G, tm, Y, ad, h1, h2, h3, h4⟩ := h
  exact ⟨G, tm, Y, ad, ⟨h1.1, (Zi_n (by decide)).trans h1.2.1, (Zi_n (by decide)).trans h1.2.2.1, (Zi_n (by decide)).trans h1.2.2.2.1, h1.2.2.2.2.1, h1.2.2.2.2.2.1, h1.2.2.2.2.2.2⟩, h2, h3, fun j a b c d e f => (Zi_n d).trans (h4.1 j a b c d e f), h4.2⟩
theorem VZ.u21 {X : Nat → Prop} {x : Int32} : VZ R X S (Ui S 21 x) := ⟨fun _ _ _ => rfl, fun _ q => q, fun y kd ix o ⟨t, q1, q2, q3, q4⟩ => ⟨t, by unfold tmS; rw [Zi_n (by decide)]; exact q1, q2, q3, q4⟩, fun v ix nm ty mu q => ⟨ty, q, Or.inr rfl⟩, fun q => by rw [Zi_n (by decide)] at q; exact q⟩
/-- nothing but a fault, and where main is -/
def MF (R : yR) (c nv : Nat) (S S2 : Sg) : Prop := TS R c nv S2 ∧ VZ R nX S S2 ∧ Zf S2 = Zf S
theorem MF.fl {S1 : Sg} (h : MF R c nv S S1) {wh x : Int32} : MF R c nv S (flS S1 wh x) := ⟨h.1.fl, h.2.1.tr (VX.fl (R := R) (X := nX)).2, (VX.fl (R := R) (X := nX) (S := S1) (wh := wh) (x := x)).1.2.2.2.2.trans h.2.2⟩
theorem MF.u {S1 : Sg} (h : MF R c nv S S1) {x : Int32} : MF R c nv S (Ui S1 21 x) := ⟨h.1.u21, h.2.1.tr VZ.u21, h.2.2⟩
/-- main: a function with nothing to take and nothing to give -/
def MN (R : yR) (S : Sg) : Prop := ∃ (i : Nat) (fs : List Value) (gv : Nat), i < R.im ∧ Zi S 21 = nI i ∧ R.ik i = 12 ∧ ZF S (R.ws i) = .inr (16, fs) ∧ fs[3]? = some (.int 0) ∧ fs[15]? = some (.ref gv) ∧ isTy S gv 8 0 none
theorem fmn7 (hD : RDI R) (hc : c ≤ 1990) (hT9 : Zi R.S 9 = nI R.T) : ∀ (m k : Nat) {S1 : Sg}, R.im < k + m → k ≤ R.im → MF R c nv S S1 → (Zi S1 3 = 0 → ITA R S1) → (Zi S1 21 = -1 ∨ ∃ i : Nat, i < R.im ∧ R.ik i = 12 ∧ Zi S1 21 = nI i) → (Zi S 3 = 0 → Zi S1 3 = 0) → Zi S 3 = 0 → Rt (f_findMain_7 R.K m S1 (nI k)) (fun S2 _ => MF R c nv S S2 ∧ (Zi S2 3 = 0 → ITA R S2 ∧ MN R S2))
  | 0, k, _, h1, h2, _, _, _, _, _ => by omega
  | m + 1, k, S1, h1, h2, q1, hA, hm, hz, hz0 => by
    have hD0 := hD.1
    have hTb := q1.1.tb
    have z1 := hz hz0
    have hA1 := hA z1
    have hT0 : 0 < R.T := by obtain ⟨G, tm, Y, ad, g1, _⟩ := q1.1; exact Nat.lt_of_le_of_lt (Nat.zero_le _) (show 0 < R.T from by have := g1.1.1; omega)
    have hfl : ∀ {S2 : Sg} {wh x : Int32}, ¬ wh = 0 → MF R c nv S S2 → Rt (f_findMain_144 R.K (flS S2 wh x)) (fun S2 _ => MF R c nv S S2 ∧ (Zi S2 3 = 0 → ITA R S2 ∧ MN R S2)) := fun hw q2 => Rt.rt ⟨q2.fl, fun w => absurd w (flS_n0 hw)⟩
    unfold f_findMain_7
    rw [q1.1.i12 hD]
    refine Rt.it (fun w9 => ?_) (fun w9 => ?_)
    · rcases hm with hm | ⟨i, hi, hik, hm⟩
      · rw [hm]
        refine Rt.iq (by decide) ?_
        have e9 : Zi S1 9 - 1 = nI (R.T - 1) := by
          obtain ⟨G, tm, Y, ad, g1, g2, g3, g4⟩ := q1.1
          rw [g4.1 9 (by decide) (by decide) (by decide) (by decide) (by decide) (by decide), hT9]
          exact nI_sb (b := 1) (by omega)
        rw [e9]
        exact Rt.be (fai_ q1.1 (by omega)) (hfl (by decide) q1)
      · rw [hm]
        obtain ⟨b1, b2, b3, fs9, gs9, b4, b5, b6, b7, b8, b9, b10, b11⟩ := hD.ob q1.1 hi
        obtain ⟨a1, a2, fs, mn, na, g, a3, a4, a5, a6, a7, a8, a9, a10, a11⟩ := hA1 i hi
        have ee : gs9 = fs := (Prod.mk.inj (Sum.inr.inj (b5.symm.trans a3))).2
        subst ee
        rcases a11 with ⟨k1, _⟩ | ⟨k1, _⟩ | ⟨k1, ta, gv, lo, f, go, rl, k2, k3, k4, k5, _⟩
        · rw [hik] at k1; exact absurd k1 (by decide)
        · rw [hik] at k1; exact absurd k1 (by decide)
        have h127 : Rt (f_findMain_127 R.K S1) (fun S2 _ => MF R c nv S S2 ∧ (Zi S2 3 = 0 → ITA R S2 ∧ MN R S2)) := by
          unfold f_findMain_127
          rw [hm]
          exact Rt.bd (hD.it q1.1 hi) (Rt.bd (oI_mk b2 b5 b10) (Rt.be (fai_ q1.1 b3) (hfl (by decide) q1)))
        have h6 : ∃ lv : Int32, gs9[6]? = some (.int lv) := by
          obtain ⟨_, z2, ⟨fs8, z3, z4⟩, _⟩ := hD.2.2.2.2 i hi
          obtain ⟨_, _, _, mn9, na9, g9, _, _, _, _, y8⟩ := z2
          rcases y8 with ⟨wa, ta, q', f, c3, _⟩ | ⟨vr, q', f, c3, _⟩ | ⟨lv, wa, ta, pa, lf, lo, q', va, b, bl, rs, f, gl, c3, _⟩ <;> (have e := (Prod.mk.inj (Sum.inr.inj (b4.symm.trans c3))).2; rw [b8 6 rfl, e]; exact ⟨_, rfl⟩)
        obtain ⟨lv, h6⟩ := h6
        refine Rt.ip (by
          have := nI_le (a := 0) (b := i) (Nat.zero_le _) (by omega)
          exact this) ?_
        refine Rt.bd (hD.it q1.1 hi) (Rt.bd (oI_mk b2 b5 a5) (Rt.it (fun _ => h127) (fun w8 => ?_)))
        have hmn : mn = 0 := by
          rcases Nat.eq_zero_or_pos mn with e | e
          · exact e
          · exact absurd (by
              have : ¬ nI mn ≤ nI 0 := fun w => by have := (nI_leI (a := mn) (b := 0) (by omega) (by omega)).mp w; omega
              exact Int32.not_le.mp this) w8
        refine Rt.bd (hD.it q1.1 hi) (Rt.bd (oI_mk b2 b5 h6) (Rt.it (fun _ => h127) (fun w7 => ?_)))
        obtain ⟨kd, ix, o, hty⟩ := k5.ty
        have hty2 := hty
        obtain ⟨tt, t1, t2, t3, t4⟩ := hty2
        refine Rt.bd (hD.it q1.1 hi) (Rt.bd (oR_mk (v := some gv) b2 b5 k4) (Rt.bd (oI_mk t3 t4 (v := kd) rfl) (Rt.it (fun w6 => ?_) (fun _ => h127))))
        refine Rt.rt ⟨q1, fun _ => ⟨hA1, i, gs9, gv, hi, hm, hik, b5, by rw [a5, hmn]; rfl, k4, ?_⟩⟩
        have := (q1.1.at hc hty).1
        rw [w6] at hty this
        rcases this with ⟨_, h1, h2⟩ | ⟨h, _⟩ | ⟨h, _⟩ | ⟨h, _⟩
        · have h1 : ix = 0 := h1
          have h2 : o = none := h2
          rw [h1, h2] at hty
          exact hty
        · exact absurd (show (8 : Int32) = 3 from h) (by decide)
        · exact absurd (show (8 : Int32) = 4 from h) (by decide)
        · exact absurd (show (8 : Int32) = 5 ∨ (8 : Int32) = 6 ∨ (8 : Int32) = 7 from h) (by decide)
    have hlt : k < R.im := by
      rcases Nat.lt_or_ge k R.im with z | z
      · exact z
      · exact absurd (nI_le z (by omega)) w9
    obtain ⟨b1, b2, b3, fs9, gs9, b4, b5, b6, b7, b8, b9, b10, b11⟩ := hD.ob q1.1 hlt
    unfold f_findMain_50
    rw [nI_1]
    have hgo := fmn7 hD hc hT9 m (k + 1) (S1 := S1) (by omega) (by omega) q1 hA hm hz hz0
    refine Rt.bd (hD.it q1.1 hlt) (Rt.bd (oI_mk b2 b5 b11) (Rt.it (fun ek => ?_) (fun _ => hgo)))
    refine Rt.bd (hD.it q1.1 hlt) (Rt.bd (oI_mk b2 b5 b10) (Rt.bn (ism_ q1.1 b3) (fun S2 r q2 => ?_)))
    obtain ⟨e2, q2⟩ := q2
    rw [e2]
    refine Rt.it (fun _ => hgo) (fun _ => Rt.bd (v := Ui S1 21 (nI k)) rfl ?_)
    refine fmn7 hD hc hT9 m (k + 1) (by omega) (by omega) q1.u (fun w i hi => (hA1 i hi).vz (p := 0) (q := 0) (S2 := Ui S1 21 (nI k)) VZ.u21) (Or.inr ⟨k, hlt, ek, Zi_s⟩) (fun w => by rw [Zi_n (by decide)]; exact hz w) hz0
/-- findMain -/
theorem fmn_ (hD : RDI R) (hc : c ≤ 1990) (hT9 : Zi R.S 9 = nI R.T) (h : TS R c nv S) (hz : Zi S 3 = 0) (hA : ITA R S) : Rt (f_findMain R.K S) (fun S2 _ => MF R c nv S S2 ∧ (Zi S2 3 = 0 → ITA R S2 ∧ MN R S2)) := by
  have hD0 := hD.1
  unfold f_findMain
  refine Rt.bd (v := Ui S 21 (-1)) rfl (fmn7 hD hc hT9 bigN 0 (by unfold bigN; omega) (Nat.zero_le _) ⟨h.u21, VZ.u21, rfl⟩ (fun _ i hi => (hA i hi).vz (p := 0) (q := 0) (S2 := Ui S 21 (-1)) VZ.u21) (Or.inl Zi_s) (fun w => by rw [Zi_n (by decide)]; exact w) hz)
end FMN
