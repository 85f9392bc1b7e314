/-- how much the rows of moves may still grow -/
def cm (S : Sg) (a m : Nat) : Nat := cw (Zl S 53) a m + cw (Zl S 54) a m
/-- rows of moves only grow -/
def mvG (S S2 : Sg) : Prop := sbL (Zl S 53) (Zl S2 53) ∧ sbL (Zl S 54) (Zl S2 54)
section PS13
variable {R : yR} {S0 S S1 S2 Sr : Sg} {ws Ps Pe k n j : Nat} {I : Nat → iR} {g : Nat → Int32} {P : Nat → Prop}
theorem mvG.tr (a : mvG S S1) (b : mvG S1 S2) : mvG S S2 := ⟨a.1.tr b.1, a.2.tr b.2⟩
theorem mvG.le (a : mvG S S2) {b m : Nat} : cm S2 b m ≤ cm S b m := by
  have := cw_le (a := b) (m := m) a.1
  have := cw_le (a := b) (m := m) a.2
  unfold cm
  omega
theorem mr4 (hj : j < 24000) : ∀ (d w : Nat) (S1 : Sg) (x2 : Int32), 10 < w + d → w ≤ 10 → OXs (fun r => r = 53 ∨ r = 54) S S1 → mvG S S1 → ((x2 = 0 ∧ Zl S1 53 = Zl S 53 ∧ Zl S1 54 = Zl S 54 ∧ ∀ v b : Nat, v < w → lbit (Zl S 55 v) b = true → lbit (Zl S 53 (10 * j + v)) b = true) ∨ (x2 = 1 ∧ ∀ a m : Nat, a ≤ 10 * j → 10 * j + 10 ≤ a + m → cm S1 a m < cm S a m)) → Rt (f_merges_4 R.K d S1 (nI (10 * j)) x2 (nI w)) (fun S2 r => OXs (fun r => r = 53 ∨ r = 54) S S2 ∧ mvG S S2 ∧ ((r = 0 ∧ Zl S2 53 = Zl S 53 ∧ Zl S2 54 = Zl S 54 ∧ ∀ c : Nat, c < 640 → rb (Zl S 55) 0 c = true → rb (Zl S 53) (10 * j) c = true) ∨ (r = 1 ∧ ∀ a m : Nat, a ≤ 10 * j → 10 * j + 10 ≤ a + m → cm S2 a m < cm S a m)))
  | 0, w, S1, x2, hd, hn, _, _, _ => by omega
  | d + 1, w, S1, x2, hd, hn, e, hs, hx => by
    unfold f_merges_4
    refine Rt.it (fun q => ?_) (fun q => ?_)
    · have hw : 10 ≤ w := (nI_leI (a := 10) (b := w) (by decide) (by omega)).mp q
      obtain rfl : w = 10 := by omega
      refine Rt.zr (hx.imp (fun z => z.1) (fun z => z.1)) ⟨e, hs, hx.imp (fun ⟨a, b, c, dd⟩ => ⟨a, b, c, fun c hc hb => ?_⟩) id⟩
      unfold rb at hb ⊢
      rw [Nat.zero_add] at hb
      exact dd (c / 64) (c % 64) (by omega) hb
    · have hw : w < 10 := by
        by_cases q2 : w < 10
        · exact q2
        · exact absurd (nI_le (a := 10) (b := w) (by omega) (by omega)) q
      rw [nI_add]
      have l53 : 10 * j + w < rlen 53 := by show _ < 240000; omega
      have l54 : 10 * j + w < rlen 54 := by show _ < 240000; omega
      have r53 : rJ S1 53 (nI (10 * j + w)) = some (Zl S1 53 (10 * j + w)) := rJ_n l53 (by decide)
      have r54 : rJ S1 54 (nI (10 * j + w)) = some (Zl S1 54 (10 * j + w)) := rJ_n l54 (by decide)
      have r55 : rJ S1 55 (nI w) = some (Zl S1 55 w) := rJ_n (show w < rlen 55 from hw) (by decide)
      have r56 : rJ S1 56 (nI w) = some (Zl S1 56 w) := rJ_n (show w < rlen 56 from hw) (by decide)
      have e55 : Zl S1 55 = Zl S 55 := e.2.1 55 (by decide)
      have h74 : ∀ y2 : Int32, ((y2 = x2 ∧ Zl S1 53 (10 * j + w) ||| Zl S1 55 w = Zl S1 53 (10 * j + w) ∧ Zl S1 54 (10 * j + w) ||| Zl S1 56 w = Zl S1 54 (10 * j + w)) ∨ (y2 = 1 ∧ (Zl S1 53 (10 * j + w) ||| Zl S1 55 w ≠ Zl S1 53 (10 * j + w) ∨ Zl S1 54 (10 * j + w) ||| Zl S1 56 w ≠ Zl S1 54 (10 * j + w)))) → Rt (f_merges_74 R.K (f_merges_4 R.K d) S1 (nI (10 * j)) y2 (nI w) (Zl S1 53 (10 * j + w) ||| Zl S1 55 w) (Zl S1 54 (10 * j + w) ||| Zl S1 56 w)) (fun S2 r => OXs (fun r => r = 53 ∨ r = 54) S S2 ∧ mvG S S2 ∧ ((r = 0 ∧ Zl S2 53 = Zl S 53 ∧ Zl S2 54 = Zl S 54 ∧ ∀ c : Nat, c < 640 → rb (Zl S 55) 0 c = true → rb (Zl S 53) (10 * j) c = true) ∨ (r = 1 ∧ ∀ a m : Nat, a ≤ 10 * j → 10 * j + 10 ≤ a + m → cm S2 a m < cm S a m))) := fun y2 hy => by
        unfold f_merges_74
        rw [nI_add]
        refine Rt.bd (wJ_n l53 (by decide)) ?_
        have e2 : OXs (fun r => r = 53 ∨ r = 54) S1 (Ul S1 53 (vp_updL (Zl S1 53) (10 * j + w) (Zl S1 53 (10 * j + w) ||| Zl S1 55 w))) := OXs.ul (by decide) (Or.inl rfl)
        have a53 : Zl (Ul S1 53 (vp_updL (Zl S1 53) (10 * j + w) (Zl S1 53 (10 * j + w) ||| Zl S1 55 w))) 53 = vp_updL (Zl S1 53) (10 * j + w) (Zl S1 53 (10 * j + w) ||| Zl S1 55 w) := Zl_us
        have a54 : Zl (Ul S1 53 (vp_updL (Zl S1 53) (10 * j + w) (Zl S1 53 (10 * j + w) ||| Zl S1 55 w))) 54 = Zl S1 54 := Zl_un (by decide)
        generalize Ul S1 53 (vp_updL (Zl S1 53) (10 * j + w) (Zl S1 53 (10 * j + w) ||| Zl S1 55 w)) = Sa at e2 a53 a54
        refine Rt.bd (wJ_n l54 (by decide)) ?_
        rw [a54]
        have e3 : OXs (fun r => r = 53 ∨ r = 54) Sa (Ul Sa 54 (vp_updL (Zl S1 54) (10 * j + w) (Zl S1 54 (10 * j + w) ||| Zl S1 56 w))) := OXs.ul (by decide) (Or.inr rfl)
        have b54 : Zl (Ul Sa 54 (vp_updL (Zl S1 54) (10 * j + w) (Zl S1 54 (10 * j + w) ||| Zl S1 56 w))) 54 = vp_updL (Zl S1 54) (10 * j + w) (Zl S1 54 (10 * j + w) ||| Zl S1 56 w) := Zl_us
        have b53 : Zl (Ul Sa 54 (vp_updL (Zl S1 54) (10 * j + w) (Zl S1 54 (10 * j + w) ||| Zl S1 56 w))) 53 = Zl Sa 53 := Zl_un (by decide)
        generalize Ul Sa 54 (vp_updL (Zl S1 54) (10 * j + w) (Zl S1 54 (10 * j + w) ||| Zl S1 56 w)) = Sb at e3 b53 b54
        rw [a53] at b53
        have hg : mvG S1 Sb := ⟨by rw [b53]; exact sbL.or, by rw [b54]; exact sbL.or⟩
        rw [nI_1]
        rcases hy with ⟨y1, y3, y4⟩ | ⟨y1, y3⟩
        · have i53 : Zl Sb 53 = Zl S1 53 := by rw [b53]; exact upL_id y3
          have i54 : Zl Sb 54 = Zl S1 54 := by rw [b54]; exact upL_id y4
          refine mr4 hj d (w + 1) Sb y2 (by omega) (by omega) ((e.tr e2).tr e3) (hs.tr hg) ?_
          rcases hx with ⟨x0, b, c, dd⟩ | ⟨x1, b⟩
          · refine Or.inl ⟨y1.trans x0, i53.trans b, i54.trans c, fun v bb hv hb => ?_⟩
            by_cases ev : v = w
            · subst ev
              rw [← b, ← y3, lbit_or, e55, hb]; simp
            · exact dd v bb (by omega) hb
          · refine Or.inr ⟨y1.trans x1, fun a m h1 h2 => ?_⟩
            have := b a m h1 h2
            unfold cm at this ⊢
            rw [i53, i54]; exact this
        · refine mr4 hj d (w + 1) Sb y2 (by omega) (by omega) ((e.tr e2).tr e3) (hs.tr hg) (Or.inr ⟨y1, fun a m h1 h2 => ?_⟩)
          have c0 := hs.le (b := a) (m := m)
          have c1 : cm Sb a m < cm S1 a m := by
            have d1 := cw_le (a := a) (m := m) hg.1
            have d2 := cw_le (a := a) (m := m) hg.2
            unfold cm
            rcases y3 with y3 | y3
            · have := cw_lt (a := a) (w := 10 * j + w) (m := m) hg.1 (by omega) (by omega) (by rw [b53, upL_s]; exact fun z => y3 z.symm)
              omega
            · have := cw_lt (a := a) (w := 10 * j + w) (m := m) hg.2 (by omega) (by omega) (by rw [b54, upL_s]; exact fun z => y3 z.symm)
              omega
          omega
      refine Rt.bd r53 (Rt.bd r55 (Rt.bd r54 (Rt.bd r56 (Rt.bd r53 (Rt.it (fun q2 => Rt.bd r54 (Rt.it (fun q3 => h74 x2 (Or.inl ⟨rfl, lgc0.mp q2, lgc0.mp q3⟩)) (fun q3 => h74 1 (Or.inr ⟨rfl, Or.inr (fun z => q3 (lgc0.mpr z))⟩)))) (fun q2 => h74 1 (Or.inr ⟨rfl, Or.inl (fun z => q2 (lgc0.mpr z))⟩)))))))
/-- merges -/
theorem mrg_ (hj : j < 24000) : Rt (f_merges R.K S (nI (10 * j))) (fun S2 r => OXs (fun r => r = 53 ∨ r = 54) S S2 ∧ mvG S S2 ∧ ((r = 0 ∧ Zl S2 53 = Zl S 53 ∧ Zl S2 54 = Zl S 54 ∧ ∀ c : Nat, c < 640 → rb (Zl S 55) 0 c = true → rb (Zl S 53) (10 * j) c = true) ∨ (r = 1 ∧ ∀ a m : Nat, a ≤ 10 * j → 10 * j + 10 ≤ a + m → cm S2 a m < cm S a m))) := by
  unfold f_merges
  exact mr4 hj bigN 0 S 0 (by unfold bigN; omega) (Nat.zero_le _) OXs.rf ⟨sbL.rf, sbL.rf⟩ (Or.inl ⟨rfl, rfl, rfl, fun v b hv => by omega⟩)
end PS13
