section SZI
variable {R : yR} {c nv : Nat} {S : Sg} {g : Nat → Int32}
/-- what the size of an item gives -/
def SZP (R : yR) (c nv : Nat) (S : Sg) (g : Nat → Int32) (S2 : Sg) (r : Int32) : Prop := SI R c nv S g S2 ∧ ∃ s : Nat, s ≤ 1000 ∧ r = nI s
theorem szEnd (hD : RDI R) {V : Sg → Option Nat → Option (Sg × Int32)} {S1 : Sg} {i s : Nat} (h : SI R c nv S g S1) (hi : i < R.im) (hs : s ≤ 1000000) : Rt (if nI s ≤ 1000 then (f_sizeOfItem_126 R.K V S1 (some (R.ws i)) (nI s) (some (R.ws i))) else (f_sizeOfItem_126 R.K V S1 (some (R.ws i)) 1000 (some (R.ws i)))) (SZP R c nv S g) := by
  refine Rt.it (fun w => ?_) (fun w => ?_)
  · have := (nI_leI (a := s) (b := 1000) (by omega) (by omega)).mp w
    exact szi126 hD h hi this
  · exact szi126 hD (s := 1000) h hi (Nat.le_refl _)
theorem szi16 (hD : RDI R) (hc : c ≤ 1990) (hW : wC R.im R.im g) (hE : ∀ a b : Nat, a < R.im → b < R.im → eD R S g a b) {V : Sg → Option Nat → Option (Sg × Int32)} {n i : Nat} (hV : ∀ (j : Nat) (S1 : Sg), j < R.im → R.ik j ≠ 12 → noC R.im g j → hN g j R.im < n → SI R c nv S g S1 → Rt (V S1 (some (R.ws j))) (SZP R c nv S g)) (hi : i < R.im) (hik : R.ik i ≠ 12) (hno : noC R.im g i) (hn : hN g i R.im ≤ n) {mn : Nat} (hmn : mn ≤ 12) (hm3 : ∀ fs : List Value, ZF R.S (R.ws i) = .inr (16, fs) → fs[3]? = some (.int (nI mn))) : ∀ (m k s : Nat) {S1 : Sg}, mn < k + m → k ≤ mn → s ≤ 13000 * k → SI R c nv S g S1 → Rt (f_sizeOfItem_16 R.K V m S1 (some (R.ws i)) (nI s) (nI k)) (SZP R c nv S g)
  | 0, k, s, _, h1, h2, _, _ => by omega
  | m + 1, k, s, S1, h1, h2, hs, h => by
    obtain ⟨b1, b2, b3, fs9, gs9, b4, b5, b6, b7, b8, b9, b10, b11⟩ := hD.ob h.1.1 hi
    have e3 : gs9[3]? = some (.int (nI mn)) := (b8 3 rfl).trans (hm3 _ b4)
    obtain ⟨a1, a2, fs, mn2, na, g9, a3, a4, a5, a6, a7, a8, a9, a10, a11⟩ := h.1.2.1 i hi
    have ee : gs9 = fs := (Prod.mk.inj (Sum.inr.inj (b5.symm.trans a3))).2
    subst ee
    have em : mn = mn2 := nI_ij (Value.int.inj (Option.some.inj (e3.symm.trans a5))) (by omega) (by omega)
    subst em
    unfold f_sizeOfItem_16
    refine Rt.bd (oI_mk b2 b5 e3) (Rt.it (fun w9 => szEnd hD h hi (by omega)) (fun w9 => ?_))
    have hlt : k < mn := by
      rcases Nat.lt_or_ge k mn with z | z
      · exact z
      · exact absurd (nI_le z (by omega)) w9
    have hgo : ∀ (S2 : Sg) (s2 : Nat), s2 ≤ 13000 * (k + 1) → SI R c nv S g S2 → Rt (f_sizeOfItem_16 R.K V m S2 (some (R.ws i)) (nI s2) (nI (k + 1))) (SZP R c nv S g) := fun S2 s2 hs2 q2 => szi16 hD hc hW hE hV hi hik hno hn hmn hm3 m (k + 1) s2 (by omega) (by omega) hs2 q2
    refine Rt.bd (oI_mk b2 b5 b11) ?_
    rcases a11 with ⟨k1, ta, f, k2, k3⟩ | ⟨k1, vr, fv, k2, k3, k4, k5⟩ | ⟨k1, _⟩
    · rw [k1]
      obtain ⟨x, x1, x2⟩ := k3.2.2 k hlt
      obtain ⟨kd, ix, o, hx, _⟩ := x2.ty
      refine Rt.ip rfl (Rt.bd (oR_mk (v := some ta) b2 b5 k2) (Rt.bd (aQ_n (h.1.1.L k3.1.1) k3.2.1 (show k < 13 by omega) (by decide)) ?_))
      rw [x1]
      refine Rt.bn (szo_ hD hc hW hE hV h hi hik hno hn ⟨_, mn, b5, e3, hmn, Or.inl ⟨k1, ta, k, f, k2, k3.2.1, hlt, x1⟩⟩ hx) (fun S2 r q => ?_)
      obtain ⟨q1, s2, q2, q3⟩ := q
      unfold f_sizeOfItem_105
      rw [q3, nI_add, nI_1]
      exact hgo S2 _ (by omega) q1
    · rw [k1]
      refine Rt.iq (by decide) ?_
      -- a variant's parts
      suffices hloop : ∀ (m2 l s4 : Nat) {S2 : Sg}, 12 < l + m2 → l ≤ 12 → s4 ≤ 1 + 1000 * l → SI R c nv S g S2 → Rt (f_sizeOfItem_55 R.K V (f_sizeOfItem_16 R.K V m) m2 S2 (some (R.ws i)) (nI s) (nI k) (nI s4) (nI l)) (SZP R c nv S g) from hloop bigN 0 1 (by unfold bigN; omega) (by omega) (by omega) h
      intro m2
      induction m2 with
      | zero => intro l s4 S2 h1 h2; omega
      | succ m2 ih =>
        intro l s4 S2 hl1 hl2 hs4 q2
        obtain ⟨_, d2, _, fs8, gs8, d4, d5, _, _, d8, _, _, d11⟩ := hD.ob q2.1.1 hi
        obtain ⟨c1, c2, fs7, mn3, na3, g3, c3, c4, c5, c6, c7, c8, c9, c10, c11⟩ := q2.1.2.1 i hi
        have e7 : gs8 = fs7 := (Prod.mk.inj (Sum.inr.inj (d5.symm.trans c3))).2
        subst e7
        have e8 : gs8[3]? = some (.int (nI mn)) := (d8 3 rfl).trans (hm3 _ d4)
        have em : mn = mn3 := nI_ij (Value.int.inj (Option.some.inj (e8.symm.trans c5))) (by omega) (by omega)
        subst em
        rcases c11 with ⟨y1, _⟩ | ⟨y1, vr2, fv2, y2, y3, y4, y5⟩ | ⟨y1, _⟩
        · rw [k1] at y1; exact absurd y1 (by decide)
        · obtain ⟨pa, mk, f, p1, p2, p3⟩ := y5 k hlt
          have hmkr : ∃ ys : List Value, ZF S2 pa = .inr (17, ys) ∧ ys[0]? = some (.int (nI mk)) ∧ mk ≤ 12 := by
            rcases p3 with ⟨p3, p4⟩ | ⟨wa, ta, p3, p4, p5⟩
            · exact ⟨_, p3, by rw [p4]; rfl, by omega⟩
            · exact ⟨_, p3, rfl, p4⟩
          obtain ⟨ys, r1, r2, r3⟩ := hmkr
          have hpaL := q2.1.1.L p2.1
          unfold f_sizeOfItem_55
          refine Rt.bd (oR_mk (v := some vr2) d2 d5 y2) (Rt.bd (aQ_n (q2.1.1.L y3.1) y4 (show k < 13 by omega) (by decide)) ?_)
          rw [p1]
          unfold f_sizeOfItem_105
          rw [nI_1 (a := k)]
          refine Rt.bd (oI_mk hpaL r1 r2) (Rt.it (fun w9 => Rt.it (fun _ => hgo S2 s (by omega) q2) (fun _ => hgo S2 s4 (by omega) q2)) (fun w9 => ?_))
          have hl : l < mk := by
            rcases Nat.lt_or_ge l mk with z | z
            · exact z
            · exact absurd (nI_le z (by omega)) w9
          rcases p3 with ⟨p3, p4⟩ | ⟨wa, ta, p3, p4, p5⟩
          · omega
          obtain ⟨x, x1, x2⟩ := p5.2.2 l hl
          obtain ⟨kd, ix, o, hx, _⟩ := x2.ty
          refine Rt.bd (oR_mk (v := some vr2) d2 d5 y2) (Rt.bd (aQ_n (q2.1.1.L y3.1) y4 (show k < 13 by omega) (by decide)) ?_)
          rw [p1]
          refine Rt.bd (oR_mk (v := some ta) hpaL p3 rfl) (Rt.bd (aQ_n (q2.1.1.L p5.1.1) p5.2.1 (show l < 12 by omega) (by decide)) ?_)
          rw [x1]
          refine Rt.bn (szo_ hD hc hW hE hV q2 hi hik hno hn ⟨_, mn, d5, e8, hmn, Or.inr ⟨k1, vr2, k, pa, wa, ta, mk, l, fv2, f, y2, y4, hlt, p1, p3, p4, p5.2.1, hl, x1⟩⟩ hx) (fun S3 r q => ?_)
          obtain ⟨q3, s2, q4, q5⟩ := q
          rw [q5, nI_add, nI_1]
          exact ih (l + 1) (s4 + s2) (by omega) (by omega) (by omega) q3
        · rw [k1] at y1; exact absurd y1 (by decide)
    · exact absurd k1 hik
/-- sizeOfItem -/
theorem szi_ (hD : RDI R) (hc : c ≤ 1990) (hW : wC R.im R.im g) (hE : ∀ a b : Nat, a < R.im → b < R.im → eD R S g a b) : ∀ (d n i : Nat) (S1 : Sg), n < d → i < R.im → R.ik i ≠ 12 → noC R.im g i → hN g i R.im ≤ n → SI R c nv S g S1 → Rt (f_sizeOfItem R.K d S1 (some (R.ws i))) (SZP R c nv S g)
  | 0, n, i, S1, h1, _, _, _, _, _ => by omega
  | d + 1, n, i, S1, h1, hi, hik, hno, hn, h => by
    obtain ⟨b1, b2, b3, fs9, gs9, b4, b5, b6, b7, b8, b9, b10, b11⟩ := hD.ob h.1.1 hi
    obtain ⟨fs, s, v, k1, k2, k3, _⟩ := h.2 i hi
    have hm : ∃ mn : Nat, mn ≤ 12 ∧ ∀ fs : List Value, ZF R.S (R.ws i) = .inr (16, fs) → fs[3]? = some (.int (nI mn)) := by
      obtain ⟨a1, a2, fs, mn2, na, g9, a3, a4, a5, a6, _⟩ := h.1.2.1 i hi
      refine ⟨mn2, a6, fun fs0 e => ?_⟩
      have ee : gs9 = fs := (Prod.mk.inj (Sum.inr.inj (b5.symm.trans a3))).2
      subst ee
      have e0 : fs9 = fs0 := (Prod.mk.inj (Sum.inr.inj (b4.symm.trans e))).2
      subst e0
      exact (b8 3 rfl).symm.trans a5
    obtain ⟨mn, m1, m2⟩ := hm
    unfold f_sizeOfItem
    refine Rt.bd (oI_mk b2 k1 k2) (Rt.it (fun _ => ?_) (fun _ => Rt.bd (oI_mk b2 k1 k2) (Rt.rt ⟨h, s, k3, rfl⟩)))
    exact szi16 hD hc hW hE (fun j S2 hj hjk hjn hjm q2 => szi_ hD hc hW hE d (n - 1) j S2 (by omega) hj hjk hjn (by omega) q2) hi hik hno hn m1 m2 bigN 0 0 (by unfold bigN; omega) (Nat.zero_le _) (Nat.zero_le _) h
end SZI
