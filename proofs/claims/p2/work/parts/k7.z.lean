section LVI
variable {R : yR} {c nv : Nat} {S : Sg} {g : Nat → Int32}
/-- leaves of an item are told -/
def LVP (R : yR) (c nv : Nat) (S : Sg) (g : Nat → Int32) (z : Int32) (S2 : Sg) : Prop := EI R c nv S g S2 ∧ Zi S2 3 = z
theorem lvi67 (hD : RDI R) {V : Sg → Option Nat → Option (Sg × Int32)} {S1 : Sg} {i : Nat} {z : Int32} (h : LVP R c nv S g z S1) (hi : i < R.im) : Rt (f_leavesOfItem_67 R.K V S1 (some (R.ws i))) (fun S2 _ => LVP R c nv S g z S2) := by
  obtain ⟨fs, u, h1, h2⟩ := h.1.2.2.2.2.2 i hi
  unfold f_leavesOfItem_67
  exact Rt.bd (oI_mk (h.1.1.L (hD.ob h.1.1 hi).1) h1 h2) (Rt.rt h)
theorem lvi9 (hD : RDI R) (hc : c ≤ 1990) (hW : wC R.im R.im g) (hE : ∀ a b : Nat, a < R.im → b < R.im → eD R S g a b) {V : Sg → Option Nat → Option (Sg × Int32)} {n i : Nat} {z : Int32} (hV : ∀ (j : Nat) (S1 : Sg), j < R.im → R.ik j = 10 → noC R.im g j → hN g j R.im < n → LVP R c nv S g z S1 → Rt (V S1 (some (R.ws j))) (fun S2 _ => LVP R c nv S g z S2)) (hi : i < R.im) (hik : R.ik i = 10) (hno : noC R.im g i) (hn : hN g i R.im ≤ n) {mn : Nat} (hmn : mn ≤ 12) (hm3 : ∀ fs : List Value, ZF R.S (R.ws i) = .inr (16, fs) → fs[3]? = some (.int (nI mn))) : ∀ (m k : Nat) {S1 : Sg}, mn < k + m → k ≤ mn → LVP R c nv S g z S1 → Rt (f_leavesOfItem_9 R.K V m S1 (some (R.ws i)) (nI k)) (fun S2 _ => LVP R c nv S g z S2)
  | 0, k, _, h1, h2, _ => by omega
  | m + 1, k, S1, h1, h2, h => by
    obtain ⟨b1, b2, b3, fs9, gs9, b4, b5, b6, b7, b8, b9, b10, b11⟩ := hD.ob h.1.1 hi
    have e3 : gs9[3]? = some (.int (nI mn)) := (b8 3 rfl).trans (hm3 _ b4)
    obtain ⟨a1, a2, fs, mn2, na, g9, a3, a4, a5, a6, a7, a8, a9, a10, a11⟩ := h.1.2.1 i hi
    have ee : gs9 = fs := (Prod.mk.inj (Sum.inr.inj (b5.symm.trans a3))).2
    subst ee
    have em : mn = mn2 := nI_ij (Value.int.inj (Option.some.inj (e3.symm.trans a5))) (by omega) (by omega)
    subst em
    obtain ⟨fsu, u, u1, u2⟩ := h.1.2.2.2.2.2 i hi
    unfold f_leavesOfItem_9
    refine Rt.bd (oI_mk b2 b5 e3) (Rt.it (fun w9 => lvi67 hD h hi) (fun w9 => ?_))
    have hlt : k < mn := by
      rcases Nat.lt_or_ge k mn with z | z
      · exact z
      · exact absurd (nI_le z (by omega)) w9
    have h57 : ∀ (S2 : Sg) (y0 y1 : Int32), LVP R c nv S g z S2 → Rt (f_leavesOfItem_57 R.K V (f_leavesOfItem_9 R.K V m) S2 (some (R.ws i)) (nI k) y0 y1 (some (R.ws i))) (fun S2 _ => LVP R c nv S g z S2) := fun S2 y0 y1 q2 => by
      obtain ⟨gs, g1, g2, g3, g4⟩ := q2.1.w hD hi (k := 20) (Or.inr (Or.inl rfl)) (.int (y1 + y0)) (Or.inr ⟨_, rfl⟩)
      unfold f_leavesOfItem_57
      rw [nI_1]
      exact Rt.bd g3 (lvi9 hD hc hW hE hV hi hik hno hn hmn hm3 m (k + 1) (by omega) (by omega) ⟨g4, q2.2⟩)
    rcases a11 with ⟨k1, ta, f, k2, k3⟩ | ⟨k1, _⟩ | ⟨k1, _⟩
    · obtain ⟨x, x1, x2⟩ := k3.2.2 k hlt
      obtain ⟨kd, ix, o, hty, _⟩ := x2.ty
      have hok := (h.1.1.at hc hty).1
      have hty2 := hty
      obtain ⟨t, t1, t2, t3, t4⟩ := hty2
      refine Rt.bd (oI_mk b2 u1 u2) (Rt.bd (oR_mk (v := some ta) b2 b5 k2) (Rt.bd (aQ_n (h.1.1.L k3.1.1) k3.2.1 (show k < 13 by omega) (by decide)) ?_))
      rw [x1]
      refine Rt.bd (oI_mk t3 t4 (v := kd) rfl) (Rt.it (fun ek => ?_) (fun _ => h57 S1 _ _ h))
      obtain ⟨j, hj, ej, hjk⟩ : ∃ j : Nat, j < R.im ∧ ix = nI j ∧ R.ik j = 10 := by
        rcases hok with ⟨w, _⟩ | ⟨_, w, _⟩ | ⟨w, _⟩ | ⟨w, _⟩
        · have w : kd = 0 ∨ kd = 1 ∨ kd = 2 ∨ kd = 8 := w
          rw [ek] at w; exact absurd w (by decide)
        · exact w
        · have w : kd = 4 := w
          rw [ek] at w; exact absurd w (by decide)
        · have w : kd = 5 ∨ kd = 6 ∨ kd = 7 := w
          rw [ek] at w; exact absurd w (by decide)
      have hb : hB g i j := fun e => by
        rcases (hE i j hi hj).2 e with w | w | w
        · rw [hik] at w; exact absurd w (by decide)
        · rw [hjk] at w; exact absurd w (by decide)
        · exact w x (h.1.2.2.2.1.fd ⟨_, mn, b5, e3, hmn, Or.inl ⟨k1, ta, k, f, k2, k3.2.1, hlt, x1⟩⟩) kd o (by rw [← ej]; exact h.1.2.2.2.1.ty hty) (Or.inl ek)
      obtain ⟨d1, d2⟩ := noC_dn hW hi hj hno hb
      refine Rt.bd (oR_mk (v := some ta) b2 b5 k2) (Rt.bd (aQ_n (h.1.1.L k3.1.1) k3.2.1 (show k < 13 by omega) (by decide)) ?_)
      rw [x1]
      refine Rt.bd (oI_mk t3 t4 (v := ix) rfl) ?_
      rw [ej]
      exact Rt.bd (hD.it h.1.1 hj) (Rt.bn (hV j S1 hj hjk d1 (by omega) h) (fun S2 r q => h57 S2 _ _ q))
    · rw [hik] at k1; exact absurd k1 (by decide)
    · rw [hik] at k1; exact absurd k1 (by decide)
/-- leavesOfItem -/
theorem lvi_ (hD : RDI R) (hc : c ≤ 1990) (hW : wC R.im R.im g) (hE : ∀ a b : Nat, a < R.im → b < R.im → eD R S g a b) {z : Int32} : ∀ (d n i : Nat) (S1 : Sg), n < d → i < R.im → R.ik i = 10 → noC R.im g i → hN g i R.im ≤ n → LVP R c nv S g z S1 → Rt (f_leavesOfItem R.K d S1 (some (R.ws i))) (fun S2 _ => LVP R c nv S g z S2)
  | 0, n, i, S1, h1, _, _, _, _, _ => by omega
  | d + 1, n, i, S1, h1, hi, hik, hno, hn, h => by
    obtain ⟨b1, b2, b3, fs9, gs9, b4, b5, b6, b7, b8, b9, b10, b11⟩ := hD.ob h.1.1 hi
    obtain ⟨fsu, u, u1, u2⟩ := h.1.2.2.2.2.2 i hi
    have hm : ∃ mn : Nat, mn ≤ 12 ∧ ∀ fs : List Value, ZF R.S (R.ws i) = .inr (16, fs) → fs[3]? = some (.int (nI mn)) := by
      obtain ⟨a1, a2, fs, mn2, na, g9, a3, a4, a5, a6, _⟩ := h.1.2.1 i hi
      refine ⟨mn2, a6, fun fs0 e => ?_⟩
      have ee : gs9 = fs := (Prod.mk.inj (Sum.inr.inj (b5.symm.trans a3))).2
      subst ee
      have e0 : fs9 = fs0 := (Prod.mk.inj (Sum.inr.inj (b4.symm.trans e))).2
      subst e0
      exact (b8 3 rfl).symm.trans a5
    obtain ⟨mn, m1, m2⟩ := hm
    unfold f_leavesOfItem
    refine Rt.bd (oI_mk b2 u1 u2) (Rt.it (fun _ => ?_) (fun _ => lvi67 hD h hi))
    exact lvi9 hD hc hW hE (fun j S2 hj hjk hjn hjm q2 => lvi_ hD hc hW hE d (n - 1) j S2 (by omega) hj hjk hjn (by omega) q2) hi hik hno hn m1 m2 bigN 0 (by unfold bigN; omega) (Nat.zero_le _) h
/-- leaves -/
theorem lvs6 (hD : RDI R) (hc : c ≤ 1990) (hW : wC R.im R.im g) (hE : ∀ a b : Nat, a < R.im → b < R.im → eD R S g a b) (hno : ∀ a : Nat, a < R.im → R.ik a ≠ 12 → noC R.im g a) {z : Int32} : ∀ (m k : Nat) {S1 : Sg}, R.im < k + m → k ≤ R.im → LVP R c nv S g z S1 → Rt (f_leaves_2 R.K m S1 (nI k)) (fun S2 _ => LVP R c nv S g z S2)
  | 0, k, _, h1, h2, _ => by omega
  | m + 1, k, S1, h1, h2, q1 => by
    have hD0 := hD.1
    unfold f_leaves_2 f_leaves_35
    rw [q1.1.1.i12 hD, nI_1]
    refine Rt.it (fun w9 => Rt.rt q1) (fun w9 => ?_)
    have hlt : k < R.im := by
      rcases Nat.lt_or_ge k R.im with z | z
      · exact z
      · exact absurd (nI_le z (by omega)) w9
    obtain ⟨b1, b2, b3, fs9, gs9, b4, b5, b6, b7, b8, b9, b10, b11⟩ := hD.ob q1.1.1 hlt
    refine Rt.bd (hD.it q1.1.1 hlt) (Rt.bd (oI_mk b2 b5 b11) (Rt.it (fun ek => ?_) (fun _ => lvs6 hD hc hW hE hno m (k + 1) (by omega) (by omega) q1)))
    exact Rt.bd (hD.it q1.1.1 hlt) (Rt.bn (lvi_ hD hc hW hE 80 70 k S1 (by omega) hlt ek (hno k hlt (by rw [ek]; decide)) (Nat.le_trans (hN_le _) hD0) q1) (fun S2 r q2 => lvs6 hD hc hW hE hno m (k + 1) (by omega) (by omega) q2))
end LVI
