/-- the items' sizes as far as they are told, the table of what lies in what -/
def SI (R : yR) (c nv : Nat) (S : Sg) (g : Nat → Int32) (S1 : Sg) : Prop := EI R c nv S g S1 ∧ ∀ a : Nat, a < R.im → ∃ (fs : List Value) (s : Nat) (v : Int32), ZF S1 (R.ws a) = .inr (16, fs) ∧ fs[19]? = some (.int (nI s)) ∧ s ≤ 1000 ∧ fs[21]? = some (.int v) ∧ (v = 0 ∨ v = 1) ∧ (v = 0 → noC R.im g a)
section SZO
variable {R : yR} {c nv : Nat} {S : Sg} {g : Nat → Int32}
theorem RDI.ne (hD : RDI R) {i j : Nat} (hi : i < R.im) (hj : j < R.im) (h : i ≠ j) : R.ws i ≠ R.ws j := by
  rcases Nat.lt_or_ge i j with z | z
  · have := hD.lt z hj; omega
  · have := hD.lt (show j < i by omega) hi; omega
theorem EF.si {S1 : Sg} (h : EI R c nv S g S1) (f : EF R g R.im S1) : SI R c nv S g S1 := ⟨h, fun a ha => by
  obtain ⟨fs, v, h1, h2, h3, h4, h5⟩ := f a ha
  exact ⟨fs, 0, v, h1, h2, by omega, h3, h4, h5⟩⟩
/-- an item's size is told -/
theorem szi126 (hD : RDI R) {V : Sg → Option Nat → Option (Sg × Int32)} {S1 : Sg} {i s : Nat} (h : SI R c nv S g S1) (hi : i < R.im) (hs : s ≤ 1000) : Rt (f_sizeOfItem_126 R.K V S1 (some (R.ws i)) (nI s) (some (R.ws i))) (fun S2 r => SI R c nv S g S2 ∧ ∃ s : Nat, s ≤ 1000 ∧ r = nI s) := by
  obtain ⟨gs, g1, g2, g3, g4⟩ := h.1.w hD hi (k := 19) (Or.inl rfl) (.int (nI s)) (Or.inr ⟨_, rfl⟩)
  unfold f_sizeOfItem_126
  refine Rt.bd g3 (Rt.bd (oI_mk (fs := gs.set 19 (.int (nI s))) (v := nI s) (g4.1.L (hD.ob h.1.1 hi).1) ZF_s (by rw [List.getElem?_set_self (by rw [g2]; decide)])) (Rt.rt ⟨⟨g4, fun a ha => ?_⟩, s, hs, rfl⟩))
  obtain ⟨fs, s9, v, h1, h2, h3, h4, h5⟩ := h.2 a ha
  by_cases e : a = i
  · subst e
    have ee : gs = fs := (Prod.mk.inj (Sum.inr.inj (g1.symm.trans h1))).2
    subst ee
    exact ⟨_, s, v, ZF_s, by rw [List.getElem?_set_self (by rw [g2]; decide)], hs, by rw [List.getElem?_set_ne (by decide)]; exact h4, h5⟩
  · exact ⟨fs, s9, v, (ZF_n (hD.ne ha hi e)).trans h1, h2, h3, h4, h5⟩
/-- sizeOf, of what lies in item i -/
theorem szo_ (hD : RDI R) (hc : c ≤ 1990) (hW : wC R.im R.im g) (hE : ∀ a b : Nat, a < R.im → b < R.im → eD R S g a b) {V : Sg → Option Nat → Option (Sg × Int32)} {n i x : Nat} {S1 : Sg} (hV : ∀ (j : Nat) (S1 : Sg), j < R.im → R.ik j ≠ 12 → noC R.im g j → hN g j R.im < n → SI R c nv S g S1 → Rt (V S1 (some (R.ws j))) (fun S2 r => SI R c nv S g S2 ∧ ∃ s : Nat, s ≤ 1000 ∧ r = nI s)) (h : SI R c nv S g S1) (hi : i < R.im) (hik : R.ik i ≠ 12) (hno : noC R.im g i) (hn : hN g i R.im ≤ n) (hx : fdO R S1 i x) {kd ix : Int32} {o : Option Nat} (hty : isTy S1 x kd ix o) : Rt (f_sizeOf R.K V S1 (some x)) (fun S2 r => SI R c nv S g S2 ∧ ∃ s : Nat, s ≤ 1000 ∧ r = nI s) := by
  have hok := (h.1.1.at hc hty).1
  have hty2 := hty
  obtain ⟨t, h1, h2, h3, h4⟩ := hty2
  have h16 : (kd = 3 ∨ kd = 4) → Rt (f_sizeOf_16 R.K V S1 (some x)) (fun S2 r => SI R c nv S g S2 ∧ ∃ s : Nat, s ≤ 1000 ∧ r = nI s) := fun hk => by
    obtain ⟨j, hj, ej, hjk⟩ : ∃ j : Nat, j < R.im ∧ ix = nI j ∧ R.ik j ≠ 12 := by
      rcases hok with ⟨w, _⟩ | ⟨_, ⟨j, w1, w2, w3⟩, _⟩ | ⟨_, ⟨j, w1, w2, w3⟩, _⟩ | ⟨w, _⟩
      · have w : kd = 0 ∨ kd = 1 ∨ kd = 2 ∨ kd = 8 := w
        rcases hk with e | e <;> rw [e] at w <;> exact absurd w (by decide)
      · exact ⟨j, w1, w2, by rw [w3]; decide⟩
      · exact ⟨j, w1, w2, by rw [w3]; decide⟩
      · have w : kd = 5 ∨ kd = 6 ∨ kd = 7 := w
        rcases hk with e | e <;> rw [e] at w <;> exact absurd w (by decide)
    have hb : hB g i j := fun e => by
      rcases (hE i j hi hj).2 e with w | w | w
      · exact hik w
      · exact hjk w
      · exact w x (h.1.2.2.2.1.fd hx) kd o (by rw [← ej]; exact h.1.2.2.2.1.ty hty) hk
    obtain ⟨d1, d2⟩ := noC_dn hW hi hj hno hb
    unfold f_sizeOf_16 f_sizeOf_33
    refine Rt.bd (oI_mk h3 h4 (v := ix) rfl) ?_
    rw [ej]
    refine Rt.bd (hD.it h.1.1 hj) (Rt.bn (hV j S1 hj hjk d1 (by omega) h) (fun S2 r q => Rt.rt q))
  unfold f_sizeOf f_sizeOf_33
  refine Rt.bd (oI_mk h3 h4 (v := kd) rfl) (Rt.it (fun w => h16 (Or.inl w)) (fun w => ?_))
  exact Rt.bd (oI_mk h3 h4 (v := kd) rfl) (Rt.it (fun w => h16 (Or.inr w)) (fun w2 => Rt.rt ⟨h, 1, by omega, rfl⟩))
end SZO
