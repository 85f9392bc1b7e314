section ITW
variable {R : yR} {c nv : Nat} {S : Sg}
/-- fields of an item that its size, its leaves and its end are told in -/
def wF (k : Nat) : Prop := k = 19 ∨ k = 20 ∨ k = 21
theorem wF.ne {k j : Nat} (h : wF k) (hj : j < 19) : k ≠ j := by rcases h with h | h | h <;> omega
theorem ItY.w {i j k : Nat} {gs : List Value} {v : Value} (hk : wF k) (hF : ZF S (R.ws i) = .inr (16, gs)) (h : ItY R S j) : ItY R (UF S (R.ws i) (.inr (16, gs.set k v))) j := by
  have hT : ∀ (x : Nat) (kd ix : Int32) (o : Option Nat), isTy S x kd ix o → isTy (UF S (R.ws i) (.inr (16, gs.set k v))) x kd ix o := fun x kd ix o ⟨t, h1, h2, h3, h4⟩ => ⟨t, h1, h2, h3, (ZF_n (fun e => by rw [e, hF] at h4; cases h4)).trans h4⟩
  have hr : ∀ {a n : Nat} {k9 : ClassId} {f : vRw}, ZF S a = .inl (k9, n, f) → ZF (UF S (R.ws i) (.inr (16, gs.set k v))) a = .inl (k9, n, f) := fun e => (ZF_n (fun w => by rw [w, hF] at e; cases e)).trans e
  obtain ⟨h1, h2, fs, mn, na, g, h3, h4, h5, h6, h7, h8, h9, h10, h11⟩ := h
  -- the item's own cell
  have hc : ∃ fs2 : List Value, ZF (UF S (R.ws i) (.inr (16, gs.set k v))) (R.ws j) = .inr (16, fs2) ∧ ∀ l : Nat, l < 19 → fs2[l]? = fs[l]? := by
    by_cases e : R.ws j = R.ws i
    · rw [e] at h3
      have ee : gs = fs := (Prod.mk.inj (Sum.inr.inj (hF.symm.trans h3))).2
      subst ee
      exact ⟨gs.set k v, by rw [e]; exact ZF_s, fun l hl => List.getElem?_set_ne (hk.ne hl)⟩
    · exact ⟨fs, (ZF_n e).trans h3, fun _ _ => rfl⟩
  obtain ⟨fs2, c1, c2⟩ := hc
  refine ⟨h1, h2, fs2, mn, na, g, c1, (c2 2 (by decide)).trans h4, (c2 3 (by decide)).trans h5, h6, (c2 8 (by decide)).trans h7, h8, hr h9, h10, ?_⟩
  have hrt : ∀ {ta cap m9 : Nat} {f : Nat → Option Nat} {P P2 : Nat → Prop}, rTs R S ta cap m9 f P → (∀ x : Nat, P x → P2 x) → rTs R (UF S (R.ws i) (.inr (16, gs.set k v))) ta cap m9 f P2 := fun q hP => ⟨q.1, hr q.2.1, fun l hl => by obtain ⟨x, k1, k2⟩ := q.2.2 l hl; exact ⟨x, k1, hP x k2⟩⟩
  rcases h11 with ⟨k1, ta, f, k2, k3⟩ | ⟨k1, vr, fv, k2, k3, k4, k5⟩ | ⟨k1, ta, gv, lo, f, go, rl, k2, k3, k4, k5, k6, k7, k8, k9, l1, l2⟩
  · exact Or.inl ⟨k1, ta, f, (c2 10 (by decide)).trans k2, hrt k3 (fun x q => q.im hT)⟩
  · refine Or.inr (Or.inl ⟨k1, vr, fv, (c2 11 (by decide)).trans k2, k3, hr k4, fun l hl => ?_⟩)
    obtain ⟨pa, mk, f, e1, e2, e3⟩ := k5 l hl
    refine ⟨pa, mk, f, e1, e2, ?_⟩
    have hp : ∀ {ys : List Value}, ZF S pa = .inr (17, ys) → ZF (UF S (R.ws i) (.inr (16, gs.set k v))) pa = .inr (17, ys) := fun e => (ZF_n (fun w => by rw [w, hF] at e; cases e)).trans e
    exact e3.imp (fun ⟨a1, a2⟩ => ⟨hp a1, a2⟩) (fun ⟨wa, ta, a1, a2, a3⟩ => ⟨wa, ta, hp a1, a2, hrt a3 (fun x q => q.im hT)⟩)
  · exact Or.inr (Or.inr ⟨k1, ta, gv, lo, f, go, rl, (c2 10 (by decide)).trans k2, hrt k3 (fun x q => q.im hT), (c2 15 (by decide)).trans k4, k5.im hT, (c2 7 (by decide)).trans k6, k7, (c2 13 (by decide)).trans k8, k9, hr l1, l2⟩)
theorem ROW.w {i k : Nat} {gs : List Value} {v : Value} (hF : ZF S (R.ws i) = .inr (16, gs)) (hO : ∃ fs : List Value, ZF R.S (R.ws i) = .inr (16, fs)) (h : ROW R S) : ROW R (UF S (R.ws i) (.inr (16, gs.set k v))) := fun a n k9 f h1 h2 h3 h4 h5 => (ZF_n (fun w => by obtain ⟨fs, e⟩ := hO; rw [w, e] at h2; cases h2)).trans (h a n k9 f h1 h2 h3 h4 h5)
/-- an item's field is written -/
theorem itw_ (hD : RDI R) (h : TS R c nv S) {i k : Nat} (hi : i < R.im) (hk : wF k) (v : Value) : ∃ gs : List Value, ZF S (R.ws i) = .inr (16, gs) ∧ gs.length = 22 ∧ pV S 16 (some (R.ws i)) k v = some (UF S (R.ws i) (.inr (16, gs.set k v))) ∧ TS R c nv (UF S (R.ws i) (.inr (16, gs.set k v))) ∧ (ITA R S → ITA R (UF S (R.ws i) (.inr (16, gs.set k v)))) ∧ (ROW R S → ROW R (UF S (R.ws i) (.inr (16, gs.set k v)))) := by
  obtain ⟨b1, b2, b3, fs, gs, b4, b5, b6, b7, b8, b9, b10, b11⟩ := hD.ob h hi
  exact ⟨gs, b5, b7, pV_mk b2 b5 (by rw [b7]; rcases hk with e | e | e <;> rw [e] <;> decide), h.uf b1 (cs_put b9 (by rcases hk with e | e | e <;> rw [e] <;> rfl)), fun hA j hj => (hA j hj).w hk b5, fun hR => hR.w b5 ⟨_, b4⟩⟩
/-- isItem -/
theorem isi_ {K : Ky} {x : Nat} {kd ix i : Int32} {o : Option Nat} (hx : isTy S x kd ix o) : Rt (f_isItem K S (some x) i) (fun S2 r => S2 = S ∧ ((r = 1 ∧ (kd = 3 ∨ kd = 4) ∧ ix = i) ∨ (r = 0 ∧ ¬ ((kd = 3 ∨ kd = 4) ∧ ix = i)))) := by
  obtain ⟨t, h1, h2, h3, h4⟩ := hx
  have h16 : (kd = 3 ∨ kd = 4) → Rt (f_isItem_16 K S (some x) i) (fun S2 r => S2 = S ∧ ((r = 1 ∧ (kd = 3 ∨ kd = 4) ∧ ix = i) ∨ (r = 0 ∧ ¬ ((kd = 3 ∨ kd = 4) ∧ ix = i)))) := fun hk => by
    unfold f_isItem_16 f_isItem_28 f_isItem_29
    exact Rt.bd (oI_mk h3 h4 (v := ix) rfl) (Rt.it (fun w => Rt.zr (Or.inr rfl) ⟨rfl, Or.inl ⟨rfl, hk, w⟩⟩) (fun w => Rt.zr (Or.inl rfl) ⟨rfl, Or.inr ⟨rfl, fun z => w z.2⟩⟩))
  unfold f_isItem
  refine Rt.bd (oI_mk h3 h4 (v := kd) rfl) (Rt.it (fun w => h16 (Or.inl w)) (fun w => ?_))
  refine Rt.bd (oI_mk h3 h4 (v := kd) rfl) (Rt.it (fun w => h16 (Or.inr w)) (fun w2 => ?_))
  exact Rt.zr (Or.inl rfl) ⟨rfl, Or.inr ⟨rfl, fun z => z.1.elim w w2⟩⟩
end ITW
