/-- the state in which a function's statements are typed -/
def YS (R : yR) (c nv : Nat) (S : Sg) (Γ Λ : List Nat) (fi gv : Nat) : Prop := TS R c nv S ∧ SCO R S Γ ∧ LVS R S Λ ∧ ITA R S ∧ ROW R S ∧ ((∀ v : Nat, v ∈ Γ → v ∈ Λ) ∧ Γ.length ≤ Λ.length) ∧ (Zf S = some (R.ws fi) ∧ fi < R.im ∧ R.ik fi = 12 ∧ nXo R (R.ws fi)) ∧ xTy S gv ∧ ∃ fs : List Value, ZF S (R.ws fi) = .inr (16, fs) ∧ fs[15]? = some (.ref gv)
theorem UF_Un {S : Sg} {c0 c1 : va_E} {n : Nat} : UF (Un S c0 n) (Zz S) c1 = Un S c1 n := by
  have : updE (updE (ZF S) (Zz S) c0) (Zz S) c1 = updE (ZF S) (Zz S) c1 := by
    funext b
    by_cases e : b = Zz S
    · subst e; rw [updE_s, updE_s]
    · rw [updE_n e, updE_n e, updE_n e]
  show (Zi S, Zr S, Zl S, Zq S, Zf S, Zz S :: ZL S, updE (updE (ZF S) (Zz S) c0) (Zz S) c1, Zz S + 1, Zn S + n) = _
  rw [this]
  rfl
/-- behind declare -/
def dS (S : Sg) (c0 : va_E) (x : Int32) (f : Nat → Option Nat) (y : Int32) : Sg := Ui (Uq (Ui (Un S c0 5) 24 x) 22 f) 23 y
theorem dZi {S : Sg} {c0 : va_E} {x y : Int32} {f : Nat → Option Nat} {j : Nat} (h3 : j ≠ 23) (h4 : j ≠ 24) : Zi (dS S c0 x f y) j = Zi S j := (if_neg h3).trans (if_neg h4)
theorem dZ4 {S : Sg} {c0 : va_E} {x y : Int32} {f : Nat → Option Nat} : Zi (dS S c0 x f y) 24 = x := rfl
theorem dZq {S : Sg} {c0 : va_E} {x y : Int32} {f : Nat → Option Nat} {r : Nat} (h : r ≠ 22) : Zq (dS S c0 x f y) r = Zq S r := va_up_ne _ _ h
section DCL
variable {R : yR} {c nv : Nat} {S S2 : Sg} {Γ Λ : List Nat} {fi gv : Nat}
theorem LVS.vs {X : Nat → Prop} (hV : VX R X S S2) (hs : VS S S2) (h : LVS R S Λ) : LVS R S2 Λ := by
  refine ⟨hs.2.1.trans h.1, h.2.1, fun k v hk => ?_⟩
  obtain ⟨h0, nm, mu, ty, h2, h3, h4, h5⟩ := h.2.2 k v hk
  exact ⟨h0, nm, mu, ty, hs.2.2.2 _ _ _ _ _ h2, h3, h4, fun x q => (h5 x q).im hV.2.2.2.1⟩
/-- behind an exp -/
theorem YS.vx {c2 p q : Nat} (h : YS R c nv S Γ Λ fi gv) (t : TS R c2 nv S2) (v : VX R (Xo R p q) S S2) (s : VS S S2) : YS R c2 nv S2 Γ Λ fi gv := by
  obtain ⟨h1, h2, h3, h4, h5, h6, ⟨h7, h8, h9, h10⟩, h11, fs, h12, h13⟩ := h
  exact ⟨t, h2.vx v s, h3.vs v s, h4.vx v, h5.vx v, h6, ⟨v.1.2.2.2.2.trans h7, h8, h9, h10⟩, h11.im v.2.2.2.1, fs, (v.nx h10).trans h12, h13⟩
theorem VX.x {X : Nat → Prop} (h : VX R nX S S2) : VX R X S S2 := h.mo (fun _ w => w.elim)
/-- a new variable's cell -/
theorem TS.nw (h : TS R c nv S) {vs : List Value} {x y : Int32} {f : Nat → Option Nat} : TS R c (nv + 1) (dS S (.inr (21, vs)) x f y) := by
  obtain ⟨G, tm, Y, ad, h1, h2, h3, h4⟩ := h
  have hlt := h1.2.2.2.2.2.2
  have hx : exS (ZL S) (ZF S) (Zz S :: ZL S) (updE (ZF S) (Zz S) (.inr (21, vs))) := fun a ha => ⟨List.mem_cons_of_mem _ ha, updE_n (by have := hlt a ha; omega)⟩
  refine ⟨grG (ZL S) G (updE (ZF S) (Zz S) (.inr (21, vs))), tm, Y, ad, ⟨?_, (dZi (by decide) (by decide)).trans h1.2.1, (dZi (by decide) (by decide)).trans h1.2.2.1, (dZi (by decide) (by decide)).trans h1.2.2.2.1, ?_, ?_, ?_⟩, fun a ha => ⟨List.mem_cons_of_mem _ (h2 a ha).1, (if_pos (h2 a ha).1).trans (h2 a ha).2⟩, h3, fun j a b c d e f => (dZi e f).trans (h4.1 j a b c d e f), h4.2.1, h4.2.2.1, fun r a b => (dZq b).trans (h4.2.2.2 r a b)⟩
  · rw [dZq (by decide), dZq (by decide)]
    exact ⟨h1.1.1, grG_rl hx h1.1.2.1, itD_ex (grG_ex hx) h1.1.2.2.1, tyW_lr hx h1.1.2.1 (tyW_ex hx (tyW_rl h1.1.2.1 h1.1.2.2.2.1)), h1.1.2.2.2.2⟩
  · show Zz S + 1 = _; have := h1.2.2.2.2.1; omega
  · show Zn S + 5 = _; have := h1.2.2.2.2.2.1; omega
  · intro a ha
    rcases List.mem_cons.mp ha with e | e
    · show a < Zz S + 1; omega
    · show a < Zz S + 1; have := hlt a e; omega
theorem TS.lt (h : TS R c nv S) : (∀ a ∈ ZL S, a < Zz S) ∧ Zz S ≤ Zz R.S + 2000 + nv + c ∧ Zn S ≤ Zn R.S + 8100 + 5 * nv + 4 * c := by
  obtain ⟨G, tm, Y, ad, h1, h2, h3, h4⟩ := h
  have := ptN_ge (Y := Y) (tm := tm)
  refine ⟨h1.2.2.2.2.2.2, ?_, ?_⟩
  · have := h1.2.2.2.2.1; omega
  · have := h1.2.2.2.2.2.1; omega
/-- declare -/
theorem dcl_ (hK : yRm R) (hc : c ≤ 1990) (hnv : nv < 10000) (h : YS R c nv S Γ Λ fi gv) {nm mu : Nat} {ty : Option Nat} (hn : nm < R.T) (hmu : mu ≤ 1) (hty : ∀ x : Nat, ty = some x → rTy S x) (hΛ : Λ.length < 40) : Rt (f_declare R.K S (nI nm) ty (nI mu)) (fun S2 r => ∃ y : Nat, r = some y ∧ YS R c (nv + 1) S2 (Γ ++ [y]) (Λ ++ [y]) fi gv ∧ VX R nX S S2 ∧ Zi S2 3 = Zi S 3 ∧ (∀ k : Nat, k < Γ.length → Zq S2 22 k = Zq S 22 k) ∧ isV S2 y Λ.length (nI nm) ty (nI mu)) := by
  obtain ⟨h1, h2, h3, h4, h5, ⟨h6, h6'⟩, ⟨h7, h8, h9, h10⟩, h11, fs, h12, h13⟩ := h
  obtain ⟨l1, l2, l3⟩ := h1.lt
  have hm : nI mu = 0 ∨ nI mu = 1 := by
    rcases Nat.lt_or_ge mu 1 with w | w
    · rw [show mu = 0 by omega]; exact Or.inl rfl
    · rw [show mu = 1 by omega]; exact Or.inr rfl
  unfold f_declare
  refine Rt.be (nO_ok ⟨by have := hK.1; omega, by have := hK.2.1; omega⟩) ?_
  have hq : ∀ c0 : va_E, Zz S ∈ ZL (Un S c0 5) := fun _ => List.mem_cons_self
  refine Rt.bd (pV_mk (v := .int (Zi S 24)) (hq _) updE_s (Nat.le_of_ble_eq_true rfl)) ?_
  rw [UF_Un]
  refine Rt.bd (pV_mk (v := .int (nI nm)) (hq _) updE_s (Nat.le_of_ble_eq_true rfl)) ?_
  rw [UF_Un]
  refine Rt.bd (pV_mk (v := va_rf ty) (hq _) updE_s (Nat.le_of_ble_eq_true rfl)) ?_
  rw [UF_Un]
  unfold pZ
  rw [if_pos hm]
  refine Rt.bd (pV_mk (v := .int (nI mu)) (hq _) updE_s (Nat.le_of_ble_eq_true rfl)) ?_
  rw [UF_Un]
  have hcell : (.inr (21, ((((([.int 0, .int 0, .null, .int 0, .null] : List Value).set 0 (.int (Zi S 24))).set 1 (.int (nI nm))).set 2 (va_rf ty)).set 3 (.int (nI mu)))) : va_E) = vrC Λ.length (nI nm) ty (nI mu) := by rw [h3.1]; rfl
  rw [hcell]
  have e24 : Zi (Un S (vrC Λ.length (nI nm) ty (nI mu)) 5) 24 = nI Λ.length := h3.1
  refine Rt.bd (v := Ui (Un S (vrC Λ.length (nI nm) ty (nI mu)) 5) 24 (nI (Λ.length + 1))) (by rw [e24, nI_1]; rfl) ?_
  have e23 : Zi (Ui (Un S (vrC Λ.length (nI nm) ty (nI mu)) 5) 24 (nI (Λ.length + 1))) 23 = nI Γ.length := by rw [Zi_n (by decide)]; exact h2.1
  rw [e23]
  refine Rt.bd (wQ_n (show Γ.length < rlen 22 by show Γ.length < 40; omega) (by decide) (okO_mk (vs := _) (show Zz S ∈ ZL (Un S (vrC Λ.length (nI nm) ty (nI mu)) 5) from hq _) (show ZF (Un S (vrC Λ.length (nI nm) ty (nI mu)) 5) (Zz S) = _ from updE_s))) ?_
  refine Rt.bd (v := dS S (vrC Λ.length (nI nm) ty (nI mu)) (nI (Λ.length + 1)) (va_up (Zq S 22) Γ.length (some (Zz S))) (nI (Γ.length + 1))) (by
    show some (Ui _ 23 (Zi (Uq (Ui (Un S (vrC Λ.length (nI nm) ty (nI mu)) 5) 24 (nI (Λ.length + 1))) 22 (va_up (Zq S 22) Γ.length (some (Zz S)))) 23 + 1)) = _
    rw [show Zi (Uq (Ui (Un S (vrC Λ.length (nI nm) ty (nI mu)) 5) 24 (nI (Λ.length + 1))) 22 (va_up (Zq S 22) Γ.length (some (Zz S)))) 23 = nI Γ.length from e23, nI_1]
    rfl) (Rt.rt ?_)
  have t2 := h1.nw (vs := [.int (nI Λ.length), .int (nI nm), va_rf ty, .int (nI mu), .null]) (x := nI (Λ.length + 1)) (y := nI (Γ.length + 1)) (f := va_up (Zq S 22) Γ.length (some (Zz S)))
  have hL2 : ZL (dS S (vrC Λ.length (nI nm) ty (nI mu)) (nI (Λ.length + 1)) (va_up (Zq S 22) Γ.length (some (Zz S))) (nI (Γ.length + 1))) = Zz S :: ZL S := rfl
  have hF2 : ∀ a : Nat, a ∈ ZL S → ZF (dS S (vrC Λ.length (nI nm) ty (nI mu)) (nI (Λ.length + 1)) (va_up (Zq S 22) Γ.length (some (Zz S))) (nI (Γ.length + 1))) a = ZF S a := fun a ha => updE_n (by have := l1 a ha; omega)
  have hFz : ZF (dS S (vrC Λ.length (nI nm) ty (nI mu)) (nI (Λ.length + 1)) (va_up (Zq S 22) Γ.length (some (Zz S))) (nI (Γ.length + 1))) (Zz S) = vrC Λ.length (nI nm) ty (nI mu) := updE_s
  have hQ2 : Zq (dS S (vrC Λ.length (nI nm) ty (nI mu)) (nI (Λ.length + 1)) (va_up (Zq S 22) Γ.length (some (Zz S))) (nI (Γ.length + 1))) 22 = va_up (Zq S 22) Γ.length (some (Zz S)) := by
    show va_up (Zq S) 22 (va_up (Zq S 22) Γ.length (some (Zz S))) 22 = _
    exact va_up_self _ _ _
  have hI23 : Zi (dS S (vrC Λ.length (nI nm) ty (nI mu)) (nI (Λ.length + 1)) (va_up (Zq S 22) Γ.length (some (Zz S))) (nI (Γ.length + 1))) 23 = nI (Γ.length + 1) := Zi_s
  have hI24 : Zi (dS S (vrC Λ.length (nI nm) ty (nI mu)) (nI (Λ.length + 1)) (va_up (Zq S 22) Γ.length (some (Zz S))) (nI (Γ.length + 1))) 24 = nI (Λ.length + 1) := dZ4
  have hT2 : ∀ (x : Nat) (kd ix : Int32) (o : Option Nat), isTy S x kd ix o → isTy (dS S (vrC Λ.length (nI nm) ty (nI mu)) (nI (Λ.length + 1)) (va_up (Zq S 22) Γ.length (some (Zz S))) (nI (Γ.length + 1))) x kd ix o := fun x kd ix o ⟨t, q1, q2, q3, q4⟩ => ⟨t, by unfold tmS; rw [dZi (by decide) (by decide)]; exact q1, (congrFun (dZq (by decide)) t).trans q2, List.mem_cons_of_mem _ q3, (hF2 x q3).trans q4⟩
  have hV2 : VX R nX S (dS S (vrC Λ.length (nI nm) ty (nI mu)) (nI (Λ.length + 1)) (va_up (Zq S 22) Γ.length (some (Zz S))) (nI (Γ.length + 1))) := ⟨⟨fun j a b c d e => dZi d e, rfl, rfl, fun r a b => dZq b, rfl⟩, fun a ha _ => hF2 a (h1.L ha), fun a ha => List.mem_cons_of_mem _ ha, hT2, fun v ix nm ty mu q => ⟨ty, ⟨List.mem_cons_of_mem _ q.1, (hF2 v q.1).trans q.2⟩, Or.inr rfl⟩, fun q => by rw [dZi (by decide) (by decide)] at q; exact q⟩
  have hI3 : Zi (dS S (vrC Λ.length (nI nm) ty (nI mu)) (nI (Λ.length + 1)) (va_up (Zq S 22) Γ.length (some (Zz S))) (nI (Γ.length + 1))) 3 = Zi S 3 := dZi (by decide) (by decide)
  have t2' : TS R c (nv + 1) (dS S (vrC Λ.length (nI nm) ty (nI mu)) (nI (Λ.length + 1)) (va_up (Zq S 22) Γ.length (some (Zz S))) (nI (Γ.length + 1))) := t2
  revert t2' hL2 hF2 hFz hQ2 hI23 hI24 hT2 hV2 hI3
  generalize dS S (vrC Λ.length (nI nm) ty (nI mu)) (nI (Λ.length + 1)) (va_up (Zq S 22) Γ.length (some (Zz S))) (nI (Γ.length + 1)) = S2
  intro hL2 hF2 hFz hQ2 hI23 hI24 hT2 hV2 hI3 t2'
  have hVv : ∀ {v ix : Nat} {nm mu : Int32} {ty : Option Nat}, isV S v ix nm ty mu → isV S2 v ix nm ty mu := fun {v ix nm mu ty} q => ⟨by rw [hL2]; exact List.mem_cons_of_mem _ q.1, (hF2 v q.1).trans q.2⟩
  have hVn : isV S2 (Zz S) Λ.length (nI nm) ty (nI mu) := ⟨by rw [hL2]; exact List.mem_cons_self, hFz⟩
  have hVX : VX R (Xo R 0 0) S S2 := hV2.x
  refine ⟨Zz S, rfl, ⟨t2', ⟨?_, ?_, fun k v hk => ?_⟩, ⟨?_, ?_, fun k v hk => ?_⟩, h4.vx hVX, h5.vx hVX, ⟨fun v hv => ?_, ?_⟩, ⟨hV2.1.2.2.2.2.trans h7, h8, h9, h10⟩, h11.im hT2, fs, (hVX.nx h10).trans h12, h13⟩, hV2, hI3, fun k hk => ?_, hVn⟩
  · rw [hI23, List.length_append]; rfl
  · rw [List.length_append]; show Γ.length + 1 ≤ 40; omega
  · rw [hQ2]
    by_cases e : k = Γ.length
    · subst e
      rw [List.getElem?_append_right (Nat.le_refl _), Nat.sub_self] at hk
      cases hk
      exact ⟨va_up_self _ _ _, Λ.length, nm, mu, ty, hVn, hn, hmu, fun x q => (hty x q).im hT2⟩
    · have hlt := (List.getElem?_eq_some_iff.mp hk).1
      rw [List.length_append] at hlt
      have hlt : k < Γ.length + 1 := hlt
      rw [List.getElem?_append_left (by omega)] at hk
      obtain ⟨a1, ix, nm2, mu2, ty2, a2, a3, a4, a5⟩ := h2.2.2 k v hk
      exact ⟨(va_up_ne _ _ e).trans a1, ix, nm2, mu2, ty2, hVv a2, a3, a4, fun x q => (a5 x q).im hT2⟩
  · rw [hI24, List.length_append]; rfl
  · rw [List.length_append]; show Λ.length + 1 ≤ 40; omega
  · by_cases e : k = Λ.length
    · subst e
      rw [List.getElem?_append_right (Nat.le_refl _), Nat.sub_self] at hk
      cases hk
      exact ⟨fun w => by have := l1 _ (h1.L w); omega, nm, mu, ty, hVn, hn, hmu, fun x q => (hty x q).im hT2⟩
    · have hlt := (List.getElem?_eq_some_iff.mp hk).1
      rw [List.length_append] at hlt
      have hlt : k < Λ.length + 1 := hlt
      rw [List.getElem?_append_left (by omega)] at hk
      obtain ⟨a0, nm2, mu2, ty2, a2, a3, a4, a5⟩ := h3.2.2 k v hk
      exact ⟨a0, nm2, mu2, ty2, hVv a2, a3, a4, fun x q => (a5 x q).im hT2⟩
  · rcases List.mem_append.mp hv with w | w
    · exact List.mem_append_left _ (h6 v w)
    · exact List.mem_append_right _ w
  · rw [List.length_append, List.length_append]; show Γ.length + 1 ≤ Λ.length + 1; omega
  · rw [hQ2]; exact va_up_ne _ _ (by omega)
end DCL
