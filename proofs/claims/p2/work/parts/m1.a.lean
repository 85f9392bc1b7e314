/-- marks of variables on the stack, the last one first -/
def mkV (js : List Nat) : List tE := js.map (fun i => (8, i, 0))
/-- the variables alive, by their numbers, the last one first -/
def GJ (Λ : List Nat) : List Nat → List Nat → Prop
  | Γ, [] => Γ = []
  | Γ, i :: js => ∃ (Γ0 : List Nat) (y : Nat), Γ = Γ0 ++ [y] ∧ Λ[i]? = some y ∧ (∀ j ∈ js, j < i) ∧ GJ Λ Γ0 js
/-- what is known of a function that is laid -/
def FEn (R : yR) (S0 : Sg) (E : eV) (Λ : List Nat) (gv : Nat) : Prop := EN R S0 E ∧ (∀ k v : Nat, Λ[k]? = some v → (k < 40 ∧ E.ad k = v) ∧ ∃ (nm mu : Int32) (ty : Option Nat), isV S0 v k nm ty mu ∧ E.vt k = abU S0 ty ∧ ∀ x : Nat, ty = some x → rTy S0 x) ∧ E.gv = abT S0 gv ∧ xTy S0 gv
section LY26
variable {R : yR} {S0 Sb S S1 S2 : Sg} {P h h0 hc L Lb z n : Nat} {Γ Γ0 Γ1 Γ2 Λ : List Nat} {E : eV} {s s2 e : List tE} {gv : Nat} {js js1 ks : List Nat}
theorem wl_mk : ∀ {js : List Nat}, wl (mkV js) = 0
  | [] => rfl
  | _ :: js => by
    show wl (_ :: mkV js) = 0
    rw [wl_00 (Or.inl rfl)]; exact wl_mk
theorem nT_mk : ∀ {js : List Nat}, nT (mkV js)
  | [] => nT_0
  | _ :: _ => nT_c (pnE_k (by decide))
theorem mkV_m {i : Nat} (h : (8, i, 0) ∈ mkV js) : i ∈ js := by
  obtain ⟨j, h1, h2⟩ := List.mem_map.mp h
  cases h2; exact h1
theorem GJ.len : ∀ {js Γ : List Nat}, GJ Λ Γ js → Γ.length = js.length
  | [], Γ, h => by rw [show Γ = [] from h]
  | i :: js, Γ, h => by
    obtain ⟨Γ0, y, rfl, _, _, h4⟩ := h
    rw [List.length_append, h4.len]; rfl
theorem GJ.mem : ∀ {js Γ : List Nat}, GJ Λ Γ js → ∀ v ∈ Γ, ∃ i ∈ js, Λ[i]? = some v
  | [], Γ, h => fun v hv => by rw [show Γ = [] from h] at hv; cases hv
  | i :: js, Γ, h => fun v hv => by
    obtain ⟨Γ0, y, rfl, h2, _, h4⟩ := h
    rcases List.mem_append.mp hv with w | w
    · obtain ⟨k, k1, k2⟩ := h4.mem v w
      exact ⟨k, List.mem_cons_of_mem _ k1, k2⟩
    · rw [List.mem_singleton.mp w]
      exact ⟨i, List.mem_cons_self, h2⟩
theorem isV_u {v ix ix2 : Nat} {nm nm2 mu mu2 : Int32} {ty ty2 : Option Nat} (a : isV S v ix nm ty mu) (b : isV S v ix2 nm2 ty2 mu2) (h1 : ix ≤ 100000) (h2 : ix2 ≤ 100000) : ix = ix2 ∧ nm = nm2 ∧ ty = ty2 ∧ mu = mu2 := by
  have e := a.2.symm.trans b.2
  unfold vrC at e
  have e2 := (Prod.mk.inj (Sum.inr.inj e)).2
  obtain ⟨e3, e4⟩ := List.cons.inj e2
  obtain ⟨e5, e6⟩ := List.cons.inj e4
  obtain ⟨e7, e8⟩ := List.cons.inj e6
  obtain ⟨e9, _⟩ := List.cons.inj e8
  exact ⟨nI_ij (Value.int.inj e3) h1 h2, Value.int.inj e5, va_rf_inj e7, Value.int.inj e9⟩
/-- the variables alive are those of the stack -/
theorem GJ.al (hF : FEn R S0 E Λ gv) (h : GJ Λ Γ js) (hs : ∀ i ∈ js, (8, i, 0) ∈ s) (hn : nT s) : ALv S0 E Γ s := ⟨hn, fun v hv ix nm tv mt q => by
  obtain ⟨i, h1, h2⟩ := h.mem v hv
  obtain ⟨⟨k1, kad⟩, nm2, mu2, ty, k2, k3, k4⟩ := hF.2.1 i v h2
  have e := q.2.symm.trans k2.2
  obtain ⟨_, e4⟩ := Prod.mk.inj (Sum.inr.inj e)
  injection e4 with b1 e4
  injection e4 with b2 e4
  injection e4 with b3 e4
  injection b1 with b1
  have b3 := va_rf_inj b3
  subst b3
  exact ⟨i, ⟨q.1, by rw [q.2]; unfold vrC; rw [b1]⟩, ⟨k1, kad⟩, k3, hs _ h1⟩⟩
end LY26
