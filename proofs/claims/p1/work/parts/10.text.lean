def wf_c_add : List Cond := [.code yX9_add cX9_add 4 none, .fieldLink RX9 9 "OwnedPlaces$Text" "kinds" "[I", .fieldLink RX9 92 "OwnedPlaces$Text" "total" "I", .fieldLink RX9 15 "OwnedPlaces$Text" "places" "[I", .fieldLink RX9 18 "OwnedPlaces$Text" "names" "[I", .fieldLink RX9 25 "OwnedPlaces$Text" "links" "[I"]
def wp_c_add : List Cond := wf_c_add ++ (wsX90 ++ [])
theorem in_c_add_X9 : ∀ w ∈ wsX90, w ∈ wp_c_add := fun w h => List.mem_append_right _ (List.mem_append_left _ h)
theorem wg_c_add : wf_c_add.all goodWord = true := by decide +kernel
theorem wm_c_add (k : Nat) {w : Cond} (h : wp_c_add[k]? = some w) : w ∈ wp_c_add := List.mem_of_getElem? h
set_option maxHeartbeats 4000000 in
set_option maxRecDepth 100000 in
/-- add(END, 0, 0) on the empty row of tokens -/
theorem c_add (l : Launch) (dC : Nat → ClassId) (dI : Nat → Nat → Nat) (h tk tp tn tu tl tb ts tf tz tx th tw : Nat) (nt : Int32) (kI : ClassId) (fk fp fn fl : Nat → Int32) (sz : Nat) : Met l yX9_add wp_c_add ({ frames := 0, cells := 0, slots := 0, locals := 0 }) (va_Pc [.ref h, .int 0, .int 0, .int 0] (fun U => U.heap.size = sz ∧ va_P (dC, dI) vwCl [(h, .inr (9, [.ref tk, .ref tp, .ref tn, .ref tu, .ref tl, .int 0, .int 0, .int 0, .int (-1), .int nt, .ref tb, .int 0, .ref ts, .ref tf, .ref tz, .ref tx, .ref th, .ref tw])), (tk, .inl (kI, 3002, .inl fk)), (tp, .inl (kI, 3002, .inl fp)), (tn, .inl (kI, 3002, .inl fn)), (tl, .inl (kI, 3002, .inl fl))] U.heap ∧ va_K (dC, dI) vwCl [(kI, .int)] U ∧ va_D (fun _ => True) [(h, .inr (9, [.ref tk, .ref tp, .ref tn, .ref tu, .ref tl, .int 0, .int 0, .int 0, .int (-1), .int nt, .ref tb, .int 0, .ref ts, .ref tf, .ref tz, .ref tx, .ref th, .ref tw])), (tk, .inl (kI, 3002, .inl fk)), (tp, .inl (kI, 3002, .inl fp)), (tn, .inl (kI, 3002, .inl fn)), (tl, .inl (kI, 3002, .inl fl))])) (va_Qv (fun _ : Unit => True) (fun (_ : Unit) (tS : State) => ∃ (gk : Nat → Int32) (gp : Nat → Int32) (gn : Nat → Int32) (gl : Nat → Int32), (gk 0 = 0) ∧ (gp 0 = 0) ∧ va_P (dC, dI) vwCl [(h, .inr (9, [.ref tk, .ref tp, .ref tn, .ref tu, .ref tl, .int 0, .int 0, .int 0, .int (-1), .int nt, .ref tb, .int 1, .ref ts, .ref tf, .ref tz, .ref tx, .ref th, .ref tw])), (tk, .inl (kI, 3002, .inl gk)), (tp, .inl (kI, 3002, .inl gp)), (tn, .inl (kI, 3002, .inl gn)), (tl, .inl (kI, 3002, .inl gl))] tS.heap ∧ va_K (dC, dI) vwCl [(kI, .int)] tS ∧ va_D (va_A [(h, .inr (9, [.ref tk, .ref tp, .ref tn, .ref tu, .ref tl, .int 0, .int 0, .int 0, .int (-1), .int nt, .ref tb, .int 0, .ref ts, .ref tf, .ref tz, .ref tx, .ref th, .ref tw])), (tk, .inl (kI, 3002, .inl fk)), (tp, .inl (kI, 3002, .inl fp)), (tn, .inl (kI, 3002, .inl fn)), (tl, .inl (kI, 3002, .inl fl))] sz) [(h, .inr (9, [.ref tk, .ref tp, .ref tn, .ref tu, .ref tl, .int 0, .int 0, .int 0, .int (-1), .int nt, .ref tb, .int 1, .ref ts, .ref tf, .ref tz, .ref tx, .ref th, .ref tw])), (tk, .inl (kI, 3002, .inl gk)), (tp, .inl (kI, 3002, .inl gp)), (tn, .inl (kI, 3002, .inl gn)), (tl, .inl (kI, 3002, .inl gl))]) (va_A [(h, .inr (9, [.ref tk, .ref tp, .ref tn, .ref tu, .ref tl, .int 0, .int 0, .int 0, .int (-1), .int nt, .ref tb, .int 0, .ref ts, .ref tf, .ref tz, .ref tx, .ref th, .ref tw])), (tk, .inl (kI, 3002, .inl fk)), (tp, .inl (kI, 3002, .inl fp)), (tn, .inl (kI, 3002, .inl fn)), (tl, .inl (kI, 3002, .inl fl))] sz)) 0 0 (va_A [(h, .inr (9, [.ref tk, .ref tp, .ref tn, .ref tu, .ref tl, .int 0, .int 0, .int 0, .int (-1), .int nt, .ref tb, .int 0, .ref ts, .ref tf, .ref tz, .ref tx, .ref th, .ref tw])), (tk, .inl (kI, 3002, .inl fk)), (tp, .inl (kI, 3002, .inl fp)), (tn, .inl (kI, 3002, .inl fn)), (tl, .inl (kI, 3002, .inl fl))] sz) := by
  refine Met.ofW (cc := cX9_add) (maxL := 4) (ret := none) (by decide) rfl ?_
  intro p e s m args below meth c s₁ B hml hv
  obtain ⟨rfl, hsz, hP, hK, hD0⟩ := hv
  have hx := B.exec
  have hb := B.bytes
  have hr := B.returns
  have hts := atoms_spec (ws := wp_c_add) B.pre
  have hown : s.vm.findClass RX9 = some m.cls := findClass_of_methodNamed B.named
  have hlocks := B.notSynchronized
  subst hsz
  have hD := hD0.self (sz := s.heap.size)
  generalize hAe : va_A [(h, .inr (9, [.ref tk, .ref tp, .ref tn, .ref tu, .ref tl, .int 0, .int 0, .int 0, .int (-1), .int nt, .ref tb, .int 0, .ref ts, .ref tf, .ref tz, .ref tx, .ref th, .ref tw])), (tk, .inl (kI, 3002, .inl fk)), (tp, .inl (kI, 3002, .inl fp)), (tn, .inl (kI, 3002, .inl fn)), (tl, .inl (kI, 3002, .inl fl))] s.heap.size = A at hD ⊢
  have hA : ∀ q : Nat, s.heap.size ≤ q → A q := fun q h => by rw [← hAe]; exact Or.inr h
  have hS : va_S A s.heap s.heap [] := va_S.rf
  have hP : va_P (dC, dI) vwCl [(h, .inr (9, [.ref tk, .ref tp, .ref tn, .ref tu, .ref tl, .int 0, .int 0, .int 0, .int (-1), .int nt, .ref tb, .int 0, .ref ts, .ref tf, .ref tz, .ref tx, .ref th, .ref tw])), (tk, .inl (kI, 3002, .inl fk)), (tp, .inl (kI, 3002, .inl fp)), (tn, .inl (kI, 3002, .inl fn)), (tl, .inl (kI, 3002, .inl fl))] s.heap := hP
  have hl := lv_entry ([.ref h, .int 0, .int 0, .int 0]) (n := 4) (Nat.le_of_ble_eq_true rfl)
  rw [lg_entry_eq]
  generalize (lg_sl ([.ref h, .int 0, .int 0, .int 0]) ++ List.replicate (4 - (lg_sl ([.ref h, .int 0, .int 0, .int 0])).length) Slot.unset).toArray = ls at hl ⊢
  have hl : lv_has ls 4 [(0, .ref h), (1, .int 0), (2, .int 0), (3, .int 0)] := hl
  refine lv_aload_n hx hb dX9_add_0 rfl (lv_at hl 0 rfl) ?_
  refine va_get (D := (dC, dI)) (ci := 9) (v := .ref tk) (C := RX9) (T := TX9) (N := 18) hx hb hts in_c_add_X9 hown hK hP 0 rfl rfl 0 (by decide) (hts (.fieldLink RX9 9 "OwnedPlaces$Text" "kinds" "[I") (wm_c_add 1 rfl)) (fun _ h9 => h9) rfl dX9_add_1 ?_
  refine lv_aload_n hx hb dX9_add_4 rfl (lv_at hl 0 rfl) ?_
  refine va_get (D := (dC, dI)) (ci := 9) (v := .int 0) (C := RX9) (T := TX9) (N := 18) hx hb hts in_c_add_X9 hown hK hP 0 rfl rfl 11 (by decide) (hts (.fieldLink RX9 92 "OwnedPlaces$Text" "total" "I") (wm_c_add 2 rfl)) (fun _ h9 => h9) rfl dX9_add_5 ?_
  refine lv_iload_n hx hb dX9_add_8 rfl (lv_at hl 1 rfl) ?_
  refine va_iast hx hb hK hP hD hS 1 0 rfl rfl (by unfold vp_in; decide) dX9_add_9 (fun H locs hP hD hS => ?_)
  have hP : va_P (dC, dI) vwCl [(h, .inr (9, [.ref tk, .ref tp, .ref tn, .ref tu, .ref tl, .int 0, .int 0, .int 0, .int (-1), .int nt, .ref tb, .int 0, .ref ts, .ref tf, .ref tz, .ref tx, .ref th, .ref tw])), (tk, .inl (kI, 3002, .inl (upd fk (0 : Int32).toNatClampNeg 0))), (tp, .inl (kI, 3002, .inl fp)), (tn, .inl (kI, 3002, .inl fn)), (tl, .inl (kI, 3002, .inl fl))] H := hP
  have hD : va_D A [(h, .inr (9, [.ref tk, .ref tp, .ref tn, .ref tu, .ref tl, .int 0, .int 0, .int 0, .int (-1), .int nt, .ref tb, .int 0, .ref ts, .ref tf, .ref tz, .ref tx, .ref th, .ref tw])), (tk, .inl (kI, 3002, .inl (upd fk (0 : Int32).toNatClampNeg 0))), (tp, .inl (kI, 3002, .inl fp)), (tn, .inl (kI, 3002, .inl fn)), (tl, .inl (kI, 3002, .inl fl))] := hD
  obtain ⟨fk1, efk1⟩ : ∃ zZ : Nat → Int32, zZ = upd fk (0 : Int32).toNatClampNeg 0 := ⟨_, rfl⟩
  rw [← efk1] at hP hD
  refine lv_aload_n hx hb dX9_add_10 rfl (lv_at hl 0 rfl) ?_
  refine va_get (D := (dC, dI)) (ci := 9) (v := .ref tp) (C := RX9) (T := TX9) (N := 18) hx hb hts in_c_add_X9 hown hK hP 0 rfl rfl 1 (by decide) (hts (.fieldLink RX9 15 "OwnedPlaces$Text" "places" "[I") (wm_c_add 3 rfl)) (fun _ h9 => h9) rfl dX9_add_11 ?_
  refine lv_aload_n hx hb dX9_add_14 rfl (lv_at hl 0 rfl) ?_
  refine va_get (D := (dC, dI)) (ci := 9) (v := .int 0) (C := RX9) (T := TX9) (N := 18) hx hb hts in_c_add_X9 hown hK hP 0 rfl rfl 11 (by decide) (hts (.fieldLink RX9 92 "OwnedPlaces$Text" "total" "I") (wm_c_add 2 rfl)) (fun _ h9 => h9) rfl dX9_add_15 ?_
  refine lv_iload_n hx hb dX9_add_18 rfl (lv_at hl 2 rfl) ?_
  refine va_iast hx hb hK hP hD hS 2 0 rfl rfl (by unfold vp_in; decide) dX9_add_19 (fun H locs hP hD hS => ?_)
  have hP : va_P (dC, dI) vwCl [(h, .inr (9, [.ref tk, .ref tp, .ref tn, .ref tu, .ref tl, .int 0, .int 0, .int 0, .int (-1), .int nt, .ref tb, .int 0, .ref ts, .ref tf, .ref tz, .ref tx, .ref th, .ref tw])), (tk, .inl (kI, 3002, .inl fk1)), (tp, .inl (kI, 3002, .inl (upd fp (0 : Int32).toNatClampNeg 0))), (tn, .inl (kI, 3002, .inl fn)), (tl, .inl (kI, 3002, .inl fl))] H := hP
  have hD : va_D A [(h, .inr (9, [.ref tk, .ref tp, .ref tn, .ref tu, .ref tl, .int 0, .int 0, .int 0, .int (-1), .int nt, .ref tb, .int 0, .ref ts, .ref tf, .ref tz, .ref tx, .ref th, .ref tw])), (tk, .inl (kI, 3002, .inl fk1)), (tp, .inl (kI, 3002, .inl (upd fp (0 : Int32).toNatClampNeg 0))), (tn, .inl (kI, 3002, .inl fn)), (tl, .inl (kI, 3002, .inl fl))] := hD
  obtain ⟨fp1, efp1⟩ : ∃ zZ : Nat → Int32, zZ = upd fp (0 : Int32).toNatClampNeg 0 := ⟨_, rfl⟩
  rw [← efp1] at hP hD
  refine lv_aload_n hx hb dX9_add_20 rfl (lv_at hl 0 rfl) ?_
  refine va_get (D := (dC, dI)) (ci := 9) (v := .ref tn) (C := RX9) (T := TX9) (N := 18) hx hb hts in_c_add_X9 hown hK hP 0 rfl rfl 2 (by decide) (hts (.fieldLink RX9 18 "OwnedPlaces$Text" "names" "[I") (wm_c_add 4 rfl)) (fun _ h9 => h9) rfl dX9_add_21 ?_
  refine lv_aload_n hx hb dX9_add_24 rfl (lv_at hl 0 rfl) ?_
  refine va_get (D := (dC, dI)) (ci := 9) (v := .int 0) (C := RX9) (T := TX9) (N := 18) hx hb hts in_c_add_X9 hown hK hP 0 rfl rfl 11 (by decide) (hts (.fieldLink RX9 92 "OwnedPlaces$Text" "total" "I") (wm_c_add 2 rfl)) (fun _ h9 => h9) rfl dX9_add_25 ?_
  refine lv_iload_n hx hb dX9_add_28 rfl (lv_at hl 3 rfl) ?_
  refine va_iast hx hb hK hP hD hS 3 0 rfl rfl (by unfold vp_in; decide) dX9_add_29 (fun H locs hP hD hS => ?_)
  have hP : va_P (dC, dI) vwCl [(h, .inr (9, [.ref tk, .ref tp, .ref tn, .ref tu, .ref tl, .int 0, .int 0, .int 0, .int (-1), .int nt, .ref tb, .int 0, .ref ts, .ref tf, .ref tz, .ref tx, .ref th, .ref tw])), (tk, .inl (kI, 3002, .inl fk1)), (tp, .inl (kI, 3002, .inl fp1)), (tn, .inl (kI, 3002, .inl (upd fn (0 : Int32).toNatClampNeg 0))), (tl, .inl (kI, 3002, .inl fl))] H := hP
  have hD : va_D A [(h, .inr (9, [.ref tk, .ref tp, .ref tn, .ref tu, .ref tl, .int 0, .int 0, .int 0, .int (-1), .int nt, .ref tb, .int 0, .ref ts, .ref tf, .ref tz, .ref tx, .ref th, .ref tw])), (tk, .inl (kI, 3002, .inl fk1)), (tp, .inl (kI, 3002, .inl fp1)), (tn, .inl (kI, 3002, .inl (upd fn (0 : Int32).toNatClampNeg 0))), (tl, .inl (kI, 3002, .inl fl))] := hD
  obtain ⟨fn1, efn1⟩ : ∃ zZ : Nat → Int32, zZ = upd fn (0 : Int32).toNatClampNeg 0 := ⟨_, rfl⟩
  rw [← efn1] at hP hD
  refine lv_aload_n hx hb dX9_add_30 rfl (lv_at hl 0 rfl) ?_
  refine va_get (D := (dC, dI)) (ci := 9) (v := .ref tl) (C := RX9) (T := TX9) (N := 18) hx hb hts in_c_add_X9 hown hK hP 0 rfl rfl 4 (by decide) (hts (.fieldLink RX9 25 "OwnedPlaces$Text" "links" "[I") (wm_c_add 5 rfl)) (fun _ h9 => h9) rfl dX9_add_31 ?_
  refine lv_aload_n hx hb dX9_add_34 rfl (lv_at hl 0 rfl) ?_
  refine va_get (D := (dC, dI)) (ci := 9) (v := .int 0) (C := RX9) (T := TX9) (N := 18) hx hb hts in_c_add_X9 hown hK hP 0 rfl rfl 11 (by decide) (hts (.fieldLink RX9 92 "OwnedPlaces$Text" "total" "I") (wm_c_add 2 rfl)) (fun _ h9 => h9) rfl dX9_add_35 ?_
  refine lv_iconst (v := 0) hx hb dX9_add_38 (by decide) ?_
  refine va_iast hx hb hK hP hD hS 4 0 rfl rfl (by unfold vp_in; decide) dX9_add_39 (fun H locs hP hD hS => ?_)
  have hP : va_P (dC, dI) vwCl [(h, .inr (9, [.ref tk, .ref tp, .ref tn, .ref tu, .ref tl, .int 0, .int 0, .int 0, .int (-1), .int nt, .ref tb, .int 0, .ref ts, .ref tf, .ref tz, .ref tx, .ref th, .ref tw])), (tk, .inl (kI, 3002, .inl fk1)), (tp, .inl (kI, 3002, .inl fp1)), (tn, .inl (kI, 3002, .inl fn1)), (tl, .inl (kI, 3002, .inl (upd fl (0 : Int32).toNatClampNeg 0)))] H := hP
  have hD : va_D A [(h, .inr (9, [.ref tk, .ref tp, .ref tn, .ref tu, .ref tl, .int 0, .int 0, .int 0, .int (-1), .int nt, .ref tb, .int 0, .ref ts, .ref tf, .ref tz, .ref tx, .ref th, .ref tw])), (tk, .inl (kI, 3002, .inl fk1)), (tp, .inl (kI, 3002, .inl fp1)), (tn, .inl (kI, 3002, .inl fn1)), (tl, .inl (kI, 3002, .inl (upd fl (0 : Int32).toNatClampNeg 0)))] := hD
  obtain ⟨fl1, efl1⟩ : ∃ zZ : Nat → Int32, zZ = upd fl (0 : Int32).toNatClampNeg 0 := ⟨_, rfl⟩
  rw [← efl1] at hP hD
  refine lv_aload_n hx hb dX9_add_40 rfl (lv_at hl 0 rfl) ?_
  refine lv_dup hx hb dX9_add_41 rfl ?_
  refine va_get (D := (dC, dI)) (ci := 9) (v := .int 0) (C := RX9) (T := TX9) (N := 18) hx hb hts in_c_add_X9 hown hK hP 0 rfl rfl 11 (by decide) (hts (.fieldLink RX9 92 "OwnedPlaces$Text" "total" "I") (wm_c_add 2 rfl)) (fun _ h9 => h9) rfl dX9_add_42 ?_
  refine lv_iconst (v := 1) hx hb dX9_add_45 (by decide) ?_
  refine lv_iadd hx hb dX9_add_46 ?_
  refine lv_topi (fun f_1 ef_1 => ?_)
  obtain rfl : f_1 = 1 := ef_1.trans (by decide)
  refine va_put (D := (dC, dI)) (ci := 9) (v := .int 1) (ty := .int) (C := RX9) (T := TX9) (N := 18) hx hb hts in_c_add_X9 tyX9 tyX9_ok nmX9 hown hK hP hD hS 0 rfl rfl 11 (by decide) (hts (.fieldLink RX9 92 "OwnedPlaces$Text" "total" "I") (wm_c_add 2 rfl)) (fun _ h9 => h9) rfl (by decide +kernel) rfl rfl (Nat.le_of_ble_eq_true rfl) dX9_add_47 (fun H locs hP hD hS => ?_)
  have hP : va_P (dC, dI) vwCl [(h, .inr (9, [.ref tk, .ref tp, .ref tn, .ref tu, .ref tl, .int 0, .int 0, .int 0, .int (-1), .int nt, .ref tb, .int 1, .ref ts, .ref tf, .ref tz, .ref tx, .ref th, .ref tw])), (tk, .inl (kI, 3002, .inl fk1)), (tp, .inl (kI, 3002, .inl fp1)), (tn, .inl (kI, 3002, .inl fn1)), (tl, .inl (kI, 3002, .inl fl1))] H := hP
  have hD : va_D A [(h, .inr (9, [.ref tk, .ref tp, .ref tn, .ref tu, .ref tl, .int 0, .int 0, .int 0, .int (-1), .int nt, .ref tb, .int 1, .ref ts, .ref tf, .ref tz, .ref tx, .ref th, .ref tw])), (tk, .inl (kI, 3002, .inl fk1)), (tp, .inl (kI, 3002, .inl fp1)), (tn, .inl (kI, 3002, .inl fn1)), (tl, .inl (kI, 3002, .inl fl1))] := hD
  have hP9 := hP.sub (ws' := [(h, .inr (9, [.ref tk, .ref tp, .ref tn, .ref tu, .ref tl, .int 0, .int 0, .int 0, .int (-1), .int nt, .ref tb, .int 1, .ref ts, .ref tf, .ref tz, .ref tx, .ref th, .ref tw])), (tk, .inl (kI, 3002, .inl fk1)), (tp, .inl (kI, 3002, .inl fp1)), (tn, .inl (kI, 3002, .inl fn1)), (tl, .inl (kI, 3002, .inl fl1))]) [0, 1, 2, 3, 4] rfl
  have hD9 := hD.sub (ws' := [(h, .inr (9, [.ref tk, .ref tp, .ref tn, .ref tu, .ref tl, .int 0, .int 0, .int 0, .int (-1), .int nt, .ref tb, .int 1, .ref ts, .ref tf, .ref tz, .ref tx, .ref th, .ref tw])), (tk, .inl (kI, 3002, .inl fk1)), (tp, .inl (kI, 3002, .inl fp1)), (tn, .inl (kI, 3002, .inl fn1)), (tl, .inl (kI, 3002, .inl fl1))]) [0, 1, 2, 3, 4] (by decide) rfl
  have hK9 := hK.sub (tys' := [(kI, .int)]) [0] rfl
  exact W.vret hx hb hr (fun tS ht hW => ⟨⟨(), rfl, trivial, fk1, fp1, fn1, fl1, by rw [efk1]; rfl, by rw [efp1]; rfl, by rw [ht]; exact hP9, va_K.moved hW.alike hK9, hD9⟩, hS.F ht⟩) hS.2.2 dX9_add_50
def wf_c_kind : List Cond := [.code yX9_kind cX9_kind 1 (some .int), .fieldLink RX9 9 "OwnedPlaces$Text" "kinds" "[I", .fieldLink RX9 106 "OwnedPlaces$Text" "now" "I"]
def wp_c_kind : List Cond := wf_c_kind ++ (wsX90 ++ [])
theorem in_c_kind_X9 : ∀ w ∈ wsX90, w ∈ wp_c_kind := fun w h => List.mem_append_right _ (List.mem_append_left _ h)
theorem wg_c_kind : wf_c_kind.all goodWord = true := by decide +kernel
theorem wm_c_kind (k : Nat) {w : Cond} (h : wp_c_kind[k]? = some w) : w ∈ wp_c_kind := List.mem_of_getElem? h
set_option maxHeartbeats 4000000 in
set_option maxRecDepth 100000 in
theorem c_kind (l : Launch) (dC : Nat → ClassId) (dI : Nat → Nat → Nat) (h tk tp tn tu tl tb ts tf tz tx th tw : Nat) (nt ft pl : Int32) (kI : ClassId) (fk : Nat → Int32) (sz : Nat) (hf0 : fk 0 = 0) : Met l yX9_kind wp_c_kind ({ frames := 0, cells := 0, slots := 0, locals := 0 }) (va_Pc [.ref h] (fun U => U.heap.size = sz ∧ va_P (dC, dI) vwCl [(h, .inr (9, [.ref tk, .ref tp, .ref tn, .ref tu, .ref tl, .int 0, .int 0, .int ft, .int pl, .int nt, .ref tb, .int 1, .ref ts, .ref tf, .ref tz, .ref tx, .ref th, .ref tw])), (tk, .inl (kI, 3002, .inl fk))] U.heap ∧ va_K (dC, dI) vwCl [(kI, .int)] U ∧ va_D (fun _ => True) [(h, .inr (9, [.ref tk, .ref tp, .ref tn, .ref tu, .ref tl, .int 0, .int 0, .int ft, .int pl, .int nt, .ref tb, .int 1, .ref ts, .ref tf, .ref tz, .ref tx, .ref th, .ref tw])), (tk, .inl (kI, 3002, .inl fk))])) (va_Qi (fun (r : Int32) (_ : Unit) => r = 0) (fun (_ : Unit) (tS : State) => va_P (dC, dI) vwCl [(h, .inr (9, [.ref tk, .ref tp, .ref tn, .ref tu, .ref tl, .int 0, .int 0, .int ft, .int pl, .int nt, .ref tb, .int 1, .ref ts, .ref tf, .ref tz, .ref tx, .ref th, .ref tw])), (tk, .inl (kI, 3002, .inl fk))] tS.heap ∧ va_K (dC, dI) vwCl [(kI, .int)] tS ∧ va_D (va_A [(h, .inr (9, [.ref tk, .ref tp, .ref tn, .ref tu, .ref tl, .int 0, .int 0, .int ft, .int pl, .int nt, .ref tb, .int 1, .ref ts, .ref tf, .ref tz, .ref tx, .ref th, .ref tw])), (tk, .inl (kI, 3002, .inl fk))] sz) [(h, .inr (9, [.ref tk, .ref tp, .ref tn, .ref tu, .ref tl, .int 0, .int 0, .int ft, .int pl, .int nt, .ref tb, .int 1, .ref ts, .ref tf, .ref tz, .ref tx, .ref th, .ref tw])), (tk, .inl (kI, 3002, .inl fk))]) (va_A [(h, .inr (9, [.ref tk, .ref tp, .ref tn, .ref tu, .ref tl, .int 0, .int 0, .int ft, .int pl, .int nt, .ref tb, .int 1, .ref ts, .ref tf, .ref tz, .ref tx, .ref th, .ref tw])), (tk, .inl (kI, 3002, .inl fk))] sz)) 0 0 (va_A [(h, .inr (9, [.ref tk, .ref tp, .ref tn, .ref tu, .ref tl, .int 0, .int 0, .int ft, .int pl, .int nt, .ref tb, .int 1, .ref ts, .ref tf, .ref tz, .ref tx, .ref th, .ref tw])), (tk, .inl (kI, 3002, .inl fk))] sz) := by
  refine Met.ofW (cc := cX9_kind) (maxL := 1) (ret := (some .int)) (by decide) rfl ?_
  intro p e s m args below meth c s₁ B hml hv
  obtain ⟨rfl, hsz, hP, hK, hD0⟩ := hv
  have hx := B.exec
  have hb := B.bytes
  have hr := B.returns
  have hts := atoms_spec (ws := wp_c_kind) B.pre
  have hown : s.vm.findClass RX9 = some m.cls := findClass_of_methodNamed B.named
  have hlocks := B.notSynchronized
  subst hsz
  have hD := hD0.self (sz := s.heap.size)
  generalize hAe : va_A [(h, .inr (9, [.ref tk, .ref tp, .ref tn, .ref tu, .ref tl, .int 0, .int 0, .int ft, .int pl, .int nt, .ref tb, .int 1, .ref ts, .ref tf, .ref tz, .ref tx, .ref th, .ref tw])), (tk, .inl (kI, 3002, .inl fk))] s.heap.size = A at hD ⊢
  have hA : ∀ q : Nat, s.heap.size ≤ q → A q := fun q h => by rw [← hAe]; exact Or.inr h
  have hS : va_S A s.heap s.heap [] := va_S.rf
  have hP : va_P (dC, dI) vwCl [(h, .inr (9, [.ref tk, .ref tp, .ref tn, .ref tu, .ref tl, .int 0, .int 0, .int ft, .int pl, .int nt, .ref tb, .int 1, .ref ts, .ref tf, .ref tz, .ref tx, .ref th, .ref tw])), (tk, .inl (kI, 3002, .inl fk))] s.heap := hP
  have hl := lv_entry ([.ref h]) (n := 1) (Nat.le_of_ble_eq_true rfl)
  rw [lg_entry_eq]
  generalize (lg_sl ([.ref h]) ++ List.replicate (1 - (lg_sl ([.ref h])).length) Slot.unset).toArray = ls at hl ⊢
  have hl : lv_has ls 1 [(0, .ref h)] := hl
  refine lv_aload_n hx hb dX9_kind_0 rfl (lv_at hl 0 rfl) ?_
  refine va_get (D := (dC, dI)) (ci := 9) (v := .ref tk) (C := RX9) (T := TX9) (N := 18) hx hb hts in_c_kind_X9 hown hK hP 0 rfl rfl 0 (by decide) (hts (.fieldLink RX9 9 "OwnedPlaces$Text" "kinds" "[I") (wm_c_kind 1 rfl)) (fun _ h9 => h9) rfl dX9_kind_1 ?_
  refine lv_aload_n hx hb dX9_kind_4 rfl (lv_at hl 0 rfl) ?_
  refine va_get (D := (dC, dI)) (ci := 9) (v := .int 0) (C := RX9) (T := TX9) (N := 18) hx hb hts in_c_kind_X9 hown hK hP 0 rfl rfl 6 (by decide) (hts (.fieldLink RX9 106 "OwnedPlaces$Text" "now" "I") (wm_c_kind 2 rfl)) (fun _ h9 => h9) rfl dX9_kind_5 ?_
  refine va_iald hx hb hK hP 1 0 rfl rfl (by unfold vp_in; decide) dX9_kind_8 ?_
  refine lv_topi (fun v_1 ev_1 => ?_)
  obtain rfl : v_1 = 0 := ev_1.trans (by rw [show (0 : Int32).toNatClampNeg = 0 from rfl]; exact hf0)
  have hP9 := hP.sub (ws' := [(h, .inr (9, [.ref tk, .ref tp, .ref tn, .ref tu, .ref tl, .int 0, .int 0, .int ft, .int pl, .int nt, .ref tb, .int 1, .ref ts, .ref tf, .ref tz, .ref tx, .ref th, .ref tw])), (tk, .inl (kI, 3002, .inl fk))]) [0, 1] rfl
  have hD9 := hD.sub (ws' := [(h, .inr (9, [.ref tk, .ref tp, .ref tn, .ref tu, .ref tl, .int 0, .int 0, .int ft, .int pl, .int nt, .ref tb, .int 1, .ref ts, .ref tf, .ref tz, .ref tx, .ref th, .ref tw])), (tk, .inl (kI, 3002, .inl fk))]) [0, 1] (by decide) rfl
  have hK9 := hK.sub (tys' := [(kI, .int)]) [0] rfl
  exact W.iret (v := 0) hx hb hr (fun tS ht hW => ⟨⟨0, (), rfl, rfl, by rw [ht]; exact hP9, va_K.moved hW.alike hK9, hD9⟩, hS.F ht⟩) hS.2.2 dX9_kind_9
def wf_c_where : List Cond := [.code yX9_where cX9_where 1 (some .int), .fieldLink RX9 15 "OwnedPlaces$Text" "places" "[I", .fieldLink RX9 106 "OwnedPlaces$Text" "now" "I"]
def wp_c_where : List Cond := wf_c_where ++ (wsX90 ++ [])
theorem in_c_where_X9 : ∀ w ∈ wsX90, w ∈ wp_c_where := fun w h => List.mem_append_right _ (List.mem_append_left _ h)
theorem wg_c_where : wf_c_where.all goodWord = true := by decide +kernel
theorem wm_c_where (k : Nat) {w : Cond} (h : wp_c_where[k]? = some w) : w ∈ wp_c_where := List.mem_of_getElem? h
set_option maxHeartbeats 4000000 in
set_option maxRecDepth 100000 in
theorem c_where (l : Launch) (dC : Nat → ClassId) (dI : Nat → Nat → Nat) (h tk tp tn tu tl tb ts tf tz tx th tw : Nat) (nt ft pl : Int32) (kI : ClassId) (fp : Nat → Int32) (sz : Nat) (hf0 : fp 0 = 0) : Met l yX9_where wp_c_where ({ frames := 0, cells := 0, slots := 0, locals := 0 }) (va_Pc [.ref h] (fun U => U.heap.size = sz ∧ va_P (dC, dI) vwCl [(h, .inr (9, [.ref tk, .ref tp, .ref tn, .ref tu, .ref tl, .int 0, .int 0, .int ft, .int pl, .int nt, .ref tb, .int 1, .ref ts, .ref tf, .ref tz, .ref tx, .ref th, .ref tw])), (tp, .inl (kI, 3002, .inl fp))] U.heap ∧ va_K (dC, dI) vwCl [(kI, .int)] U ∧ va_D (fun _ => True) [(h, .inr (9, [.ref tk, .ref tp, .ref tn, .ref tu, .ref tl, .int 0, .int 0, .int ft, .int pl, .int nt, .ref tb, .int 1, .ref ts, .ref tf, .ref tz, .ref tx, .ref th, .ref tw])), (tp, .inl (kI, 3002, .inl fp))])) (va_Qi (fun (r : Int32) (_ : Unit) => r = 0) (fun (_ : Unit) (tS : State) => va_P (dC, dI) vwCl [(h, .inr (9, [.ref tk, .ref tp, .ref tn, .ref tu, .ref tl, .int 0, .int 0, .int ft, .int pl, .int nt, .ref tb, .int 1, .ref ts, .ref tf, .ref tz, .ref tx, .ref th, .ref tw])), (tp, .inl (kI, 3002, .inl fp))] tS.heap ∧ va_K (dC, dI) vwCl [(kI, .int)] tS ∧ va_D (va_A [(h, .inr (9, [.ref tk, .ref tp, .ref tn, .ref tu, .ref tl, .int 0, .int 0, .int ft, .int pl, .int nt, .ref tb, .int 1, .ref ts, .ref tf, .ref tz, .ref tx, .ref th, .ref tw])), (tp, .inl (kI, 3002, .inl fp))] sz) [(h, .inr (9, [.ref tk, .ref tp, .ref tn, .ref tu, .ref tl, .int 0, .int 0, .int ft, .int pl, .int nt, .ref tb, .int 1, .ref ts, .ref tf, .ref tz, .ref tx, .ref th, .ref tw])), (tp, .inl (kI, 3002, .inl fp))]) (va_A [(h, .inr (9, [.ref tk, .ref tp, .ref tn, .ref tu, .ref tl, .int 0, .int 0, .int ft, .int pl, .int nt, .ref tb, .int 1, .ref ts, .ref tf, .ref tz, .ref tx, .ref th, .ref tw])), (tp, .inl (kI, 3002, .inl fp))] sz)) 0 0 (va_A [(h, .inr (9, [.ref tk, .ref tp, .ref tn, .ref tu, .ref tl, .int 0, .int 0, .int ft, .int pl, .int nt, .ref tb, .int 1, .ref ts, .ref tf, .ref tz, .ref tx, .ref th, .ref tw])), (tp, .inl (kI, 3002, .inl fp))] sz) := by
  refine Met.ofW (cc := cX9_where) (maxL := 1) (ret := (some .int)) (by decide) rfl ?_
  intro p e s m args below meth c s₁ B hml hv
  obtain ⟨rfl, hsz, hP, hK, hD0⟩ := hv
  have hx := B.exec
  have hb := B.bytes
  have hr := B.returns
  have hts := atoms_spec (ws := wp_c_where) B.pre
  have hown : s.vm.findClass RX9 = some m.cls := findClass_of_methodNamed B.named
  have hlocks := B.notSynchronized
  subst hsz
  have hD := hD0.self (sz := s.heap.size)
  generalize hAe : va_A [(h, .inr (9, [.ref tk, .ref tp, .ref tn, .ref tu, .ref tl, .int 0, .int 0, .int ft, .int pl, .int nt, .ref tb, .int 1, .ref ts, .ref tf, .ref tz, .ref tx, .ref th, .ref tw])), (tp, .inl (kI, 3002, .inl fp))] s.heap.size = A at hD ⊢
  have hA : ∀ q : Nat, s.heap.size ≤ q → A q := fun q h => by rw [← hAe]; exact Or.inr h
  have hS : va_S A s.heap s.heap [] := va_S.rf
  have hP : va_P (dC, dI) vwCl [(h, .inr (9, [.ref tk, .ref tp, .ref tn, .ref tu, .ref tl, .int 0, .int 0, .int ft, .int pl, .int nt, .ref tb, .int 1, .ref ts, .ref tf, .ref tz, .ref tx, .ref th, .ref tw])), (tp, .inl (kI, 3002, .inl fp))] s.heap := hP
  have hl := lv_entry ([.ref h]) (n := 1) (Nat.le_of_ble_eq_true rfl)
  rw [lg_entry_eq]
  generalize (lg_sl ([.ref h]) ++ List.replicate (1 - (lg_sl ([.ref h])).length) Slot.unset).toArray = ls at hl ⊢
  have hl : lv_has ls 1 [(0, .ref h)] := hl
  refine lv_aload_n hx hb dX9_where_0 rfl (lv_at hl 0 rfl) ?_
  refine va_get (D := (dC, dI)) (ci := 9) (v := .ref tp) (C := RX9) (T := TX9) (N := 18) hx hb hts in_c_where_X9 hown hK hP 0 rfl rfl 1 (by decide) (hts (.fieldLink RX9 15 "OwnedPlaces$Text" "places" "[I") (wm_c_where 1 rfl)) (fun _ h9 => h9) rfl dX9_where_1 ?_
  refine lv_aload_n hx hb dX9_where_4 rfl (lv_at hl 0 rfl) ?_
  refine va_get (D := (dC, dI)) (ci := 9) (v := .int 0) (C := RX9) (T := TX9) (N := 18) hx hb hts in_c_where_X9 hown hK hP 0 rfl rfl 6 (by decide) (hts (.fieldLink RX9 106 "OwnedPlaces$Text" "now" "I") (wm_c_where 2 rfl)) (fun _ h9 => h9) rfl dX9_where_5 ?_
  refine va_iald hx hb hK hP 1 0 rfl rfl (by unfold vp_in; decide) dX9_where_8 ?_
  refine lv_topi (fun v_1 ev_1 => ?_)
  obtain rfl : v_1 = 0 := ev_1.trans (by rw [show (0 : Int32).toNatClampNeg = 0 from rfl]; exact hf0)
  have hP9 := hP.sub (ws' := [(h, .inr (9, [.ref tk, .ref tp, .ref tn, .ref tu, .ref tl, .int 0, .int 0, .int ft, .int pl, .int nt, .ref tb, .int 1, .ref ts, .ref tf, .ref tz, .ref tx, .ref th, .ref tw])), (tp, .inl (kI, 3002, .inl fp))]) [0, 1] rfl
  have hD9 := hD.sub (ws' := [(h, .inr (9, [.ref tk, .ref tp, .ref tn, .ref tu, .ref tl, .int 0, .int 0, .int ft, .int pl, .int nt, .ref tb, .int 1, .ref ts, .ref tf, .ref tz, .ref tx, .ref th, .ref tw])), (tp, .inl (kI, 3002, .inl fp))]) [0, 1] (by decide) rfl
  have hK9 := hK.sub (tys' := [(kI, .int)]) [0] rfl
  exact W.iret (v := 0) hx hb hr (fun tS ht hW => ⟨⟨0, (), rfl, rfl, by rw [ht]; exact hP9, va_K.moved hW.alike hK9, hD9⟩, hS.F ht⟩) hS.2.2 dX9_where_9
def wf_c_step : List Cond := [.code yX9_step cX9_step 2 none, .fieldLink RX9 106 "OwnedPlaces$Text" "now" "I", .fieldLink RX9 92 "OwnedPlaces$Text" "total" "I", .methodLink RX9 109 Lib.Math.min.name, .static Lib.Math.min.name, .initialized "java/lang/Math", .code Lib.Math.min.name Lib.Math.min.code 2 (some .int)]
def wp_c_step : List Cond := wf_c_step ++ (wsX90 ++ [])
theorem in_c_step_X9 : ∀ w ∈ wsX90, w ∈ wp_c_step := fun w h => List.mem_append_right _ (List.mem_append_left _ h)
theorem wg_c_step : wf_c_step.all goodWord = true := by decide +kernel
theorem wm_c_step (k : Nat) {w : Cond} (h : wp_c_step[k]? = some w) : w ∈ wp_c_step := List.mem_of_getElem? h
set_option maxHeartbeats 4000000 in
set_option maxRecDepth 100000 in
theorem c_step (l : Launch) (dC : Nat → ClassId) (dI : Nat → Nat → Nat) (h tk tp tn tu tl tb ts tf tz tx th tw : Nat) (nt : Int32) (sz : Nat) : Met l yX9_step wp_c_step ({ frames := 1, cells := 0, slots := 0, locals := 14 }) (va_Pc [.ref h, .int 3002] (fun U => U.heap.size = sz ∧ va_P (dC, dI) vwCl [(h, .inr (9, [.ref tk, .ref tp, .ref tn, .ref tu, .ref tl, .int 0, .int 0, .int 0, .int (-1), .int nt, .ref tb, .int 1, .ref ts, .ref tf, .ref tz, .ref tx, .ref th, .ref tw]))] U.heap ∧ va_K (dC, dI) vwCl [] U ∧ va_D (fun _ => True) [(h, .inr (9, [.ref tk, .ref tp, .ref tn, .ref tu, .ref tl, .int 0, .int 0, .int 0, .int (-1), .int nt, .ref tb, .int 1, .ref ts, .ref tf, .ref tz, .ref tx, .ref th, .ref tw]))])) (va_Qv (fun _ : Unit => True) (fun (_ : Unit) (tS : State) => va_P (dC, dI) vwCl [(h, .inr (9, [.ref tk, .ref tp, .ref tn, .ref tu, .ref tl, .int 0, .int 0, .int 0, .int (-1), .int nt, .ref tb, .int 1, .ref ts, .ref tf, .ref tz, .ref tx, .ref th, .ref tw]))] tS.heap ∧ va_K (dC, dI) vwCl [] tS ∧ va_D (va_A [(h, .inr (9, [.ref tk, .ref tp, .ref tn, .ref tu, .ref tl, .int 0, .int 0, .int 0, .int (-1), .int nt, .ref tb, .int 1, .ref ts, .ref tf, .ref tz, .ref tx, .ref th, .ref tw]))] sz) [(h, .inr (9, [.ref tk, .ref tp, .ref tn, .ref tu, .ref tl, .int 0, .int 0, .int 0, .int (-1), .int nt, .ref tb, .int 1, .ref ts, .ref tf, .ref tz, .ref tx, .ref th, .ref tw]))]) (va_A [(h, .inr (9, [.ref tk, .ref tp, .ref tn, .ref tu, .ref tl, .int 0, .int 0, .int 0, .int (-1), .int nt, .ref tb, .int 1, .ref ts, .ref tf, .ref tz, .ref tx, .ref th, .ref tw]))] sz)) 0 0 (va_A [(h, .inr (9, [.ref tk, .ref tp, .ref tn, .ref tu, .ref tl, .int 0, .int 0, .int 0, .int (-1), .int nt, .ref tb, .int 1, .ref ts, .ref tf, .ref tz, .ref tx, .ref th, .ref tw]))] sz) := by
  refine Met.ofW (cc := cX9_step) (maxL := 2) (ret := none) (by decide) rfl ?_
  intro p e s m args below meth c s₁ B hml hv
  obtain ⟨rfl, hsz, hP, hK, hD0⟩ := hv
  have hx := B.exec
  have hb := B.bytes
  have hr := B.returns
  have hts := atoms_spec (ws := wp_c_step) B.pre
  have hown : s.vm.findClass RX9 = some m.cls := findClass_of_methodNamed B.named
  have hlocks := B.notSynchronized
  subst hsz
  have hD := hD0.self (sz := s.heap.size)
  generalize hAe : va_A [(h, .inr (9, [.ref tk, .ref tp, .ref tn, .ref tu, .ref tl, .int 0, .int 0, .int 0, .int (-1), .int nt, .ref tb, .int 1, .ref ts, .ref tf, .ref tz, .ref tx, .ref th, .ref tw]))] s.heap.size = A at hD ⊢
  have hA : ∀ q : Nat, s.heap.size ≤ q → A q := fun q h => by rw [← hAe]; exact Or.inr h
  have hS : va_S A s.heap s.heap [] := va_S.rf
  have hP : va_P (dC, dI) vwCl [(h, .inr (9, [.ref tk, .ref tp, .ref tn, .ref tu, .ref tl, .int 0, .int 0, .int 0, .int (-1), .int nt, .ref tb, .int 1, .ref ts, .ref tf, .ref tz, .ref tx, .ref th, .ref tw]))] s.heap := hP
  have hl := lv_entry ([.ref h, .int 3002]) (n := 2) (Nat.le_of_ble_eq_true rfl)
  rw [lg_entry_eq]
  generalize (lg_sl ([.ref h, .int 3002]) ++ List.replicate (2 - (lg_sl ([.ref h, .int 3002])).length) Slot.unset).toArray = ls at hl ⊢
  have hl : lv_has ls 2 [(0, .ref h), (1, .int 3002)] := hl
  refine lv_aload_n hx hb dX9_step_0 rfl (lv_at hl 0 rfl) ?_
  refine lv_aload_n hx hb dX9_step_1 rfl (lv_at hl 0 rfl) ?_
  refine va_get (D := (dC, dI)) (ci := 9) (v := .int 0) (C := RX9) (T := TX9) (N := 18) hx hb hts in_c_step_X9 hown hK hP 0 rfl rfl 6 (by decide) (hts (.fieldLink RX9 106 "OwnedPlaces$Text" "now" "I") (wm_c_step 1 rfl)) (fun _ h9 => h9) rfl dX9_step_2 ?_
  refine lv_iload_n hx hb dX9_step_5 rfl (lv_at hl 1 rfl) ?_
  refine lv_iadd hx hb dX9_step_6 ?_
  refine lv_topi (fun f_1 ef_1 => ?_)
  obtain rfl : f_1 = 3002 := ef_1.trans (by decide)
  refine lv_aload_n hx hb dX9_step_7 rfl (lv_at hl 0 rfl) ?_
  refine va_get (D := (dC, dI)) (ci := 9) (v := .int 1) (C := RX9) (T := TX9) (N := 18) hx hb hts in_c_step_X9 hown hK hP 0 rfl rfl 11 (by decide) (hts (.fieldLink RX9 92 "OwnedPlaces$Text" "total" "I") (wm_c_step 2 rfl)) (fun _ h9 => h9) rfl dX9_step_8 ?_
  refine lv_iconst (v := 1) hx hb dX9_step_11 (by decide) ?_
  refine lv_isub hx hb dX9_step_12 ?_
  refine lv_topi (fun f_2 ef_2 => ?_)
  obtain rfl : f_2 = 0 := ef_2.trans (by decide)
  refine va_mmin hx hb (by rw [hml]; exact hl.1.symm) hown (hts (.methodLink RX9 109 Lib.Math.min.name) (wm_c_step 3 rfl)) (hts (.static Lib.Math.min.name) (wm_c_step 4 rfl)) (hts (.initialized "java/lang/Math") (wm_c_step 5 rfl)) (hts (.code Lib.Math.min.name Lib.Math.min.code 2 (some .int)) (wm_c_step 6 rfl)) (Nat.le_of_ble_eq_true rfl) (Nat.le_of_ble_eq_true rfl) (Nat.zero_le _) (Nat.zero_le _) dX9_step_13 ?_
  refine lv_topi (fun f_3 ef_3 => ?_)
  obtain rfl : f_3 = 0 := ef_3.trans (by decide)
  refine va_put (D := (dC, dI)) (ci := 9) (v := .int 0) (ty := .int) (C := RX9) (T := TX9) (N := 18) hx hb hts in_c_step_X9 tyX9 tyX9_ok nmX9 hown hK hP hD hS 0 rfl rfl 6 (by decide) (hts (.fieldLink RX9 106 "OwnedPlaces$Text" "now" "I") (wm_c_step 1 rfl)) (fun _ h9 => h9) rfl (by decide +kernel) rfl rfl (Nat.le_of_ble_eq_true rfl) dX9_step_16 (fun H locs hP hD hS => ?_)
  have hP : va_P (dC, dI) vwCl [(h, .inr (9, [.ref tk, .ref tp, .ref tn, .ref tu, .ref tl, .int 0, .int 0, .int 0, .int (-1), .int nt, .ref tb, .int 1, .ref ts, .ref tf, .ref tz, .ref tx, .ref th, .ref tw]))] H := hP
  have hD : va_D A [(h, .inr (9, [.ref tk, .ref tp, .ref tn, .ref tu, .ref tl, .int 0, .int 0, .int 0, .int (-1), .int nt, .ref tb, .int 1, .ref ts, .ref tf, .ref tz, .ref tx, .ref th, .ref tw]))] := hD
  have hP9 := hP.sub (ws' := [(h, .inr (9, [.ref tk, .ref tp, .ref tn, .ref tu, .ref tl, .int 0, .int 0, .int 0, .int (-1), .int nt, .ref tb, .int 1, .ref ts, .ref tf, .ref tz, .ref tx, .ref th, .ref tw]))]) [0] rfl
  have hD9 := hD.sub (ws' := [(h, .inr (9, [.ref tk, .ref tp, .ref tn, .ref tu, .ref tl, .int 0, .int 0, .int 0, .int (-1), .int nt, .ref tb, .int 1, .ref ts, .ref tf, .ref tz, .ref tx, .ref th, .ref tw]))]) [0] (by decide) rfl
  have hK9 := hK.sub (tys' := []) [] rfl
  exact W.vret hx hb hr (fun tS ht hW => ⟨⟨(), rfl, trivial, by rw [ht]; exact hP9, va_K.moved hW.alike hK9, hD9⟩, hS.F ht⟩) hS.2.2 dX9_step_19
def wf_c_fail : List Cond := [.code yX9_fail cX9_fail 3 none, .fieldLink RX9 95 "OwnedPlaces$Text" "fault" "I", .fieldLink RX9 28 "OwnedPlaces$Text" "place" "I", .fieldLink RX9 92 "OwnedPlaces$Text" "total" "I", .fieldLink RX9 106 "OwnedPlaces$Text" "now" "I"]
def wp_c_fail : List Cond := wf_c_fail ++ (wsX90 ++ [])
theorem in_c_fail_X9 : ∀ w ∈ wsX90, w ∈ wp_c_fail := fun w h => List.mem_append_right _ (List.mem_append_left _ h)
theorem wg_c_fail : wf_c_fail.all goodWord = true := by decide +kernel
theorem wm_c_fail (k : Nat) {w : Cond} (h : wp_c_fail[k]? = some w) : w ∈ wp_c_fail := List.mem_of_getElem? h
set_option maxHeartbeats 4000000 in
set_option maxRecDepth 100000 in
theorem c_fail (l : Launch) (dC : Nat → ClassId) (dI : Nat → Nat → Nat) (h tk tp tn tu tl tb ts tf tz tx th tw : Nat) (nt : Int32) (sz : Nat) : Met l yX9_fail wp_c_fail ({ frames := 0, cells := 0, slots := 0, locals := 0 }) (va_Pc [.ref h, .int 3, .int 0] (fun U => U.heap.size = sz ∧ va_P (dC, dI) vwCl [(h, .inr (9, [.ref tk, .ref tp, .ref tn, .ref tu, .ref tl, .int 0, .int 0, .int 0, .int (-1), .int nt, .ref tb, .int 1, .ref ts, .ref tf, .ref tz, .ref tx, .ref th, .ref tw]))] U.heap ∧ va_K (dC, dI) vwCl [] U ∧ va_D (fun _ => True) [(h, .inr (9, [.ref tk, .ref tp, .ref tn, .ref tu, .ref tl, .int 0, .int 0, .int 0, .int (-1), .int nt, .ref tb, .int 1, .ref ts, .ref tf, .ref tz, .ref tx, .ref th, .ref tw]))])) (va_Qv (fun _ : Unit => True) (fun (_ : Unit) (tS : State) => va_P (dC, dI) vwCl [(h, .inr (9, [.ref tk, .ref tp, .ref tn, .ref tu, .ref tl, .int 0, .int 0, .int 3, .int 0, .int nt, .ref tb, .int 1, .ref ts, .ref tf, .ref tz, .ref tx, .ref th, .ref tw]))] tS.heap ∧ va_K (dC, dI) vwCl [] tS ∧ va_D (va_A [(h, .inr (9, [.ref tk, .ref tp, .ref tn, .ref tu, .ref tl, .int 0, .int 0, .int 0, .int (-1), .int nt, .ref tb, .int 1, .ref ts, .ref tf, .ref tz, .ref tx, .ref th, .ref tw]))] sz) [(h, .inr (9, [.ref tk, .ref tp, .ref tn, .ref tu, .ref tl, .int 0, .int 0, .int 3, .int 0, .int nt, .ref tb, .int 1, .ref ts, .ref tf, .ref tz, .ref tx, .ref th, .ref tw]))]) (va_A [(h, .inr (9, [.ref tk, .ref tp, .ref tn, .ref tu, .ref tl, .int 0, .int 0, .int 0, .int (-1), .int nt, .ref tb, .int 1, .ref ts, .ref tf, .ref tz, .ref tx, .ref th, .ref tw]))] sz)) 0 0 (va_A [(h, .inr (9, [.ref tk, .ref tp, .ref tn, .ref tu, .ref tl, .int 0, .int 0, .int 0, .int (-1), .int nt, .ref tb, .int 1, .ref ts, .ref tf, .ref tz, .ref tx, .ref th, .ref tw]))] sz) := by
  refine Met.ofW (cc := cX9_fail) (maxL := 3) (ret := none) (by decide) rfl ?_
  intro p e s m args below meth c s₁ B hml hv
  obtain ⟨rfl, hsz, hP, hK, hD0⟩ := hv
  have hx := B.exec
  have hb := B.bytes
  have hr := B.returns
  have hts := atoms_spec (ws := wp_c_fail) B.pre
  have hown : s.vm.findClass RX9 = some m.cls := findClass_of_methodNamed B.named
  have hlocks := B.notSynchronized
  subst hsz
  have hD := hD0.self (sz := s.heap.size)
  generalize hAe : va_A [(h, .inr (9, [.ref tk, .ref tp, .ref tn, .ref tu, .ref tl, .int 0, .int 0, .int 0, .int (-1), .int nt, .ref tb, .int 1, .ref ts, .ref tf, .ref tz, .ref tx, .ref th, .ref tw]))] s.heap.size = A at hD ⊢
  have hA : ∀ q : Nat, s.heap.size ≤ q → A q := fun q h => by rw [← hAe]; exact Or.inr h
  have hS : va_S A s.heap s.heap [] := va_S.rf
  have hP : va_P (dC, dI) vwCl [(h, .inr (9, [.ref tk, .ref tp, .ref tn, .ref tu, .ref tl, .int 0, .int 0, .int 0, .int (-1), .int nt, .ref tb, .int 1, .ref ts, .ref tf, .ref tz, .ref tx, .ref th, .ref tw]))] s.heap := hP
  have hl := lv_entry ([.ref h, .int 3, .int 0]) (n := 3) (Nat.le_of_ble_eq_true rfl)
  rw [lg_entry_eq]
  generalize (lg_sl ([.ref h, .int 3, .int 0]) ++ List.replicate (3 - (lg_sl ([.ref h, .int 3, .int 0])).length) Slot.unset).toArray = ls at hl ⊢
  have hl : lv_has ls 3 [(0, .ref h), (1, .int 3), (2, .int 0)] := hl
  refine lv_aload_n hx hb dX9_fail_0 rfl (lv_at hl 0 rfl) ?_
  refine va_get (D := (dC, dI)) (ci := 9) (v := .int 0) (C := RX9) (T := TX9) (N := 18) hx hb hts in_c_fail_X9 hown hK hP 0 rfl rfl 7 (by decide) (hts (.fieldLink RX9 95 "OwnedPlaces$Text" "fault" "I") (wm_c_fail 1 rfl)) (fun _ h9 => h9) rfl dX9_fail_1 ?_
  refine lv_if_ne (tgt := 17) hx hb dX9_fail_4 (by decide) (fun c_1 => absurd c_1 (by decide)) (fun _ => ?_)
  refine lv_aload_n hx hb dX9_fail_7 rfl (lv_at hl 0 rfl) ?_
  refine lv_iload_n hx hb dX9_fail_8 rfl (lv_at hl 1 rfl) ?_
  refine va_put (D := (dC, dI)) (ci := 9) (v := .int 3) (ty := .int) (C := RX9) (T := TX9) (N := 18) hx hb hts in_c_fail_X9 tyX9 tyX9_ok nmX9 hown hK hP hD hS 0 rfl rfl 7 (by decide) (hts (.fieldLink RX9 95 "OwnedPlaces$Text" "fault" "I") (wm_c_fail 1 rfl)) (fun _ h9 => h9) rfl (by decide +kernel) rfl rfl (Nat.le_of_ble_eq_true rfl) dX9_fail_9 (fun H locs hP hD hS => ?_)
  have hP : va_P (dC, dI) vwCl [(h, .inr (9, [.ref tk, .ref tp, .ref tn, .ref tu, .ref tl, .int 0, .int 0, .int 3, .int (-1), .int nt, .ref tb, .int 1, .ref ts, .ref tf, .ref tz, .ref tx, .ref th, .ref tw]))] H := hP
  have hD : va_D A [(h, .inr (9, [.ref tk, .ref tp, .ref tn, .ref tu, .ref tl, .int 0, .int 0, .int 3, .int (-1), .int nt, .ref tb, .int 1, .ref ts, .ref tf, .ref tz, .ref tx, .ref th, .ref tw]))] := hD
  refine lv_aload_n hx hb dX9_fail_12 rfl (lv_at hl 0 rfl) ?_
  refine lv_iload_n hx hb dX9_fail_13 rfl (lv_at hl 2 rfl) ?_
  refine va_put (D := (dC, dI)) (ci := 9) (v := .int 0) (ty := .int) (C := RX9) (T := TX9) (N := 18) hx hb hts in_c_fail_X9 tyX9 tyX9_ok nmX9 hown hK hP hD hS 0 rfl rfl 8 (by decide) (hts (.fieldLink RX9 28 "OwnedPlaces$Text" "place" "I") (wm_c_fail 2 rfl)) (fun _ h9 => h9) rfl (by decide +kernel) rfl rfl (Nat.le_of_ble_eq_true rfl) dX9_fail_14 (fun H locs hP hD hS => ?_)
  have hP : va_P (dC, dI) vwCl [(h, .inr (9, [.ref tk, .ref tp, .ref tn, .ref tu, .ref tl, .int 0, .int 0, .int 3, .int 0, .int nt, .ref tb, .int 1, .ref ts, .ref tf, .ref tz, .ref tx, .ref th, .ref tw]))] H := hP
  have hD : va_D A [(h, .inr (9, [.ref tk, .ref tp, .ref tn, .ref tu, .ref tl, .int 0, .int 0, .int 3, .int 0, .int nt, .ref tb, .int 1, .ref ts, .ref tf, .ref tz, .ref tx, .ref th, .ref tw]))] := hD
  refine lv_aload_n hx hb dX9_fail_17 rfl (lv_at hl 0 rfl) ?_
  refine lv_aload_n hx hb dX9_fail_18 rfl (lv_at hl 0 rfl) ?_
  refine va_get (D := (dC, dI)) (ci := 9) (v := .int 1) (C := RX9) (T := TX9) (N := 18) hx hb hts in_c_fail_X9 hown hK hP 0 rfl rfl 11 (by decide) (hts (.fieldLink RX9 92 "OwnedPlaces$Text" "total" "I") (wm_c_fail 3 rfl)) (fun _ h9 => h9) rfl dX9_fail_19 ?_
  refine lv_iconst (v := 1) hx hb dX9_fail_22 (by decide) ?_
  refine lv_isub hx hb dX9_fail_23 ?_
  refine lv_topi (fun f_2 ef_2 => ?_)
  obtain rfl : f_2 = 0 := ef_2.trans (by decide)
  refine va_put (D := (dC, dI)) (ci := 9) (v := .int 0) (ty := .int) (C := RX9) (T := TX9) (N := 18) hx hb hts in_c_fail_X9 tyX9 tyX9_ok nmX9 hown hK hP hD hS 0 rfl rfl 6 (by decide) (hts (.fieldLink RX9 106 "OwnedPlaces$Text" "now" "I") (wm_c_fail 4 rfl)) (fun _ h9 => h9) rfl (by decide +kernel) rfl rfl (Nat.le_of_ble_eq_true rfl) dX9_fail_24 (fun H locs hP hD hS => ?_)
  have hP : va_P (dC, dI) vwCl [(h, .inr (9, [.ref tk, .ref tp, .ref tn, .ref tu, .ref tl, .int 0, .int 0, .int 3, .int 0, .int nt, .ref tb, .int 1, .ref ts, .ref tf, .ref tz, .ref tx, .ref th, .ref tw]))] H := hP
  have hD : va_D A [(h, .inr (9, [.ref tk, .ref tp, .ref tn, .ref tu, .ref tl, .int 0, .int 0, .int 3, .int 0, .int nt, .ref tb, .int 1, .ref ts, .ref tf, .ref tz, .ref tx, .ref th, .ref tw]))] := hD
  have hP9 := hP.sub (ws' := [(h, .inr (9, [.ref tk, .ref tp, .ref tn, .ref tu, .ref tl, .int 0, .int 0, .int 3, .int 0, .int nt, .ref tb, .int 1, .ref ts, .ref tf, .ref tz, .ref tx, .ref th, .ref tw]))]) [0] rfl
  have hD9 := hD.sub (ws' := [(h, .inr (9, [.ref tk, .ref tp, .ref tn, .ref tu, .ref tl, .int 0, .int 0, .int 3, .int 0, .int nt, .ref tb, .int 1, .ref ts, .ref tf, .ref tz, .ref tx, .ref th, .ref tw]))]) [0] (by decide) rfl
  have hK9 := hK.sub (tys' := []) [] rfl
  exact W.vret hx hb hr (fun tS ht hW => ⟨⟨(), rfl, trivial, by rw [ht]; exact hP9, va_K.moved hW.alike hK9, hD9⟩, hS.F ht⟩) hS.2.2 dX9_fail_27
def wf_c_read : List Cond := [.code yX9_read cX9_read 4 none, .fieldLink RX9 78 "OwnedPlaces$Text" "wordHeads" "[I", .fieldLink RX9 48 "OwnedPlaces$Text" "heads" "[I", .methodLink RX9 83 arraycopyName, .native arraycopyName, .static arraycopyName, .initialized "java/lang/System", .fieldLink RX9 89 "OwnedPlaces$Text" "nameTotal" "I", .fieldLink RX9 92 "OwnedPlaces$Text" "total" "I", .fieldLink RX9 95 "OwnedPlaces$Text" "fault" "I", .fieldLink RX9 28 "OwnedPlaces$Text" "place" "I", .code yX9_add cX9_add 4 none, .fieldLink RX9 9 "OwnedPlaces$Text" "kinds" "[I", .fieldLink RX9 15 "OwnedPlaces$Text" "places" "[I", .fieldLink RX9 18 "OwnedPlaces$Text" "names" "[I", .fieldLink RX9 25 "OwnedPlaces$Text" "links" "[I", .methodLink RX9 102 yX9_add, .instanceMethod yX9_add, .selects RX9 yX9_add yX9_add, .initialized RX9, .fieldLink RX9 106 "OwnedPlaces$Text" "now" "I"]
def wp_c_read : List Cond := wf_c_read ++ (wsX90 ++ [])
theorem in_c_read_X9 : ∀ w ∈ wsX90, w ∈ wp_c_read := fun w h => List.mem_append_right _ (List.mem_append_left _ h)
theorem wg_c_read : wf_c_read.all goodWord = true := by decide +kernel
theorem wm_c_read (k : Nat) {w : Cond} (h : wp_c_read[k]? = some w) : w ∈ wp_c_read := List.mem_of_getElem? h
set_option maxRecDepth 20000 in
theorem g_c_read_c_add_68 : GoodIn wp_c_read (wsV RX9 102 RX9 yX9_add wp_c_add) := goodIn_app (goodIn_f [.methodLink RX9 102 yX9_add, .instanceMethod yX9_add, .selects RX9 yX9_add yX9_add, .initialized RX9] [16, 17, 18, 19] rfl (by decide +kernel)) (goodIn_app (goodIn_f (wf_c_add) [11, 12, 8, 13, 14, 15] rfl wg_c_add) (goodIn_app (goodIn_sub in_c_read_X9 gd_X9) (goodIn_n)))
set_option maxHeartbeats 4000000 in
set_option maxRecDepth 100000 in
theorem c_read (l : Launch) (dC : Nat → ClassId) (dI : Nat → Nat → Nat) (h tk tp tn tu tl tb ts tf tz tx th tw : Nat) (nt : Int32) (kI : ClassId) (fk fp fn fl fh fw : Nat → Int32) (sz : Nat) : Met l yX9_read wp_c_read ({ frames := 1, cells := 0, slots := 0, locals := 64 }) (va_Pc [.ref h, .int 0] (fun U => U.heap.size = sz ∧ va_P (dC, dI) vwCl [(h, .inr (9, [.ref tk, .ref tp, .ref tn, .ref tu, .ref tl, .int 0, .int 0, .int 0, .int (-1), .int nt, .ref tb, .int 0, .ref ts, .ref tf, .ref tz, .ref tx, .ref th, .ref tw])), (tk, .inl (kI, 3002, .inl fk)), (tp, .inl (kI, 3002, .inl fp)), (tn, .inl (kI, 3002, .inl fn)), (tl, .inl (kI, 3002, .inl fl)), (th, .inl (kI, 256, .inl fh)), (tw, .inl (kI, 256, .inl fw))] U.heap ∧ va_K (dC, dI) vwCl [(kI, .int)] U ∧ va_D (fun _ => True) [(h, .inr (9, [.ref tk, .ref tp, .ref tn, .ref tu, .ref tl, .int 0, .int 0, .int 0, .int (-1), .int nt, .ref tb, .int 0, .ref ts, .ref tf, .ref tz, .ref tx, .ref th, .ref tw])), (tk, .inl (kI, 3002, .inl fk)), (tp, .inl (kI, 3002, .inl fp)), (tn, .inl (kI, 3002, .inl fn)), (tl, .inl (kI, 3002, .inl fl)), (th, .inl (kI, 256, .inl fh)), (tw, .inl (kI, 256, .inl fw))])) (va_Qv (fun _ : Unit => True) (fun (_ : Unit) (tS : State) => ∃ (gk : Nat → Int32) (gp : Nat → Int32) (gn : Nat → Int32) (gl : Nat → Int32) (gh : Nat → Int32), (gk 0 = 0) ∧ (gp 0 = 0) ∧ va_P (dC, dI) vwCl [(h, .inr (9, [.ref tk, .ref tp, .ref tn, .ref tu, .ref tl, .int 0, .int 0, .int 0, .int (-1), .int 20, .ref tb, .int 1, .ref ts, .ref tf, .ref tz, .ref tx, .ref th, .ref tw])), (tk, .inl (kI, 3002, .inl gk)), (tp, .inl (kI, 3002, .inl gp)), (tn, .inl (kI, 3002, .inl gn)), (tl, .inl (kI, 3002, .inl gl)), (th, .inl (kI, 256, .inl gh)), (tw, .inl (kI, 256, .inl fw))] tS.heap ∧ va_K (dC, dI) vwCl [(kI, .int)] tS ∧ va_D (va_A [(h, .inr (9, [.ref tk, .ref tp, .ref tn, .ref tu, .ref tl, .int 0, .int 0, .int 0, .int (-1), .int nt, .ref tb, .int 0, .ref ts, .ref tf, .ref tz, .ref tx, .ref th, .ref tw])), (tk, .inl (kI, 3002, .inl fk)), (tp, .inl (kI, 3002, .inl fp)), (tn, .inl (kI, 3002, .inl fn)), (tl, .inl (kI, 3002, .inl fl)), (th, .inl (kI, 256, .inl fh)), (tw, .inl (kI, 256, .inl fw))] sz) [(h, .inr (9, [.ref tk, .ref tp, .ref tn, .ref tu, .ref tl, .int 0, .int 0, .int 0, .int (-1), .int 20, .ref tb, .int 1, .ref ts, .ref tf, .ref tz, .ref tx, .ref th, .ref tw])), (tk, .inl (kI, 3002, .inl gk)), (tp, .inl (kI, 3002, .inl gp)), (tn, .inl (kI, 3002, .inl gn)), (tl, .inl (kI, 3002, .inl gl)), (th, .inl (kI, 256, .inl gh)), (tw, .inl (kI, 256, .inl fw))]) (va_A [(h, .inr (9, [.ref tk, .ref tp, .ref tn, .ref tu, .ref tl, .int 0, .int 0, .int 0, .int (-1), .int nt, .ref tb, .int 0, .ref ts, .ref tf, .ref tz, .ref tx, .ref th, .ref tw])), (tk, .inl (kI, 3002, .inl fk)), (tp, .inl (kI, 3002, .inl fp)), (tn, .inl (kI, 3002, .inl fn)), (tl, .inl (kI, 3002, .inl fl)), (th, .inl (kI, 256, .inl fh)), (tw, .inl (kI, 256, .inl fw))] sz)) 0 0 (va_A [(h, .inr (9, [.ref tk, .ref tp, .ref tn, .ref tu, .ref tl, .int 0, .int 0, .int 0, .int (-1), .int nt, .ref tb, .int 0, .ref ts, .ref tf, .ref tz, .ref tx, .ref th, .ref tw])), (tk, .inl (kI, 3002, .inl fk)), (tp, .inl (kI, 3002, .inl fp)), (tn, .inl (kI, 3002, .inl fn)), (tl, .inl (kI, 3002, .inl fl)), (th, .inl (kI, 256, .inl fh)), (tw, .inl (kI, 256, .inl fw))] sz) := by
  refine Met.ofW (cc := cX9_read) (maxL := 4) (ret := none) (by decide) rfl ?_
  intro p e s m args below meth c s₁ B hml hv
  obtain ⟨rfl, hsz, hP, hK, hD0⟩ := hv
  have hx := B.exec
  have hb := B.bytes
  have hr := B.returns
  have hts := atoms_spec (ws := wp_c_read) B.pre
  have hown : s.vm.findClass RX9 = some m.cls := findClass_of_methodNamed B.named
  have hlocks := B.notSynchronized
  subst hsz
  have hD := hD0.self (sz := s.heap.size)
  generalize hAe : va_A [(h, .inr (9, [.ref tk, .ref tp, .ref tn, .ref tu, .ref tl, .int 0, .int 0, .int 0, .int (-1), .int nt, .ref tb, .int 0, .ref ts, .ref tf, .ref tz, .ref tx, .ref th, .ref tw])), (tk, .inl (kI, 3002, .inl fk)), (tp, .inl (kI, 3002, .inl fp)), (tn, .inl (kI, 3002, .inl fn)), (tl, .inl (kI, 3002, .inl fl)), (th, .inl (kI, 256, .inl fh)), (tw, .inl (kI, 256, .inl fw))] s.heap.size = A at hD ⊢
  have hA : ∀ q : Nat, s.heap.size ≤ q → A q := fun q h => by rw [← hAe]; exact Or.inr h
  have hS : va_S A s.heap s.heap [] := va_S.rf
  have hP : va_P (dC, dI) vwCl [(h, .inr (9, [.ref tk, .ref tp, .ref tn, .ref tu, .ref tl, .int 0, .int 0, .int 0, .int (-1), .int nt, .ref tb, .int 0, .ref ts, .ref tf, .ref tz, .ref tx, .ref th, .ref tw])), (tk, .inl (kI, 3002, .inl fk)), (tp, .inl (kI, 3002, .inl fp)), (tn, .inl (kI, 3002, .inl fn)), (tl, .inl (kI, 3002, .inl fl)), (th, .inl (kI, 256, .inl fh)), (tw, .inl (kI, 256, .inl fw))] s.heap := hP
  have hl := lv_entry ([.ref h, .int 0]) (n := 4) (Nat.le_of_ble_eq_true rfl)
  rw [lg_entry_eq]
  generalize (lg_sl ([.ref h, .int 0]) ++ List.replicate (4 - (lg_sl ([.ref h, .int 0])).length) Slot.unset).toArray = ls at hl ⊢
  have hl : lv_has ls 4 [(0, .ref h), (1, .int 0)] := hl
  refine lv_aload_n hx hb dX9_read_0 rfl (lv_at hl 0 rfl) ?_
  refine va_get (D := (dC, dI)) (ci := 9) (v := .ref tw) (C := RX9) (T := TX9) (N := 18) hx hb hts in_c_read_X9 hown hK hP 0 rfl rfl 17 (by decide) (hts (.fieldLink RX9 78 "OwnedPlaces$Text" "wordHeads" "[I") (wm_c_read 1 rfl)) (fun _ h9 => h9) rfl dX9_read_1 ?_
  refine lv_iconst (v := 0) hx hb dX9_read_4 (by decide) ?_
  refine lv_aload_n hx hb dX9_read_5 rfl (lv_at hl 0 rfl) ?_
  refine va_get (D := (dC, dI)) (ci := 9) (v := .ref th) (C := RX9) (T := TX9) (N := 18) hx hb hts in_c_read_X9 hown hK hP 0 rfl rfl 16 (by decide) (hts (.fieldLink RX9 48 "OwnedPlaces$Text" "heads" "[I") (wm_c_read 2 rfl)) (fun _ h9 => h9) rfl dX9_read_6 ?_
  refine lv_iconst (v := 0) hx hb dX9_read_9 (by decide) ?_
  refine lv_sipush (v := 256) hx hb dX9_read_10 (by decide) ?_
  refine va_copyi (ty := .int) hx hb (by rw [hml]; exact hl.1.symm) hown (hts (.methodLink RX9 83 arraycopyName) (wm_c_read 3 rfl)) (hts (.native arraycopyName) (wm_c_read 4 rfl)) (hts (.static arraycopyName) (wm_c_read 5 rfl)) (hts (.initialized "java/lang/System") (wm_c_read 6 rfl)) hK hP hD hS 6 5 0 0 rfl rfl rfl rfl rfl (by decide) (by decide) (by decide) (by decide) (by decide) (fun _ _ => rfl) (Nat.le_of_ble_eq_true rfl) (by decide) dX9_read_13 (fun H locs hP hD hS => ?_)
  have hP : va_P (dC, dI) vwCl [(h, .inr (9, [.ref tk, .ref tp, .ref tn, .ref tu, .ref tl, .int 0, .int 0, .int 0, .int (-1), .int nt, .ref tb, .int 0, .ref ts, .ref tf, .ref tz, .ref tx, .ref th, .ref tw])), (tk, .inl (kI, 3002, .inl fk)), (tp, .inl (kI, 3002, .inl fp)), (tn, .inl (kI, 3002, .inl fn)), (tl, .inl (kI, 3002, .inl fl)), (th, .inl (kI, 256, .inl (va_cpy fw fh (0 : Int32).toNatClampNeg (0 : Int32).toNatClampNeg (256 : Int32).toNatClampNeg))), (tw, .inl (kI, 256, .inl fw))] H := hP
  have hD : va_D A [(h, .inr (9, [.ref tk, .ref tp, .ref tn, .ref tu, .ref tl, .int 0, .int 0, .int 0, .int (-1), .int nt, .ref tb, .int 0, .ref ts, .ref tf, .ref tz, .ref tx, .ref th, .ref tw])), (tk, .inl (kI, 3002, .inl fk)), (tp, .inl (kI, 3002, .inl fp)), (tn, .inl (kI, 3002, .inl fn)), (tl, .inl (kI, 3002, .inl fl)), (th, .inl (kI, 256, .inl (va_cpy fw fh (0 : Int32).toNatClampNeg (0 : Int32).toNatClampNeg (256 : Int32).toNatClampNeg))), (tw, .inl (kI, 256, .inl fw))] := hD
  obtain ⟨fh1, efh1⟩ : ∃ zZ : Nat → Int32, zZ = va_cpy fw fh (0 : Int32).toNatClampNeg (0 : Int32).toNatClampNeg (256 : Int32).toNatClampNeg := ⟨_, rfl⟩
  rw [← efh1] at hP hD
  refine lv_aload_n hx hb dX9_read_16 rfl (lv_at hl 0 rfl) ?_
  refine lv_bipush (v := 20) hx hb dX9_read_17 (by decide) ?_
  refine va_put (D := (dC, dI)) (ci := 9) (v := .int 20) (ty := .int) (C := RX9) (T := TX9) (N := 18) hx hb hts in_c_read_X9 tyX9 tyX9_ok nmX9 hown hK hP hD hS 0 rfl rfl 9 (by decide) (hts (.fieldLink RX9 89 "OwnedPlaces$Text" "nameTotal" "I") (wm_c_read 7 rfl)) (fun _ h9 => h9) rfl (by decide +kernel) rfl rfl (Nat.le_of_ble_eq_true rfl) dX9_read_19 (fun H locs hP hD hS => ?_)
  have hP : va_P (dC, dI) vwCl [(h, .inr (9, [.ref tk, .ref tp, .ref tn, .ref tu, .ref tl, .int 0, .int 0, .int 0, .int (-1), .int 20, .ref tb, .int 0, .ref ts, .ref tf, .ref tz, .ref tx, .ref th, .ref tw])), (tk, .inl (kI, 3002, .inl fk)), (tp, .inl (kI, 3002, .inl fp)), (tn, .inl (kI, 3002, .inl fn)), (tl, .inl (kI, 3002, .inl fl)), (th, .inl (kI, 256, .inl fh1)), (tw, .inl (kI, 256, .inl fw))] H := hP
  have hD : va_D A [(h, .inr (9, [.ref tk, .ref tp, .ref tn, .ref tu, .ref tl, .int 0, .int 0, .int 0, .int (-1), .int 20, .ref tb, .int 0, .ref ts, .ref tf, .ref tz, .ref tx, .ref th, .ref tw])), (tk, .inl (kI, 3002, .inl fk)), (tp, .inl (kI, 3002, .inl fp)), (tn, .inl (kI, 3002, .inl fn)), (tl, .inl (kI, 3002, .inl fl)), (th, .inl (kI, 256, .inl fh1)), (tw, .inl (kI, 256, .inl fw))] := hD
  refine lv_aload_n hx hb dX9_read_22 rfl (lv_at hl 0 rfl) ?_
  refine lv_iconst (v := 0) hx hb dX9_read_23 (by decide) ?_
  refine va_put (D := (dC, dI)) (ci := 9) (v := .int 0) (ty := .int) (C := RX9) (T := TX9) (N := 18) hx hb hts in_c_read_X9 tyX9 tyX9_ok nmX9 hown hK hP hD hS 0 rfl rfl 11 (by decide) (hts (.fieldLink RX9 92 "OwnedPlaces$Text" "total" "I") (wm_c_read 8 rfl)) (fun _ h9 => h9) rfl (by decide +kernel) rfl rfl (Nat.le_of_ble_eq_true rfl) dX9_read_24 (fun H locs hP hD hS => ?_)
  have hP : va_P (dC, dI) vwCl [(h, .inr (9, [.ref tk, .ref tp, .ref tn, .ref tu, .ref tl, .int 0, .int 0, .int 0, .int (-1), .int 20, .ref tb, .int 0, .ref ts, .ref tf, .ref tz, .ref tx, .ref th, .ref tw])), (tk, .inl (kI, 3002, .inl fk)), (tp, .inl (kI, 3002, .inl fp)), (tn, .inl (kI, 3002, .inl fn)), (tl, .inl (kI, 3002, .inl fl)), (th, .inl (kI, 256, .inl fh1)), (tw, .inl (kI, 256, .inl fw))] H := hP
  have hD : va_D A [(h, .inr (9, [.ref tk, .ref tp, .ref tn, .ref tu, .ref tl, .int 0, .int 0, .int 0, .int (-1), .int 20, .ref tb, .int 0, .ref ts, .ref tf, .ref tz, .ref tx, .ref th, .ref tw])), (tk, .inl (kI, 3002, .inl fk)), (tp, .inl (kI, 3002, .inl fp)), (tn, .inl (kI, 3002, .inl fn)), (tl, .inl (kI, 3002, .inl fl)), (th, .inl (kI, 256, .inl fh1)), (tw, .inl (kI, 256, .inl fw))] := hD
  refine lv_aload_n hx hb dX9_read_27 rfl (lv_at hl 0 rfl) ?_
  refine lv_iconst (v := 0) hx hb dX9_read_28 (by decide) ?_
  refine va_put (D := (dC, dI)) (ci := 9) (v := .int 0) (ty := .int) (C := RX9) (T := TX9) (N := 18) hx hb hts in_c_read_X9 tyX9 tyX9_ok nmX9 hown hK hP hD hS 0 rfl rfl 7 (by decide) (hts (.fieldLink RX9 95 "OwnedPlaces$Text" "fault" "I") (wm_c_read 9 rfl)) (fun _ h9 => h9) rfl (by decide +kernel) rfl rfl (Nat.le_of_ble_eq_true rfl) dX9_read_29 (fun H locs hP hD hS => ?_)
  have hP : va_P (dC, dI) vwCl [(h, .inr (9, [.ref tk, .ref tp, .ref tn, .ref tu, .ref tl, .int 0, .int 0, .int 0, .int (-1), .int 20, .ref tb, .int 0, .ref ts, .ref tf, .ref tz, .ref tx, .ref th, .ref tw])), (tk, .inl (kI, 3002, .inl fk)), (tp, .inl (kI, 3002, .inl fp)), (tn, .inl (kI, 3002, .inl fn)), (tl, .inl (kI, 3002, .inl fl)), (th, .inl (kI, 256, .inl fh1)), (tw, .inl (kI, 256, .inl fw))] H := hP
  have hD : va_D A [(h, .inr (9, [.ref tk, .ref tp, .ref tn, .ref tu, .ref tl, .int 0, .int 0, .int 0, .int (-1), .int 20, .ref tb, .int 0, .ref ts, .ref tf, .ref tz, .ref tx, .ref th, .ref tw])), (tk, .inl (kI, 3002, .inl fk)), (tp, .inl (kI, 3002, .inl fp)), (tn, .inl (kI, 3002, .inl fn)), (tl, .inl (kI, 3002, .inl fl)), (th, .inl (kI, 256, .inl fh1)), (tw, .inl (kI, 256, .inl fw))] := hD
  refine lv_aload_n hx hb dX9_read_32 rfl (lv_at hl 0 rfl) ?_
  refine lv_iconst (v := (-1)) hx hb dX9_read_33 (by decide) ?_
  refine va_put (D := (dC, dI)) (ci := 9) (v := .int (-1)) (ty := .int) (C := RX9) (T := TX9) (N := 18) hx hb hts in_c_read_X9 tyX9 tyX9_ok nmX9 hown hK hP hD hS 0 rfl rfl 8 (by decide) (hts (.fieldLink RX9 28 "OwnedPlaces$Text" "place" "I") (wm_c_read 10 rfl)) (fun _ h9 => h9) rfl (by decide +kernel) rfl rfl (Nat.le_of_ble_eq_true rfl) dX9_read_34 (fun H locs hP hD hS => ?_)
  have hP : va_P (dC, dI) vwCl [(h, .inr (9, [.ref tk, .ref tp, .ref tn, .ref tu, .ref tl, .int 0, .int 0, .int 0, .int (-1), .int 20, .ref tb, .int 0, .ref ts, .ref tf, .ref tz, .ref tx, .ref th, .ref tw])), (tk, .inl (kI, 3002, .inl fk)), (tp, .inl (kI, 3002, .inl fp)), (tn, .inl (kI, 3002, .inl fn)), (tl, .inl (kI, 3002, .inl fl)), (th, .inl (kI, 256, .inl fh1)), (tw, .inl (kI, 256, .inl fw))] H := hP
  have hD : va_D A [(h, .inr (9, [.ref tk, .ref tp, .ref tn, .ref tu, .ref tl, .int 0, .int 0, .int 0, .int (-1), .int 20, .ref tb, .int 0, .ref ts, .ref tf, .ref tz, .ref tx, .ref th, .ref tw])), (tk, .inl (kI, 3002, .inl fk)), (tp, .inl (kI, 3002, .inl fp)), (tn, .inl (kI, 3002, .inl fn)), (tl, .inl (kI, 3002, .inl fl)), (th, .inl (kI, 256, .inl fh1)), (tw, .inl (kI, 256, .inl fw))] := hD
  refine lv_iconst (v := 0) hx hb dX9_read_37 (by decide) ?_
  refine lv_istore_n (lv' := [(2, .int 0), (0, .ref h), (1, .int 0)]) hx hb dX9_read_38 rfl hl (by decide) rfl (fun ls hl => ?_)
  refine lv_iconst (v := 0) hx hb dX9_read_39 (by decide) ?_
  refine lv_istore_n (lv' := [(3, .int 0), (2, .int 0), (0, .ref h), (1, .int 0)]) hx hb dX9_read_40 rfl hl (by decide) rfl (fun ls hl => ?_)
  refine lv_iload_n hx hb dX9_read_41 rfl (lv_at hl 0 rfl) ?_
  refine lv_iload_n hx hb dX9_read_42 rfl (lv_at hl 3 rfl) ?_
  refine lv_icmp_ge (tgt := 64) hx hb dX9_read_43 (by decide) (fun _ => ?_) (fun c_1 => absurd (by decide) c_1)
  refine lv_aload_n hx hb dX9_read_64 rfl (lv_at hl 2 rfl) ?_
  refine lv_iconst (v := 0) hx hb dX9_read_65 (by decide) ?_
  refine lv_iload_n hx hb dX9_read_66 rfl (lv_at hl 3 rfl) ?_
  refine lv_iconst (v := 0) hx hb dX9_read_67 (by decide) ?_
  have hPc := hP.sub (ws' := [(h, .inr (9, [.ref tk, .ref tp, .ref tn, .ref tu, .ref tl, .int 0, .int 0, .int 0, .int (-1), .int 20, .ref tb, .int 0, .ref ts, .ref tf, .ref tz, .ref tx, .ref th, .ref tw])), (tk, .inl (kI, 3002, .inl fk)), (tp, .inl (kI, 3002, .inl fp)), (tn, .inl (kI, 3002, .inl fn)), (tl, .inl (kI, 3002, .inl fl))]) [0, 1, 2, 3, 4] rfl
  have hDc := hD.sub (ws' := [(h, .inr (9, [.ref tk, .ref tp, .ref tn, .ref tu, .ref tl, .int 0, .int 0, .int 0, .int (-1), .int 20, .ref tb, .int 0, .ref ts, .ref tf, .ref tz, .ref tx, .ref th, .ref tw])), (tk, .inl (kI, 3002, .inl fk)), (tp, .inl (kI, 3002, .inl fp)), (tn, .inl (kI, 3002, .inl fn)), (tl, .inl (kI, 3002, .inl fl))]) [0, 1, 2, 3, 4] (by decide) rfl
  have hKc := hK.sub (tys' := [(kI, .int)]) [0] rfl
  have hFc := va_free (wc := [(h, .inr (9, [.ref tk, .ref tp, .ref tn, .ref tu, .ref tl, .int 0, .int 0, .int 0, .int (-1), .int 20, .ref tb, .int 0, .ref ts, .ref tf, .ref tz, .ref tx, .ref th, .ref tw])), (tk, .inl (kI, 3002, .inl fk)), (tp, .inl (kI, 3002, .inl fp)), (tn, .inl (kI, 3002, .inl fn)), (tl, .inl (kI, 3002, .inl fl))]) hD hS hA [0, 1, 2, 3, 4] rfl
  refine va_callv (va_runV (As := [.int 0, .int 0, .int 0]) (rest := []) ⟨hx, hb, hml, hown, hts⟩ (c_add l dC dI h tk tp tn tu tl tb ts tf tz tx th tw 20 kI fk fp fn fl H.size) (cwV 3 hts g_c_read_c_add_68 rfl rfl rfl (by decide +kernel) ⟨Nat.le_of_ble_eq_true rfl, Nat.le_of_ble_eq_true rfl⟩) ⟨fun a U g mk q => by obtain ⟨q0, q1, qP, qK, qD⟩ := q; exact ⟨q0, q1, qP, va_K.moved (u := U) (U := U.calling g mk a) (Vm.Alike.refl U.vm) qK, qD⟩, va_recv hKc hPc (ci := 9) (q0 := 0) rfl rfl, fun U hU hW => ⟨rfl, by rw [hU], by rw [hU]; exact hPc, va_K.moved hW.alike hKc, hDc.weaken (fun _ _ _ _ => trivial)⟩⟩ rfl rfl hl.1 rfl (lv_room (Nat.le_of_ble_eq_true rfl)) dX9_read_68 ⟨(show 0 + 0 ≤ 0 by omega), (show 0 + 0 ≤ 0 by omega)⟩) hS (fun q _ h => hFc q h) hFc (fun u tS H1 locs ht hvm hw hB hz1 hk1 hS => ?_)
  obtain ⟨gk1, gp1, gn1, gl1, hf2_0, hf2_1, hP1, hK1, hD1⟩ := hB
  rw [ht] at hP1
  have hK1 := va_K.moved hvm.symm hK1
  obtain ⟨hP, hD⟩ := va_join (wr := [(th, .inl (kI, 256, .inl fh1)), (tw, .inl (kI, 256, .inl fw))]) (w1 := [(h, .inr (9, [.ref tk, .ref tp, .ref tn, .ref tu, .ref tl, .int 0, .int 0, .int 0, .int (-1), .int 20, .ref tb, .int 1, .ref ts, .ref tf, .ref tz, .ref tx, .ref th, .ref tw])), (tk, .inl (kI, 3002, .inl gk1)), (tp, .inl (kI, 3002, .inl gp1)), (tn, .inl (kI, 3002, .inl gn1)), (tl, .inl (kI, 3002, .inl gl1))]) hP hD [0, 1, 2, 3, 4] [5, 6] rfl rfl (by decide) (by decide) hk1 hFc hP1 hD1
  have hK := hK.app hK1
  generalize H1 = H at hP hS ⊢
  have hP : va_P (dC, dI) vwCl [(th, .inl (kI, 256, .inl fh1)), (tw, .inl (kI, 256, .inl fw)), (h, .inr (9, [.ref tk, .ref tp, .ref tn, .ref tu, .ref tl, .int 0, .int 0, .int 0, .int (-1), .int 20, .ref tb, .int 1, .ref ts, .ref tf, .ref tz, .ref tx, .ref th, .ref tw])), (tk, .inl (kI, 3002, .inl gk1)), (tp, .inl (kI, 3002, .inl gp1)), (tn, .inl (kI, 3002, .inl gn1)), (tl, .inl (kI, 3002, .inl gl1))] H := hP
  have hD : va_D A [(th, .inl (kI, 256, .inl fh1)), (tw, .inl (kI, 256, .inl fw)), (h, .inr (9, [.ref tk, .ref tp, .ref tn, .ref tu, .ref tl, .int 0, .int 0, .int 0, .int (-1), .int 20, .ref tb, .int 1, .ref ts, .ref tf, .ref tz, .ref tx, .ref th, .ref tw])), (tk, .inl (kI, 3002, .inl gk1)), (tp, .inl (kI, 3002, .inl gp1)), (tn, .inl (kI, 3002, .inl gn1)), (tl, .inl (kI, 3002, .inl gl1))] := hD
  have hK : va_K (dC, dI) vwCl [(kI, .int), (kI, .int)] s := hK
  have hK := hK.sub (tys' := [(kI, .int)]) [0] rfl
  have hP : va_P (dC, dI) vwCl [(th, .inl (kI, 256, .inl fh1)), (tw, .inl (kI, 256, .inl fw)), (h, .inr (9, [.ref tk, .ref tp, .ref tn, .ref tu, .ref tl, .int 0, .int 0, .int 0, .int (-1), .int 20, .ref tb, .int 1, .ref ts, .ref tf, .ref tz, .ref tx, .ref th, .ref tw])), (tk, .inl (kI, 3002, .inl gk1)), (tp, .inl (kI, 3002, .inl gp1)), (tn, .inl (kI, 3002, .inl gn1)), (tl, .inl (kI, 3002, .inl gl1))] H := hP
  have hD : va_D A [(th, .inl (kI, 256, .inl fh1)), (tw, .inl (kI, 256, .inl fw)), (h, .inr (9, [.ref tk, .ref tp, .ref tn, .ref tu, .ref tl, .int 0, .int 0, .int 0, .int (-1), .int 20, .ref tb, .int 1, .ref ts, .ref tf, .ref tz, .ref tx, .ref th, .ref tw])), (tk, .inl (kI, 3002, .inl gk1)), (tp, .inl (kI, 3002, .inl gp1)), (tn, .inl (kI, 3002, .inl gn1)), (tl, .inl (kI, 3002, .inl gl1))] := hD
  refine lv_aload_n hx hb dX9_read_71 rfl (lv_at hl 2 rfl) ?_
  refine lv_iconst (v := 0) hx hb dX9_read_72 (by decide) ?_
  refine va_put (D := (dC, dI)) (ci := 9) (v := .int 0) (ty := .int) (C := RX9) (T := TX9) (N := 18) hx hb hts in_c_read_X9 tyX9 tyX9_ok nmX9 hown hK hP hD hS 2 rfl rfl 6 (by decide) (hts (.fieldLink RX9 106 "OwnedPlaces$Text" "now" "I") (wm_c_read 20 rfl)) (fun _ h9 => h9) rfl (by decide +kernel) rfl rfl (Nat.le_of_ble_eq_true rfl) dX9_read_73 (fun H locs hP hD hS => ?_)
  have hP : va_P (dC, dI) vwCl [(th, .inl (kI, 256, .inl fh1)), (tw, .inl (kI, 256, .inl fw)), (h, .inr (9, [.ref tk, .ref tp, .ref tn, .ref tu, .ref tl, .int 0, .int 0, .int 0, .int (-1), .int 20, .ref tb, .int 1, .ref ts, .ref tf, .ref tz, .ref tx, .ref th, .ref tw])), (tk, .inl (kI, 3002, .inl gk1)), (tp, .inl (kI, 3002, .inl gp1)), (tn, .inl (kI, 3002, .inl gn1)), (tl, .inl (kI, 3002, .inl gl1))] H := hP
  have hD : va_D A [(th, .inl (kI, 256, .inl fh1)), (tw, .inl (kI, 256, .inl fw)), (h, .inr (9, [.ref tk, .ref tp, .ref tn, .ref tu, .ref tl, .int 0, .int 0, .int 0, .int (-1), .int 20, .ref tb, .int 1, .ref ts, .ref tf, .ref tz, .ref tx, .ref th, .ref tw])), (tk, .inl (kI, 3002, .inl gk1)), (tp, .inl (kI, 3002, .inl gp1)), (tn, .inl (kI, 3002, .inl gn1)), (tl, .inl (kI, 3002, .inl gl1))] := hD
  have hP9 := hP.sub (ws' := [(h, .inr (9, [.ref tk, .ref tp, .ref tn, .ref tu, .ref tl, .int 0, .int 0, .int 0, .int (-1), .int 20, .ref tb, .int 1, .ref ts, .ref tf, .ref tz, .ref tx, .ref th, .ref tw])), (tk, .inl (kI, 3002, .inl gk1)), (tp, .inl (kI, 3002, .inl gp1)), (tn, .inl (kI, 3002, .inl gn1)), (tl, .inl (kI, 3002, .inl gl1)), (th, .inl (kI, 256, .inl fh1)), (tw, .inl (kI, 256, .inl fw))]) [2, 3, 4, 5, 6, 0, 1] rfl
  have hD9 := hD.sub (ws' := [(h, .inr (9, [.ref tk, .ref tp, .ref tn, .ref tu, .ref tl, .int 0, .int 0, .int 0, .int (-1), .int 20, .ref tb, .int 1, .ref ts, .ref tf, .ref tz, .ref tx, .ref th, .ref tw])), (tk, .inl (kI, 3002, .inl gk1)), (tp, .inl (kI, 3002, .inl gp1)), (tn, .inl (kI, 3002, .inl gn1)), (tl, .inl (kI, 3002, .inl gl1)), (th, .inl (kI, 256, .inl fh1)), (tw, .inl (kI, 256, .inl fw))]) [2, 3, 4, 5, 6, 0, 1] (by decide) rfl
  have hK9 := hK.sub (tys' := [(kI, .int)]) [0] rfl
  exact W.vret hx hb hr (fun tS ht hW => ⟨⟨(), rfl, trivial, gk1, gp1, gn1, gl1, fh1, hf2_0, hf2_1, by rw [ht]; exact hP9, va_K.moved hW.alike hK9, hD9⟩, hS.F ht⟩) hS.2.2 dX9_read_76
