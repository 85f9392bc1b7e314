def wf_c_code : List Cond := [.code yX0_init cX0_init 1 none, .methodLink RX0 3 objectInit, .instanceMethod objectInit, .code objectInit ⟨#[0xb1]⟩ 1 none, .arrayClass .int, .fieldLink RX0 9 "OwnedPlaces$Code" "op" "[I", .fieldLink RX0 15 "OwnedPlaces$Code" "a" "[I", .fieldLink RX0 18 "OwnedPlaces$Code" "b" "[I", .fieldLink RX0 21 "OwnedPlaces$Code" "c" "[I", .fieldLink RX0 24 "OwnedPlaces$Code" "where" "[I", .fieldLink RX0 27 "OwnedPlaces$Code" "labelAt" "[I", .fieldLink RX0 30 "OwnedPlaces$Code" "placeVariable" "[I", .fieldLink RX0 33 "OwnedPlaces$Code" "placePath" "[I", .fieldLink RX0 36 "OwnedPlaces$Code" "placeLength" "[I", .fieldLink RX0 39 "OwnedPlaces$Code" "placeRoute" "[I", .fieldLink RX0 42 "OwnedPlaces$Code" "placeType" "[I", .fieldLink RX0 45 "OwnedPlaces$Code" "placeWhere" "[I", .fieldLink RX0 48 "OwnedPlaces$Code" "placeCells" "[I", .fieldLink RX0 51 "OwnedPlaces$Code" "armLabels" "[I"]
def wp_c_code : List Cond := wf_c_code ++ (wsX00 ++ [])
theorem in_c_code_X0 : ∀ w ∈ wsX00, w ∈ wp_c_code := fun w h => List.mem_append_right _ (List.mem_append_left _ h)
theorem wg_c_code : wf_c_code.all goodWord = true := by decide +kernel
theorem wm_c_code (k : Nat) {w : Cond} (h : wp_c_code[k]? = some w) : w ∈ wp_c_code := List.mem_of_getElem? h
set_option maxHeartbeats 4000000 in
set_option maxRecDepth 100000 in
theorem c_code (l : Launch) (dC : Nat → ClassId) (dI : Nat → Nat → Nat) (h : Nat) (sz : Nat) : Met l yX0_init wp_c_code ({ frames := 1, cells := 14, slots := 55116, locals := 12 }) (va_Pc [.ref h] (fun U => U.heap.size = sz ∧ va_P (dC, dI) vwCl [(h, .inr (0, [.null, .null, .null, .null, .null, .int 0, .null, .int 0, .null, .null, .null, .null, .null, .null, .null, .int 0, .null, .int 0]))] U.heap ∧ va_K (dC, dI) vwCl [] U ∧ va_D (fun _ => True) [(h, .inr (0, [.null, .null, .null, .null, .null, .int 0, .null, .int 0, .null, .null, .null, .null, .null, .null, .null, .int 0, .null, .int 0]))])) (va_Qv (fun _ : Unit => True) (fun (_ : Unit) (_ : State) => True) (va_A [(h, .inr (0, [.null, .null, .null, .null, .null, .int 0, .null, .int 0, .null, .null, .null, .null, .null, .null, .null, .int 0, .null, .int 0]))] sz)) 14 55116 (va_A [(h, .inr (0, [.null, .null, .null, .null, .null, .int 0, .null, .int 0, .null, .null, .null, .null, .null, .null, .null, .int 0, .null, .int 0]))] sz) := by
  refine Met.ofW (cc := cX0_init) (maxL := 1) (ret := none) (by decide) rfl ?_
  intro p e s m args below meth c s₁ B hml hv
  obtain ⟨rfl, hsz, hP, hK, hD0⟩ := hv
  have hx := B.exec
  have hb := B.bytes
  have hr := B.returns
  have hts := atoms_spec (ws := wp_c_code) B.pre
  have hown : s.vm.findClass RX0 = some m.cls := findClass_of_methodNamed B.named
  have hlocks := B.notSynchronized
  have hin : meth.name = "<init>" := (name_of_methodNamed B.named B.method).1
  subst hsz
  have hD := hD0.self (sz := s.heap.size)
  generalize hAe : va_A [(h, .inr (0, [.null, .null, .null, .null, .null, .int 0, .null, .int 0, .null, .null, .null, .null, .null, .null, .null, .int 0, .null, .int 0]))] s.heap.size = A at hD ⊢
  have hA : ∀ q : Nat, s.heap.size ≤ q → A q := fun q h => by rw [← hAe]; exact Or.inr h
  have hS : va_S A s.heap s.heap [] := va_S.rf
  have hP : va_P (dC, dI) vwCl [(h, .inr (0, [.null, .null, .null, .null, .null, .int 0, .null, .int 0, .null, .null, .null, .null, .null, .null, .null, .int 0, .null, .int 0]))] s.heap := hP
  have hl := lv_entry ([.ref h]) (n := 1) (Nat.le_of_ble_eq_true rfl)
  rw [lg_entry_eq]
  generalize (lg_sl ([.ref h]) ++ List.replicate (1 - (lg_sl ([.ref h])).length) Slot.unset).toArray = ls at hl ⊢
  have hl : lv_has ls 1 [(0, .ref h)] := hl
  refine lv_aload_n hx hb dX0_init_0 rfl (lv_at hl 0 rfl) ?_
  refine W.objInit hx hb hown (hts (.methodLink RX0 3 objectInit) (wm_c_code 1 rfl)) (hts (.instanceMethod objectInit) (wm_c_code 2 rfl)) (hts (.code objectInit ⟨#[0xb1]⟩ 1 none) (wm_c_code 3 rfl)) rfl (by rw [hml]; exact hl.1) rfl dX0_init_1 (Nat.le_of_ble_eq_true rfl) (Nat.le_of_ble_eq_true rfl) ?_
  refine W.eq (g2 := F0 m 4 ls []) rfl ?_
  refine lv_aload_n hx hb dX0_init_4 rfl (lv_at hl 0 rfl) ?_
  refine lv_sipush (v := 6000) hx hb dX0_init_5 (by decide) ?_
  refine va_newa (atype := .int) (a0 := (6000, .inl (fun _ => 0))) (ty := .int) hx hb (hts (.arrayClass .int) (wm_c_code 4 rfl)) rfl hK hP hD hS hA (fun _ => rfl) (by decide) (by decide +kernel) (show 6000 * 4 ≤ 536870912 by omega) (show 0 + 1 ≤ 14 by omega) (show 0 + 6000 ≤ 55116 by omega) dX0_init_8 (fun q_1 k_2 H _ hP hD hS => ?_)
  have hP := hP.sub (ws' := [(h, .inr (0, [.null, .null, .null, .null, .null, .int 0, .null, .int 0, .null, .null, .null, .null, .null, .null, .null, .int 0, .null, .int 0]))]) [0] rfl
  have hD := hD.sub (ws' := [(h, .inr (0, [.null, .null, .null, .null, .null, .int 0, .null, .int 0, .null, .null, .null, .null, .null, .null, .null, .int 0, .null, .int 0]))]) [0] (by decide) rfl
  refine W.widen (k := 1) (n := 6000) (by omega) (by omega) ?_
  refine va_putF (D := (dC, dI)) (ci := 0) (v := .ref q_1) (ty := (.array .int)) (C := RX0) (T := TX0) (N := 18) hx hb hts in_c_code_X0 tyX0 tyX0_ok nmX0 hown hK hP hD hS 0 rfl rfl 0 (by decide) (hts (.fieldLink RX0 9 "OwnedPlaces$Code" "op" "[I") (wm_c_code 5 rfl)) (fun _ h9 => h9) rfl hin rfl (by decide +kernel) rfl rfl (Nat.le_of_ble_eq_true rfl) dX0_init_10 (fun H locs hP hD hS => ?_)
  have hP : va_P (dC, dI) vwCl [(h, .inr (0, [.ref q_1, .null, .null, .null, .null, .int 0, .null, .int 0, .null, .null, .null, .null, .null, .null, .null, .int 0, .null, .int 0]))] H := hP
  have hD : va_D A [(h, .inr (0, [.ref q_1, .null, .null, .null, .null, .int 0, .null, .int 0, .null, .null, .null, .null, .null, .null, .null, .int 0, .null, .int 0]))] := hD
  refine lv_aload_n hx hb dX0_init_13 rfl (lv_at hl 0 rfl) ?_
  refine lv_sipush (v := 6000) hx hb dX0_init_14 (by decide) ?_
  refine va_newa (atype := .int) (a0 := (6000, .inl (fun _ => 0))) (ty := .int) hx hb (hts (.arrayClass .int) (wm_c_code 4 rfl)) rfl hK hP hD hS hA (fun _ => rfl) (by decide) (by decide +kernel) (show 6000 * 4 ≤ 536870912 by omega) (show 1 + 1 ≤ 14 by omega) (show 6000 + 6000 ≤ 55116 by omega) dX0_init_17 (fun q_3 k_4 H _ hP hD hS => ?_)
  have hP := hP.sub (ws' := [(h, .inr (0, [.ref q_1, .null, .null, .null, .null, .int 0, .null, .int 0, .null, .null, .null, .null, .null, .null, .null, .int 0, .null, .int 0]))]) [0] rfl
  have hD := hD.sub (ws' := [(h, .inr (0, [.ref q_1, .null, .null, .null, .null, .int 0, .null, .int 0, .null, .null, .null, .null, .null, .null, .null, .int 0, .null, .int 0]))]) [0] (by decide) rfl
  refine W.widen (k := 2) (n := 12000) (by omega) (by omega) ?_
  refine va_putF (D := (dC, dI)) (ci := 0) (v := .ref q_3) (ty := (.array .int)) (C := RX0) (T := TX0) (N := 18) hx hb hts in_c_code_X0 tyX0 tyX0_ok nmX0 hown hK hP hD hS 0 rfl rfl 1 (by decide) (hts (.fieldLink RX0 15 "OwnedPlaces$Code" "a" "[I") (wm_c_code 6 rfl)) (fun _ h9 => h9) rfl hin rfl (by decide +kernel) rfl rfl (Nat.le_of_ble_eq_true rfl) dX0_init_19 (fun H locs hP hD hS => ?_)
  have hP : va_P (dC, dI) vwCl [(h, .inr (0, [.ref q_1, .ref q_3, .null, .null, .null, .int 0, .null, .int 0, .null, .null, .null, .null, .null, .null, .null, .int 0, .null, .int 0]))] H := hP
  have hD : va_D A [(h, .inr (0, [.ref q_1, .ref q_3, .null, .null, .null, .int 0, .null, .int 0, .null, .null, .null, .null, .null, .null, .null, .int 0, .null, .int 0]))] := hD
  refine lv_aload_n hx hb dX0_init_22 rfl (lv_at hl 0 rfl) ?_
  refine lv_sipush (v := 6000) hx hb dX0_init_23 (by decide) ?_
  refine va_newa (atype := .int) (a0 := (6000, .inl (fun _ => 0))) (ty := .int) hx hb (hts (.arrayClass .int) (wm_c_code 4 rfl)) rfl hK hP hD hS hA (fun _ => rfl) (by decide) (by decide +kernel) (show 6000 * 4 ≤ 536870912 by omega) (show 2 + 1 ≤ 14 by omega) (show 12000 + 6000 ≤ 55116 by omega) dX0_init_26 (fun q_5 k_6 H _ hP hD hS => ?_)
  have hP := hP.sub (ws' := [(h, .inr (0, [.ref q_1, .ref q_3, .null, .null, .null, .int 0, .null, .int 0, .null, .null, .null, .null, .null, .null, .null, .int 0, .null, .int 0]))]) [0] rfl
  have hD := hD.sub (ws' := [(h, .inr (0, [.ref q_1, .ref q_3, .null, .null, .null, .int 0, .null, .int 0, .null, .null, .null, .null, .null, .null, .null, .int 0, .null, .int 0]))]) [0] (by decide) rfl
  refine W.widen (k := 3) (n := 18000) (by omega) (by omega) ?_
  refine va_putF (D := (dC, dI)) (ci := 0) (v := .ref q_5) (ty := (.array .int)) (C := RX0) (T := TX0) (N := 18) hx hb hts in_c_code_X0 tyX0 tyX0_ok nmX0 hown hK hP hD hS 0 rfl rfl 2 (by decide) (hts (.fieldLink RX0 18 "OwnedPlaces$Code" "b" "[I") (wm_c_code 7 rfl)) (fun _ h9 => h9) rfl hin rfl (by decide +kernel) rfl rfl (Nat.le_of_ble_eq_true rfl) dX0_init_28 (fun H locs hP hD hS => ?_)
  have hP : va_P (dC, dI) vwCl [(h, .inr (0, [.ref q_1, .ref q_3, .ref q_5, .null, .null, .int 0, .null, .int 0, .null, .null, .null, .null, .null, .null, .null, .int 0, .null, .int 0]))] H := hP
  have hD : va_D A [(h, .inr (0, [.ref q_1, .ref q_3, .ref q_5, .null, .null, .int 0, .null, .int 0, .null, .null, .null, .null, .null, .null, .null, .int 0, .null, .int 0]))] := hD
  refine lv_aload_n hx hb dX0_init_31 rfl (lv_at hl 0 rfl) ?_
  refine lv_sipush (v := 6000) hx hb dX0_init_32 (by decide) ?_
  refine va_newa (atype := .int) (a0 := (6000, .inl (fun _ => 0))) (ty := .int) hx hb (hts (.arrayClass .int) (wm_c_code 4 rfl)) rfl hK hP hD hS hA (fun _ => rfl) (by decide) (by decide +kernel) (show 6000 * 4 ≤ 536870912 by omega) (show 3 + 1 ≤ 14 by omega) (show 18000 + 6000 ≤ 55116 by omega) dX0_init_35 (fun q_7 k_8 H _ hP hD hS => ?_)
  have hP := hP.sub (ws' := [(h, .inr (0, [.ref q_1, .ref q_3, .ref q_5, .null, .null, .int 0, .null, .int 0, .null, .null, .null, .null, .null, .null, .null, .int 0, .null, .int 0]))]) [0] rfl
  have hD := hD.sub (ws' := [(h, .inr (0, [.ref q_1, .ref q_3, .ref q_5, .null, .null, .int 0, .null, .int 0, .null, .null, .null, .null, .null, .null, .null, .int 0, .null, .int 0]))]) [0] (by decide) rfl
  refine W.widen (k := 4) (n := 24000) (by omega) (by omega) ?_
  refine va_putF (D := (dC, dI)) (ci := 0) (v := .ref q_7) (ty := (.array .int)) (C := RX0) (T := TX0) (N := 18) hx hb hts in_c_code_X0 tyX0 tyX0_ok nmX0 hown hK hP hD hS 0 rfl rfl 3 (by decide) (hts (.fieldLink RX0 21 "OwnedPlaces$Code" "c" "[I") (wm_c_code 8 rfl)) (fun _ h9 => h9) rfl hin rfl (by decide +kernel) rfl rfl (Nat.le_of_ble_eq_true rfl) dX0_init_37 (fun H locs hP hD hS => ?_)
  have hP : va_P (dC, dI) vwCl [(h, .inr (0, [.ref q_1, .ref q_3, .ref q_5, .ref q_7, .null, .int 0, .null, .int 0, .null, .null, .null, .null, .null, .null, .null, .int 0, .null, .int 0]))] H := hP
  have hD : va_D A [(h, .inr (0, [.ref q_1, .ref q_3, .ref q_5, .ref q_7, .null, .int 0, .null, .int 0, .null, .null, .null, .null, .null, .null, .null, .int 0, .null, .int 0]))] := hD
  refine lv_aload_n hx hb dX0_init_40 rfl (lv_at hl 0 rfl) ?_
  refine lv_sipush (v := 6000) hx hb dX0_init_41 (by decide) ?_
  refine va_newa (atype := .int) (a0 := (6000, .inl (fun _ => 0))) (ty := .int) hx hb (hts (.arrayClass .int) (wm_c_code 4 rfl)) rfl hK hP hD hS hA (fun _ => rfl) (by decide) (by decide +kernel) (show 6000 * 4 ≤ 536870912 by omega) (show 4 + 1 ≤ 14 by omega) (show 24000 + 6000 ≤ 55116 by omega) dX0_init_44 (fun q_9 k_10 H _ hP hD hS => ?_)
  have hP := hP.sub (ws' := [(h, .inr (0, [.ref q_1, .ref q_3, .ref q_5, .ref q_7, .null, .int 0, .null, .int 0, .null, .null, .null, .null, .null, .null, .null, .int 0, .null, .int 0]))]) [0] rfl
  have hD := hD.sub (ws' := [(h, .inr (0, [.ref q_1, .ref q_3, .ref q_5, .ref q_7, .null, .int 0, .null, .int 0, .null, .null, .null, .null, .null, .null, .null, .int 0, .null, .int 0]))]) [0] (by decide) rfl
  refine W.widen (k := 5) (n := 30000) (by omega) (by omega) ?_
  refine va_putF (D := (dC, dI)) (ci := 0) (v := .ref q_9) (ty := (.array .int)) (C := RX0) (T := TX0) (N := 18) hx hb hts in_c_code_X0 tyX0 tyX0_ok nmX0 hown hK hP hD hS 0 rfl rfl 4 (by decide) (hts (.fieldLink RX0 24 "OwnedPlaces$Code" "where" "[I") (wm_c_code 9 rfl)) (fun _ h9 => h9) rfl hin rfl (by decide +kernel) rfl rfl (Nat.le_of_ble_eq_true rfl) dX0_init_46 (fun H locs hP hD hS => ?_)
  have hP : va_P (dC, dI) vwCl [(h, .inr (0, [.ref q_1, .ref q_3, .ref q_5, .ref q_7, .ref q_9, .int 0, .null, .int 0, .null, .null, .null, .null, .null, .null, .null, .int 0, .null, .int 0]))] H := hP
  have hD : va_D A [(h, .inr (0, [.ref q_1, .ref q_3, .ref q_5, .ref q_7, .ref q_9, .int 0, .null, .int 0, .null, .null, .null, .null, .null, .null, .null, .int 0, .null, .int 0]))] := hD
  refine lv_aload_n hx hb dX0_init_49 rfl (lv_at hl 0 rfl) ?_
  refine lv_sipush (v := 1100) hx hb dX0_init_50 (by decide) ?_
  refine va_newa (atype := .int) (a0 := (1100, .inl (fun _ => 0))) (ty := .int) hx hb (hts (.arrayClass .int) (wm_c_code 4 rfl)) rfl hK hP hD hS hA (fun _ => rfl) (by decide) (by decide +kernel) (show 1100 * 4 ≤ 536870912 by omega) (show 5 + 1 ≤ 14 by omega) (show 30000 + 1100 ≤ 55116 by omega) dX0_init_53 (fun q_11 k_12 H _ hP hD hS => ?_)
  have hP := hP.sub (ws' := [(h, .inr (0, [.ref q_1, .ref q_3, .ref q_5, .ref q_7, .ref q_9, .int 0, .null, .int 0, .null, .null, .null, .null, .null, .null, .null, .int 0, .null, .int 0]))]) [0] rfl
  have hD := hD.sub (ws' := [(h, .inr (0, [.ref q_1, .ref q_3, .ref q_5, .ref q_7, .ref q_9, .int 0, .null, .int 0, .null, .null, .null, .null, .null, .null, .null, .int 0, .null, .int 0]))]) [0] (by decide) rfl
  refine W.widen (k := 6) (n := 31100) (by omega) (by omega) ?_
  refine va_putF (D := (dC, dI)) (ci := 0) (v := .ref q_11) (ty := (.array .int)) (C := RX0) (T := TX0) (N := 18) hx hb hts in_c_code_X0 tyX0 tyX0_ok nmX0 hown hK hP hD hS 0 rfl rfl 6 (by decide) (hts (.fieldLink RX0 27 "OwnedPlaces$Code" "labelAt" "[I") (wm_c_code 10 rfl)) (fun _ h9 => h9) rfl hin rfl (by decide +kernel) rfl rfl (Nat.le_of_ble_eq_true rfl) dX0_init_55 (fun H locs hP hD hS => ?_)
  have hP : va_P (dC, dI) vwCl [(h, .inr (0, [.ref q_1, .ref q_3, .ref q_5, .ref q_7, .ref q_9, .int 0, .ref q_11, .int 0, .null, .null, .null, .null, .null, .null, .null, .int 0, .null, .int 0]))] H := hP
  have hD : va_D A [(h, .inr (0, [.ref q_1, .ref q_3, .ref q_5, .ref q_7, .ref q_9, .int 0, .ref q_11, .int 0, .null, .null, .null, .null, .null, .null, .null, .int 0, .null, .int 0]))] := hD
  refine lv_aload_n hx hb dX0_init_58 rfl (lv_at hl 0 rfl) ?_
  refine lv_sipush (v := 3002) hx hb dX0_init_59 (by decide) ?_
  refine va_newa (atype := .int) (a0 := (3002, .inl (fun _ => 0))) (ty := .int) hx hb (hts (.arrayClass .int) (wm_c_code 4 rfl)) rfl hK hP hD hS hA (fun _ => rfl) (by decide) (by decide +kernel) (show 3002 * 4 ≤ 536870912 by omega) (show 6 + 1 ≤ 14 by omega) (show 31100 + 3002 ≤ 55116 by omega) dX0_init_62 (fun q_13 k_14 H _ hP hD hS => ?_)
  have hP := hP.sub (ws' := [(h, .inr (0, [.ref q_1, .ref q_3, .ref q_5, .ref q_7, .ref q_9, .int 0, .ref q_11, .int 0, .null, .null, .null, .null, .null, .null, .null, .int 0, .null, .int 0]))]) [0] rfl
  have hD := hD.sub (ws' := [(h, .inr (0, [.ref q_1, .ref q_3, .ref q_5, .ref q_7, .ref q_9, .int 0, .ref q_11, .int 0, .null, .null, .null, .null, .null, .null, .null, .int 0, .null, .int 0]))]) [0] (by decide) rfl
  refine W.widen (k := 7) (n := 34102) (by omega) (by omega) ?_
  refine va_putF (D := (dC, dI)) (ci := 0) (v := .ref q_13) (ty := (.array .int)) (C := RX0) (T := TX0) (N := 18) hx hb hts in_c_code_X0 tyX0 tyX0_ok nmX0 hown hK hP hD hS 0 rfl rfl 8 (by decide) (hts (.fieldLink RX0 30 "OwnedPlaces$Code" "placeVariable" "[I") (wm_c_code 11 rfl)) (fun _ h9 => h9) rfl hin rfl (by decide +kernel) rfl rfl (Nat.le_of_ble_eq_true rfl) dX0_init_64 (fun H locs hP hD hS => ?_)
  have hP : va_P (dC, dI) vwCl [(h, .inr (0, [.ref q_1, .ref q_3, .ref q_5, .ref q_7, .ref q_9, .int 0, .ref q_11, .int 0, .ref q_13, .null, .null, .null, .null, .null, .null, .int 0, .null, .int 0]))] H := hP
  have hD : va_D A [(h, .inr (0, [.ref q_1, .ref q_3, .ref q_5, .ref q_7, .ref q_9, .int 0, .ref q_11, .int 0, .ref q_13, .null, .null, .null, .null, .null, .null, .int 0, .null, .int 0]))] := hD
  refine lv_aload_n hx hb dX0_init_67 rfl (lv_at hl 0 rfl) ?_
  refine lv_sipush (v := 3002) hx hb dX0_init_68 (by decide) ?_
  refine va_newa (atype := .int) (a0 := (3002, .inl (fun _ => 0))) (ty := .int) hx hb (hts (.arrayClass .int) (wm_c_code 4 rfl)) rfl hK hP hD hS hA (fun _ => rfl) (by decide) (by decide +kernel) (show 3002 * 4 ≤ 536870912 by omega) (show 7 + 1 ≤ 14 by omega) (show 34102 + 3002 ≤ 55116 by omega) dX0_init_71 (fun q_15 k_16 H _ hP hD hS => ?_)
  have hP := hP.sub (ws' := [(h, .inr (0, [.ref q_1, .ref q_3, .ref q_5, .ref q_7, .ref q_9, .int 0, .ref q_11, .int 0, .ref q_13, .null, .null, .null, .null, .null, .null, .int 0, .null, .int 0]))]) [0] rfl
  have hD := hD.sub (ws' := [(h, .inr (0, [.ref q_1, .ref q_3, .ref q_5, .ref q_7, .ref q_9, .int 0, .ref q_11, .int 0, .ref q_13, .null, .null, .null, .null, .null, .null, .int 0, .null, .int 0]))]) [0] (by decide) rfl
  refine W.widen (k := 8) (n := 37104) (by omega) (by omega) ?_
  refine va_putF (D := (dC, dI)) (ci := 0) (v := .ref q_15) (ty := (.array .int)) (C := RX0) (T := TX0) (N := 18) hx hb hts in_c_code_X0 tyX0 tyX0_ok nmX0 hown hK hP hD hS 0 rfl rfl 9 (by decide) (hts (.fieldLink RX0 33 "OwnedPlaces$Code" "placePath" "[I") (wm_c_code 12 rfl)) (fun _ h9 => h9) rfl hin rfl (by decide +kernel) rfl rfl (Nat.le_of_ble_eq_true rfl) dX0_init_73 (fun H locs hP hD hS => ?_)
  have hP : va_P (dC, dI) vwCl [(h, .inr (0, [.ref q_1, .ref q_3, .ref q_5, .ref q_7, .ref q_9, .int 0, .ref q_11, .int 0, .ref q_13, .ref q_15, .null, .null, .null, .null, .null, .int 0, .null, .int 0]))] H := hP
  have hD : va_D A [(h, .inr (0, [.ref q_1, .ref q_3, .ref q_5, .ref q_7, .ref q_9, .int 0, .ref q_11, .int 0, .ref q_13, .ref q_15, .null, .null, .null, .null, .null, .int 0, .null, .int 0]))] := hD
  refine lv_aload_n hx hb dX0_init_76 rfl (lv_at hl 0 rfl) ?_
  refine lv_sipush (v := 3002) hx hb dX0_init_77 (by decide) ?_
  refine va_newa (atype := .int) (a0 := (3002, .inl (fun _ => 0))) (ty := .int) hx hb (hts (.arrayClass .int) (wm_c_code 4 rfl)) rfl hK hP hD hS hA (fun _ => rfl) (by decide) (by decide +kernel) (show 3002 * 4 ≤ 536870912 by omega) (show 8 + 1 ≤ 14 by omega) (show 37104 + 3002 ≤ 55116 by omega) dX0_init_80 (fun q_17 k_18 H _ hP hD hS => ?_)
  have hP := hP.sub (ws' := [(h, .inr (0, [.ref q_1, .ref q_3, .ref q_5, .ref q_7, .ref q_9, .int 0, .ref q_11, .int 0, .ref q_13, .ref q_15, .null, .null, .null, .null, .null, .int 0, .null, .int 0]))]) [0] rfl
  have hD := hD.sub (ws' := [(h, .inr (0, [.ref q_1, .ref q_3, .ref q_5, .ref q_7, .ref q_9, .int 0, .ref q_11, .int 0, .ref q_13, .ref q_15, .null, .null, .null, .null, .null, .int 0, .null, .int 0]))]) [0] (by decide) rfl
  refine W.widen (k := 9) (n := 40106) (by omega) (by omega) ?_
  refine va_putF (D := (dC, dI)) (ci := 0) (v := .ref q_17) (ty := (.array .int)) (C := RX0) (T := TX0) (N := 18) hx hb hts in_c_code_X0 tyX0 tyX0_ok nmX0 hown hK hP hD hS 0 rfl rfl 10 (by decide) (hts (.fieldLink RX0 36 "OwnedPlaces$Code" "placeLength" "[I") (wm_c_code 13 rfl)) (fun _ h9 => h9) rfl hin rfl (by decide +kernel) rfl rfl (Nat.le_of_ble_eq_true rfl) dX0_init_82 (fun H locs hP hD hS => ?_)
  have hP : va_P (dC, dI) vwCl [(h, .inr (0, [.ref q_1, .ref q_3, .ref q_5, .ref q_7, .ref q_9, .int 0, .ref q_11, .int 0, .ref q_13, .ref q_15, .ref q_17, .null, .null, .null, .null, .int 0, .null, .int 0]))] H := hP
  have hD : va_D A [(h, .inr (0, [.ref q_1, .ref q_3, .ref q_5, .ref q_7, .ref q_9, .int 0, .ref q_11, .int 0, .ref q_13, .ref q_15, .ref q_17, .null, .null, .null, .null, .int 0, .null, .int 0]))] := hD
  refine lv_aload_n hx hb dX0_init_85 rfl (lv_at hl 0 rfl) ?_
  refine lv_sipush (v := 3002) hx hb dX0_init_86 (by decide) ?_
  refine va_newa (atype := .int) (a0 := (3002, .inl (fun _ => 0))) (ty := .int) hx hb (hts (.arrayClass .int) (wm_c_code 4 rfl)) rfl hK hP hD hS hA (fun _ => rfl) (by decide) (by decide +kernel) (show 3002 * 4 ≤ 536870912 by omega) (show 9 + 1 ≤ 14 by omega) (show 40106 + 3002 ≤ 55116 by omega) dX0_init_89 (fun q_19 k_20 H _ hP hD hS => ?_)
  have hP := hP.sub (ws' := [(h, .inr (0, [.ref q_1, .ref q_3, .ref q_5, .ref q_7, .ref q_9, .int 0, .ref q_11, .int 0, .ref q_13, .ref q_15, .ref q_17, .null, .null, .null, .null, .int 0, .null, .int 0]))]) [0] rfl
  have hD := hD.sub (ws' := [(h, .inr (0, [.ref q_1, .ref q_3, .ref q_5, .ref q_7, .ref q_9, .int 0, .ref q_11, .int 0, .ref q_13, .ref q_15, .ref q_17, .null, .null, .null, .null, .int 0, .null, .int 0]))]) [0] (by decide) rfl
  refine W.widen (k := 10) (n := 43108) (by omega) (by omega) ?_
  refine va_putF (D := (dC, dI)) (ci := 0) (v := .ref q_19) (ty := (.array .int)) (C := RX0) (T := TX0) (N := 18) hx hb hts in_c_code_X0 tyX0 tyX0_ok nmX0 hown hK hP hD hS 0 rfl rfl 11 (by decide) (hts (.fieldLink RX0 39 "OwnedPlaces$Code" "placeRoute" "[I") (wm_c_code 14 rfl)) (fun _ h9 => h9) rfl hin rfl (by decide +kernel) rfl rfl (Nat.le_of_ble_eq_true rfl) dX0_init_91 (fun H locs hP hD hS => ?_)
  have hP : va_P (dC, dI) vwCl [(h, .inr (0, [.ref q_1, .ref q_3, .ref q_5, .ref q_7, .ref q_9, .int 0, .ref q_11, .int 0, .ref q_13, .ref q_15, .ref q_17, .ref q_19, .null, .null, .null, .int 0, .null, .int 0]))] H := hP
  have hD : va_D A [(h, .inr (0, [.ref q_1, .ref q_3, .ref q_5, .ref q_7, .ref q_9, .int 0, .ref q_11, .int 0, .ref q_13, .ref q_15, .ref q_17, .ref q_19, .null, .null, .null, .int 0, .null, .int 0]))] := hD
  refine lv_aload_n hx hb dX0_init_94 rfl (lv_at hl 0 rfl) ?_
  refine lv_sipush (v := 3002) hx hb dX0_init_95 (by decide) ?_
  refine va_newa (atype := .int) (a0 := (3002, .inl (fun _ => 0))) (ty := .int) hx hb (hts (.arrayClass .int) (wm_c_code 4 rfl)) rfl hK hP hD hS hA (fun _ => rfl) (by decide) (by decide +kernel) (show 3002 * 4 ≤ 536870912 by omega) (show 10 + 1 ≤ 14 by omega) (show 43108 + 3002 ≤ 55116 by omega) dX0_init_98 (fun q_21 k_22 H _ hP hD hS => ?_)
  have hP := hP.sub (ws' := [(h, .inr (0, [.ref q_1, .ref q_3, .ref q_5, .ref q_7, .ref q_9, .int 0, .ref q_11, .int 0, .ref q_13, .ref q_15, .ref q_17, .ref q_19, .null, .null, .null, .int 0, .null, .int 0]))]) [0] rfl
  have hD := hD.sub (ws' := [(h, .inr (0, [.ref q_1, .ref q_3, .ref q_5, .ref q_7, .ref q_9, .int 0, .ref q_11, .int 0, .ref q_13, .ref q_15, .ref q_17, .ref q_19, .null, .null, .null, .int 0, .null, .int 0]))]) [0] (by decide) rfl
  refine W.widen (k := 11) (n := 46110) (by omega) (by omega) ?_
  refine va_putF (D := (dC, dI)) (ci := 0) (v := .ref q_21) (ty := (.array .int)) (C := RX0) (T := TX0) (N := 18) hx hb hts in_c_code_X0 tyX0 tyX0_ok nmX0 hown hK hP hD hS 0 rfl rfl 12 (by decide) (hts (.fieldLink RX0 42 "OwnedPlaces$Code" "placeType" "[I") (wm_c_code 15 rfl)) (fun _ h9 => h9) rfl hin rfl (by decide +kernel) rfl rfl (Nat.le_of_ble_eq_true rfl) dX0_init_100 (fun H locs hP hD hS => ?_)
  have hP : va_P (dC, dI) vwCl [(h, .inr (0, [.ref q_1, .ref q_3, .ref q_5, .ref q_7, .ref q_9, .int 0, .ref q_11, .int 0, .ref q_13, .ref q_15, .ref q_17, .ref q_19, .ref q_21, .null, .null, .int 0, .null, .int 0]))] H := hP
  have hD : va_D A [(h, .inr (0, [.ref q_1, .ref q_3, .ref q_5, .ref q_7, .ref q_9, .int 0, .ref q_11, .int 0, .ref q_13, .ref q_15, .ref q_17, .ref q_19, .ref q_21, .null, .null, .int 0, .null, .int 0]))] := hD
  refine lv_aload_n hx hb dX0_init_103 rfl (lv_at hl 0 rfl) ?_
  refine lv_sipush (v := 3002) hx hb dX0_init_104 (by decide) ?_
  refine va_newa (atype := .int) (a0 := (3002, .inl (fun _ => 0))) (ty := .int) hx hb (hts (.arrayClass .int) (wm_c_code 4 rfl)) rfl hK hP hD hS hA (fun _ => rfl) (by decide) (by decide +kernel) (show 3002 * 4 ≤ 536870912 by omega) (show 11 + 1 ≤ 14 by omega) (show 46110 + 3002 ≤ 55116 by omega) dX0_init_107 (fun q_23 k_24 H _ hP hD hS => ?_)
  have hP := hP.sub (ws' := [(h, .inr (0, [.ref q_1, .ref q_3, .ref q_5, .ref q_7, .ref q_9, .int 0, .ref q_11, .int 0, .ref q_13, .ref q_15, .ref q_17, .ref q_19, .ref q_21, .null, .null, .int 0, .null, .int 0]))]) [0] rfl
  have hD := hD.sub (ws' := [(h, .inr (0, [.ref q_1, .ref q_3, .ref q_5, .ref q_7, .ref q_9, .int 0, .ref q_11, .int 0, .ref q_13, .ref q_15, .ref q_17, .ref q_19, .ref q_21, .null, .null, .int 0, .null, .int 0]))]) [0] (by decide) rfl
  refine W.widen (k := 12) (n := 49112) (by omega) (by omega) ?_
  refine va_putF (D := (dC, dI)) (ci := 0) (v := .ref q_23) (ty := (.array .int)) (C := RX0) (T := TX0) (N := 18) hx hb hts in_c_code_X0 tyX0 tyX0_ok nmX0 hown hK hP hD hS 0 rfl rfl 13 (by decide) (hts (.fieldLink RX0 45 "OwnedPlaces$Code" "placeWhere" "[I") (wm_c_code 16 rfl)) (fun _ h9 => h9) rfl hin rfl (by decide +kernel) rfl rfl (Nat.le_of_ble_eq_true rfl) dX0_init_109 (fun H locs hP hD hS => ?_)
  have hP : va_P (dC, dI) vwCl [(h, .inr (0, [.ref q_1, .ref q_3, .ref q_5, .ref q_7, .ref q_9, .int 0, .ref q_11, .int 0, .ref q_13, .ref q_15, .ref q_17, .ref q_19, .ref q_21, .ref q_23, .null, .int 0, .null, .int 0]))] H := hP
  have hD : va_D A [(h, .inr (0, [.ref q_1, .ref q_3, .ref q_5, .ref q_7, .ref q_9, .int 0, .ref q_11, .int 0, .ref q_13, .ref q_15, .ref q_17, .ref q_19, .ref q_21, .ref q_23, .null, .int 0, .null, .int 0]))] := hD
  refine lv_aload_n hx hb dX0_init_112 rfl (lv_at hl 0 rfl) ?_
  refine lv_sipush (v := 3002) hx hb dX0_init_113 (by decide) ?_
  refine va_newa (atype := .int) (a0 := (3002, .inl (fun _ => 0))) (ty := .int) hx hb (hts (.arrayClass .int) (wm_c_code 4 rfl)) rfl hK hP hD hS hA (fun _ => rfl) (by decide) (by decide +kernel) (show 3002 * 4 ≤ 536870912 by omega) (show 12 + 1 ≤ 14 by omega) (show 49112 + 3002 ≤ 55116 by omega) dX0_init_116 (fun q_25 k_26 H _ hP hD hS => ?_)
  have hP := hP.sub (ws' := [(h, .inr (0, [.ref q_1, .ref q_3, .ref q_5, .ref q_7, .ref q_9, .int 0, .ref q_11, .int 0, .ref q_13, .ref q_15, .ref q_17, .ref q_19, .ref q_21, .ref q_23, .null, .int 0, .null, .int 0]))]) [0] rfl
  have hD := hD.sub (ws' := [(h, .inr (0, [.ref q_1, .ref q_3, .ref q_5, .ref q_7, .ref q_9, .int 0, .ref q_11, .int 0, .ref q_13, .ref q_15, .ref q_17, .ref q_19, .ref q_21, .ref q_23, .null, .int 0, .null, .int 0]))]) [0] (by decide) rfl
  refine W.widen (k := 13) (n := 52114) (by omega) (by omega) ?_
  refine va_putF (D := (dC, dI)) (ci := 0) (v := .ref q_25) (ty := (.array .int)) (C := RX0) (T := TX0) (N := 18) hx hb hts in_c_code_X0 tyX0 tyX0_ok nmX0 hown hK hP hD hS 0 rfl rfl 14 (by decide) (hts (.fieldLink RX0 48 "OwnedPlaces$Code" "placeCells" "[I") (wm_c_code 17 rfl)) (fun _ h9 => h9) rfl hin rfl (by decide +kernel) rfl rfl (Nat.le_of_ble_eq_true rfl) dX0_init_118 (fun H locs hP hD hS => ?_)
  have hP : va_P (dC, dI) vwCl [(h, .inr (0, [.ref q_1, .ref q_3, .ref q_5, .ref q_7, .ref q_9, .int 0, .ref q_11, .int 0, .ref q_13, .ref q_15, .ref q_17, .ref q_19, .ref q_21, .ref q_23, .ref q_25, .int 0, .null, .int 0]))] H := hP
  have hD : va_D A [(h, .inr (0, [.ref q_1, .ref q_3, .ref q_5, .ref q_7, .ref q_9, .int 0, .ref q_11, .int 0, .ref q_13, .ref q_15, .ref q_17, .ref q_19, .ref q_21, .ref q_23, .ref q_25, .int 0, .null, .int 0]))] := hD
  refine lv_aload_n hx hb dX0_init_121 rfl (lv_at hl 0 rfl) ?_
  refine lv_sipush (v := 3002) hx hb dX0_init_122 (by decide) ?_
  refine va_newa (atype := .int) (a0 := (3002, .inl (fun _ => 0))) (ty := .int) hx hb (hts (.arrayClass .int) (wm_c_code 4 rfl)) rfl hK hP hD hS hA (fun _ => rfl) (by decide) (by decide +kernel) (show 3002 * 4 ≤ 536870912 by omega) (show 13 + 1 ≤ 14 by omega) (show 52114 + 3002 ≤ 55116 by omega) dX0_init_125 (fun q_27 k_28 H _ hP hD hS => ?_)
  have hP := hP.sub (ws' := [(h, .inr (0, [.ref q_1, .ref q_3, .ref q_5, .ref q_7, .ref q_9, .int 0, .ref q_11, .int 0, .ref q_13, .ref q_15, .ref q_17, .ref q_19, .ref q_21, .ref q_23, .ref q_25, .int 0, .null, .int 0]))]) [0] rfl
  have hD := hD.sub (ws' := [(h, .inr (0, [.ref q_1, .ref q_3, .ref q_5, .ref q_7, .ref q_9, .int 0, .ref q_11, .int 0, .ref q_13, .ref q_15, .ref q_17, .ref q_19, .ref q_21, .ref q_23, .ref q_25, .int 0, .null, .int 0]))]) [0] (by decide) rfl
  refine W.widen (k := 14) (n := 55116) (by omega) (by omega) ?_
  refine va_putF (D := (dC, dI)) (ci := 0) (v := .ref q_27) (ty := (.array .int)) (C := RX0) (T := TX0) (N := 18) hx hb hts in_c_code_X0 tyX0 tyX0_ok nmX0 hown hK hP hD hS 0 rfl rfl 16 (by decide) (hts (.fieldLink RX0 51 "OwnedPlaces$Code" "armLabels" "[I") (wm_c_code 18 rfl)) (fun _ h9 => h9) rfl hin rfl (by decide +kernel) rfl rfl (Nat.le_of_ble_eq_true rfl) dX0_init_127 (fun H locs hP hD hS => ?_)
  have hP : va_P (dC, dI) vwCl [(h, .inr (0, [.ref q_1, .ref q_3, .ref q_5, .ref q_7, .ref q_9, .int 0, .ref q_11, .int 0, .ref q_13, .ref q_15, .ref q_17, .ref q_19, .ref q_21, .ref q_23, .ref q_25, .int 0, .ref q_27, .int 0]))] H := hP
  have hD : va_D A [(h, .inr (0, [.ref q_1, .ref q_3, .ref q_5, .ref q_7, .ref q_9, .int 0, .ref q_11, .int 0, .ref q_13, .ref q_15, .ref q_17, .ref q_19, .ref q_21, .ref q_23, .ref q_25, .int 0, .ref q_27, .int 0]))] := hD
  refine W.widen (k := 14) (n := 55116) (by omega) (by omega) ?_
  exact W.vret hx hb hr (fun tS ht hW => ⟨⟨(), rfl, trivial, trivial⟩, hS.F ht⟩) hS.2.2 dX0_init_130
def wf_c_typing : List Cond := [.code yX11_init cX11_init 5 none, .methodLink RX11 3 objectInit, .instanceMethod objectInit, .code objectInit ⟨#[0xb1]⟩ 1 none, .fieldLink RX11 9 "OwnedPlaces$Typing" "text" "LOwnedPlaces$Text;", .fieldLink RX11 15 "OwnedPlaces$Typing" "types" "LOwnedPlaces$Types;", .fieldLink RX11 19 "OwnedPlaces$Typing" "declared" "LOwnedPlaces$Declarations;", .fieldLink RX11 23 "OwnedPlaces$Typing" "code" "LOwnedPlaces$Code;"]
def wp_c_typing : List Cond := wf_c_typing ++ (wsX110 ++ [])
theorem in_c_typing_X11 : ∀ w ∈ wsX110, w ∈ wp_c_typing := fun w h => List.mem_append_right _ (List.mem_append_left _ h)
theorem wg_c_typing : wf_c_typing.all goodWord = true := by decide +kernel
theorem wm_c_typing (k : Nat) {w : Cond} (h : wp_c_typing[k]? = some w) : w ∈ wp_c_typing := List.mem_of_getElem? h
set_option maxHeartbeats 4000000 in
set_option maxRecDepth 100000 in
theorem c_typing (l : Launch) (dC : Nat → ClassId) (dI : Nat → Nat → Nat) (h a0 a1 a2 a3 : Nat) (sz : Nat) : Met l yX11_init wp_c_typing ({ frames := 1, cells := 0, slots := 0, locals := 12 }) (va_Pc [.ref h, .ref a0, .ref a1, .ref a2, .ref a3] (fun U => U.heap.size = sz ∧ va_P (dC, dI) vwCl [(h, .inr (11, [.null, .null, .null, .null, .null, .int 0, .int 0, .int 0, .int 0, .int 0, .int 0, .int 0, .int 0]))] U.heap ∧ va_K (dC, dI) vwCl [] U ∧ va_D (fun _ => True) [(h, .inr (11, [.null, .null, .null, .null, .null, .int 0, .int 0, .int 0, .int 0, .int 0, .int 0, .int 0, .int 0]))])) (va_Qv (fun _ : Unit => True) (fun (_ : Unit) (_ : State) => True) (va_A [(h, .inr (11, [.null, .null, .null, .null, .null, .int 0, .int 0, .int 0, .int 0, .int 0, .int 0, .int 0, .int 0]))] sz)) 0 0 (va_A [(h, .inr (11, [.null, .null, .null, .null, .null, .int 0, .int 0, .int 0, .int 0, .int 0, .int 0, .int 0, .int 0]))] sz) := by
  refine Met.ofW (cc := cX11_init) (maxL := 5) (ret := none) (by decide) rfl ?_
  intro p e s m args below meth c s₁ B hml hv
  obtain ⟨rfl, hsz, hP, hK, hD0⟩ := hv
  have hx := B.exec
  have hb := B.bytes
  have hr := B.returns
  have hts := atoms_spec (ws := wp_c_typing) B.pre
  have hown : s.vm.findClass RX11 = some m.cls := findClass_of_methodNamed B.named
  have hlocks := B.notSynchronized
  have hin : meth.name = "<init>" := (name_of_methodNamed B.named B.method).1
  subst hsz
  have hD := hD0.self (sz := s.heap.size)
  generalize hAe : va_A [(h, .inr (11, [.null, .null, .null, .null, .null, .int 0, .int 0, .int 0, .int 0, .int 0, .int 0, .int 0, .int 0]))] s.heap.size = A at hD ⊢
  have hA : ∀ q : Nat, s.heap.size ≤ q → A q := fun q h => by rw [← hAe]; exact Or.inr h
  have hS : va_S A s.heap s.heap [] := va_S.rf
  have hP : va_P (dC, dI) vwCl [(h, .inr (11, [.null, .null, .null, .null, .null, .int 0, .int 0, .int 0, .int 0, .int 0, .int 0, .int 0, .int 0]))] s.heap := hP
  have hl := lv_entry ([.ref h, .ref a0, .ref a1, .ref a2, .ref a3]) (n := 5) (Nat.le_of_ble_eq_true rfl)
  rw [lg_entry_eq]
  generalize (lg_sl ([.ref h, .ref a0, .ref a1, .ref a2, .ref a3]) ++ List.replicate (5 - (lg_sl ([.ref h, .ref a0, .ref a1, .ref a2, .ref a3])).length) Slot.unset).toArray = ls at hl ⊢
  have hl : lv_has ls 5 [(0, .ref h), (1, .ref a0), (2, .ref a1), (3, .ref a2), (4, .ref a3)] := hl
  refine lv_aload_n hx hb dX11_init_0 rfl (lv_at hl 0 rfl) ?_
  refine W.objInit hx hb hown (hts (.methodLink RX11 3 objectInit) (wm_c_typing 1 rfl)) (hts (.instanceMethod objectInit) (wm_c_typing 2 rfl)) (hts (.code objectInit ⟨#[0xb1]⟩ 1 none) (wm_c_typing 3 rfl)) rfl (by rw [hml]; exact hl.1) rfl dX11_init_1 (Nat.le_of_ble_eq_true rfl) (Nat.le_of_ble_eq_true rfl) ?_
  refine W.eq (g2 := F0 m 4 ls []) rfl ?_
  refine lv_aload_n hx hb dX11_init_4 rfl (lv_at hl 0 rfl) ?_
  refine lv_aload_n hx hb dX11_init_5 rfl (lv_at hl 1 rfl) ?_
  refine va_putF (D := (dC, dI)) (ci := 11) (v := .ref a0) (ty := (.object "OwnedPlaces$Text")) (C := RX11) (T := TX11) (N := 13) hx hb hts in_c_typing_X11 tyX11 tyX11_ok nmX11 hown hK hP hD hS 0 rfl rfl 0 (by decide) (hts (.fieldLink RX11 9 "OwnedPlaces$Typing" "text" "LOwnedPlaces$Text;") (wm_c_typing 4 rfl)) (fun _ h9 => h9) rfl hin rfl (by decide +kernel) rfl rfl (Nat.le_of_ble_eq_true rfl) dX11_init_6 (fun H locs hP hD hS => ?_)
  have hP : va_P (dC, dI) vwCl [(h, .inr (11, [.ref a0, .null, .null, .null, .null, .int 0, .int 0, .int 0, .int 0, .int 0, .int 0, .int 0, .int 0]))] H := hP
  have hD : va_D A [(h, .inr (11, [.ref a0, .null, .null, .null, .null, .int 0, .int 0, .int 0, .int 0, .int 0, .int 0, .int 0, .int 0]))] := hD
  refine lv_aload_n hx hb dX11_init_9 rfl (lv_at hl 0 rfl) ?_
  refine lv_aload_n hx hb dX11_init_10 rfl (lv_at hl 2 rfl) ?_
  refine va_putF (D := (dC, dI)) (ci := 11) (v := .ref a1) (ty := (.object "OwnedPlaces$Types")) (C := RX11) (T := TX11) (N := 13) hx hb hts in_c_typing_X11 tyX11 tyX11_ok nmX11 hown hK hP hD hS 0 rfl rfl 1 (by decide) (hts (.fieldLink RX11 15 "OwnedPlaces$Typing" "types" "LOwnedPlaces$Types;") (wm_c_typing 5 rfl)) (fun _ h9 => h9) rfl hin rfl (by decide +kernel) rfl rfl (Nat.le_of_ble_eq_true rfl) dX11_init_11 (fun H locs hP hD hS => ?_)
  have hP : va_P (dC, dI) vwCl [(h, .inr (11, [.ref a0, .ref a1, .null, .null, .null, .int 0, .int 0, .int 0, .int 0, .int 0, .int 0, .int 0, .int 0]))] H := hP
  have hD : va_D A [(h, .inr (11, [.ref a0, .ref a1, .null, .null, .null, .int 0, .int 0, .int 0, .int 0, .int 0, .int 0, .int 0, .int 0]))] := hD
  refine lv_aload_n hx hb dX11_init_14 rfl (lv_at hl 0 rfl) ?_
  refine lv_aload_n hx hb dX11_init_15 rfl (lv_at hl 3 rfl) ?_
  refine va_putF (D := (dC, dI)) (ci := 11) (v := .ref a2) (ty := (.object "OwnedPlaces$Declarations")) (C := RX11) (T := TX11) (N := 13) hx hb hts in_c_typing_X11 tyX11 tyX11_ok nmX11 hown hK hP hD hS 0 rfl rfl 2 (by decide) (hts (.fieldLink RX11 19 "OwnedPlaces$Typing" "declared" "LOwnedPlaces$Declarations;") (wm_c_typing 6 rfl)) (fun _ h9 => h9) rfl hin rfl (by decide +kernel) rfl rfl (Nat.le_of_ble_eq_true rfl) dX11_init_16 (fun H locs hP hD hS => ?_)
  have hP : va_P (dC, dI) vwCl [(h, .inr (11, [.ref a0, .ref a1, .ref a2, .null, .null, .int 0, .int 0, .int 0, .int 0, .int 0, .int 0, .int 0, .int 0]))] H := hP
  have hD : va_D A [(h, .inr (11, [.ref a0, .ref a1, .ref a2, .null, .null, .int 0, .int 0, .int 0, .int 0, .int 0, .int 0, .int 0, .int 0]))] := hD
  refine lv_aload_n hx hb dX11_init_19 rfl (lv_at hl 0 rfl) ?_
  refine lv_aload hx hb dX11_init_20 (lv_at hl 4 rfl) ?_
  refine va_putF (D := (dC, dI)) (ci := 11) (v := .ref a3) (ty := (.object "OwnedPlaces$Code")) (C := RX11) (T := TX11) (N := 13) hx hb hts in_c_typing_X11 tyX11 tyX11_ok nmX11 hown hK hP hD hS 0 rfl rfl 3 (by decide) (hts (.fieldLink RX11 23 "OwnedPlaces$Typing" "code" "LOwnedPlaces$Code;") (wm_c_typing 7 rfl)) (fun _ h9 => h9) rfl hin rfl (by decide +kernel) rfl rfl (Nat.le_of_ble_eq_true rfl) dX11_init_22 (fun H locs hP hD hS => ?_)
  have hP : va_P (dC, dI) vwCl [(h, .inr (11, [.ref a0, .ref a1, .ref a2, .ref a3, .null, .int 0, .int 0, .int 0, .int 0, .int 0, .int 0, .int 0, .int 0]))] H := hP
  have hD : va_D A [(h, .inr (11, [.ref a0, .ref a1, .ref a2, .ref a3, .null, .int 0, .int 0, .int 0, .int 0, .int 0, .int 0, .int 0, .int 0]))] := hD
  exact W.vret hx hb hr (fun tS ht hW => ⟨⟨(), rfl, trivial, trivial⟩, hS.F ht⟩) hS.2.2 dX11_init_25
def wf_c_moves : List Cond := [.code yX7_init cX7_init 3 none, .methodLink RX7 3 objectInit, .instanceMethod objectInit, .code objectInit ⟨#[0xb1]⟩ 1 none, .arrayClass .int, .fieldLink RX7 9 "OwnedPlaces$Moves" "state" "[I", .constant RX7 15 44000, .fieldLink RX7 16 "OwnedPlaces$Moves" "rows" "[I", .arrayClass .boolean, .fieldLink RX7 19 "OwnedPlaces$Moves" "reached" "[Z", .fieldLink RX7 23 "OwnedPlaces$Moves" "types" "LOwnedPlaces$Types;", .fieldLink RX7 27 "OwnedPlaces$Moves" "code" "LOwnedPlaces$Code;"]
def wp_c_moves : List Cond := wf_c_moves ++ (wsX70 ++ [])
theorem in_c_moves_X7 : ∀ w ∈ wsX70, w ∈ wp_c_moves := fun w h => List.mem_append_right _ (List.mem_append_left _ h)
theorem wg_c_moves : wf_c_moves.all goodWord = true := by decide +kernel
theorem wm_c_moves (k : Nat) {w : Cond} (h : wp_c_moves[k]? = some w) : w ∈ wp_c_moves := List.mem_of_getElem? h
set_option maxHeartbeats 4000000 in
set_option maxRecDepth 100000 in
theorem c_moves (l : Launch) (dC : Nat → ClassId) (dI : Nat → Nat → Nat) (h a0 a1 : Nat) (sz : Nat) : Met l yX7_init wp_c_moves ({ frames := 1, cells := 3, slots := 45140, locals := 12 }) (va_Pc [.ref h, .ref a0, .ref a1] (fun U => U.heap.size = sz ∧ va_P (dC, dI) vwCl [(h, .inr (7, [.null, .null, .null, .null, .null, .null, .int 0, .int 0, .int 0]))] U.heap ∧ va_K (dC, dI) vwCl [] U ∧ va_D (fun _ => True) [(h, .inr (7, [.null, .null, .null, .null, .null, .null, .int 0, .int 0, .int 0]))])) (va_Qv (fun _ : Unit => True) (fun (_ : Unit) (_ : State) => True) (va_A [(h, .inr (7, [.null, .null, .null, .null, .null, .null, .int 0, .int 0, .int 0]))] sz)) 3 45140 (va_A [(h, .inr (7, [.null, .null, .null, .null, .null, .null, .int 0, .int 0, .int 0]))] sz) := by
  refine Met.ofW (cc := cX7_init) (maxL := 3) (ret := none) (by decide) rfl ?_
  intro p e s m args below meth c s₁ B hml hv
  obtain ⟨rfl, hsz, hP, hK, hD0⟩ := hv
  have hx := B.exec
  have hb := B.bytes
  have hr := B.returns
  have hts := atoms_spec (ws := wp_c_moves) B.pre
  have hown : s.vm.findClass RX7 = some m.cls := findClass_of_methodNamed B.named
  have hlocks := B.notSynchronized
  have hin : meth.name = "<init>" := (name_of_methodNamed B.named B.method).1
  subst hsz
  have hD := hD0.self (sz := s.heap.size)
  generalize hAe : va_A [(h, .inr (7, [.null, .null, .null, .null, .null, .null, .int 0, .int 0, .int 0]))] s.heap.size = A at hD ⊢
  have hA : ∀ q : Nat, s.heap.size ≤ q → A q := fun q h => by rw [← hAe]; exact Or.inr h
  have hS : va_S A s.heap s.heap [] := va_S.rf
  have hP : va_P (dC, dI) vwCl [(h, .inr (7, [.null, .null, .null, .null, .null, .null, .int 0, .int 0, .int 0]))] s.heap := hP
  have hl := lv_entry ([.ref h, .ref a0, .ref a1]) (n := 3) (Nat.le_of_ble_eq_true rfl)
  rw [lg_entry_eq]
  generalize (lg_sl ([.ref h, .ref a0, .ref a1]) ++ List.replicate (3 - (lg_sl ([.ref h, .ref a0, .ref a1])).length) Slot.unset).toArray = ls at hl ⊢
  have hl : lv_has ls 3 [(0, .ref h), (1, .ref a0), (2, .ref a1)] := hl
  refine lv_aload_n hx hb dX7_init_0 rfl (lv_at hl 0 rfl) ?_
  refine W.objInit hx hb hown (hts (.methodLink RX7 3 objectInit) (wm_c_moves 1 rfl)) (hts (.instanceMethod objectInit) (wm_c_moves 2 rfl)) (hts (.code objectInit ⟨#[0xb1]⟩ 1 none) (wm_c_moves 3 rfl)) rfl (by rw [hml]; exact hl.1) rfl dX7_init_1 (Nat.le_of_ble_eq_true rfl) (Nat.le_of_ble_eq_true rfl) ?_
  refine W.eq (g2 := F0 m 4 ls []) rfl ?_
  refine lv_aload_n hx hb dX7_init_4 rfl (lv_at hl 0 rfl) ?_
  refine lv_bipush (v := 40) hx hb dX7_init_5 (by decide) ?_
  refine va_newa (atype := .int) (a0 := (40, .inl (fun _ => 0))) (ty := .int) hx hb (hts (.arrayClass .int) (wm_c_moves 4 rfl)) rfl hK hP hD hS hA (fun _ => rfl) (by decide) (by decide +kernel) (show 40 * 4 ≤ 536870912 by omega) (show 0 + 1 ≤ 3 by omega) (show 0 + 40 ≤ 45140 by omega) dX7_init_7 (fun q_1 k_2 H _ hP hD hS => ?_)
  have hP := hP.sub (ws' := [(h, .inr (7, [.null, .null, .null, .null, .null, .null, .int 0, .int 0, .int 0]))]) [0] rfl
  have hD := hD.sub (ws' := [(h, .inr (7, [.null, .null, .null, .null, .null, .null, .int 0, .int 0, .int 0]))]) [0] (by decide) rfl
  refine W.widen (k := 1) (n := 40) (by omega) (by omega) ?_
  refine va_putF (D := (dC, dI)) (ci := 7) (v := .ref q_1) (ty := (.array .int)) (C := RX7) (T := TX7) (N := 9) hx hb hts in_c_moves_X7 tyX7 tyX7_ok nmX7 hown hK hP hD hS 0 rfl rfl 3 (by decide) (hts (.fieldLink RX7 9 "OwnedPlaces$Moves" "state" "[I") (wm_c_moves 5 rfl)) (fun _ h9 => h9) rfl hin rfl (by decide +kernel) rfl rfl (Nat.le_of_ble_eq_true rfl) dX7_init_9 (fun H locs hP hD hS => ?_)
  have hP : va_P (dC, dI) vwCl [(h, .inr (7, [.null, .null, .null, .ref q_1, .null, .null, .int 0, .int 0, .int 0]))] H := hP
  have hD : va_D A [(h, .inr (7, [.null, .null, .null, .ref q_1, .null, .null, .int 0, .int 0, .int 0]))] := hD
  refine lv_aload_n hx hb dX7_init_12 rfl (lv_at hl 0 rfl) ?_
  refine lv_ldc (v := 44000) hx hb hown (hts (.constant RX7 15 44000) (wm_c_moves 6 rfl)) dX7_init_13 ?_
  refine va_newa (atype := .int) (a0 := (44000, .inl (fun _ => 0))) (ty := .int) hx hb (hts (.arrayClass .int) (wm_c_moves 4 rfl)) rfl hK hP hD hS hA (fun _ => rfl) (by decide) (by decide +kernel) (show 44000 * 4 ≤ 536870912 by omega) (show 1 + 1 ≤ 3 by omega) (show 40 + 44000 ≤ 45140 by omega) dX7_init_15 (fun q_3 k_4 H _ hP hD hS => ?_)
  have hP := hP.sub (ws' := [(h, .inr (7, [.null, .null, .null, .ref q_1, .null, .null, .int 0, .int 0, .int 0]))]) [0] rfl
  have hD := hD.sub (ws' := [(h, .inr (7, [.null, .null, .null, .ref q_1, .null, .null, .int 0, .int 0, .int 0]))]) [0] (by decide) rfl
  refine W.widen (k := 2) (n := 44040) (by omega) (by omega) ?_
  refine va_putF (D := (dC, dI)) (ci := 7) (v := .ref q_3) (ty := (.array .int)) (C := RX7) (T := TX7) (N := 9) hx hb hts in_c_moves_X7 tyX7 tyX7_ok nmX7 hown hK hP hD hS 0 rfl rfl 4 (by decide) (hts (.fieldLink RX7 16 "OwnedPlaces$Moves" "rows" "[I") (wm_c_moves 7 rfl)) (fun _ h9 => h9) rfl hin rfl (by decide +kernel) rfl rfl (Nat.le_of_ble_eq_true rfl) dX7_init_17 (fun H locs hP hD hS => ?_)
  have hP : va_P (dC, dI) vwCl [(h, .inr (7, [.null, .null, .null, .ref q_1, .ref q_3, .null, .int 0, .int 0, .int 0]))] H := hP
  have hD : va_D A [(h, .inr (7, [.null, .null, .null, .ref q_1, .ref q_3, .null, .int 0, .int 0, .int 0]))] := hD
  refine lv_aload_n hx hb dX7_init_20 rfl (lv_at hl 0 rfl) ?_
  refine lv_sipush (v := 1100) hx hb dX7_init_21 (by decide) ?_
  refine va_newa (atype := .boolean) (a0 := (1100, .inl (fun _ => 0))) (ty := .boolean) hx hb (hts (.arrayClass .boolean) (wm_c_moves 8 rfl)) rfl hK hP hD hS hA (fun _ => rfl) (by decide) (by decide +kernel) (show 1100 * 1 ≤ 536870912 by omega) (show 2 + 1 ≤ 3 by omega) (show 44040 + 1100 ≤ 45140 by omega) dX7_init_24 (fun q_5 k_6 H _ hP hD hS => ?_)
  have hP := hP.sub (ws' := [(h, .inr (7, [.null, .null, .null, .ref q_1, .ref q_3, .null, .int 0, .int 0, .int 0]))]) [0] rfl
  have hD := hD.sub (ws' := [(h, .inr (7, [.null, .null, .null, .ref q_1, .ref q_3, .null, .int 0, .int 0, .int 0]))]) [0] (by decide) rfl
  refine W.widen (k := 3) (n := 45140) (by omega) (by omega) ?_
  refine va_putF (D := (dC, dI)) (ci := 7) (v := .ref q_5) (ty := (.array .boolean)) (C := RX7) (T := TX7) (N := 9) hx hb hts in_c_moves_X7 tyX7 tyX7_ok nmX7 hown hK hP hD hS 0 rfl rfl 5 (by decide) (hts (.fieldLink RX7 19 "OwnedPlaces$Moves" "reached" "[Z") (wm_c_moves 9 rfl)) (fun _ h9 => h9) rfl hin rfl (by decide +kernel) rfl rfl (Nat.le_of_ble_eq_true rfl) dX7_init_26 (fun H locs hP hD hS => ?_)
  have hP : va_P (dC, dI) vwCl [(h, .inr (7, [.null, .null, .null, .ref q_1, .ref q_3, .ref q_5, .int 0, .int 0, .int 0]))] H := hP
  have hD : va_D A [(h, .inr (7, [.null, .null, .null, .ref q_1, .ref q_3, .ref q_5, .int 0, .int 0, .int 0]))] := hD
  refine lv_aload_n hx hb dX7_init_29 rfl (lv_at hl 0 rfl) ?_
  refine lv_aload_n hx hb dX7_init_30 rfl (lv_at hl 1 rfl) ?_
  refine va_putF (D := (dC, dI)) (ci := 7) (v := .ref a0) (ty := (.object "OwnedPlaces$Types")) (C := RX7) (T := TX7) (N := 9) hx hb hts in_c_moves_X7 tyX7 tyX7_ok nmX7 hown hK hP hD hS 0 rfl rfl 0 (by decide) (hts (.fieldLink RX7 23 "OwnedPlaces$Moves" "types" "LOwnedPlaces$Types;") (wm_c_moves 10 rfl)) (fun _ h9 => h9) rfl hin rfl (by decide +kernel) rfl rfl (Nat.le_of_ble_eq_true rfl) dX7_init_31 (fun H locs hP hD hS => ?_)
  have hP : va_P (dC, dI) vwCl [(h, .inr (7, [.ref a0, .null, .null, .ref q_1, .ref q_3, .ref q_5, .int 0, .int 0, .int 0]))] H := hP
  have hD : va_D A [(h, .inr (7, [.ref a0, .null, .null, .ref q_1, .ref q_3, .ref q_5, .int 0, .int 0, .int 0]))] := hD
  refine lv_aload_n hx hb dX7_init_34 rfl (lv_at hl 0 rfl) ?_
  refine lv_aload_n hx hb dX7_init_35 rfl (lv_at hl 2 rfl) ?_
  refine va_putF (D := (dC, dI)) (ci := 7) (v := .ref a1) (ty := (.object "OwnedPlaces$Code")) (C := RX7) (T := TX7) (N := 9) hx hb hts in_c_moves_X7 tyX7 tyX7_ok nmX7 hown hK hP hD hS 0 rfl rfl 1 (by decide) (hts (.fieldLink RX7 27 "OwnedPlaces$Moves" "code" "LOwnedPlaces$Code;") (wm_c_moves 11 rfl)) (fun _ h9 => h9) rfl hin rfl (by decide +kernel) rfl rfl (Nat.le_of_ble_eq_true rfl) dX7_init_36 (fun H locs hP hD hS => ?_)
  have hP : va_P (dC, dI) vwCl [(h, .inr (7, [.ref a0, .ref a1, .null, .ref q_1, .ref q_3, .ref q_5, .int 0, .int 0, .int 0]))] H := hP
  have hD : va_D A [(h, .inr (7, [.ref a0, .ref a1, .null, .ref q_1, .ref q_3, .ref q_5, .int 0, .int 0, .int 0]))] := hD
  refine W.widen (k := 3) (n := 45140) (by omega) (by omega) ?_
  exact W.vret hx hb hr (fun tS ht hW => ⟨⟨(), rfl, trivial, trivial⟩, hS.F ht⟩) hS.2.2 dX7_init_39
def wf_c_loans : List Cond := [.code yX4_init cX4_init 4 none, .methodLink RX4 3 objectInit, .instanceMethod objectInit, .code objectInit ⟨#[0xb1]⟩ 1 none, .arrayClass .long, .fieldLink RX4 9 "OwnedPlaces$Loans" "usedBehind" "[J", .fieldLink RX4 15 "OwnedPlaces$Loans" "usedAt" "[J", .fieldLink RX4 18 "OwnedPlaces$Loans" "held" "[J", .constant RX4 21 44000, .fieldLink RX4 22 "OwnedPlaces$Loans" "rows" "[J", .arrayClass .boolean, .fieldLink RX4 25 "OwnedPlaces$Loans" "reached" "[Z", .fieldLink RX4 29 "OwnedPlaces$Loans" "temps" "[J", .arrayClass .int, .fieldLink RX4 32 "OwnedPlaces$Loans" "placeOf" "[I", .fieldLink RX4 36 "OwnedPlaces$Loans" "heldByLoan" "[J", .fieldLink RX4 39 "OwnedPlaces$Loans" "loansOn" "[J", .fieldLink RX4 42 "OwnedPlaces$Loans" "types" "LOwnedPlaces$Types;", .fieldLink RX4 46 "OwnedPlaces$Loans" "code" "LOwnedPlaces$Code;", .fieldLink RX4 50 "OwnedPlaces$Loans" "declared" "LOwnedPlaces$Declarations;"]
def wp_c_loans : List Cond := wf_c_loans ++ (wsX40 ++ [])
theorem in_c_loans_X4 : ∀ w ∈ wsX40, w ∈ wp_c_loans := fun w h => List.mem_append_right _ (List.mem_append_left _ h)
theorem wg_c_loans : wf_c_loans.all goodWord = true := by decide +kernel
theorem wm_c_loans (k : Nat) {w : Cond} (h : wp_c_loans[k]? = some w) : w ∈ wp_c_loans := List.mem_of_getElem? h
set_option maxHeartbeats 4000000 in
set_option maxRecDepth 100000 in
theorem c_loans (l : Launch) (dC : Nat → ClassId) (dI : Nat → Nat → Nat) (h a0 a1 a2 : Nat) (sz : Nat) : Met l yX4_init wp_c_loans ({ frames := 1, cells := 9, slots := 52900, locals := 12 }) (va_Pc [.ref h, .ref a0, .ref a1, .ref a2] (fun U => U.heap.size = sz ∧ va_P (dC, dI) vwCl [(h, .inr (4, [.null, .null, .null, .null, .null, .null, .null, .null, .null, .null, .int 0, .null, .null, .null, .long 0, .int 0, .int 0, .int 0]))] U.heap ∧ va_K (dC, dI) vwCl [] U ∧ va_D (fun _ => True) [(h, .inr (4, [.null, .null, .null, .null, .null, .null, .null, .null, .null, .null, .int 0, .null, .null, .null, .long 0, .int 0, .int 0, .int 0]))])) (va_Qv (fun _ : Unit => True) (fun (_ : Unit) (_ : State) => True) (va_A [(h, .inr (4, [.null, .null, .null, .null, .null, .null, .null, .null, .null, .null, .int 0, .null, .null, .null, .long 0, .int 0, .int 0, .int 0]))] sz)) 9 52900 (va_A [(h, .inr (4, [.null, .null, .null, .null, .null, .null, .null, .null, .null, .null, .int 0, .null, .null, .null, .long 0, .int 0, .int 0, .int 0]))] sz) := by
  refine Met.ofW (cc := cX4_init) (maxL := 4) (ret := none) (by decide) rfl ?_
  intro p e s m args below meth c s₁ B hml hv
  obtain ⟨rfl, hsz, hP, hK, hD0⟩ := hv
  have hx := B.exec
  have hb := B.bytes
  have hr := B.returns
  have hts := atoms_spec (ws := wp_c_loans) B.pre
  have hown : s.vm.findClass RX4 = some m.cls := findClass_of_methodNamed B.named
  have hlocks := B.notSynchronized
  have hin : meth.name = "<init>" := (name_of_methodNamed B.named B.method).1
  subst hsz
  have hD := hD0.self (sz := s.heap.size)
  generalize hAe : va_A [(h, .inr (4, [.null, .null, .null, .null, .null, .null, .null, .null, .null, .null, .int 0, .null, .null, .null, .long 0, .int 0, .int 0, .int 0]))] s.heap.size = A at hD ⊢
  have hA : ∀ q : Nat, s.heap.size ≤ q → A q := fun q h => by rw [← hAe]; exact Or.inr h
  have hS : va_S A s.heap s.heap [] := va_S.rf
  have hP : va_P (dC, dI) vwCl [(h, .inr (4, [.null, .null, .null, .null, .null, .null, .null, .null, .null, .null, .int 0, .null, .null, .null, .long 0, .int 0, .int 0, .int 0]))] s.heap := hP
  have hl := lv_entry ([.ref h, .ref a0, .ref a1, .ref a2]) (n := 4) (Nat.le_of_ble_eq_true rfl)
  rw [lg_entry_eq]
  generalize (lg_sl ([.ref h, .ref a0, .ref a1, .ref a2]) ++ List.replicate (4 - (lg_sl ([.ref h, .ref a0, .ref a1, .ref a2])).length) Slot.unset).toArray = ls at hl ⊢
  have hl : lv_has ls 4 [(0, .ref h), (1, .ref a0), (2, .ref a1), (3, .ref a2)] := hl
  refine lv_aload_n hx hb dX4_init_0 rfl (lv_at hl 0 rfl) ?_
  refine W.objInit hx hb hown (hts (.methodLink RX4 3 objectInit) (wm_c_loans 1 rfl)) (hts (.instanceMethod objectInit) (wm_c_loans 2 rfl)) (hts (.code objectInit ⟨#[0xb1]⟩ 1 none) (wm_c_loans 3 rfl)) rfl (by rw [hml]; exact hl.1) rfl dX4_init_1 (Nat.le_of_ble_eq_true rfl) (Nat.le_of_ble_eq_true rfl) ?_
  refine W.eq (g2 := F0 m 4 ls []) rfl ?_
  refine lv_aload_n hx hb dX4_init_4 rfl (lv_at hl 0 rfl) ?_
  refine lv_sipush (v := 6000) hx hb dX4_init_5 (by decide) ?_
  refine va_newa (atype := .long) (a0 := (6000, .inr (.inl (fun _ => 0)))) (ty := .long) hx hb (hts (.arrayClass .long) (wm_c_loans 4 rfl)) rfl hK hP hD hS hA (fun _ => rfl) (by decide) (by decide +kernel) (show 6000 * 8 ≤ 536870912 by omega) (show 0 + 1 ≤ 9 by omega) (show 0 + 6000 ≤ 52900 by omega) dX4_init_8 (fun q_1 k_2 H _ hP hD hS => ?_)
  have hP := hP.sub (ws' := [(h, .inr (4, [.null, .null, .null, .null, .null, .null, .null, .null, .null, .null, .int 0, .null, .null, .null, .long 0, .int 0, .int 0, .int 0]))]) [0] rfl
  have hD := hD.sub (ws' := [(h, .inr (4, [.null, .null, .null, .null, .null, .null, .null, .null, .null, .null, .int 0, .null, .null, .null, .long 0, .int 0, .int 0, .int 0]))]) [0] (by decide) rfl
  refine W.widen (k := 1) (n := 6000) (by omega) (by omega) ?_
  refine va_putF (D := (dC, dI)) (ci := 4) (v := .ref q_1) (ty := (.array .long)) (C := RX4) (T := TX4) (N := 18) hx hb hts in_c_loans_X4 tyX4 tyX4_ok nmX4 hown hK hP hD hS 0 rfl rfl 4 (by decide) (hts (.fieldLink RX4 9 "OwnedPlaces$Loans" "usedBehind" "[J") (wm_c_loans 5 rfl)) (fun _ h9 => h9) rfl hin rfl (by decide +kernel) rfl rfl (Nat.le_of_ble_eq_true rfl) dX4_init_10 (fun H locs hP hD hS => ?_)
  have hP : va_P (dC, dI) vwCl [(h, .inr (4, [.null, .null, .null, .null, .ref q_1, .null, .null, .null, .null, .null, .int 0, .null, .null, .null, .long 0, .int 0, .int 0, .int 0]))] H := hP
  have hD : va_D A [(h, .inr (4, [.null, .null, .null, .null, .ref q_1, .null, .null, .null, .null, .null, .int 0, .null, .null, .null, .long 0, .int 0, .int 0, .int 0]))] := hD
  refine lv_aload_n hx hb dX4_init_13 rfl (lv_at hl 0 rfl) ?_
  refine lv_sipush (v := 1100) hx hb dX4_init_14 (by decide) ?_
  refine va_newa (atype := .long) (a0 := (1100, .inr (.inl (fun _ => 0)))) (ty := .long) hx hb (hts (.arrayClass .long) (wm_c_loans 4 rfl)) rfl hK hP hD hS hA (fun _ => rfl) (by decide) (by decide +kernel) (show 1100 * 8 ≤ 536870912 by omega) (show 1 + 1 ≤ 9 by omega) (show 6000 + 1100 ≤ 52900 by omega) dX4_init_17 (fun q_3 k_4 H _ hP hD hS => ?_)
  have hP := hP.sub (ws' := [(h, .inr (4, [.null, .null, .null, .null, .ref q_1, .null, .null, .null, .null, .null, .int 0, .null, .null, .null, .long 0, .int 0, .int 0, .int 0]))]) [0] rfl
  have hD := hD.sub (ws' := [(h, .inr (4, [.null, .null, .null, .null, .ref q_1, .null, .null, .null, .null, .null, .int 0, .null, .null, .null, .long 0, .int 0, .int 0, .int 0]))]) [0] (by decide) rfl
  refine W.widen (k := 2) (n := 7100) (by omega) (by omega) ?_
  refine va_putF (D := (dC, dI)) (ci := 4) (v := .ref q_3) (ty := (.array .long)) (C := RX4) (T := TX4) (N := 18) hx hb hts in_c_loans_X4 tyX4 tyX4_ok nmX4 hown hK hP hD hS 0 rfl rfl 5 (by decide) (hts (.fieldLink RX4 15 "OwnedPlaces$Loans" "usedAt" "[J") (wm_c_loans 6 rfl)) (fun _ h9 => h9) rfl hin rfl (by decide +kernel) rfl rfl (Nat.le_of_ble_eq_true rfl) dX4_init_19 (fun H locs hP hD hS => ?_)
  have hP : va_P (dC, dI) vwCl [(h, .inr (4, [.null, .null, .null, .null, .ref q_1, .ref q_3, .null, .null, .null, .null, .int 0, .null, .null, .null, .long 0, .int 0, .int 0, .int 0]))] H := hP
  have hD : va_D A [(h, .inr (4, [.null, .null, .null, .null, .ref q_1, .ref q_3, .null, .null, .null, .null, .int 0, .null, .null, .null, .long 0, .int 0, .int 0, .int 0]))] := hD
  refine lv_aload_n hx hb dX4_init_22 rfl (lv_at hl 0 rfl) ?_
  refine lv_bipush (v := 40) hx hb dX4_init_23 (by decide) ?_
  refine va_newa (atype := .long) (a0 := (40, .inr (.inl (fun _ => 0)))) (ty := .long) hx hb (hts (.arrayClass .long) (wm_c_loans 4 rfl)) rfl hK hP hD hS hA (fun _ => rfl) (by decide) (by decide +kernel) (show 40 * 8 ≤ 536870912 by omega) (show 2 + 1 ≤ 9 by omega) (show 7100 + 40 ≤ 52900 by omega) dX4_init_25 (fun q_5 k_6 H _ hP hD hS => ?_)
  have hP := hP.sub (ws' := [(h, .inr (4, [.null, .null, .null, .null, .ref q_1, .ref q_3, .null, .null, .null, .null, .int 0, .null, .null, .null, .long 0, .int 0, .int 0, .int 0]))]) [0] rfl
  have hD := hD.sub (ws' := [(h, .inr (4, [.null, .null, .null, .null, .ref q_1, .ref q_3, .null, .null, .null, .null, .int 0, .null, .null, .null, .long 0, .int 0, .int 0, .int 0]))]) [0] (by decide) rfl
  refine W.widen (k := 3) (n := 7140) (by omega) (by omega) ?_
  refine va_putF (D := (dC, dI)) (ci := 4) (v := .ref q_5) (ty := (.array .long)) (C := RX4) (T := TX4) (N := 18) hx hb hts in_c_loans_X4 tyX4 tyX4_ok nmX4 hown hK hP hD hS 0 rfl rfl 6 (by decide) (hts (.fieldLink RX4 18 "OwnedPlaces$Loans" "held" "[J") (wm_c_loans 7 rfl)) (fun _ h9 => h9) rfl hin rfl (by decide +kernel) rfl rfl (Nat.le_of_ble_eq_true rfl) dX4_init_27 (fun H locs hP hD hS => ?_)
  have hP : va_P (dC, dI) vwCl [(h, .inr (4, [.null, .null, .null, .null, .ref q_1, .ref q_3, .ref q_5, .null, .null, .null, .int 0, .null, .null, .null, .long 0, .int 0, .int 0, .int 0]))] H := hP
  have hD : va_D A [(h, .inr (4, [.null, .null, .null, .null, .ref q_1, .ref q_3, .ref q_5, .null, .null, .null, .int 0, .null, .null, .null, .long 0, .int 0, .int 0, .int 0]))] := hD
  refine lv_aload_n hx hb dX4_init_30 rfl (lv_at hl 0 rfl) ?_
  refine lv_ldc (v := 44000) hx hb hown (hts (.constant RX4 21 44000) (wm_c_loans 8 rfl)) dX4_init_31 ?_
  refine va_newa (atype := .long) (a0 := (44000, .inr (.inl (fun _ => 0)))) (ty := .long) hx hb (hts (.arrayClass .long) (wm_c_loans 4 rfl)) rfl hK hP hD hS hA (fun _ => rfl) (by decide) (by decide +kernel) (show 44000 * 8 ≤ 536870912 by omega) (show 3 + 1 ≤ 9 by omega) (show 7140 + 44000 ≤ 52900 by omega) dX4_init_33 (fun q_7 k_8 H _ hP hD hS => ?_)
  have hP := hP.sub (ws' := [(h, .inr (4, [.null, .null, .null, .null, .ref q_1, .ref q_3, .ref q_5, .null, .null, .null, .int 0, .null, .null, .null, .long 0, .int 0, .int 0, .int 0]))]) [0] rfl
  have hD := hD.sub (ws' := [(h, .inr (4, [.null, .null, .null, .null, .ref q_1, .ref q_3, .ref q_5, .null, .null, .null, .int 0, .null, .null, .null, .long 0, .int 0, .int 0, .int 0]))]) [0] (by decide) rfl
  refine W.widen (k := 4) (n := 51140) (by omega) (by omega) ?_
  refine va_putF (D := (dC, dI)) (ci := 4) (v := .ref q_7) (ty := (.array .long)) (C := RX4) (T := TX4) (N := 18) hx hb hts in_c_loans_X4 tyX4 tyX4_ok nmX4 hown hK hP hD hS 0 rfl rfl 7 (by decide) (hts (.fieldLink RX4 22 "OwnedPlaces$Loans" "rows" "[J") (wm_c_loans 9 rfl)) (fun _ h9 => h9) rfl hin rfl (by decide +kernel) rfl rfl (Nat.le_of_ble_eq_true rfl) dX4_init_35 (fun H locs hP hD hS => ?_)
  have hP : va_P (dC, dI) vwCl [(h, .inr (4, [.null, .null, .null, .null, .ref q_1, .ref q_3, .ref q_5, .ref q_7, .null, .null, .int 0, .null, .null, .null, .long 0, .int 0, .int 0, .int 0]))] H := hP
  have hD : va_D A [(h, .inr (4, [.null, .null, .null, .null, .ref q_1, .ref q_3, .ref q_5, .ref q_7, .null, .null, .int 0, .null, .null, .null, .long 0, .int 0, .int 0, .int 0]))] := hD
  refine lv_aload_n hx hb dX4_init_38 rfl (lv_at hl 0 rfl) ?_
  refine lv_sipush (v := 1100) hx hb dX4_init_39 (by decide) ?_
  refine va_newa (atype := .boolean) (a0 := (1100, .inl (fun _ => 0))) (ty := .boolean) hx hb (hts (.arrayClass .boolean) (wm_c_loans 10 rfl)) rfl hK hP hD hS hA (fun _ => rfl) (by decide) (by decide +kernel) (show 1100 * 1 ≤ 536870912 by omega) (show 4 + 1 ≤ 9 by omega) (show 51140 + 1100 ≤ 52900 by omega) dX4_init_42 (fun q_9 k_10 H _ hP hD hS => ?_)
  have hP := hP.sub (ws' := [(h, .inr (4, [.null, .null, .null, .null, .ref q_1, .ref q_3, .ref q_5, .ref q_7, .null, .null, .int 0, .null, .null, .null, .long 0, .int 0, .int 0, .int 0]))]) [0] rfl
  have hD := hD.sub (ws' := [(h, .inr (4, [.null, .null, .null, .null, .ref q_1, .ref q_3, .ref q_5, .ref q_7, .null, .null, .int 0, .null, .null, .null, .long 0, .int 0, .int 0, .int 0]))]) [0] (by decide) rfl
  refine W.widen (k := 5) (n := 52240) (by omega) (by omega) ?_
  refine va_putF (D := (dC, dI)) (ci := 4) (v := .ref q_9) (ty := (.array .boolean)) (C := RX4) (T := TX4) (N := 18) hx hb hts in_c_loans_X4 tyX4 tyX4_ok nmX4 hown hK hP hD hS 0 rfl rfl 8 (by decide) (hts (.fieldLink RX4 25 "OwnedPlaces$Loans" "reached" "[Z") (wm_c_loans 11 rfl)) (fun _ h9 => h9) rfl hin rfl (by decide +kernel) rfl rfl (Nat.le_of_ble_eq_true rfl) dX4_init_44 (fun H locs hP hD hS => ?_)
  have hP : va_P (dC, dI) vwCl [(h, .inr (4, [.null, .null, .null, .null, .ref q_1, .ref q_3, .ref q_5, .ref q_7, .ref q_9, .null, .int 0, .null, .null, .null, .long 0, .int 0, .int 0, .int 0]))] H := hP
  have hD : va_D A [(h, .inr (4, [.null, .null, .null, .null, .ref q_1, .ref q_3, .ref q_5, .ref q_7, .ref q_9, .null, .int 0, .null, .null, .null, .long 0, .int 0, .int 0, .int 0]))] := hD
  refine lv_aload_n hx hb dX4_init_47 rfl (lv_at hl 0 rfl) ?_
  refine lv_sipush (v := 512) hx hb dX4_init_48 (by decide) ?_
  refine va_newa (atype := .long) (a0 := (512, .inr (.inl (fun _ => 0)))) (ty := .long) hx hb (hts (.arrayClass .long) (wm_c_loans 4 rfl)) rfl hK hP hD hS hA (fun _ => rfl) (by decide) (by decide +kernel) (show 512 * 8 ≤ 536870912 by omega) (show 5 + 1 ≤ 9 by omega) (show 52240 + 512 ≤ 52900 by omega) dX4_init_51 (fun q_11 k_12 H _ hP hD hS => ?_)
  have hP := hP.sub (ws' := [(h, .inr (4, [.null, .null, .null, .null, .ref q_1, .ref q_3, .ref q_5, .ref q_7, .ref q_9, .null, .int 0, .null, .null, .null, .long 0, .int 0, .int 0, .int 0]))]) [0] rfl
  have hD := hD.sub (ws' := [(h, .inr (4, [.null, .null, .null, .null, .ref q_1, .ref q_3, .ref q_5, .ref q_7, .ref q_9, .null, .int 0, .null, .null, .null, .long 0, .int 0, .int 0, .int 0]))]) [0] (by decide) rfl
  refine W.widen (k := 6) (n := 52752) (by omega) (by omega) ?_
  refine va_putF (D := (dC, dI)) (ci := 4) (v := .ref q_11) (ty := (.array .long)) (C := RX4) (T := TX4) (N := 18) hx hb hts in_c_loans_X4 tyX4 tyX4_ok nmX4 hown hK hP hD hS 0 rfl rfl 9 (by decide) (hts (.fieldLink RX4 29 "OwnedPlaces$Loans" "temps" "[J") (wm_c_loans 12 rfl)) (fun _ h9 => h9) rfl hin rfl (by decide +kernel) rfl rfl (Nat.le_of_ble_eq_true rfl) dX4_init_53 (fun H locs hP hD hS => ?_)
  have hP : va_P (dC, dI) vwCl [(h, .inr (4, [.null, .null, .null, .null, .ref q_1, .ref q_3, .ref q_5, .ref q_7, .ref q_9, .ref q_11, .int 0, .null, .null, .null, .long 0, .int 0, .int 0, .int 0]))] H := hP
  have hD : va_D A [(h, .inr (4, [.null, .null, .null, .null, .ref q_1, .ref q_3, .ref q_5, .ref q_7, .ref q_9, .ref q_11, .int 0, .null, .null, .null, .long 0, .int 0, .int 0, .int 0]))] := hD
  refine lv_aload_n hx hb dX4_init_56 rfl (lv_at hl 0 rfl) ?_
  refine lv_bipush (v := 54) hx hb dX4_init_57 (by decide) ?_
  refine va_newa (atype := .int) (a0 := (54, .inl (fun _ => 0))) (ty := .int) hx hb (hts (.arrayClass .int) (wm_c_loans 13 rfl)) rfl hK hP hD hS hA (fun _ => rfl) (by decide) (by decide +kernel) (show 54 * 4 ≤ 536870912 by omega) (show 6 + 1 ≤ 9 by omega) (show 52752 + 54 ≤ 52900 by omega) dX4_init_59 (fun q_13 k_14 H _ hP hD hS => ?_)
  have hP := hP.sub (ws' := [(h, .inr (4, [.null, .null, .null, .null, .ref q_1, .ref q_3, .ref q_5, .ref q_7, .ref q_9, .ref q_11, .int 0, .null, .null, .null, .long 0, .int 0, .int 0, .int 0]))]) [0] rfl
  have hD := hD.sub (ws' := [(h, .inr (4, [.null, .null, .null, .null, .ref q_1, .ref q_3, .ref q_5, .ref q_7, .ref q_9, .ref q_11, .int 0, .null, .null, .null, .long 0, .int 0, .int 0, .int 0]))]) [0] (by decide) rfl
  refine W.widen (k := 7) (n := 52806) (by omega) (by omega) ?_
  refine va_putF (D := (dC, dI)) (ci := 4) (v := .ref q_13) (ty := (.array .int)) (C := RX4) (T := TX4) (N := 18) hx hb hts in_c_loans_X4 tyX4 tyX4_ok nmX4 hown hK hP hD hS 0 rfl rfl 11 (by decide) (hts (.fieldLink RX4 32 "OwnedPlaces$Loans" "placeOf" "[I") (wm_c_loans 14 rfl)) (fun _ h9 => h9) rfl hin rfl (by decide +kernel) rfl rfl (Nat.le_of_ble_eq_true rfl) dX4_init_61 (fun H locs hP hD hS => ?_)
  have hP : va_P (dC, dI) vwCl [(h, .inr (4, [.null, .null, .null, .null, .ref q_1, .ref q_3, .ref q_5, .ref q_7, .ref q_9, .ref q_11, .int 0, .ref q_13, .null, .null, .long 0, .int 0, .int 0, .int 0]))] H := hP
  have hD : va_D A [(h, .inr (4, [.null, .null, .null, .null, .ref q_1, .ref q_3, .ref q_5, .ref q_7, .ref q_9, .ref q_11, .int 0, .ref q_13, .null, .null, .long 0, .int 0, .int 0, .int 0]))] := hD
  refine lv_aload_n hx hb dX4_init_64 rfl (lv_at hl 0 rfl) ?_
  refine lv_bipush (v := 54) hx hb dX4_init_65 (by decide) ?_
  refine va_newa (atype := .long) (a0 := (54, .inr (.inl (fun _ => 0)))) (ty := .long) hx hb (hts (.arrayClass .long) (wm_c_loans 4 rfl)) rfl hK hP hD hS hA (fun _ => rfl) (by decide) (by decide +kernel) (show 54 * 8 ≤ 536870912 by omega) (show 7 + 1 ≤ 9 by omega) (show 52806 + 54 ≤ 52900 by omega) dX4_init_67 (fun q_15 k_16 H _ hP hD hS => ?_)
  have hP := hP.sub (ws' := [(h, .inr (4, [.null, .null, .null, .null, .ref q_1, .ref q_3, .ref q_5, .ref q_7, .ref q_9, .ref q_11, .int 0, .ref q_13, .null, .null, .long 0, .int 0, .int 0, .int 0]))]) [0] rfl
  have hD := hD.sub (ws' := [(h, .inr (4, [.null, .null, .null, .null, .ref q_1, .ref q_3, .ref q_5, .ref q_7, .ref q_9, .ref q_11, .int 0, .ref q_13, .null, .null, .long 0, .int 0, .int 0, .int 0]))]) [0] (by decide) rfl
  refine W.widen (k := 8) (n := 52860) (by omega) (by omega) ?_
  refine va_putF (D := (dC, dI)) (ci := 4) (v := .ref q_15) (ty := (.array .long)) (C := RX4) (T := TX4) (N := 18) hx hb hts in_c_loans_X4 tyX4 tyX4_ok nmX4 hown hK hP hD hS 0 rfl rfl 12 (by decide) (hts (.fieldLink RX4 36 "OwnedPlaces$Loans" "heldByLoan" "[J") (wm_c_loans 15 rfl)) (fun _ h9 => h9) rfl hin rfl (by decide +kernel) rfl rfl (Nat.le_of_ble_eq_true rfl) dX4_init_69 (fun H locs hP hD hS => ?_)
  have hP : va_P (dC, dI) vwCl [(h, .inr (4, [.null, .null, .null, .null, .ref q_1, .ref q_3, .ref q_5, .ref q_7, .ref q_9, .ref q_11, .int 0, .ref q_13, .ref q_15, .null, .long 0, .int 0, .int 0, .int 0]))] H := hP
  have hD : va_D A [(h, .inr (4, [.null, .null, .null, .null, .ref q_1, .ref q_3, .ref q_5, .ref q_7, .ref q_9, .ref q_11, .int 0, .ref q_13, .ref q_15, .null, .long 0, .int 0, .int 0, .int 0]))] := hD
  refine lv_aload_n hx hb dX4_init_72 rfl (lv_at hl 0 rfl) ?_
  refine lv_bipush (v := 40) hx hb dX4_init_73 (by decide) ?_
  refine va_newa (atype := .long) (a0 := (40, .inr (.inl (fun _ => 0)))) (ty := .long) hx hb (hts (.arrayClass .long) (wm_c_loans 4 rfl)) rfl hK hP hD hS hA (fun _ => rfl) (by decide) (by decide +kernel) (show 40 * 8 ≤ 536870912 by omega) (show 8 + 1 ≤ 9 by omega) (show 52860 + 40 ≤ 52900 by omega) dX4_init_75 (fun q_17 k_18 H _ hP hD hS => ?_)
  have hP := hP.sub (ws' := [(h, .inr (4, [.null, .null, .null, .null, .ref q_1, .ref q_3, .ref q_5, .ref q_7, .ref q_9, .ref q_11, .int 0, .ref q_13, .ref q_15, .null, .long 0, .int 0, .int 0, .int 0]))]) [0] rfl
  have hD := hD.sub (ws' := [(h, .inr (4, [.null, .null, .null, .null, .ref q_1, .ref q_3, .ref q_5, .ref q_7, .ref q_9, .ref q_11, .int 0, .ref q_13, .ref q_15, .null, .long 0, .int 0, .int 0, .int 0]))]) [0] (by decide) rfl
  refine W.widen (k := 9) (n := 52900) (by omega) (by omega) ?_
  refine va_putF (D := (dC, dI)) (ci := 4) (v := .ref q_17) (ty := (.array .long)) (C := RX4) (T := TX4) (N := 18) hx hb hts in_c_loans_X4 tyX4 tyX4_ok nmX4 hown hK hP hD hS 0 rfl rfl 13 (by decide) (hts (.fieldLink RX4 39 "OwnedPlaces$Loans" "loansOn" "[J") (wm_c_loans 16 rfl)) (fun _ h9 => h9) rfl hin rfl (by decide +kernel) rfl rfl (Nat.le_of_ble_eq_true rfl) dX4_init_77 (fun H locs hP hD hS => ?_)
  have hP : va_P (dC, dI) vwCl [(h, .inr (4, [.null, .null, .null, .null, .ref q_1, .ref q_3, .ref q_5, .ref q_7, .ref q_9, .ref q_11, .int 0, .ref q_13, .ref q_15, .ref q_17, .long 0, .int 0, .int 0, .int 0]))] H := hP
  have hD : va_D A [(h, .inr (4, [.null, .null, .null, .null, .ref q_1, .ref q_3, .ref q_5, .ref q_7, .ref q_9, .ref q_11, .int 0, .ref q_13, .ref q_15, .ref q_17, .long 0, .int 0, .int 0, .int 0]))] := hD
  refine lv_aload_n hx hb dX4_init_80 rfl (lv_at hl 0 rfl) ?_
  refine lv_aload_n hx hb dX4_init_81 rfl (lv_at hl 1 rfl) ?_
  refine va_putF (D := (dC, dI)) (ci := 4) (v := .ref a0) (ty := (.object "OwnedPlaces$Types")) (C := RX4) (T := TX4) (N := 18) hx hb hts in_c_loans_X4 tyX4 tyX4_ok nmX4 hown hK hP hD hS 0 rfl rfl 0 (by decide) (hts (.fieldLink RX4 42 "OwnedPlaces$Loans" "types" "LOwnedPlaces$Types;") (wm_c_loans 17 rfl)) (fun _ h9 => h9) rfl hin rfl (by decide +kernel) rfl rfl (Nat.le_of_ble_eq_true rfl) dX4_init_82 (fun H locs hP hD hS => ?_)
  have hP : va_P (dC, dI) vwCl [(h, .inr (4, [.ref a0, .null, .null, .null, .ref q_1, .ref q_3, .ref q_5, .ref q_7, .ref q_9, .ref q_11, .int 0, .ref q_13, .ref q_15, .ref q_17, .long 0, .int 0, .int 0, .int 0]))] H := hP
  have hD : va_D A [(h, .inr (4, [.ref a0, .null, .null, .null, .ref q_1, .ref q_3, .ref q_5, .ref q_7, .ref q_9, .ref q_11, .int 0, .ref q_13, .ref q_15, .ref q_17, .long 0, .int 0, .int 0, .int 0]))] := hD
  refine lv_aload_n hx hb dX4_init_85 rfl (lv_at hl 0 rfl) ?_
  refine lv_aload_n hx hb dX4_init_86 rfl (lv_at hl 2 rfl) ?_
  refine va_putF (D := (dC, dI)) (ci := 4) (v := .ref a1) (ty := (.object "OwnedPlaces$Code")) (C := RX4) (T := TX4) (N := 18) hx hb hts in_c_loans_X4 tyX4 tyX4_ok nmX4 hown hK hP hD hS 0 rfl rfl 1 (by decide) (hts (.fieldLink RX4 46 "OwnedPlaces$Loans" "code" "LOwnedPlaces$Code;") (wm_c_loans 18 rfl)) (fun _ h9 => h9) rfl hin rfl (by decide +kernel) rfl rfl (Nat.le_of_ble_eq_true rfl) dX4_init_87 (fun H locs hP hD hS => ?_)
  have hP : va_P (dC, dI) vwCl [(h, .inr (4, [.ref a0, .ref a1, .null, .null, .ref q_1, .ref q_3, .ref q_5, .ref q_7, .ref q_9, .ref q_11, .int 0, .ref q_13, .ref q_15, .ref q_17, .long 0, .int 0, .int 0, .int 0]))] H := hP
  have hD : va_D A [(h, .inr (4, [.ref a0, .ref a1, .null, .null, .ref q_1, .ref q_3, .ref q_5, .ref q_7, .ref q_9, .ref q_11, .int 0, .ref q_13, .ref q_15, .ref q_17, .long 0, .int 0, .int 0, .int 0]))] := hD
  refine lv_aload_n hx hb dX4_init_90 rfl (lv_at hl 0 rfl) ?_
  refine lv_aload_n hx hb dX4_init_91 rfl (lv_at hl 3 rfl) ?_
  refine va_putF (D := (dC, dI)) (ci := 4) (v := .ref a2) (ty := (.object "OwnedPlaces$Declarations")) (C := RX4) (T := TX4) (N := 18) hx hb hts in_c_loans_X4 tyX4 tyX4_ok nmX4 hown hK hP hD hS 0 rfl rfl 2 (by decide) (hts (.fieldLink RX4 50 "OwnedPlaces$Loans" "declared" "LOwnedPlaces$Declarations;") (wm_c_loans 19 rfl)) (fun _ h9 => h9) rfl hin rfl (by decide +kernel) rfl rfl (Nat.le_of_ble_eq_true rfl) dX4_init_92 (fun H locs hP hD hS => ?_)
  have hP : va_P (dC, dI) vwCl [(h, .inr (4, [.ref a0, .ref a1, .ref a2, .null, .ref q_1, .ref q_3, .ref q_5, .ref q_7, .ref q_9, .ref q_11, .int 0, .ref q_13, .ref q_15, .ref q_17, .long 0, .int 0, .int 0, .int 0]))] H := hP
  have hD : va_D A [(h, .inr (4, [.ref a0, .ref a1, .ref a2, .null, .ref q_1, .ref q_3, .ref q_5, .ref q_7, .ref q_9, .ref q_11, .int 0, .ref q_13, .ref q_15, .ref q_17, .long 0, .int 0, .int 0, .int 0]))] := hD
  refine W.widen (k := 9) (n := 52900) (by omega) (by omega) ?_
  exact W.vret hx hb hr (fun tS ht hW => ⟨⟨(), rfl, trivial, trivial⟩, hS.F ht⟩) hS.2.2 dX4_init_95
def wf_c_machine : List Cond := [.code yX5_init cX5_init 7 none, .methodLink RX5 3 objectInit, .instanceMethod objectInit, .code objectInit ⟨#[0xb1]⟩ 1 none, .classLink RX5 9 RX2, .fieldLink RX5 11 "OwnedPlaces$Machine" "callers" "[LOwnedPlaces$Function;", .arrayClass .int, .fieldLink RX5 17 "OwnedPlaces$Machine" "callerNext" "[I", .fieldLink RX5 21 "OwnedPlaces$Machine" "callerBase" "[I", .fieldLink RX5 24 "OwnedPlaces$Machine" "filled" "[I", .fieldLink RX5 27 "OwnedPlaces$Machine" "code" "LOwnedPlaces$Code;", .fieldLink RX5 31 "OwnedPlaces$Machine" "types" "LOwnedPlaces$Types;", .fieldLink RX5 35 "OwnedPlaces$Machine" "declared" "LOwnedPlaces$Declarations;", .fieldLink RX5 39 "OwnedPlaces$Machine" "memory" "LOwnedPlaces$Memory;", .fieldLink RX5 43 "OwnedPlaces$Machine" "numbers" "LOwnedPlaces$Queue;", .fieldLink RX5 47 "OwnedPlaces$Machine" "waiting" "LOwnedPlaces$Queue;"]
def wp_c_machine : List Cond := wf_c_machine ++ (wsX50 ++ [])
theorem in_c_machine_X5 : ∀ w ∈ wsX50, w ∈ wp_c_machine := fun w h => List.mem_append_right _ (List.mem_append_left _ h)
theorem wg_c_machine : wf_c_machine.all goodWord = true := by decide +kernel
theorem wm_c_machine (k : Nat) {w : Cond} (h : wp_c_machine[k]? = some w) : w ∈ wp_c_machine := List.mem_of_getElem? h
set_option maxHeartbeats 4000000 in
set_option maxRecDepth 100000 in
theorem c_machine (l : Launch) (dC : Nat → ClassId) (dI : Nat → Nat → Nat) (h a0 a1 a2 a3 a4 a5 : Nat) (sz : Nat) : Met l yX5_init wp_c_machine ({ frames := 1, cells := 4, slots := 2580, locals := 12 }) (va_Pc [.ref h, .ref a0, .ref a1, .ref a2, .ref a3, .ref a4, .ref a5] (fun U => U.heap.size = sz ∧ va_P (dC, dI) vwCl [(h, .inr (5, [.null, .null, .null, .null, .null, .null, .int 0, .int 0, .int 0, .int 0, .int 0, .int 0, .int 0, .null, .null, .null, .null, .null, .int 0]))] U.heap ∧ va_K (dC, dI) vwCl [] U ∧ va_D (fun _ => True) [(h, .inr (5, [.null, .null, .null, .null, .null, .null, .int 0, .int 0, .int 0, .int 0, .int 0, .int 0, .int 0, .null, .null, .null, .null, .null, .int 0]))] ∧ va_AO RX2 U)) (va_Qv (fun _ : Unit => True) (fun (_ : Unit) (_ : State) => True) (va_A [(h, .inr (5, [.null, .null, .null, .null, .null, .null, .int 0, .int 0, .int 0, .int 0, .int 0, .int 0, .int 0, .null, .null, .null, .null, .null, .int 0]))] sz)) 4 2580 (va_A [(h, .inr (5, [.null, .null, .null, .null, .null, .null, .int 0, .int 0, .int 0, .int 0, .int 0, .int 0, .int 0, .null, .null, .null, .null, .null, .int 0]))] sz) := by
  refine Met.ofW (cc := cX5_init) (maxL := 7) (ret := none) (by decide) rfl ?_
  intro p e s m args below meth c s₁ B hml hv
  obtain ⟨rfl, hsz, hP, hK, hD0, hpre0⟩ := hv
  have hx := B.exec
  have hb := B.bytes
  have hr := B.returns
  have hts := atoms_spec (ws := wp_c_machine) B.pre
  have hown : s.vm.findClass RX5 = some m.cls := findClass_of_methodNamed B.named
  have hlocks := B.notSynchronized
  have hin : meth.name = "<init>" := (name_of_methodNamed B.named B.method).1
  subst hsz
  have hD := hD0.self (sz := s.heap.size)
  generalize hAe : va_A [(h, .inr (5, [.null, .null, .null, .null, .null, .null, .int 0, .int 0, .int 0, .int 0, .int 0, .int 0, .int 0, .null, .null, .null, .null, .null, .int 0]))] s.heap.size = A at hD ⊢
  have hA : ∀ q : Nat, s.heap.size ≤ q → A q := fun q h => by rw [← hAe]; exact Or.inr h
  have hS : va_S A s.heap s.heap [] := va_S.rf
  have hP : va_P (dC, dI) vwCl [(h, .inr (5, [.null, .null, .null, .null, .null, .null, .int 0, .int 0, .int 0, .int 0, .int 0, .int 0, .int 0, .null, .null, .null, .null, .null, .int 0]))] s.heap := hP
  have hl := lv_entry ([.ref h, .ref a0, .ref a1, .ref a2, .ref a3, .ref a4, .ref a5]) (n := 7) (Nat.le_of_ble_eq_true rfl)
  rw [lg_entry_eq]
  generalize (lg_sl ([.ref h, .ref a0, .ref a1, .ref a2, .ref a3, .ref a4, .ref a5]) ++ List.replicate (7 - (lg_sl ([.ref h, .ref a0, .ref a1, .ref a2, .ref a3, .ref a4, .ref a5])).length) Slot.unset).toArray = ls at hl ⊢
  have hl : lv_has ls 7 [(0, .ref h), (1, .ref a0), (2, .ref a1), (3, .ref a2), (4, .ref a3), (5, .ref a4), (6, .ref a5)] := hl
  refine lv_aload_n hx hb dX5_init_0 rfl (lv_at hl 0 rfl) ?_
  refine W.objInit hx hb hown (hts (.methodLink RX5 3 objectInit) (wm_c_machine 1 rfl)) (hts (.instanceMethod objectInit) (wm_c_machine 2 rfl)) (hts (.code objectInit ⟨#[0xb1]⟩ 1 none) (wm_c_machine 3 rfl)) rfl (by rw [hml]; exact hl.1) rfl dX5_init_1 (Nat.le_of_ble_eq_true rfl) (Nat.le_of_ble_eq_true rfl) ?_
  refine W.eq (g2 := F0 m 4 ls []) rfl ?_
  refine lv_aload_n hx hb dX5_init_4 rfl (lv_at hl 0 rfl) ?_
  refine lv_bipush (v := 60) hx hb dX5_init_5 (by decide) ?_
  refine va_newq (C := RX2) hx hb hown (hts (.classLink RX5 9 RX2) (wm_c_machine 4 rfl)) hpre0 hK hP hD hS hA (by decide) (by decide +kernel) (show 60 * 4 ≤ 536870912 by omega) (show 0 + 1 ≤ 4 by omega) (show 0 + 60 ≤ 2580 by omega) dX5_init_7 (fun q_1 k_2 H _ hP hD hS => ?_)
  have hP := hP.sub (ws' := [(h, .inr (5, [.null, .null, .null, .null, .null, .null, .int 0, .int 0, .int 0, .int 0, .int 0, .int 0, .int 0, .null, .null, .null, .null, .null, .int 0]))]) [0] rfl
  have hD := hD.sub (ws' := [(h, .inr (5, [.null, .null, .null, .null, .null, .null, .int 0, .int 0, .int 0, .int 0, .int 0, .int 0, .int 0, .null, .null, .null, .null, .null, .int 0]))]) [0] (by decide) rfl
  refine W.widen (k := 1) (n := 60) (by omega) (by omega) ?_
  refine va_putF (D := (dC, dI)) (ci := 5) (v := .ref q_1) (ty := (.array (.object "OwnedPlaces$Function"))) (C := RX5) (T := TX5) (N := 19) hx hb hts in_c_machine_X5 tyX5 tyX5_ok nmX5 hown hK hP hD hS 0 rfl rfl 14 (by decide) (hts (.fieldLink RX5 11 "OwnedPlaces$Machine" "callers" "[LOwnedPlaces$Function;") (wm_c_machine 5 rfl)) (fun _ h9 => h9) rfl hin rfl (by decide +kernel) rfl rfl (Nat.le_of_ble_eq_true rfl) dX5_init_10 (fun H locs hP hD hS => ?_)
  have hP : va_P (dC, dI) vwCl [(h, .inr (5, [.null, .null, .null, .null, .null, .null, .int 0, .int 0, .int 0, .int 0, .int 0, .int 0, .int 0, .null, .ref q_1, .null, .null, .null, .int 0]))] H := hP
  have hD : va_D A [(h, .inr (5, [.null, .null, .null, .null, .null, .null, .int 0, .int 0, .int 0, .int 0, .int 0, .int 0, .int 0, .null, .ref q_1, .null, .null, .null, .int 0]))] := hD
  refine lv_aload_n hx hb dX5_init_13 rfl (lv_at hl 0 rfl) ?_
  refine lv_bipush (v := 60) hx hb dX5_init_14 (by decide) ?_
  refine va_newa (atype := .int) (a0 := (60, .inl (fun _ => 0))) (ty := .int) hx hb (hts (.arrayClass .int) (wm_c_machine 6 rfl)) rfl hK hP hD hS hA (fun _ => rfl) (by decide) (by decide +kernel) (show 60 * 4 ≤ 536870912 by omega) (show 1 + 1 ≤ 4 by omega) (show 60 + 60 ≤ 2580 by omega) dX5_init_16 (fun q_3 k_4 H _ hP hD hS => ?_)
  have hP := hP.sub (ws' := [(h, .inr (5, [.null, .null, .null, .null, .null, .null, .int 0, .int 0, .int 0, .int 0, .int 0, .int 0, .int 0, .null, .ref q_1, .null, .null, .null, .int 0]))]) [0] rfl
  have hD := hD.sub (ws' := [(h, .inr (5, [.null, .null, .null, .null, .null, .null, .int 0, .int 0, .int 0, .int 0, .int 0, .int 0, .int 0, .null, .ref q_1, .null, .null, .null, .int 0]))]) [0] (by decide) rfl
  refine W.widen (k := 2) (n := 120) (by omega) (by omega) ?_
  refine va_putF (D := (dC, dI)) (ci := 5) (v := .ref q_3) (ty := (.array .int)) (C := RX5) (T := TX5) (N := 19) hx hb hts in_c_machine_X5 tyX5 tyX5_ok nmX5 hown hK hP hD hS 0 rfl rfl 15 (by decide) (hts (.fieldLink RX5 17 "OwnedPlaces$Machine" "callerNext" "[I") (wm_c_machine 7 rfl)) (fun _ h9 => h9) rfl hin rfl (by decide +kernel) rfl rfl (Nat.le_of_ble_eq_true rfl) dX5_init_18 (fun H locs hP hD hS => ?_)
  have hP : va_P (dC, dI) vwCl [(h, .inr (5, [.null, .null, .null, .null, .null, .null, .int 0, .int 0, .int 0, .int 0, .int 0, .int 0, .int 0, .null, .ref q_1, .ref q_3, .null, .null, .int 0]))] H := hP
  have hD : va_D A [(h, .inr (5, [.null, .null, .null, .null, .null, .null, .int 0, .int 0, .int 0, .int 0, .int 0, .int 0, .int 0, .null, .ref q_1, .ref q_3, .null, .null, .int 0]))] := hD
  refine lv_aload_n hx hb dX5_init_21 rfl (lv_at hl 0 rfl) ?_
  refine lv_bipush (v := 60) hx hb dX5_init_22 (by decide) ?_
  refine va_newa (atype := .int) (a0 := (60, .inl (fun _ => 0))) (ty := .int) hx hb (hts (.arrayClass .int) (wm_c_machine 6 rfl)) rfl hK hP hD hS hA (fun _ => rfl) (by decide) (by decide +kernel) (show 60 * 4 ≤ 536870912 by omega) (show 2 + 1 ≤ 4 by omega) (show 120 + 60 ≤ 2580 by omega) dX5_init_24 (fun q_5 k_6 H _ hP hD hS => ?_)
  have hP := hP.sub (ws' := [(h, .inr (5, [.null, .null, .null, .null, .null, .null, .int 0, .int 0, .int 0, .int 0, .int 0, .int 0, .int 0, .null, .ref q_1, .ref q_3, .null, .null, .int 0]))]) [0] rfl
  have hD := hD.sub (ws' := [(h, .inr (5, [.null, .null, .null, .null, .null, .null, .int 0, .int 0, .int 0, .int 0, .int 0, .int 0, .int 0, .null, .ref q_1, .ref q_3, .null, .null, .int 0]))]) [0] (by decide) rfl
  refine W.widen (k := 3) (n := 180) (by omega) (by omega) ?_
  refine va_putF (D := (dC, dI)) (ci := 5) (v := .ref q_5) (ty := (.array .int)) (C := RX5) (T := TX5) (N := 19) hx hb hts in_c_machine_X5 tyX5 tyX5_ok nmX5 hown hK hP hD hS 0 rfl rfl 16 (by decide) (hts (.fieldLink RX5 21 "OwnedPlaces$Machine" "callerBase" "[I") (wm_c_machine 8 rfl)) (fun _ h9 => h9) rfl hin rfl (by decide +kernel) rfl rfl (Nat.le_of_ble_eq_true rfl) dX5_init_26 (fun H locs hP hD hS => ?_)
  have hP : va_P (dC, dI) vwCl [(h, .inr (5, [.null, .null, .null, .null, .null, .null, .int 0, .int 0, .int 0, .int 0, .int 0, .int 0, .int 0, .null, .ref q_1, .ref q_3, .ref q_5, .null, .int 0]))] H := hP
  have hD : va_D A [(h, .inr (5, [.null, .null, .null, .null, .null, .null, .int 0, .int 0, .int 0, .int 0, .int 0, .int 0, .int 0, .null, .ref q_1, .ref q_3, .ref q_5, .null, .int 0]))] := hD
  refine lv_aload_n hx hb dX5_init_29 rfl (lv_at hl 0 rfl) ?_
  refine lv_sipush (v := 2400) hx hb dX5_init_30 (by decide) ?_
  refine va_newa (atype := .int) (a0 := (2400, .inl (fun _ => 0))) (ty := .int) hx hb (hts (.arrayClass .int) (wm_c_machine 6 rfl)) rfl hK hP hD hS hA (fun _ => rfl) (by decide) (by decide +kernel) (show 2400 * 4 ≤ 536870912 by omega) (show 3 + 1 ≤ 4 by omega) (show 180 + 2400 ≤ 2580 by omega) dX5_init_33 (fun q_7 k_8 H _ hP hD hS => ?_)
  have hP := hP.sub (ws' := [(h, .inr (5, [.null, .null, .null, .null, .null, .null, .int 0, .int 0, .int 0, .int 0, .int 0, .int 0, .int 0, .null, .ref q_1, .ref q_3, .ref q_5, .null, .int 0]))]) [0] rfl
  have hD := hD.sub (ws' := [(h, .inr (5, [.null, .null, .null, .null, .null, .null, .int 0, .int 0, .int 0, .int 0, .int 0, .int 0, .int 0, .null, .ref q_1, .ref q_3, .ref q_5, .null, .int 0]))]) [0] (by decide) rfl
  refine W.widen (k := 4) (n := 2580) (by omega) (by omega) ?_
  refine va_putF (D := (dC, dI)) (ci := 5) (v := .ref q_7) (ty := (.array .int)) (C := RX5) (T := TX5) (N := 19) hx hb hts in_c_machine_X5 tyX5 tyX5_ok nmX5 hown hK hP hD hS 0 rfl rfl 17 (by decide) (hts (.fieldLink RX5 24 "OwnedPlaces$Machine" "filled" "[I") (wm_c_machine 9 rfl)) (fun _ h9 => h9) rfl hin rfl (by decide +kernel) rfl rfl (Nat.le_of_ble_eq_true rfl) dX5_init_35 (fun H locs hP hD hS => ?_)
  have hP : va_P (dC, dI) vwCl [(h, .inr (5, [.null, .null, .null, .null, .null, .null, .int 0, .int 0, .int 0, .int 0, .int 0, .int 0, .int 0, .null, .ref q_1, .ref q_3, .ref q_5, .ref q_7, .int 0]))] H := hP
  have hD : va_D A [(h, .inr (5, [.null, .null, .null, .null, .null, .null, .int 0, .int 0, .int 0, .int 0, .int 0, .int 0, .int 0, .null, .ref q_1, .ref q_3, .ref q_5, .ref q_7, .int 0]))] := hD
  refine lv_aload_n hx hb dX5_init_38 rfl (lv_at hl 0 rfl) ?_
  refine lv_aload_n hx hb dX5_init_39 rfl (lv_at hl 1 rfl) ?_
  refine va_putF (D := (dC, dI)) (ci := 5) (v := .ref a0) (ty := (.object "OwnedPlaces$Code")) (C := RX5) (T := TX5) (N := 19) hx hb hts in_c_machine_X5 tyX5 tyX5_ok nmX5 hown hK hP hD hS 0 rfl rfl 0 (by decide) (hts (.fieldLink RX5 27 "OwnedPlaces$Machine" "code" "LOwnedPlaces$Code;") (wm_c_machine 10 rfl)) (fun _ h9 => h9) rfl hin rfl (by decide +kernel) rfl rfl (Nat.le_of_ble_eq_true rfl) dX5_init_40 (fun H locs hP hD hS => ?_)
  have hP : va_P (dC, dI) vwCl [(h, .inr (5, [.ref a0, .null, .null, .null, .null, .null, .int 0, .int 0, .int 0, .int 0, .int 0, .int 0, .int 0, .null, .ref q_1, .ref q_3, .ref q_5, .ref q_7, .int 0]))] H := hP
  have hD : va_D A [(h, .inr (5, [.ref a0, .null, .null, .null, .null, .null, .int 0, .int 0, .int 0, .int 0, .int 0, .int 0, .int 0, .null, .ref q_1, .ref q_3, .ref q_5, .ref q_7, .int 0]))] := hD
  refine lv_aload_n hx hb dX5_init_43 rfl (lv_at hl 0 rfl) ?_
  refine lv_aload_n hx hb dX5_init_44 rfl (lv_at hl 2 rfl) ?_
  refine va_putF (D := (dC, dI)) (ci := 5) (v := .ref a1) (ty := (.object "OwnedPlaces$Types")) (C := RX5) (T := TX5) (N := 19) hx hb hts in_c_machine_X5 tyX5 tyX5_ok nmX5 hown hK hP hD hS 0 rfl rfl 1 (by decide) (hts (.fieldLink RX5 31 "OwnedPlaces$Machine" "types" "LOwnedPlaces$Types;") (wm_c_machine 11 rfl)) (fun _ h9 => h9) rfl hin rfl (by decide +kernel) rfl rfl (Nat.le_of_ble_eq_true rfl) dX5_init_45 (fun H locs hP hD hS => ?_)
  have hP : va_P (dC, dI) vwCl [(h, .inr (5, [.ref a0, .ref a1, .null, .null, .null, .null, .int 0, .int 0, .int 0, .int 0, .int 0, .int 0, .int 0, .null, .ref q_1, .ref q_3, .ref q_5, .ref q_7, .int 0]))] H := hP
  have hD : va_D A [(h, .inr (5, [.ref a0, .ref a1, .null, .null, .null, .null, .int 0, .int 0, .int 0, .int 0, .int 0, .int 0, .int 0, .null, .ref q_1, .ref q_3, .ref q_5, .ref q_7, .int 0]))] := hD
  refine lv_aload_n hx hb dX5_init_48 rfl (lv_at hl 0 rfl) ?_
  refine lv_aload_n hx hb dX5_init_49 rfl (lv_at hl 3 rfl) ?_
  refine va_putF (D := (dC, dI)) (ci := 5) (v := .ref a2) (ty := (.object "OwnedPlaces$Declarations")) (C := RX5) (T := TX5) (N := 19) hx hb hts in_c_machine_X5 tyX5 tyX5_ok nmX5 hown hK hP hD hS 0 rfl rfl 2 (by decide) (hts (.fieldLink RX5 35 "OwnedPlaces$Machine" "declared" "LOwnedPlaces$Declarations;") (wm_c_machine 12 rfl)) (fun _ h9 => h9) rfl hin rfl (by decide +kernel) rfl rfl (Nat.le_of_ble_eq_true rfl) dX5_init_50 (fun H locs hP hD hS => ?_)
  have hP : va_P (dC, dI) vwCl [(h, .inr (5, [.ref a0, .ref a1, .ref a2, .null, .null, .null, .int 0, .int 0, .int 0, .int 0, .int 0, .int 0, .int 0, .null, .ref q_1, .ref q_3, .ref q_5, .ref q_7, .int 0]))] H := hP
  have hD : va_D A [(h, .inr (5, [.ref a0, .ref a1, .ref a2, .null, .null, .null, .int 0, .int 0, .int 0, .int 0, .int 0, .int 0, .int 0, .null, .ref q_1, .ref q_3, .ref q_5, .ref q_7, .int 0]))] := hD
  refine lv_aload_n hx hb dX5_init_53 rfl (lv_at hl 0 rfl) ?_
  refine lv_aload hx hb dX5_init_54 (lv_at hl 4 rfl) ?_
  refine va_putF (D := (dC, dI)) (ci := 5) (v := .ref a3) (ty := (.object "OwnedPlaces$Memory")) (C := RX5) (T := TX5) (N := 19) hx hb hts in_c_machine_X5 tyX5 tyX5_ok nmX5 hown hK hP hD hS 0 rfl rfl 3 (by decide) (hts (.fieldLink RX5 39 "OwnedPlaces$Machine" "memory" "LOwnedPlaces$Memory;") (wm_c_machine 13 rfl)) (fun _ h9 => h9) rfl hin rfl (by decide +kernel) rfl rfl (Nat.le_of_ble_eq_true rfl) dX5_init_56 (fun H locs hP hD hS => ?_)
  have hP : va_P (dC, dI) vwCl [(h, .inr (5, [.ref a0, .ref a1, .ref a2, .ref a3, .null, .null, .int 0, .int 0, .int 0, .int 0, .int 0, .int 0, .int 0, .null, .ref q_1, .ref q_3, .ref q_5, .ref q_7, .int 0]))] H := hP
  have hD : va_D A [(h, .inr (5, [.ref a0, .ref a1, .ref a2, .ref a3, .null, .null, .int 0, .int 0, .int 0, .int 0, .int 0, .int 0, .int 0, .null, .ref q_1, .ref q_3, .ref q_5, .ref q_7, .int 0]))] := hD
  refine lv_aload_n hx hb dX5_init_59 rfl (lv_at hl 0 rfl) ?_
  refine lv_aload hx hb dX5_init_60 (lv_at hl 5 rfl) ?_
  refine va_putF (D := (dC, dI)) (ci := 5) (v := .ref a4) (ty := (.object "OwnedPlaces$Queue")) (C := RX5) (T := TX5) (N := 19) hx hb hts in_c_machine_X5 tyX5 tyX5_ok nmX5 hown hK hP hD hS 0 rfl rfl 4 (by decide) (hts (.fieldLink RX5 43 "OwnedPlaces$Machine" "numbers" "LOwnedPlaces$Queue;") (wm_c_machine 14 rfl)) (fun _ h9 => h9) rfl hin rfl (by decide +kernel) rfl rfl (Nat.le_of_ble_eq_true rfl) dX5_init_62 (fun H locs hP hD hS => ?_)
  have hP : va_P (dC, dI) vwCl [(h, .inr (5, [.ref a0, .ref a1, .ref a2, .ref a3, .ref a4, .null, .int 0, .int 0, .int 0, .int 0, .int 0, .int 0, .int 0, .null, .ref q_1, .ref q_3, .ref q_5, .ref q_7, .int 0]))] H := hP
  have hD : va_D A [(h, .inr (5, [.ref a0, .ref a1, .ref a2, .ref a3, .ref a4, .null, .int 0, .int 0, .int 0, .int 0, .int 0, .int 0, .int 0, .null, .ref q_1, .ref q_3, .ref q_5, .ref q_7, .int 0]))] := hD
  refine lv_aload_n hx hb dX5_init_65 rfl (lv_at hl 0 rfl) ?_
  refine lv_aload hx hb dX5_init_66 (lv_at hl 6 rfl) ?_
  refine va_putF (D := (dC, dI)) (ci := 5) (v := .ref a5) (ty := (.object "OwnedPlaces$Queue")) (C := RX5) (T := TX5) (N := 19) hx hb hts in_c_machine_X5 tyX5 tyX5_ok nmX5 hown hK hP hD hS 0 rfl rfl 5 (by decide) (hts (.fieldLink RX5 47 "OwnedPlaces$Machine" "waiting" "LOwnedPlaces$Queue;") (wm_c_machine 15 rfl)) (fun _ h9 => h9) rfl hin rfl (by decide +kernel) rfl rfl (Nat.le_of_ble_eq_true rfl) dX5_init_68 (fun H locs hP hD hS => ?_)
  have hP : va_P (dC, dI) vwCl [(h, .inr (5, [.ref a0, .ref a1, .ref a2, .ref a3, .ref a4, .ref a5, .int 0, .int 0, .int 0, .int 0, .int 0, .int 0, .int 0, .null, .ref q_1, .ref q_3, .ref q_5, .ref q_7, .int 0]))] H := hP
  have hD : va_D A [(h, .inr (5, [.ref a0, .ref a1, .ref a2, .ref a3, .ref a4, .ref a5, .int 0, .int 0, .int 0, .int 0, .int 0, .int 0, .int 0, .null, .ref q_1, .ref q_3, .ref q_5, .ref q_7, .int 0]))] := hD
  refine W.widen (k := 4) (n := 2580) (by omega) (by omega) ?_
  exact W.vret hx hb hr (fun tS ht hW => ⟨⟨(), rfl, trivial, trivial⟩, hS.F ht⟩) hS.2.2 dX5_init_71
def wf_c_q60 : List Cond := [.code yX8_init cX8_init 2 none, .methodLink RX8 1 objectInit, .instanceMethod objectInit, .code objectInit ⟨#[0xb1]⟩ 1 none, .arrayClass .byte, .fieldLink RX8 7 "OwnedPlaces$Queue" "digits" "[B", .arrayClass .long, .fieldLink RX8 13 "OwnedPlaces$Queue" "row" "[J"]
def wp_c_q60 : List Cond := wf_c_q60 ++ (wsX80 ++ [])
theorem in_c_q60_X8 : ∀ w ∈ wsX80, w ∈ wp_c_q60 := fun w h => List.mem_append_right _ (List.mem_append_left _ h)
theorem wg_c_q60 : wf_c_q60.all goodWord = true := by decide +kernel
theorem wm_c_q60 (k : Nat) {w : Cond} (h : wp_c_q60[k]? = some w) : w ∈ wp_c_q60 := List.mem_of_getElem? h
set_option maxHeartbeats 4000000 in
set_option maxRecDepth 100000 in
theorem c_q60 (l : Launch) (dC : Nat → ClassId) (dI : Nat → Nat → Nat) (h : Nat) (sz : Nat) : Met l yX8_init wp_c_q60 ({ frames := 1, cells := 2, slots := 80, locals := 12 }) (va_Pc [.ref h, .int 60] (fun U => U.heap.size = sz ∧ va_P (dC, dI) vwCl [(h, .inr (8, [.null, .null, .int 0, .int 0]))] U.heap ∧ va_K (dC, dI) vwCl [] U ∧ va_D (fun _ => True) [(h, .inr (8, [.null, .null, .int 0, .int 0]))])) (va_Qv (fun _ : Unit => True) (fun (_ : Unit) (tS : State) => ∃ (qr : Nat) (qd : Nat) (kL : ClassId), va_P (dC, dI) vwCl [(h, .inr (8, [.ref qr, .ref qd, .int 0, .int 0])), (qr, .inl (kL, 60, .inr (.inl (fun _ => 0))))] tS.heap ∧ va_K (dC, dI) vwCl [(kL, .long)] tS ∧ va_D (va_A [(h, .inr (8, [.null, .null, .int 0, .int 0]))] sz) [(h, .inr (8, [.ref qr, .ref qd, .int 0, .int 0])), (qr, .inl (kL, 60, .inr (.inl (fun _ => 0))))]) (va_A [(h, .inr (8, [.null, .null, .int 0, .int 0]))] sz)) 2 80 (va_A [(h, .inr (8, [.null, .null, .int 0, .int 0]))] sz) := by
  refine Met.ofW (cc := cX8_init) (maxL := 2) (ret := none) (by decide) rfl ?_
  intro p e s m args below meth c s₁ B hml hv
  obtain ⟨rfl, hsz, hP, hK, hD0⟩ := hv
  have hx := B.exec
  have hb := B.bytes
  have hr := B.returns
  have hts := atoms_spec (ws := wp_c_q60) B.pre
  have hown : s.vm.findClass RX8 = some m.cls := findClass_of_methodNamed B.named
  have hlocks := B.notSynchronized
  have hin : meth.name = "<init>" := (name_of_methodNamed B.named B.method).1
  subst hsz
  have hD := hD0.self (sz := s.heap.size)
  generalize hAe : va_A [(h, .inr (8, [.null, .null, .int 0, .int 0]))] s.heap.size = A at hD ⊢
  have hA : ∀ q : Nat, s.heap.size ≤ q → A q := fun q h => by rw [← hAe]; exact Or.inr h
  have hS : va_S A s.heap s.heap [] := va_S.rf
  have hP : va_P (dC, dI) vwCl [(h, .inr (8, [.null, .null, .int 0, .int 0]))] s.heap := hP
  have hl := lv_entry ([.ref h, .int 60]) (n := 2) (Nat.le_of_ble_eq_true rfl)
  rw [lg_entry_eq]
  generalize (lg_sl ([.ref h, .int 60]) ++ List.replicate (2 - (lg_sl ([.ref h, .int 60])).length) Slot.unset).toArray = ls at hl ⊢
  have hl : lv_has ls 2 [(0, .ref h), (1, .int 60)] := hl
  refine lv_aload_n hx hb dX8_init_0 rfl (lv_at hl 0 rfl) ?_
  refine W.objInit hx hb hown (hts (.methodLink RX8 1 objectInit) (wm_c_q60 1 rfl)) (hts (.instanceMethod objectInit) (wm_c_q60 2 rfl)) (hts (.code objectInit ⟨#[0xb1]⟩ 1 none) (wm_c_q60 3 rfl)) rfl (by rw [hml]; exact hl.1) rfl dX8_init_1 (Nat.le_of_ble_eq_true rfl) (Nat.le_of_ble_eq_true rfl) ?_
  refine W.eq (g2 := F0 m 4 ls []) rfl ?_
  refine lv_aload_n hx hb dX8_init_4 rfl (lv_at hl 0 rfl) ?_
  refine lv_bipush (v := 20) hx hb dX8_init_5 (by decide) ?_
  refine va_newa (atype := .byte) (a0 := (20, .inl (fun _ => 0))) (ty := .byte) hx hb (hts (.arrayClass .byte) (wm_c_q60 4 rfl)) rfl hK hP hD hS hA (fun _ => rfl) (by decide) (by decide +kernel) (show 20 * 1 ≤ 536870912 by omega) (show 0 + 1 ≤ 2 by omega) (show 0 + 20 ≤ 80 by omega) dX8_init_7 (fun q_1 k_2 H hK hP hD hS => ?_)
  have hP : va_P (dC, dI) vwCl [(h, .inr (8, [.null, .null, .int 0, .int 0])), (q_1, .inl (k_2, 20, .inl (fun _ => 0)))] H := hP
  have hD : va_D A [(h, .inr (8, [.null, .null, .int 0, .int 0])), (q_1, .inl (k_2, 20, .inl (fun _ => 0)))] := hD
  have hK : va_K (dC, dI) vwCl [(k_2, .byte)] s := hK
  refine W.widen (k := 1) (n := 20) (by omega) (by omega) ?_
  refine va_putF (D := (dC, dI)) (ci := 8) (v := .ref q_1) (ty := (.array .byte)) (C := RX8) (T := TX8) (N := 4) hx hb hts in_c_q60_X8 tyX8 tyX8_ok nmX8 hown hK hP hD hS 0 rfl rfl 1 (by decide) (hts (.fieldLink RX8 7 "OwnedPlaces$Queue" "digits" "[B") (wm_c_q60 5 rfl)) (fun _ h9 => h9) rfl hin rfl (by decide +kernel) rfl rfl (Nat.le_of_ble_eq_true rfl) dX8_init_9 (fun H locs hP hD hS => ?_)
  have hP : va_P (dC, dI) vwCl [(h, .inr (8, [.null, .ref q_1, .int 0, .int 0])), (q_1, .inl (k_2, 20, .inl (fun _ => 0)))] H := hP
  have hD : va_D A [(h, .inr (8, [.null, .ref q_1, .int 0, .int 0])), (q_1, .inl (k_2, 20, .inl (fun _ => 0)))] := hD
  refine lv_aload_n hx hb dX8_init_12 rfl (lv_at hl 0 rfl) ?_
  refine lv_iload_n hx hb dX8_init_13 rfl (lv_at hl 1 rfl) ?_
  refine va_newa (atype := .long) (a0 := (60, .inr (.inl (fun _ => 0)))) (ty := .long) hx hb (hts (.arrayClass .long) (wm_c_q60 6 rfl)) rfl hK hP hD hS hA (fun _ => rfl) (by decide) (by decide +kernel) (show 60 * 8 ≤ 536870912 by omega) (show 1 + 1 ≤ 2 by omega) (show 20 + 60 ≤ 80 by omega) dX8_init_14 (fun q_3 k_4 H hK hP hD hS => ?_)
  have hP : va_P (dC, dI) vwCl [(h, .inr (8, [.null, .ref q_1, .int 0, .int 0])), (q_1, .inl (k_2, 20, .inl (fun _ => 0))), (q_3, .inl (k_4, 60, .inr (.inl (fun _ => 0))))] H := hP
  have hD : va_D A [(h, .inr (8, [.null, .ref q_1, .int 0, .int 0])), (q_1, .inl (k_2, 20, .inl (fun _ => 0))), (q_3, .inl (k_4, 60, .inr (.inl (fun _ => 0))))] := hD
  have hK : va_K (dC, dI) vwCl [(k_2, .byte), (k_4, .long)] s := hK
  refine W.widen (k := 2) (n := 80) (by omega) (by omega) ?_
  refine va_putF (D := (dC, dI)) (ci := 8) (v := .ref q_3) (ty := (.array .long)) (C := RX8) (T := TX8) (N := 4) hx hb hts in_c_q60_X8 tyX8 tyX8_ok nmX8 hown hK hP hD hS 0 rfl rfl 0 (by decide) (hts (.fieldLink RX8 13 "OwnedPlaces$Queue" "row" "[J") (wm_c_q60 7 rfl)) (fun _ h9 => h9) rfl hin rfl (by decide +kernel) rfl rfl (Nat.le_of_ble_eq_true rfl) dX8_init_16 (fun H locs hP hD hS => ?_)
  have hP : va_P (dC, dI) vwCl [(h, .inr (8, [.ref q_3, .ref q_1, .int 0, .int 0])), (q_1, .inl (k_2, 20, .inl (fun _ => 0))), (q_3, .inl (k_4, 60, .inr (.inl (fun _ => 0))))] H := hP
  have hD : va_D A [(h, .inr (8, [.ref q_3, .ref q_1, .int 0, .int 0])), (q_1, .inl (k_2, 20, .inl (fun _ => 0))), (q_3, .inl (k_4, 60, .inr (.inl (fun _ => 0))))] := hD
  have hP9 := hP.sub (ws' := [(h, .inr (8, [.ref q_3, .ref q_1, .int 0, .int 0])), (q_3, .inl (k_4, 60, .inr (.inl (fun _ => 0))))]) [0, 2] rfl
  have hD9 := hD.sub (ws' := [(h, .inr (8, [.ref q_3, .ref q_1, .int 0, .int 0])), (q_3, .inl (k_4, 60, .inr (.inl (fun _ => 0))))]) [0, 2] (by decide) rfl
  have hK9 := hK.sub (tys' := [(k_4, .long)]) [1] rfl
  refine W.widen (k := 2) (n := 80) (by omega) (by omega) ?_
  exact W.vret hx hb hr (fun tS ht hW => ⟨⟨(), rfl, trivial, q_3, q_1, k_4, by rw [ht]; exact hP9, va_K.moved hW.alike hK9, hD9⟩, hS.F ht⟩) hS.2.2 dX8_init_19
def wf_c_q4000 : List Cond := [.code yX8_init cX8_init 2 none, .methodLink RX8 1 objectInit, .instanceMethod objectInit, .code objectInit ⟨#[0xb1]⟩ 1 none, .arrayClass .byte, .fieldLink RX8 7 "OwnedPlaces$Queue" "digits" "[B", .arrayClass .long, .fieldLink RX8 13 "OwnedPlaces$Queue" "row" "[J"]
def wp_c_q4000 : List Cond := wf_c_q4000 ++ (wsX80 ++ [])
theorem in_c_q4000_X8 : ∀ w ∈ wsX80, w ∈ wp_c_q4000 := fun w h => List.mem_append_right _ (List.mem_append_left _ h)
theorem wg_c_q4000 : wf_c_q4000.all goodWord = true := by decide +kernel
theorem wm_c_q4000 (k : Nat) {w : Cond} (h : wp_c_q4000[k]? = some w) : w ∈ wp_c_q4000 := List.mem_of_getElem? h
set_option maxHeartbeats 4000000 in
set_option maxRecDepth 100000 in
theorem c_q4000 (l : Launch) (dC : Nat → ClassId) (dI : Nat → Nat → Nat) (h : Nat) (sz : Nat) : Met l yX8_init wp_c_q4000 ({ frames := 1, cells := 2, slots := 4020, locals := 12 }) (va_Pc [.ref h, .int 4000] (fun U => U.heap.size = sz ∧ va_P (dC, dI) vwCl [(h, .inr (8, [.null, .null, .int 0, .int 0]))] U.heap ∧ va_K (dC, dI) vwCl [] U ∧ va_D (fun _ => True) [(h, .inr (8, [.null, .null, .int 0, .int 0]))])) (va_Qv (fun _ : Unit => True) (fun (_ : Unit) (tS : State) => ∃ (qr : Nat) (qd : Nat), va_P (dC, dI) vwCl [(h, .inr (8, [.ref qr, .ref qd, .int 0, .int 0]))] tS.heap ∧ va_K (dC, dI) vwCl [] tS ∧ va_D (va_A [(h, .inr (8, [.null, .null, .int 0, .int 0]))] sz) [(h, .inr (8, [.ref qr, .ref qd, .int 0, .int 0]))]) (va_A [(h, .inr (8, [.null, .null, .int 0, .int 0]))] sz)) 2 4020 (va_A [(h, .inr (8, [.null, .null, .int 0, .int 0]))] sz) := by
  refine Met.ofW (cc := cX8_init) (maxL := 2) (ret := none) (by decide) rfl ?_
  intro p e s m args below meth c s₁ B hml hv
  obtain ⟨rfl, hsz, hP, hK, hD0⟩ := hv
  have hx := B.exec
  have hb := B.bytes
  have hr := B.returns
  have hts := atoms_spec (ws := wp_c_q4000) B.pre
  have hown : s.vm.findClass RX8 = some m.cls := findClass_of_methodNamed B.named
  have hlocks := B.notSynchronized
  have hin : meth.name = "<init>" := (name_of_methodNamed B.named B.method).1
  subst hsz
  have hD := hD0.self (sz := s.heap.size)
  generalize hAe : va_A [(h, .inr (8, [.null, .null, .int 0, .int 0]))] s.heap.size = A at hD ⊢
  have hA : ∀ q : Nat, s.heap.size ≤ q → A q := fun q h => by rw [← hAe]; exact Or.inr h
  have hS : va_S A s.heap s.heap [] := va_S.rf
  have hP : va_P (dC, dI) vwCl [(h, .inr (8, [.null, .null, .int 0, .int 0]))] s.heap := hP
  have hl := lv_entry ([.ref h, .int 4000]) (n := 2) (Nat.le_of_ble_eq_true rfl)
  rw [lg_entry_eq]
  generalize (lg_sl ([.ref h, .int 4000]) ++ List.replicate (2 - (lg_sl ([.ref h, .int 4000])).length) Slot.unset).toArray = ls at hl ⊢
  have hl : lv_has ls 2 [(0, .ref h), (1, .int 4000)] := hl
  refine lv_aload_n hx hb dX8_init_0 rfl (lv_at hl 0 rfl) ?_
  refine W.objInit hx hb hown (hts (.methodLink RX8 1 objectInit) (wm_c_q4000 1 rfl)) (hts (.instanceMethod objectInit) (wm_c_q4000 2 rfl)) (hts (.code objectInit ⟨#[0xb1]⟩ 1 none) (wm_c_q4000 3 rfl)) rfl (by rw [hml]; exact hl.1) rfl dX8_init_1 (Nat.le_of_ble_eq_true rfl) (Nat.le_of_ble_eq_true rfl) ?_
  refine W.eq (g2 := F0 m 4 ls []) rfl ?_
  refine lv_aload_n hx hb dX8_init_4 rfl (lv_at hl 0 rfl) ?_
  refine lv_bipush (v := 20) hx hb dX8_init_5 (by decide) ?_
  refine va_newa (atype := .byte) (a0 := (20, .inl (fun _ => 0))) (ty := .byte) hx hb (hts (.arrayClass .byte) (wm_c_q4000 4 rfl)) rfl hK hP hD hS hA (fun _ => rfl) (by decide) (by decide +kernel) (show 20 * 1 ≤ 536870912 by omega) (show 0 + 1 ≤ 2 by omega) (show 0 + 20 ≤ 4020 by omega) dX8_init_7 (fun q_1 k_2 H hK hP hD hS => ?_)
  have hP : va_P (dC, dI) vwCl [(h, .inr (8, [.null, .null, .int 0, .int 0])), (q_1, .inl (k_2, 20, .inl (fun _ => 0)))] H := hP
  have hD : va_D A [(h, .inr (8, [.null, .null, .int 0, .int 0])), (q_1, .inl (k_2, 20, .inl (fun _ => 0)))] := hD
  have hK : va_K (dC, dI) vwCl [(k_2, .byte)] s := hK
  refine W.widen (k := 1) (n := 20) (by omega) (by omega) ?_
  refine va_putF (D := (dC, dI)) (ci := 8) (v := .ref q_1) (ty := (.array .byte)) (C := RX8) (T := TX8) (N := 4) hx hb hts in_c_q4000_X8 tyX8 tyX8_ok nmX8 hown hK hP hD hS 0 rfl rfl 1 (by decide) (hts (.fieldLink RX8 7 "OwnedPlaces$Queue" "digits" "[B") (wm_c_q4000 5 rfl)) (fun _ h9 => h9) rfl hin rfl (by decide +kernel) rfl rfl (Nat.le_of_ble_eq_true rfl) dX8_init_9 (fun H locs hP hD hS => ?_)
  have hP : va_P (dC, dI) vwCl [(h, .inr (8, [.null, .ref q_1, .int 0, .int 0])), (q_1, .inl (k_2, 20, .inl (fun _ => 0)))] H := hP
  have hD : va_D A [(h, .inr (8, [.null, .ref q_1, .int 0, .int 0])), (q_1, .inl (k_2, 20, .inl (fun _ => 0)))] := hD
  refine lv_aload_n hx hb dX8_init_12 rfl (lv_at hl 0 rfl) ?_
  refine lv_iload_n hx hb dX8_init_13 rfl (lv_at hl 1 rfl) ?_
  refine va_newa (atype := .long) (a0 := (4000, .inr (.inl (fun _ => 0)))) (ty := .long) hx hb (hts (.arrayClass .long) (wm_c_q4000 6 rfl)) rfl hK hP hD hS hA (fun _ => rfl) (by decide) (by decide +kernel) (show 4000 * 8 ≤ 536870912 by omega) (show 1 + 1 ≤ 2 by omega) (show 20 + 4000 ≤ 4020 by omega) dX8_init_14 (fun q_3 k_4 H hK hP hD hS => ?_)
  have hP : va_P (dC, dI) vwCl [(h, .inr (8, [.null, .ref q_1, .int 0, .int 0])), (q_1, .inl (k_2, 20, .inl (fun _ => 0))), (q_3, .inl (k_4, 4000, .inr (.inl (fun _ => 0))))] H := hP
  have hD : va_D A [(h, .inr (8, [.null, .ref q_1, .int 0, .int 0])), (q_1, .inl (k_2, 20, .inl (fun _ => 0))), (q_3, .inl (k_4, 4000, .inr (.inl (fun _ => 0))))] := hD
  have hK : va_K (dC, dI) vwCl [(k_2, .byte), (k_4, .long)] s := hK
  refine W.widen (k := 2) (n := 4020) (by omega) (by omega) ?_
  refine va_putF (D := (dC, dI)) (ci := 8) (v := .ref q_3) (ty := (.array .long)) (C := RX8) (T := TX8) (N := 4) hx hb hts in_c_q4000_X8 tyX8 tyX8_ok nmX8 hown hK hP hD hS 0 rfl rfl 0 (by decide) (hts (.fieldLink RX8 13 "OwnedPlaces$Queue" "row" "[J") (wm_c_q4000 7 rfl)) (fun _ h9 => h9) rfl hin rfl (by decide +kernel) rfl rfl (Nat.le_of_ble_eq_true rfl) dX8_init_16 (fun H locs hP hD hS => ?_)
  have hP : va_P (dC, dI) vwCl [(h, .inr (8, [.ref q_3, .ref q_1, .int 0, .int 0])), (q_1, .inl (k_2, 20, .inl (fun _ => 0))), (q_3, .inl (k_4, 4000, .inr (.inl (fun _ => 0))))] H := hP
  have hD : va_D A [(h, .inr (8, [.ref q_3, .ref q_1, .int 0, .int 0])), (q_1, .inl (k_2, 20, .inl (fun _ => 0))), (q_3, .inl (k_4, 4000, .inr (.inl (fun _ => 0))))] := hD
  have hP9 := hP.sub (ws' := [(h, .inr (8, [.ref q_3, .ref q_1, .int 0, .int 0]))]) [0] rfl
  have hD9 := hD.sub (ws' := [(h, .inr (8, [.ref q_3, .ref q_1, .int 0, .int 0]))]) [0] (by decide) rfl
  have hK9 := hK.sub (tys' := []) [] rfl
  refine W.widen (k := 2) (n := 4020) (by omega) (by omega) ?_
  exact W.vret hx hb hr (fun tS ht hW => ⟨⟨(), rfl, trivial, q_3, q_1, by rw [ht]; exact hP9, va_K.moved hW.alike hK9, hD9⟩, hS.F ht⟩) hS.2.2 dX8_init_19
def wf_c_grammar : List Cond := [.code yX3_init cX3_init 2 none, .methodLink RX3 3 objectInit, .instanceMethod objectInit, .code objectInit ⟨#[0xb1]⟩ 1 none, .arrayClass .int, .fieldLink RX3 9 "OwnedPlaces$Grammar" "items" "[I", .fieldLink RX3 15 "OwnedPlaces$Grammar" "text" "LOwnedPlaces$Text;"]
def wp_c_grammar : List Cond := wf_c_grammar ++ (wsX30 ++ [])
theorem in_c_grammar_X3 : ∀ w ∈ wsX30, w ∈ wp_c_grammar := fun w h => List.mem_append_right _ (List.mem_append_left _ h)
theorem wg_c_grammar : wf_c_grammar.all goodWord = true := by decide +kernel
theorem wm_c_grammar (k : Nat) {w : Cond} (h : wp_c_grammar[k]? = some w) : w ∈ wp_c_grammar := List.mem_of_getElem? h
set_option maxHeartbeats 4000000 in
set_option maxRecDepth 100000 in
theorem c_grammar (l : Launch) (dC : Nat → ClassId) (dI : Nat → Nat → Nat) (g h : Nat) (sz : Nat) : Met l yX3_init wp_c_grammar ({ frames := 1, cells := 1, slots := 70, locals := 12 }) (va_Pc [.ref g, .ref h] (fun U => U.heap.size = sz ∧ va_P (dC, dI) vwCl [(g, .inr (3, [.null, .null, .int 0, .int 0, .int 0, .int 0, .int 0]))] U.heap ∧ va_K (dC, dI) vwCl [] U ∧ va_D (fun _ => True) [(g, .inr (3, [.null, .null, .int 0, .int 0, .int 0, .int 0, .int 0]))])) (va_Qv (fun _ : Unit => True) (fun (_ : Unit) (tS : State) => ∃ (gi : Nat), va_P (dC, dI) vwCl [(g, .inr (3, [.ref h, .ref gi, .int 0, .int 0, .int 0, .int 0, .int 0]))] tS.heap ∧ va_K (dC, dI) vwCl [] tS ∧ va_D (va_A [(g, .inr (3, [.null, .null, .int 0, .int 0, .int 0, .int 0, .int 0]))] sz) [(g, .inr (3, [.ref h, .ref gi, .int 0, .int 0, .int 0, .int 0, .int 0]))]) (va_A [(g, .inr (3, [.null, .null, .int 0, .int 0, .int 0, .int 0, .int 0]))] sz)) 1 70 (va_A [(g, .inr (3, [.null, .null, .int 0, .int 0, .int 0, .int 0, .int 0]))] sz) := by
  refine Met.ofW (cc := cX3_init) (maxL := 2) (ret := none) (by decide) rfl ?_
  intro p e s m args below meth c s₁ B hml hv
  obtain ⟨rfl, hsz, hP, hK, hD0⟩ := hv
  have hx := B.exec
  have hb := B.bytes
  have hr := B.returns
  have hts := atoms_spec (ws := wp_c_grammar) B.pre
  have hown : s.vm.findClass RX3 = some m.cls := findClass_of_methodNamed B.named
  have hlocks := B.notSynchronized
  have hin : meth.name = "<init>" := (name_of_methodNamed B.named B.method).1
  subst hsz
  have hD := hD0.self (sz := s.heap.size)
  generalize hAe : va_A [(g, .inr (3, [.null, .null, .int 0, .int 0, .int 0, .int 0, .int 0]))] s.heap.size = A at hD ⊢
  have hA : ∀ q : Nat, s.heap.size ≤ q → A q := fun q h => by rw [← hAe]; exact Or.inr h
  have hS : va_S A s.heap s.heap [] := va_S.rf
  have hP : va_P (dC, dI) vwCl [(g, .inr (3, [.null, .null, .int 0, .int 0, .int 0, .int 0, .int 0]))] s.heap := hP
  have hl := lv_entry ([.ref g, .ref h]) (n := 2) (Nat.le_of_ble_eq_true rfl)
  rw [lg_entry_eq]
  generalize (lg_sl ([.ref g, .ref h]) ++ List.replicate (2 - (lg_sl ([.ref g, .ref h])).length) Slot.unset).toArray = ls at hl ⊢
  have hl : lv_has ls 2 [(0, .ref g), (1, .ref h)] := hl
  refine lv_aload_n hx hb dX3_init_0 rfl (lv_at hl 0 rfl) ?_
  refine W.objInit hx hb hown (hts (.methodLink RX3 3 objectInit) (wm_c_grammar 1 rfl)) (hts (.instanceMethod objectInit) (wm_c_grammar 2 rfl)) (hts (.code objectInit ⟨#[0xb1]⟩ 1 none) (wm_c_grammar 3 rfl)) rfl (by rw [hml]; exact hl.1) rfl dX3_init_1 (Nat.le_of_ble_eq_true rfl) (Nat.le_of_ble_eq_true rfl) ?_
  refine W.eq (g2 := F0 m 4 ls []) rfl ?_
  refine lv_aload_n hx hb dX3_init_4 rfl (lv_at hl 0 rfl) ?_
  refine lv_bipush (v := 70) hx hb dX3_init_5 (by decide) ?_
  refine va_newa (atype := .int) (a0 := (70, .inl (fun _ => 0))) (ty := .int) hx hb (hts (.arrayClass .int) (wm_c_grammar 4 rfl)) rfl hK hP hD hS hA (fun _ => rfl) (by decide) (by decide +kernel) (show 70 * 4 ≤ 536870912 by omega) (show 0 + 1 ≤ 1 by omega) (show 0 + 70 ≤ 70 by omega) dX3_init_7 (fun q_1 k_2 H hK hP hD hS => ?_)
  have hP : va_P (dC, dI) vwCl [(g, .inr (3, [.null, .null, .int 0, .int 0, .int 0, .int 0, .int 0])), (q_1, .inl (k_2, 70, .inl (fun _ => 0)))] H := hP
  have hD : va_D A [(g, .inr (3, [.null, .null, .int 0, .int 0, .int 0, .int 0, .int 0])), (q_1, .inl (k_2, 70, .inl (fun _ => 0)))] := hD
  have hK : va_K (dC, dI) vwCl [(k_2, .int)] s := hK
  refine W.widen (k := 1) (n := 70) (by omega) (by omega) ?_
  refine va_putF (D := (dC, dI)) (ci := 3) (v := .ref q_1) (ty := (.array .int)) (C := RX3) (T := TX3) (N := 7) hx hb hts in_c_grammar_X3 tyX3 tyX3_ok nmX3 hown hK hP hD hS 0 rfl rfl 1 (by decide) (hts (.fieldLink RX3 9 "OwnedPlaces$Grammar" "items" "[I") (wm_c_grammar 5 rfl)) (fun _ h9 => h9) rfl hin rfl (by decide +kernel) rfl rfl (Nat.le_of_ble_eq_true rfl) dX3_init_9 (fun H locs hP hD hS => ?_)
  have hP : va_P (dC, dI) vwCl [(g, .inr (3, [.null, .ref q_1, .int 0, .int 0, .int 0, .int 0, .int 0])), (q_1, .inl (k_2, 70, .inl (fun _ => 0)))] H := hP
  have hD : va_D A [(g, .inr (3, [.null, .ref q_1, .int 0, .int 0, .int 0, .int 0, .int 0])), (q_1, .inl (k_2, 70, .inl (fun _ => 0)))] := hD
  refine lv_aload_n hx hb dX3_init_12 rfl (lv_at hl 0 rfl) ?_
  refine lv_aload_n hx hb dX3_init_13 rfl (lv_at hl 1 rfl) ?_
  refine va_putF (D := (dC, dI)) (ci := 3) (v := .ref h) (ty := (.object "OwnedPlaces$Text")) (C := RX3) (T := TX3) (N := 7) hx hb hts in_c_grammar_X3 tyX3 tyX3_ok nmX3 hown hK hP hD hS 0 rfl rfl 0 (by decide) (hts (.fieldLink RX3 15 "OwnedPlaces$Grammar" "text" "LOwnedPlaces$Text;") (wm_c_grammar 6 rfl)) (fun _ h9 => h9) rfl hin rfl (by decide +kernel) rfl rfl (Nat.le_of_ble_eq_true rfl) dX3_init_14 (fun H locs hP hD hS => ?_)
  have hP : va_P (dC, dI) vwCl [(g, .inr (3, [.ref h, .ref q_1, .int 0, .int 0, .int 0, .int 0, .int 0])), (q_1, .inl (k_2, 70, .inl (fun _ => 0)))] H := hP
  have hD : va_D A [(g, .inr (3, [.ref h, .ref q_1, .int 0, .int 0, .int 0, .int 0, .int 0])), (q_1, .inl (k_2, 70, .inl (fun _ => 0)))] := hD
  have hP9 := hP.sub (ws' := [(g, .inr (3, [.ref h, .ref q_1, .int 0, .int 0, .int 0, .int 0, .int 0]))]) [0] rfl
  have hD9 := hD.sub (ws' := [(g, .inr (3, [.ref h, .ref q_1, .int 0, .int 0, .int 0, .int 0, .int 0]))]) [0] (by decide) rfl
  have hK9 := hK.sub (tys' := []) [] rfl
  refine W.widen (k := 1) (n := 70) (by omega) (by omega) ?_
  exact W.vret hx hb hr (fun tS ht hW => ⟨⟨(), rfl, trivial, q_1, by rw [ht]; exact hP9, va_K.moved hW.alike hK9, hD9⟩, hS.F ht⟩) hS.2.2 dX3_init_17
def wf_c_function : List Cond := [.code yX2_init cX2_init 1 none, .methodLink RX2 3 objectInit, .instanceMethod objectInit, .code objectInit ⟨#[0xb1]⟩ 1 none, .arrayClass .int, .fieldLink RX2 9 "OwnedPlaces$Function" "lifeName" "[I", .fieldLink RX2 15 "OwnedPlaces$Function" "parameterLife" "[I", .fieldLink RX2 18 "OwnedPlaces$Function" "name" "[I", .fieldLink RX2 21 "OwnedPlaces$Function" "type" "[I", .arrayClass .boolean, .fieldLink RX2 24 "OwnedPlaces$Function" "mutable" "[Z", .fieldLink RX2 28 "OwnedPlaces$Function" "offset" "[I", .fieldLink RX2 31 "OwnedPlaces$Function" "from" "[I", .fieldLink RX2 34 "OwnedPlaces$Function" "to" "[I"]
def wp_c_function : List Cond := wf_c_function ++ (wsX20 ++ [])
theorem in_c_function_X2 : ∀ w ∈ wsX20, w ∈ wp_c_function := fun w h => List.mem_append_right _ (List.mem_append_left _ h)
theorem wg_c_function : wf_c_function.all goodWord = true := by decide +kernel
theorem wm_c_function (k : Nat) {w : Cond} (h : wp_c_function[k]? = some w) : w ∈ wp_c_function := List.mem_of_getElem? h
set_option maxHeartbeats 4000000 in
set_option maxRecDepth 100000 in
theorem c_function (l : Launch) (dC : Nat → ClassId) (dI : Nat → Nat → Nat) (h : Nat) (sz : Nat) : Met l yX2_init wp_c_function ({ frames := 1, cells := 8, slots := 260, locals := 12 }) (va_Pc [.ref h] (fun U => U.heap.size = sz ∧ va_P (dC, dI) vwCl [(h, .inr (2, [.int 0, .int 0, .int 0, .null, .int 0, .null, .int 0, .int 0, .int 0, .int 0, .null, .null, .null, .null, .null, .null, .int 0, .int 0, .int 0, .int 0, .int 0, .int 0]))] U.heap ∧ va_K (dC, dI) vwCl [] U ∧ va_D (fun _ => True) [(h, .inr (2, [.int 0, .int 0, .int 0, .null, .int 0, .null, .int 0, .int 0, .int 0, .int 0, .null, .null, .null, .null, .null, .null, .int 0, .int 0, .int 0, .int 0, .int 0, .int 0]))])) (va_Qv (fun _ : Unit => True) (fun (_ : Unit) (tS : State) => ∃ (q3 : Nat) (q5 : Nat) (q10 : Nat) (q11 : Nat) (q12 : Nat) (q13 : Nat) (q14 : Nat) (q15 : Nat), va_P (dC, dI) vwCl [(h, .inr (2, [.int 0, .int 0, .int 0, .ref q3, .int 0, .ref q5, .int 0, .int 0, .int 0, .int 0, .ref q10, .ref q11, .ref q12, .ref q13, .ref q14, .ref q15, .int 0, .int 0, .int 0, .int 0, .int 0, .int 0]))] tS.heap ∧ va_K (dC, dI) vwCl [] tS ∧ va_D (va_A [(h, .inr (2, [.int 0, .int 0, .int 0, .null, .int 0, .null, .int 0, .int 0, .int 0, .int 0, .null, .null, .null, .null, .null, .null, .int 0, .int 0, .int 0, .int 0, .int 0, .int 0]))] sz) [(h, .inr (2, [.int 0, .int 0, .int 0, .ref q3, .int 0, .ref q5, .int 0, .int 0, .int 0, .int 0, .ref q10, .ref q11, .ref q12, .ref q13, .ref q14, .ref q15, .int 0, .int 0, .int 0, .int 0, .int 0, .int 0]))]) (va_A [(h, .inr (2, [.int 0, .int 0, .int 0, .null, .int 0, .null, .int 0, .int 0, .int 0, .int 0, .null, .null, .null, .null, .null, .null, .int 0, .int 0, .int 0, .int 0, .int 0, .int 0]))] sz)) 8 260 (va_A [(h, .inr (2, [.int 0, .int 0, .int 0, .null, .int 0, .null, .int 0, .int 0, .int 0, .int 0, .null, .null, .null, .null, .null, .null, .int 0, .int 0, .int 0, .int 0, .int 0, .int 0]))] sz) := by
  refine Met.ofW (cc := cX2_init) (maxL := 1) (ret := none) (by decide) rfl ?_
  intro p e s m args below meth c s₁ B hml hv
  obtain ⟨rfl, hsz, hP, hK, hD0⟩ := hv
  have hx := B.exec
  have hb := B.bytes
  have hr := B.returns
  have hts := atoms_spec (ws := wp_c_function) B.pre
  have hown : s.vm.findClass RX2 = some m.cls := findClass_of_methodNamed B.named
  have hlocks := B.notSynchronized
  have hin : meth.name = "<init>" := (name_of_methodNamed B.named B.method).1
  subst hsz
  have hD := hD0.self (sz := s.heap.size)
  generalize hAe : va_A [(h, .inr (2, [.int 0, .int 0, .int 0, .null, .int 0, .null, .int 0, .int 0, .int 0, .int 0, .null, .null, .null, .null, .null, .null, .int 0, .int 0, .int 0, .int 0, .int 0, .int 0]))] s.heap.size = A at hD ⊢
  have hA : ∀ q : Nat, s.heap.size ≤ q → A q := fun q h => by rw [← hAe]; exact Or.inr h
  have hS : va_S A s.heap s.heap [] := va_S.rf
  have hP : va_P (dC, dI) vwCl [(h, .inr (2, [.int 0, .int 0, .int 0, .null, .int 0, .null, .int 0, .int 0, .int 0, .int 0, .null, .null, .null, .null, .null, .null, .int 0, .int 0, .int 0, .int 0, .int 0, .int 0]))] s.heap := hP
  have hl := lv_entry ([.ref h]) (n := 1) (Nat.le_of_ble_eq_true rfl)
  rw [lg_entry_eq]
  generalize (lg_sl ([.ref h]) ++ List.replicate (1 - (lg_sl ([.ref h])).length) Slot.unset).toArray = ls at hl ⊢
  have hl : lv_has ls 1 [(0, .ref h)] := hl
  refine lv_aload_n hx hb dX2_init_0 rfl (lv_at hl 0 rfl) ?_
  refine W.objInit hx hb hown (hts (.methodLink RX2 3 objectInit) (wm_c_function 1 rfl)) (hts (.instanceMethod objectInit) (wm_c_function 2 rfl)) (hts (.code objectInit ⟨#[0xb1]⟩ 1 none) (wm_c_function 3 rfl)) rfl (by rw [hml]; exact hl.1) rfl dX2_init_1 (Nat.le_of_ble_eq_true rfl) (Nat.le_of_ble_eq_true rfl) ?_
  refine W.eq (g2 := F0 m 4 ls []) rfl ?_
  refine lv_aload_n hx hb dX2_init_4 rfl (lv_at hl 0 rfl) ?_
  refine lv_bipush (v := 8) hx hb dX2_init_5 (by decide) ?_
  refine va_newa (atype := .int) (a0 := (8, .inl (fun _ => 0))) (ty := .int) hx hb (hts (.arrayClass .int) (wm_c_function 4 rfl)) rfl hK hP hD hS hA (fun _ => rfl) (by decide) (by decide +kernel) (show 8 * 4 ≤ 536870912 by omega) (show 0 + 1 ≤ 8 by omega) (show 0 + 8 ≤ 260 by omega) dX2_init_7 (fun q_1 k_2 H _ hP hD hS => ?_)
  have hP := hP.sub (ws' := [(h, .inr (2, [.int 0, .int 0, .int 0, .null, .int 0, .null, .int 0, .int 0, .int 0, .int 0, .null, .null, .null, .null, .null, .null, .int 0, .int 0, .int 0, .int 0, .int 0, .int 0]))]) [0] rfl
  have hD := hD.sub (ws' := [(h, .inr (2, [.int 0, .int 0, .int 0, .null, .int 0, .null, .int 0, .int 0, .int 0, .int 0, .null, .null, .null, .null, .null, .null, .int 0, .int 0, .int 0, .int 0, .int 0, .int 0]))]) [0] (by decide) rfl
  refine W.widen (k := 1) (n := 8) (by omega) (by omega) ?_
  refine va_putF (D := (dC, dI)) (ci := 2) (v := .ref q_1) (ty := (.array .int)) (C := RX2) (T := TX2) (N := 22) hx hb hts in_c_function_X2 tyX2 tyX2_ok nmX2 hown hK hP hD hS 0 rfl rfl 3 (by decide) (hts (.fieldLink RX2 9 "OwnedPlaces$Function" "lifeName" "[I") (wm_c_function 5 rfl)) (fun _ h9 => h9) rfl hin rfl (by decide +kernel) rfl rfl (Nat.le_of_ble_eq_true rfl) dX2_init_9 (fun H locs hP hD hS => ?_)
  have hP : va_P (dC, dI) vwCl [(h, .inr (2, [.int 0, .int 0, .int 0, .ref q_1, .int 0, .null, .int 0, .int 0, .int 0, .int 0, .null, .null, .null, .null, .null, .null, .int 0, .int 0, .int 0, .int 0, .int 0, .int 0]))] H := hP
  have hD : va_D A [(h, .inr (2, [.int 0, .int 0, .int 0, .ref q_1, .int 0, .null, .int 0, .int 0, .int 0, .int 0, .null, .null, .null, .null, .null, .null, .int 0, .int 0, .int 0, .int 0, .int 0, .int 0]))] := hD
  refine lv_aload_n hx hb dX2_init_12 rfl (lv_at hl 0 rfl) ?_
  refine lv_bipush (v := 12) hx hb dX2_init_13 (by decide) ?_
  refine va_newa (atype := .int) (a0 := (12, .inl (fun _ => 0))) (ty := .int) hx hb (hts (.arrayClass .int) (wm_c_function 4 rfl)) rfl hK hP hD hS hA (fun _ => rfl) (by decide) (by decide +kernel) (show 12 * 4 ≤ 536870912 by omega) (show 1 + 1 ≤ 8 by omega) (show 8 + 12 ≤ 260 by omega) dX2_init_15 (fun q_3 k_4 H _ hP hD hS => ?_)
  have hP := hP.sub (ws' := [(h, .inr (2, [.int 0, .int 0, .int 0, .ref q_1, .int 0, .null, .int 0, .int 0, .int 0, .int 0, .null, .null, .null, .null, .null, .null, .int 0, .int 0, .int 0, .int 0, .int 0, .int 0]))]) [0] rfl
  have hD := hD.sub (ws' := [(h, .inr (2, [.int 0, .int 0, .int 0, .ref q_1, .int 0, .null, .int 0, .int 0, .int 0, .int 0, .null, .null, .null, .null, .null, .null, .int 0, .int 0, .int 0, .int 0, .int 0, .int 0]))]) [0] (by decide) rfl
  refine W.widen (k := 2) (n := 20) (by omega) (by omega) ?_
  refine va_putF (D := (dC, dI)) (ci := 2) (v := .ref q_3) (ty := (.array .int)) (C := RX2) (T := TX2) (N := 22) hx hb hts in_c_function_X2 tyX2 tyX2_ok nmX2 hown hK hP hD hS 0 rfl rfl 5 (by decide) (hts (.fieldLink RX2 15 "OwnedPlaces$Function" "parameterLife" "[I") (wm_c_function 6 rfl)) (fun _ h9 => h9) rfl hin rfl (by decide +kernel) rfl rfl (Nat.le_of_ble_eq_true rfl) dX2_init_17 (fun H locs hP hD hS => ?_)
  have hP : va_P (dC, dI) vwCl [(h, .inr (2, [.int 0, .int 0, .int 0, .ref q_1, .int 0, .ref q_3, .int 0, .int 0, .int 0, .int 0, .null, .null, .null, .null, .null, .null, .int 0, .int 0, .int 0, .int 0, .int 0, .int 0]))] H := hP
  have hD : va_D A [(h, .inr (2, [.int 0, .int 0, .int 0, .ref q_1, .int 0, .ref q_3, .int 0, .int 0, .int 0, .int 0, .null, .null, .null, .null, .null, .null, .int 0, .int 0, .int 0, .int 0, .int 0, .int 0]))] := hD
  refine lv_aload_n hx hb dX2_init_20 rfl (lv_at hl 0 rfl) ?_
  refine lv_bipush (v := 40) hx hb dX2_init_21 (by decide) ?_
  refine va_newa (atype := .int) (a0 := (40, .inl (fun _ => 0))) (ty := .int) hx hb (hts (.arrayClass .int) (wm_c_function 4 rfl)) rfl hK hP hD hS hA (fun _ => rfl) (by decide) (by decide +kernel) (show 40 * 4 ≤ 536870912 by omega) (show 2 + 1 ≤ 8 by omega) (show 20 + 40 ≤ 260 by omega) dX2_init_23 (fun q_5 k_6 H _ hP hD hS => ?_)
  have hP := hP.sub (ws' := [(h, .inr (2, [.int 0, .int 0, .int 0, .ref q_1, .int 0, .ref q_3, .int 0, .int 0, .int 0, .int 0, .null, .null, .null, .null, .null, .null, .int 0, .int 0, .int 0, .int 0, .int 0, .int 0]))]) [0] rfl
  have hD := hD.sub (ws' := [(h, .inr (2, [.int 0, .int 0, .int 0, .ref q_1, .int 0, .ref q_3, .int 0, .int 0, .int 0, .int 0, .null, .null, .null, .null, .null, .null, .int 0, .int 0, .int 0, .int 0, .int 0, .int 0]))]) [0] (by decide) rfl
  refine W.widen (k := 3) (n := 60) (by omega) (by omega) ?_
  refine va_putF (D := (dC, dI)) (ci := 2) (v := .ref q_5) (ty := (.array .int)) (C := RX2) (T := TX2) (N := 22) hx hb hts in_c_function_X2 tyX2 tyX2_ok nmX2 hown hK hP hD hS 0 rfl rfl 10 (by decide) (hts (.fieldLink RX2 18 "OwnedPlaces$Function" "name" "[I") (wm_c_function 7 rfl)) (fun _ h9 => h9) rfl hin rfl (by decide +kernel) rfl rfl (Nat.le_of_ble_eq_true rfl) dX2_init_25 (fun H locs hP hD hS => ?_)
  have hP : va_P (dC, dI) vwCl [(h, .inr (2, [.int 0, .int 0, .int 0, .ref q_1, .int 0, .ref q_3, .int 0, .int 0, .int 0, .int 0, .ref q_5, .null, .null, .null, .null, .null, .int 0, .int 0, .int 0, .int 0, .int 0, .int 0]))] H := hP
  have hD : va_D A [(h, .inr (2, [.int 0, .int 0, .int 0, .ref q_1, .int 0, .ref q_3, .int 0, .int 0, .int 0, .int 0, .ref q_5, .null, .null, .null, .null, .null, .int 0, .int 0, .int 0, .int 0, .int 0, .int 0]))] := hD
  refine lv_aload_n hx hb dX2_init_28 rfl (lv_at hl 0 rfl) ?_
  refine lv_bipush (v := 40) hx hb dX2_init_29 (by decide) ?_
  refine va_newa (atype := .int) (a0 := (40, .inl (fun _ => 0))) (ty := .int) hx hb (hts (.arrayClass .int) (wm_c_function 4 rfl)) rfl hK hP hD hS hA (fun _ => rfl) (by decide) (by decide +kernel) (show 40 * 4 ≤ 536870912 by omega) (show 3 + 1 ≤ 8 by omega) (show 60 + 40 ≤ 260 by omega) dX2_init_31 (fun q_7 k_8 H _ hP hD hS => ?_)
  have hP := hP.sub (ws' := [(h, .inr (2, [.int 0, .int 0, .int 0, .ref q_1, .int 0, .ref q_3, .int 0, .int 0, .int 0, .int 0, .ref q_5, .null, .null, .null, .null, .null, .int 0, .int 0, .int 0, .int 0, .int 0, .int 0]))]) [0] rfl
  have hD := hD.sub (ws' := [(h, .inr (2, [.int 0, .int 0, .int 0, .ref q_1, .int 0, .ref q_3, .int 0, .int 0, .int 0, .int 0, .ref q_5, .null, .null, .null, .null, .null, .int 0, .int 0, .int 0, .int 0, .int 0, .int 0]))]) [0] (by decide) rfl
  refine W.widen (k := 4) (n := 100) (by omega) (by omega) ?_
  refine va_putF (D := (dC, dI)) (ci := 2) (v := .ref q_7) (ty := (.array .int)) (C := RX2) (T := TX2) (N := 22) hx hb hts in_c_function_X2 tyX2 tyX2_ok nmX2 hown hK hP hD hS 0 rfl rfl 11 (by decide) (hts (.fieldLink RX2 21 "OwnedPlaces$Function" "type" "[I") (wm_c_function 8 rfl)) (fun _ h9 => h9) rfl hin rfl (by decide +kernel) rfl rfl (Nat.le_of_ble_eq_true rfl) dX2_init_33 (fun H locs hP hD hS => ?_)
  have hP : va_P (dC, dI) vwCl [(h, .inr (2, [.int 0, .int 0, .int 0, .ref q_1, .int 0, .ref q_3, .int 0, .int 0, .int 0, .int 0, .ref q_5, .ref q_7, .null, .null, .null, .null, .int 0, .int 0, .int 0, .int 0, .int 0, .int 0]))] H := hP
  have hD : va_D A [(h, .inr (2, [.int 0, .int 0, .int 0, .ref q_1, .int 0, .ref q_3, .int 0, .int 0, .int 0, .int 0, .ref q_5, .ref q_7, .null, .null, .null, .null, .int 0, .int 0, .int 0, .int 0, .int 0, .int 0]))] := hD
  refine lv_aload_n hx hb dX2_init_36 rfl (lv_at hl 0 rfl) ?_
  refine lv_bipush (v := 40) hx hb dX2_init_37 (by decide) ?_
  refine va_newa (atype := .boolean) (a0 := (40, .inl (fun _ => 0))) (ty := .boolean) hx hb (hts (.arrayClass .boolean) (wm_c_function 9 rfl)) rfl hK hP hD hS hA (fun _ => rfl) (by decide) (by decide +kernel) (show 40 * 1 ≤ 536870912 by omega) (show 4 + 1 ≤ 8 by omega) (show 100 + 40 ≤ 260 by omega) dX2_init_39 (fun q_9 k_10 H _ hP hD hS => ?_)
  have hP := hP.sub (ws' := [(h, .inr (2, [.int 0, .int 0, .int 0, .ref q_1, .int 0, .ref q_3, .int 0, .int 0, .int 0, .int 0, .ref q_5, .ref q_7, .null, .null, .null, .null, .int 0, .int 0, .int 0, .int 0, .int 0, .int 0]))]) [0] rfl
  have hD := hD.sub (ws' := [(h, .inr (2, [.int 0, .int 0, .int 0, .ref q_1, .int 0, .ref q_3, .int 0, .int 0, .int 0, .int 0, .ref q_5, .ref q_7, .null, .null, .null, .null, .int 0, .int 0, .int 0, .int 0, .int 0, .int 0]))]) [0] (by decide) rfl
  refine W.widen (k := 5) (n := 140) (by omega) (by omega) ?_
  refine va_putF (D := (dC, dI)) (ci := 2) (v := .ref q_9) (ty := (.array .boolean)) (C := RX2) (T := TX2) (N := 22) hx hb hts in_c_function_X2 tyX2 tyX2_ok nmX2 hown hK hP hD hS 0 rfl rfl 12 (by decide) (hts (.fieldLink RX2 24 "OwnedPlaces$Function" "mutable" "[Z") (wm_c_function 10 rfl)) (fun _ h9 => h9) rfl hin rfl (by decide +kernel) rfl rfl (Nat.le_of_ble_eq_true rfl) dX2_init_41 (fun H locs hP hD hS => ?_)
  have hP : va_P (dC, dI) vwCl [(h, .inr (2, [.int 0, .int 0, .int 0, .ref q_1, .int 0, .ref q_3, .int 0, .int 0, .int 0, .int 0, .ref q_5, .ref q_7, .ref q_9, .null, .null, .null, .int 0, .int 0, .int 0, .int 0, .int 0, .int 0]))] H := hP
  have hD : va_D A [(h, .inr (2, [.int 0, .int 0, .int 0, .ref q_1, .int 0, .ref q_3, .int 0, .int 0, .int 0, .int 0, .ref q_5, .ref q_7, .ref q_9, .null, .null, .null, .int 0, .int 0, .int 0, .int 0, .int 0, .int 0]))] := hD
  refine lv_aload_n hx hb dX2_init_44 rfl (lv_at hl 0 rfl) ?_
  refine lv_bipush (v := 40) hx hb dX2_init_45 (by decide) ?_
  refine va_newa (atype := .int) (a0 := (40, .inl (fun _ => 0))) (ty := .int) hx hb (hts (.arrayClass .int) (wm_c_function 4 rfl)) rfl hK hP hD hS hA (fun _ => rfl) (by decide) (by decide +kernel) (show 40 * 4 ≤ 536870912 by omega) (show 5 + 1 ≤ 8 by omega) (show 140 + 40 ≤ 260 by omega) dX2_init_47 (fun q_11 k_12 H _ hP hD hS => ?_)
  have hP := hP.sub (ws' := [(h, .inr (2, [.int 0, .int 0, .int 0, .ref q_1, .int 0, .ref q_3, .int 0, .int 0, .int 0, .int 0, .ref q_5, .ref q_7, .ref q_9, .null, .null, .null, .int 0, .int 0, .int 0, .int 0, .int 0, .int 0]))]) [0] rfl
  have hD := hD.sub (ws' := [(h, .inr (2, [.int 0, .int 0, .int 0, .ref q_1, .int 0, .ref q_3, .int 0, .int 0, .int 0, .int 0, .ref q_5, .ref q_7, .ref q_9, .null, .null, .null, .int 0, .int 0, .int 0, .int 0, .int 0, .int 0]))]) [0] (by decide) rfl
  refine W.widen (k := 6) (n := 180) (by omega) (by omega) ?_
  refine va_putF (D := (dC, dI)) (ci := 2) (v := .ref q_11) (ty := (.array .int)) (C := RX2) (T := TX2) (N := 22) hx hb hts in_c_function_X2 tyX2 tyX2_ok nmX2 hown hK hP hD hS 0 rfl rfl 13 (by decide) (hts (.fieldLink RX2 28 "OwnedPlaces$Function" "offset" "[I") (wm_c_function 11 rfl)) (fun _ h9 => h9) rfl hin rfl (by decide +kernel) rfl rfl (Nat.le_of_ble_eq_true rfl) dX2_init_49 (fun H locs hP hD hS => ?_)
  have hP : va_P (dC, dI) vwCl [(h, .inr (2, [.int 0, .int 0, .int 0, .ref q_1, .int 0, .ref q_3, .int 0, .int 0, .int 0, .int 0, .ref q_5, .ref q_7, .ref q_9, .ref q_11, .null, .null, .int 0, .int 0, .int 0, .int 0, .int 0, .int 0]))] H := hP
  have hD : va_D A [(h, .inr (2, [.int 0, .int 0, .int 0, .ref q_1, .int 0, .ref q_3, .int 0, .int 0, .int 0, .int 0, .ref q_5, .ref q_7, .ref q_9, .ref q_11, .null, .null, .int 0, .int 0, .int 0, .int 0, .int 0, .int 0]))] := hD
  refine lv_aload_n hx hb dX2_init_52 rfl (lv_at hl 0 rfl) ?_
  refine lv_bipush (v := 40) hx hb dX2_init_53 (by decide) ?_
  refine va_newa (atype := .int) (a0 := (40, .inl (fun _ => 0))) (ty := .int) hx hb (hts (.arrayClass .int) (wm_c_function 4 rfl)) rfl hK hP hD hS hA (fun _ => rfl) (by decide) (by decide +kernel) (show 40 * 4 ≤ 536870912 by omega) (show 6 + 1 ≤ 8 by omega) (show 180 + 40 ≤ 260 by omega) dX2_init_55 (fun q_13 k_14 H _ hP hD hS => ?_)
  have hP := hP.sub (ws' := [(h, .inr (2, [.int 0, .int 0, .int 0, .ref q_1, .int 0, .ref q_3, .int 0, .int 0, .int 0, .int 0, .ref q_5, .ref q_7, .ref q_9, .ref q_11, .null, .null, .int 0, .int 0, .int 0, .int 0, .int 0, .int 0]))]) [0] rfl
  have hD := hD.sub (ws' := [(h, .inr (2, [.int 0, .int 0, .int 0, .ref q_1, .int 0, .ref q_3, .int 0, .int 0, .int 0, .int 0, .ref q_5, .ref q_7, .ref q_9, .ref q_11, .null, .null, .int 0, .int 0, .int 0, .int 0, .int 0, .int 0]))]) [0] (by decide) rfl
  refine W.widen (k := 7) (n := 220) (by omega) (by omega) ?_
  refine va_putF (D := (dC, dI)) (ci := 2) (v := .ref q_13) (ty := (.array .int)) (C := RX2) (T := TX2) (N := 22) hx hb hts in_c_function_X2 tyX2 tyX2_ok nmX2 hown hK hP hD hS 0 rfl rfl 14 (by decide) (hts (.fieldLink RX2 31 "OwnedPlaces$Function" "from" "[I") (wm_c_function 12 rfl)) (fun _ h9 => h9) rfl hin rfl (by decide +kernel) rfl rfl (Nat.le_of_ble_eq_true rfl) dX2_init_57 (fun H locs hP hD hS => ?_)
  have hP : va_P (dC, dI) vwCl [(h, .inr (2, [.int 0, .int 0, .int 0, .ref q_1, .int 0, .ref q_3, .int 0, .int 0, .int 0, .int 0, .ref q_5, .ref q_7, .ref q_9, .ref q_11, .ref q_13, .null, .int 0, .int 0, .int 0, .int 0, .int 0, .int 0]))] H := hP
  have hD : va_D A [(h, .inr (2, [.int 0, .int 0, .int 0, .ref q_1, .int 0, .ref q_3, .int 0, .int 0, .int 0, .int 0, .ref q_5, .ref q_7, .ref q_9, .ref q_11, .ref q_13, .null, .int 0, .int 0, .int 0, .int 0, .int 0, .int 0]))] := hD
  refine lv_aload_n hx hb dX2_init_60 rfl (lv_at hl 0 rfl) ?_
  refine lv_bipush (v := 40) hx hb dX2_init_61 (by decide) ?_
  refine va_newa (atype := .int) (a0 := (40, .inl (fun _ => 0))) (ty := .int) hx hb (hts (.arrayClass .int) (wm_c_function 4 rfl)) rfl hK hP hD hS hA (fun _ => rfl) (by decide) (by decide +kernel) (show 40 * 4 ≤ 536870912 by omega) (show 7 + 1 ≤ 8 by omega) (show 220 + 40 ≤ 260 by omega) dX2_init_63 (fun q_15 k_16 H _ hP hD hS => ?_)
  have hP := hP.sub (ws' := [(h, .inr (2, [.int 0, .int 0, .int 0, .ref q_1, .int 0, .ref q_3, .int 0, .int 0, .int 0, .int 0, .ref q_5, .ref q_7, .ref q_9, .ref q_11, .ref q_13, .null, .int 0, .int 0, .int 0, .int 0, .int 0, .int 0]))]) [0] rfl
  have hD := hD.sub (ws' := [(h, .inr (2, [.int 0, .int 0, .int 0, .ref q_1, .int 0, .ref q_3, .int 0, .int 0, .int 0, .int 0, .ref q_5, .ref q_7, .ref q_9, .ref q_11, .ref q_13, .null, .int 0, .int 0, .int 0, .int 0, .int 0, .int 0]))]) [0] (by decide) rfl
  refine W.widen (k := 8) (n := 260) (by omega) (by omega) ?_
  refine va_putF (D := (dC, dI)) (ci := 2) (v := .ref q_15) (ty := (.array .int)) (C := RX2) (T := TX2) (N := 22) hx hb hts in_c_function_X2 tyX2 tyX2_ok nmX2 hown hK hP hD hS 0 rfl rfl 15 (by decide) (hts (.fieldLink RX2 34 "OwnedPlaces$Function" "to" "[I") (wm_c_function 13 rfl)) (fun _ h9 => h9) rfl hin rfl (by decide +kernel) rfl rfl (Nat.le_of_ble_eq_true rfl) dX2_init_65 (fun H locs hP hD hS => ?_)
  have hP : va_P (dC, dI) vwCl [(h, .inr (2, [.int 0, .int 0, .int 0, .ref q_1, .int 0, .ref q_3, .int 0, .int 0, .int 0, .int 0, .ref q_5, .ref q_7, .ref q_9, .ref q_11, .ref q_13, .ref q_15, .int 0, .int 0, .int 0, .int 0, .int 0, .int 0]))] H := hP
  have hD : va_D A [(h, .inr (2, [.int 0, .int 0, .int 0, .ref q_1, .int 0, .ref q_3, .int 0, .int 0, .int 0, .int 0, .ref q_5, .ref q_7, .ref q_9, .ref q_11, .ref q_13, .ref q_15, .int 0, .int 0, .int 0, .int 0, .int 0, .int 0]))] := hD
  have hP9 := hP.sub (ws' := [(h, .inr (2, [.int 0, .int 0, .int 0, .ref q_1, .int 0, .ref q_3, .int 0, .int 0, .int 0, .int 0, .ref q_5, .ref q_7, .ref q_9, .ref q_11, .ref q_13, .ref q_15, .int 0, .int 0, .int 0, .int 0, .int 0, .int 0]))]) [0] rfl
  have hD9 := hD.sub (ws' := [(h, .inr (2, [.int 0, .int 0, .int 0, .ref q_1, .int 0, .ref q_3, .int 0, .int 0, .int 0, .int 0, .ref q_5, .ref q_7, .ref q_9, .ref q_11, .ref q_13, .ref q_15, .int 0, .int 0, .int 0, .int 0, .int 0, .int 0]))]) [0] (by decide) rfl
  have hK9 := hK.sub (tys' := []) [] rfl
  refine W.widen (k := 8) (n := 260) (by omega) (by omega) ?_
  exact W.vret hx hb hr (fun tS ht hW => ⟨⟨(), rfl, trivial, q_1, q_3, q_5, q_7, q_9, q_11, q_13, q_15, by rw [ht]; exact hP9, va_K.moved hW.alike hK9, hD9⟩, hS.F ht⟩) hS.2.2 dX2_init_68
def wf_c_memory : List Cond := [.code yX6_init cX6_init 4 none, .methodLink RX6 3 objectInit, .instanceMethod objectInit, .code objectInit ⟨#[0xb1]⟩ 1 none, .arrayClass .int, .fieldLink RX6 9 "OwnedPlaces$Memory" "dropType" "[I", .fieldLink RX6 15 "OwnedPlaces$Memory" "dropAt" "[I", .fieldLink RX6 18 "OwnedPlaces$Memory" "dropCells" "[I", .fieldLink RX6 21 "OwnedPlaces$Memory" "types" "LOwnedPlaces$Types;", .fieldLink RX6 25 "OwnedPlaces$Memory" "waiting" "LOwnedPlaces$Queue;", .fieldLink RX6 29 "OwnedPlaces$Memory" "heap" "I", .arrayClass .long, .fieldLink RX6 33 "OwnedPlaces$Memory" "cells" "[J", .arrayClass .byte, .fieldLink RX6 37 "OwnedPlaces$Memory" "taken" "[B"]
def wp_c_memory : List Cond := wf_c_memory ++ (wsX60 ++ [])
theorem in_c_memory_X6 : ∀ w ∈ wsX60, w ∈ wp_c_memory := fun w h => List.mem_append_right _ (List.mem_append_left _ h)
theorem wg_c_memory : wf_c_memory.all goodWord = true := by decide +kernel
theorem wm_c_memory (k : Nat) {w : Cond} (h : wp_c_memory[k]? = some w) : w ∈ wp_c_memory := List.mem_of_getElem? h
set_option maxHeartbeats 4000000 in
set_option maxRecDepth 100000 in
theorem c_memory (l : Launch) (dC : Nat → ClassId) (dI : Nat → Nat → Nat) (m0 y qw k : Nat) (sz : Nat) (hk : k ≤ 4000) : Met l yX6_init wp_c_memory ({ frames := 1, cells := 5, slots := 28384, locals := 12 }) (va_Pc [.ref m0, .ref y, .ref qw, .int (nI k)] (fun U => U.heap.size = sz ∧ va_P (dC, dI) vwCl [(m0, .inr (6, [.null, .null, .int 0, .null, .null, .int 0, .int 0, .int 0, .null, .null, .null, .int 0]))] U.heap ∧ va_K (dC, dI) vwCl [] U ∧ va_D (fun _ => True) [(m0, .inr (6, [.null, .null, .int 0, .null, .null, .int 0, .int 0, .int 0, .null, .null, .null, .int 0]))])) (va_Qv (fun _ : Unit => True) (fun (_ : Unit) (tS : State) => ∃ (mc : Nat) (mt : Nat) (m1 : Nat) (m2 : Nat) (m3 : Nat) (kB : ClassId), va_P (dC, dI) vwCl [(m0, .inr (6, [.ref y, .ref qw, .int (nI k), .ref mc, .ref mt, .int 0, .int 0, .int 0, .ref m1, .ref m2, .ref m3, .int 0])), (mt, .inl (kB, k, .inl (fun _ => 0)))] tS.heap ∧ va_K (dC, dI) vwCl [(kB, .byte)] tS ∧ va_D (va_A [(m0, .inr (6, [.null, .null, .int 0, .null, .null, .int 0, .int 0, .int 0, .null, .null, .null, .int 0]))] sz) [(m0, .inr (6, [.ref y, .ref qw, .int (nI k), .ref mc, .ref mt, .int 0, .int 0, .int 0, .ref m1, .ref m2, .ref m3, .int 0])), (mt, .inl (kB, k, .inl (fun _ => 0)))]) (va_A [(m0, .inr (6, [.null, .null, .int 0, .null, .null, .int 0, .int 0, .int 0, .null, .null, .null, .int 0]))] sz)) 5 28384 (va_A [(m0, .inr (6, [.null, .null, .int 0, .null, .null, .int 0, .int 0, .int 0, .null, .null, .null, .int 0]))] sz) := by
  refine Met.ofW (cc := cX6_init) (maxL := 4) (ret := none) (by decide) rfl ?_
  intro p e s m args below meth c s₁ B hml hv
  obtain ⟨rfl, hsz, hP, hK, hD0⟩ := hv
  have hx := B.exec
  have hb := B.bytes
  have hr := B.returns
  have hts := atoms_spec (ws := wp_c_memory) B.pre
  have hown : s.vm.findClass RX6 = some m.cls := findClass_of_methodNamed B.named
  have hlocks := B.notSynchronized
  have hin : meth.name = "<init>" := (name_of_methodNamed B.named B.method).1
  subst hsz
  have hD := hD0.self (sz := s.heap.size)
  generalize hAe : va_A [(m0, .inr (6, [.null, .null, .int 0, .null, .null, .int 0, .int 0, .int 0, .null, .null, .null, .int 0]))] s.heap.size = A at hD ⊢
  have hA : ∀ q : Nat, s.heap.size ≤ q → A q := fun q h => by rw [← hAe]; exact Or.inr h
  have hS : va_S A s.heap s.heap [] := va_S.rf
  have hP : va_P (dC, dI) vwCl [(m0, .inr (6, [.null, .null, .int 0, .null, .null, .int 0, .int 0, .int 0, .null, .null, .null, .int 0]))] s.heap := hP
  have hl := lv_entry ([.ref m0, .ref y, .ref qw, .int (nI k)]) (n := 4) (Nat.le_of_ble_eq_true rfl)
  rw [lg_entry_eq]
  generalize (lg_sl ([.ref m0, .ref y, .ref qw, .int (nI k)]) ++ List.replicate (4 - (lg_sl ([.ref m0, .ref y, .ref qw, .int (nI k)])).length) Slot.unset).toArray = ls at hl ⊢
  have hl : lv_has ls 4 [(0, .ref m0), (1, .ref y), (2, .ref qw), (3, .int (nI k))] := hl
  refine lv_aload_n hx hb dX6_init_0 rfl (lv_at hl 0 rfl) ?_
  refine W.objInit hx hb hown (hts (.methodLink RX6 3 objectInit) (wm_c_memory 1 rfl)) (hts (.instanceMethod objectInit) (wm_c_memory 2 rfl)) (hts (.code objectInit ⟨#[0xb1]⟩ 1 none) (wm_c_memory 3 rfl)) rfl (by rw [hml]; exact hl.1) rfl dX6_init_1 (Nat.le_of_ble_eq_true rfl) (Nat.le_of_ble_eq_true rfl) ?_
  refine W.eq (g2 := F0 m 4 ls []) rfl ?_
  refine lv_aload_n hx hb dX6_init_4 rfl (lv_at hl 0 rfl) ?_
  refine lv_sipush (v := 4064) hx hb dX6_init_5 (by decide) ?_
  refine va_newa (atype := .int) (a0 := (4064, .inl (fun _ => 0))) (ty := .int) hx hb (hts (.arrayClass .int) (wm_c_memory 4 rfl)) rfl hK hP hD hS hA (fun _ => rfl) (by decide) (by decide +kernel) (show 4064 * 4 ≤ 536870912 by omega) (show 0 + 1 ≤ 5 by omega) (show 0 + 4064 ≤ 28384 by omega) dX6_init_8 (fun q_1 k_2 H hK hP hD hS => ?_)
  have hP : va_P (dC, dI) vwCl [(m0, .inr (6, [.null, .null, .int 0, .null, .null, .int 0, .int 0, .int 0, .null, .null, .null, .int 0])), (q_1, .inl (k_2, 4064, .inl (fun _ => 0)))] H := hP
  have hD : va_D A [(m0, .inr (6, [.null, .null, .int 0, .null, .null, .int 0, .int 0, .int 0, .null, .null, .null, .int 0])), (q_1, .inl (k_2, 4064, .inl (fun _ => 0)))] := hD
  have hK : va_K (dC, dI) vwCl [(k_2, .int)] s := hK
  refine W.widen (k := 1) (n := 4064) (by omega) (by omega) ?_
  refine va_putF (D := (dC, dI)) (ci := 6) (v := .ref q_1) (ty := (.array .int)) (C := RX6) (T := TX6) (N := 12) hx hb hts in_c_memory_X6 tyX6 tyX6_ok nmX6 hown hK hP hD hS 0 rfl rfl 8 (by decide) (hts (.fieldLink RX6 9 "OwnedPlaces$Memory" "dropType" "[I") (wm_c_memory 5 rfl)) (fun _ h9 => h9) rfl hin rfl (by decide +kernel) rfl rfl (Nat.le_of_ble_eq_true rfl) dX6_init_10 (fun H locs hP hD hS => ?_)
  have hP : va_P (dC, dI) vwCl [(m0, .inr (6, [.null, .null, .int 0, .null, .null, .int 0, .int 0, .int 0, .ref q_1, .null, .null, .int 0])), (q_1, .inl (k_2, 4064, .inl (fun _ => 0)))] H := hP
  have hD : va_D A [(m0, .inr (6, [.null, .null, .int 0, .null, .null, .int 0, .int 0, .int 0, .ref q_1, .null, .null, .int 0])), (q_1, .inl (k_2, 4064, .inl (fun _ => 0)))] := hD
  refine lv_aload_n hx hb dX6_init_13 rfl (lv_at hl 0 rfl) ?_
  refine lv_sipush (v := 4064) hx hb dX6_init_14 (by decide) ?_
  refine va_newa (atype := .int) (a0 := (4064, .inl (fun _ => 0))) (ty := .int) hx hb (hts (.arrayClass .int) (wm_c_memory 4 rfl)) rfl hK hP hD hS hA (fun _ => rfl) (by decide) (by decide +kernel) (show 4064 * 4 ≤ 536870912 by omega) (show 1 + 1 ≤ 5 by omega) (show 4064 + 4064 ≤ 28384 by omega) dX6_init_17 (fun q_3 k_4 H hK hP hD hS => ?_)
  have hP : va_P (dC, dI) vwCl [(m0, .inr (6, [.null, .null, .int 0, .null, .null, .int 0, .int 0, .int 0, .ref q_1, .null, .null, .int 0])), (q_1, .inl (k_2, 4064, .inl (fun _ => 0))), (q_3, .inl (k_4, 4064, .inl (fun _ => 0)))] H := hP
  have hD : va_D A [(m0, .inr (6, [.null, .null, .int 0, .null, .null, .int 0, .int 0, .int 0, .ref q_1, .null, .null, .int 0])), (q_1, .inl (k_2, 4064, .inl (fun _ => 0))), (q_3, .inl (k_4, 4064, .inl (fun _ => 0)))] := hD
  have hK : va_K (dC, dI) vwCl [(k_2, .int), (k_4, .int)] s := hK
  obtain rfl : k_2 = k_4 := kEq_int hK 0 1 rfl rfl
  have hK := hK.sub (tys' := [(k_2, .int)]) [0] rfl
  have hP : va_P (dC, dI) vwCl [(m0, .inr (6, [.null, .null, .int 0, .null, .null, .int 0, .int 0, .int 0, .ref q_1, .null, .null, .int 0])), (q_1, .inl (k_2, 4064, .inl (fun _ => 0))), (q_3, .inl (k_2, 4064, .inl (fun _ => 0)))] H := hP
  have hD : va_D A [(m0, .inr (6, [.null, .null, .int 0, .null, .null, .int 0, .int 0, .int 0, .ref q_1, .null, .null, .int 0])), (q_1, .inl (k_2, 4064, .inl (fun _ => 0))), (q_3, .inl (k_2, 4064, .inl (fun _ => 0)))] := hD
  refine W.widen (k := 2) (n := 8128) (by omega) (by omega) ?_
  refine va_putF (D := (dC, dI)) (ci := 6) (v := .ref q_3) (ty := (.array .int)) (C := RX6) (T := TX6) (N := 12) hx hb hts in_c_memory_X6 tyX6 tyX6_ok nmX6 hown hK hP hD hS 0 rfl rfl 9 (by decide) (hts (.fieldLink RX6 15 "OwnedPlaces$Memory" "dropAt" "[I") (wm_c_memory 6 rfl)) (fun _ h9 => h9) rfl hin rfl (by decide +kernel) rfl rfl (Nat.le_of_ble_eq_true rfl) dX6_init_19 (fun H locs hP hD hS => ?_)
  have hP : va_P (dC, dI) vwCl [(m0, .inr (6, [.null, .null, .int 0, .null, .null, .int 0, .int 0, .int 0, .ref q_1, .ref q_3, .null, .int 0])), (q_1, .inl (k_2, 4064, .inl (fun _ => 0))), (q_3, .inl (k_2, 4064, .inl (fun _ => 0)))] H := hP
  have hD : va_D A [(m0, .inr (6, [.null, .null, .int 0, .null, .null, .int 0, .int 0, .int 0, .ref q_1, .ref q_3, .null, .int 0])), (q_1, .inl (k_2, 4064, .inl (fun _ => 0))), (q_3, .inl (k_2, 4064, .inl (fun _ => 0)))] := hD
  refine lv_aload_n hx hb dX6_init_22 rfl (lv_at hl 0 rfl) ?_
  refine lv_sipush (v := 4064) hx hb dX6_init_23 (by decide) ?_
  refine va_newa (atype := .int) (a0 := (4064, .inl (fun _ => 0))) (ty := .int) hx hb (hts (.arrayClass .int) (wm_c_memory 4 rfl)) rfl hK hP hD hS hA (fun _ => rfl) (by decide) (by decide +kernel) (show 4064 * 4 ≤ 536870912 by omega) (show 2 + 1 ≤ 5 by omega) (show 8128 + 4064 ≤ 28384 by omega) dX6_init_26 (fun q_5 k_6 H hK hP hD hS => ?_)
  have hP : va_P (dC, dI) vwCl [(m0, .inr (6, [.null, .null, .int 0, .null, .null, .int 0, .int 0, .int 0, .ref q_1, .ref q_3, .null, .int 0])), (q_1, .inl (k_2, 4064, .inl (fun _ => 0))), (q_3, .inl (k_2, 4064, .inl (fun _ => 0))), (q_5, .inl (k_6, 4064, .inl (fun _ => 0)))] H := hP
  have hD : va_D A [(m0, .inr (6, [.null, .null, .int 0, .null, .null, .int 0, .int 0, .int 0, .ref q_1, .ref q_3, .null, .int 0])), (q_1, .inl (k_2, 4064, .inl (fun _ => 0))), (q_3, .inl (k_2, 4064, .inl (fun _ => 0))), (q_5, .inl (k_6, 4064, .inl (fun _ => 0)))] := hD
  have hK : va_K (dC, dI) vwCl [(k_2, .int), (k_6, .int)] s := hK
  obtain rfl : k_2 = k_6 := kEq_int hK 0 1 rfl rfl
  have hK := hK.sub (tys' := [(k_2, .int)]) [0] rfl
  have hP : va_P (dC, dI) vwCl [(m0, .inr (6, [.null, .null, .int 0, .null, .null, .int 0, .int 0, .int 0, .ref q_1, .ref q_3, .null, .int 0])), (q_1, .inl (k_2, 4064, .inl (fun _ => 0))), (q_3, .inl (k_2, 4064, .inl (fun _ => 0))), (q_5, .inl (k_2, 4064, .inl (fun _ => 0)))] H := hP
  have hD : va_D A [(m0, .inr (6, [.null, .null, .int 0, .null, .null, .int 0, .int 0, .int 0, .ref q_1, .ref q_3, .null, .int 0])), (q_1, .inl (k_2, 4064, .inl (fun _ => 0))), (q_3, .inl (k_2, 4064, .inl (fun _ => 0))), (q_5, .inl (k_2, 4064, .inl (fun _ => 0)))] := hD
  refine W.widen (k := 3) (n := 12192) (by omega) (by omega) ?_
  refine va_putF (D := (dC, dI)) (ci := 6) (v := .ref q_5) (ty := (.array .int)) (C := RX6) (T := TX6) (N := 12) hx hb hts in_c_memory_X6 tyX6 tyX6_ok nmX6 hown hK hP hD hS 0 rfl rfl 10 (by decide) (hts (.fieldLink RX6 18 "OwnedPlaces$Memory" "dropCells" "[I") (wm_c_memory 7 rfl)) (fun _ h9 => h9) rfl hin rfl (by decide +kernel) rfl rfl (Nat.le_of_ble_eq_true rfl) dX6_init_28 (fun H locs hP hD hS => ?_)
  have hP : va_P (dC, dI) vwCl [(m0, .inr (6, [.null, .null, .int 0, .null, .null, .int 0, .int 0, .int 0, .ref q_1, .ref q_3, .ref q_5, .int 0])), (q_1, .inl (k_2, 4064, .inl (fun _ => 0))), (q_3, .inl (k_2, 4064, .inl (fun _ => 0))), (q_5, .inl (k_2, 4064, .inl (fun _ => 0)))] H := hP
  have hD : va_D A [(m0, .inr (6, [.null, .null, .int 0, .null, .null, .int 0, .int 0, .int 0, .ref q_1, .ref q_3, .ref q_5, .int 0])), (q_1, .inl (k_2, 4064, .inl (fun _ => 0))), (q_3, .inl (k_2, 4064, .inl (fun _ => 0))), (q_5, .inl (k_2, 4064, .inl (fun _ => 0)))] := hD
  refine lv_aload_n hx hb dX6_init_31 rfl (lv_at hl 0 rfl) ?_
  refine lv_aload_n hx hb dX6_init_32 rfl (lv_at hl 1 rfl) ?_
  refine va_putF (D := (dC, dI)) (ci := 6) (v := .ref y) (ty := (.object "OwnedPlaces$Types")) (C := RX6) (T := TX6) (N := 12) hx hb hts in_c_memory_X6 tyX6 tyX6_ok nmX6 hown hK hP hD hS 0 rfl rfl 0 (by decide) (hts (.fieldLink RX6 21 "OwnedPlaces$Memory" "types" "LOwnedPlaces$Types;") (wm_c_memory 8 rfl)) (fun _ h9 => h9) rfl hin rfl (by decide +kernel) rfl rfl (Nat.le_of_ble_eq_true rfl) dX6_init_33 (fun H locs hP hD hS => ?_)
  have hP : va_P (dC, dI) vwCl [(m0, .inr (6, [.ref y, .null, .int 0, .null, .null, .int 0, .int 0, .int 0, .ref q_1, .ref q_3, .ref q_5, .int 0])), (q_1, .inl (k_2, 4064, .inl (fun _ => 0))), (q_3, .inl (k_2, 4064, .inl (fun _ => 0))), (q_5, .inl (k_2, 4064, .inl (fun _ => 0)))] H := hP
  have hD : va_D A [(m0, .inr (6, [.ref y, .null, .int 0, .null, .null, .int 0, .int 0, .int 0, .ref q_1, .ref q_3, .ref q_5, .int 0])), (q_1, .inl (k_2, 4064, .inl (fun _ => 0))), (q_3, .inl (k_2, 4064, .inl (fun _ => 0))), (q_5, .inl (k_2, 4064, .inl (fun _ => 0)))] := hD
  refine lv_aload_n hx hb dX6_init_36 rfl (lv_at hl 0 rfl) ?_
  refine lv_aload_n hx hb dX6_init_37 rfl (lv_at hl 2 rfl) ?_
  refine va_putF (D := (dC, dI)) (ci := 6) (v := .ref qw) (ty := (.object "OwnedPlaces$Queue")) (C := RX6) (T := TX6) (N := 12) hx hb hts in_c_memory_X6 tyX6 tyX6_ok nmX6 hown hK hP hD hS 0 rfl rfl 1 (by decide) (hts (.fieldLink RX6 25 "OwnedPlaces$Memory" "waiting" "LOwnedPlaces$Queue;") (wm_c_memory 9 rfl)) (fun _ h9 => h9) rfl hin rfl (by decide +kernel) rfl rfl (Nat.le_of_ble_eq_true rfl) dX6_init_38 (fun H locs hP hD hS => ?_)
  have hP : va_P (dC, dI) vwCl [(m0, .inr (6, [.ref y, .ref qw, .int 0, .null, .null, .int 0, .int 0, .int 0, .ref q_1, .ref q_3, .ref q_5, .int 0])), (q_1, .inl (k_2, 4064, .inl (fun _ => 0))), (q_3, .inl (k_2, 4064, .inl (fun _ => 0))), (q_5, .inl (k_2, 4064, .inl (fun _ => 0)))] H := hP
  have hD : va_D A [(m0, .inr (6, [.ref y, .ref qw, .int 0, .null, .null, .int 0, .int 0, .int 0, .ref q_1, .ref q_3, .ref q_5, .int 0])), (q_1, .inl (k_2, 4064, .inl (fun _ => 0))), (q_3, .inl (k_2, 4064, .inl (fun _ => 0))), (q_5, .inl (k_2, 4064, .inl (fun _ => 0)))] := hD
  refine lv_aload_n hx hb dX6_init_41 rfl (lv_at hl 0 rfl) ?_
  refine lv_iload_n hx hb dX6_init_42 rfl (lv_at hl 3 rfl) ?_
  refine va_putF (D := (dC, dI)) (ci := 6) (v := .int (nI k)) (ty := .int) (C := RX6) (T := TX6) (N := 12) hx hb hts in_c_memory_X6 tyX6 tyX6_ok nmX6 hown hK hP hD hS 0 rfl rfl 2 (by decide) (hts (.fieldLink RX6 29 "OwnedPlaces$Memory" "heap" "I") (wm_c_memory 10 rfl)) (fun _ h9 => h9) rfl hin rfl (by decide +kernel) rfl rfl (Nat.le_of_ble_eq_true rfl) dX6_init_43 (fun H locs hP hD hS => ?_)
  have hP : va_P (dC, dI) vwCl [(m0, .inr (6, [.ref y, .ref qw, .int (nI k), .null, .null, .int 0, .int 0, .int 0, .ref q_1, .ref q_3, .ref q_5, .int 0])), (q_1, .inl (k_2, 4064, .inl (fun _ => 0))), (q_3, .inl (k_2, 4064, .inl (fun _ => 0))), (q_5, .inl (k_2, 4064, .inl (fun _ => 0)))] H := hP
  have hD : va_D A [(m0, .inr (6, [.ref y, .ref qw, .int (nI k), .null, .null, .int 0, .int 0, .int 0, .ref q_1, .ref q_3, .ref q_5, .int 0])), (q_1, .inl (k_2, 4064, .inl (fun _ => 0))), (q_3, .inl (k_2, 4064, .inl (fun _ => 0))), (q_5, .inl (k_2, 4064, .inl (fun _ => 0)))] := hD
  refine lv_aload_n hx hb dX6_init_46 rfl (lv_at hl 0 rfl) ?_
  refine lv_iload_n hx hb dX6_init_47 rfl (lv_at hl 3 rfl) ?_
  refine lv_sipush (v := 8192) hx hb dX6_init_48 (by decide) ?_
  refine lv_iadd hx hb dX6_init_51 ?_
  refine lv_topi (fun f_7 ef_7 => ?_)
  obtain rfl : f_7 = nI (k + 8192) := ef_7.trans (nI_add k 8192)
  refine va_newa (atype := .long) (a0 := (k + 8192, .inr (.inl (fun _ => 0)))) (ty := .long) hx hb (hts (.arrayClass .long) (wm_c_memory 11 rfl)) rfl hK hP hD hS hA (fun _ => rfl) (nI_pos (by omega)) (nI_clamp (by omega)) (by show (k + 8192) * 8 ≤ 536870912; omega) (show 3 + 1 ≤ 5 by omega) (show 12192 + (k + 8192) ≤ 28384 by omega) dX6_init_52 (fun q_8 k_9 H hK hP hD hS => ?_)
  have hP : va_P (dC, dI) vwCl [(m0, .inr (6, [.ref y, .ref qw, .int (nI k), .null, .null, .int 0, .int 0, .int 0, .ref q_1, .ref q_3, .ref q_5, .int 0])), (q_1, .inl (k_2, 4064, .inl (fun _ => 0))), (q_3, .inl (k_2, 4064, .inl (fun _ => 0))), (q_5, .inl (k_2, 4064, .inl (fun _ => 0))), (q_8, .inl (k_9, (k + 8192), .inr (.inl (fun _ => 0))))] H := hP
  have hD : va_D A [(m0, .inr (6, [.ref y, .ref qw, .int (nI k), .null, .null, .int 0, .int 0, .int 0, .ref q_1, .ref q_3, .ref q_5, .int 0])), (q_1, .inl (k_2, 4064, .inl (fun _ => 0))), (q_3, .inl (k_2, 4064, .inl (fun _ => 0))), (q_5, .inl (k_2, 4064, .inl (fun _ => 0))), (q_8, .inl (k_9, (k + 8192), .inr (.inl (fun _ => 0))))] := hD
  have hK : va_K (dC, dI) vwCl [(k_2, .int), (k_9, .long)] s := hK
  refine W.widen (k := 4) (n := 24384) (by omega) (by omega) ?_
  refine va_put (D := (dC, dI)) (ci := 6) (v := .ref q_8) (ty := (.array .long)) (C := RX6) (T := TX6) (N := 12) hx hb hts in_c_memory_X6 tyX6 tyX6_ok nmX6 hown hK hP hD hS 0 rfl rfl 3 (by decide) (hts (.fieldLink RX6 33 "OwnedPlaces$Memory" "cells" "[J") (wm_c_memory 12 rfl)) (fun _ h9 => h9) rfl (by decide +kernel) rfl rfl (Nat.le_of_ble_eq_true rfl) dX6_init_54 (fun H locs hP hD hS => ?_)
  have hP : va_P (dC, dI) vwCl [(m0, .inr (6, [.ref y, .ref qw, .int (nI k), .ref q_8, .null, .int 0, .int 0, .int 0, .ref q_1, .ref q_3, .ref q_5, .int 0])), (q_1, .inl (k_2, 4064, .inl (fun _ => 0))), (q_3, .inl (k_2, 4064, .inl (fun _ => 0))), (q_5, .inl (k_2, 4064, .inl (fun _ => 0))), (q_8, .inl (k_9, (k + 8192), .inr (.inl (fun _ => 0))))] H := hP
  have hD : va_D A [(m0, .inr (6, [.ref y, .ref qw, .int (nI k), .ref q_8, .null, .int 0, .int 0, .int 0, .ref q_1, .ref q_3, .ref q_5, .int 0])), (q_1, .inl (k_2, 4064, .inl (fun _ => 0))), (q_3, .inl (k_2, 4064, .inl (fun _ => 0))), (q_5, .inl (k_2, 4064, .inl (fun _ => 0))), (q_8, .inl (k_9, (k + 8192), .inr (.inl (fun _ => 0))))] := hD
  refine lv_aload_n hx hb dX6_init_57 rfl (lv_at hl 0 rfl) ?_
  refine lv_iload_n hx hb dX6_init_58 rfl (lv_at hl 3 rfl) ?_
  refine va_newa (atype := .byte) (a0 := (k, .inl (fun _ => 0))) (ty := .byte) hx hb (hts (.arrayClass .byte) (wm_c_memory 13 rfl)) rfl hK hP hD hS hA (fun _ => rfl) (nI_pos (by omega)) (nI_clamp (by omega)) (by show k * 1 ≤ 536870912; omega) (show 4 + 1 ≤ 5 by omega) (show 24384 + k ≤ 28384 by omega) dX6_init_59 (fun q_10 k_11 H hK hP hD hS => ?_)
  have hP : va_P (dC, dI) vwCl [(m0, .inr (6, [.ref y, .ref qw, .int (nI k), .ref q_8, .null, .int 0, .int 0, .int 0, .ref q_1, .ref q_3, .ref q_5, .int 0])), (q_1, .inl (k_2, 4064, .inl (fun _ => 0))), (q_3, .inl (k_2, 4064, .inl (fun _ => 0))), (q_5, .inl (k_2, 4064, .inl (fun _ => 0))), (q_8, .inl (k_9, (k + 8192), .inr (.inl (fun _ => 0)))), (q_10, .inl (k_11, k, .inl (fun _ => 0)))] H := hP
  have hD : va_D A [(m0, .inr (6, [.ref y, .ref qw, .int (nI k), .ref q_8, .null, .int 0, .int 0, .int 0, .ref q_1, .ref q_3, .ref q_5, .int 0])), (q_1, .inl (k_2, 4064, .inl (fun _ => 0))), (q_3, .inl (k_2, 4064, .inl (fun _ => 0))), (q_5, .inl (k_2, 4064, .inl (fun _ => 0))), (q_8, .inl (k_9, (k + 8192), .inr (.inl (fun _ => 0)))), (q_10, .inl (k_11, k, .inl (fun _ => 0)))] := hD
  have hK : va_K (dC, dI) vwCl [(k_2, .int), (k_9, .long), (k_11, .byte)] s := hK
  refine W.widen (k := 5) (n := 28384) (by omega) (by omega) ?_
  refine va_putF (D := (dC, dI)) (ci := 6) (v := .ref q_10) (ty := (.array .byte)) (C := RX6) (T := TX6) (N := 12) hx hb hts in_c_memory_X6 tyX6 tyX6_ok nmX6 hown hK hP hD hS 0 rfl rfl 4 (by decide) (hts (.fieldLink RX6 37 "OwnedPlaces$Memory" "taken" "[B") (wm_c_memory 14 rfl)) (fun _ h9 => h9) rfl hin rfl (by decide +kernel) rfl rfl (Nat.le_of_ble_eq_true rfl) dX6_init_61 (fun H locs hP hD hS => ?_)
  have hP : va_P (dC, dI) vwCl [(m0, .inr (6, [.ref y, .ref qw, .int (nI k), .ref q_8, .ref q_10, .int 0, .int 0, .int 0, .ref q_1, .ref q_3, .ref q_5, .int 0])), (q_1, .inl (k_2, 4064, .inl (fun _ => 0))), (q_3, .inl (k_2, 4064, .inl (fun _ => 0))), (q_5, .inl (k_2, 4064, .inl (fun _ => 0))), (q_8, .inl (k_9, (k + 8192), .inr (.inl (fun _ => 0)))), (q_10, .inl (k_11, k, .inl (fun _ => 0)))] H := hP
  have hD : va_D A [(m0, .inr (6, [.ref y, .ref qw, .int (nI k), .ref q_8, .ref q_10, .int 0, .int 0, .int 0, .ref q_1, .ref q_3, .ref q_5, .int 0])), (q_1, .inl (k_2, 4064, .inl (fun _ => 0))), (q_3, .inl (k_2, 4064, .inl (fun _ => 0))), (q_5, .inl (k_2, 4064, .inl (fun _ => 0))), (q_8, .inl (k_9, (k + 8192), .inr (.inl (fun _ => 0)))), (q_10, .inl (k_11, k, .inl (fun _ => 0)))] := hD
  have hP9 := hP.sub (ws' := [(m0, .inr (6, [.ref y, .ref qw, .int (nI k), .ref q_8, .ref q_10, .int 0, .int 0, .int 0, .ref q_1, .ref q_3, .ref q_5, .int 0])), (q_10, .inl (k_11, k, .inl (fun _ => 0)))]) [0, 5] rfl
  have hD9 := hD.sub (ws' := [(m0, .inr (6, [.ref y, .ref qw, .int (nI k), .ref q_8, .ref q_10, .int 0, .int 0, .int 0, .ref q_1, .ref q_3, .ref q_5, .int 0])), (q_10, .inl (k_11, k, .inl (fun _ => 0)))]) [0, 5] (by decide) rfl
  have hK9 := hK.sub (tys' := [(k_11, .byte)]) [2] rfl
  refine W.widen (k := 5) (n := 28384) (by omega) (by omega) ?_
  exact W.vret hx hb hr (fun tS ht hW => ⟨⟨(), rfl, trivial, q_8, q_10, q_1, q_3, q_5, k_11, by rw [ht]; exact hP9, va_K.moved hW.alike hK9, hD9⟩, hS.F ht⟩) hS.2.2 dX6_init_64
