def wf_c_tok0 : List Cond := [.code yX23_ok cX23_ok 1 (some .boolean), .fieldLink RX23 80 "OwnedPlacesModel" "fault" "I"]
def wp_c_tok0 : List Cond := wf_c_tok0 ++ (wsX230 ++ [])
theorem in_c_tok0_X23 : ∀ w ∈ wsX230, w ∈ wp_c_tok0 := fun w h => List.mem_append_right _ (List.mem_append_left _ h)
theorem wg_c_tok0 : wf_c_tok0.all goodWord = true := by decide +kernel
theorem wm_c_tok0 (k : Nat) {w : Cond} (h : wp_c_tok0[k]? = some w) : w ∈ wp_c_tok0 := List.mem_of_getElem? h
set_option maxHeartbeats 4000000 in
set_option maxRecDepth 100000 in
theorem c_tok0 (l : Launch) (dC : Nat → ClassId) (dI : Nat → Nat → Nat) (m9 : Nat) (mr : Nat → Nat) (mv : Nat → Int32) (vf : Value) (xa xm : Int32) (T im tm sc vm : Nat) (kI : ClassId) (sz : Nat) : Met l yX23_ok wp_c_tok0 ({ frames := 0, cells := 0, slots := 0, locals := 0 }) (va_Pc [.ref m9] (fun U => U.heap.size = sz ∧ va_P (dC, dI) vwCl [(m9, .inr (23, mT mr mv vf 0 xa (nI T) (nI im) (nI tm) xm (nI sc) (nI vm)))] U.heap ∧ va_K (dC, dI) vwCl [] U ∧ va_D (fun _ => True) [(m9, .inr (23, mT mr mv vf 0 xa (nI T) (nI im) (nI tm) xm (nI sc) (nI vm)))])) (va_Qi (fun (r : Int32) (_ : Unit) => r = 1) (fun (_ : Unit) (tS : State) => va_P (dC, dI) vwCl [(m9, .inr (23, mT mr mv vf 0 xa (nI T) (nI im) (nI tm) xm (nI sc) (nI vm)))] tS.heap ∧ va_K (dC, dI) vwCl [] tS ∧ va_D (va_A [(m9, .inr (23, mT mr mv vf 0 xa (nI T) (nI im) (nI tm) xm (nI sc) (nI vm)))] sz) [(m9, .inr (23, mT mr mv vf 0 xa (nI T) (nI im) (nI tm) xm (nI sc) (nI vm)))]) (va_A [(m9, .inr (23, mT mr mv vf 0 xa (nI T) (nI im) (nI tm) xm (nI sc) (nI vm)))] sz)) 0 0 (va_A [(m9, .inr (23, mT mr mv vf 0 xa (nI T) (nI im) (nI tm) xm (nI sc) (nI vm)))] sz) := by
  refine Met.ofW (cc := cX23_ok) (maxL := 1) (ret := (some .boolean)) (by decide) rfl ?_
  intro p e s m args below meth c s₁ B hml hv
  obtain ⟨rfl, hsz, hP, hK, hD0⟩ := hv
  have hx := B.exec
  have hb := B.bytes
  have hr := B.returns
  have hts := atoms_spec (ws := wp_c_tok0) B.pre
  have hown : s.vm.findClass RX23 = some m.cls := findClass_of_methodNamed B.named
  have hlocks := B.notSynchronized
  subst hsz
  have hD := hD0.self (sz := s.heap.size)
  generalize hAe : va_A [(m9, .inr (23, mT mr mv vf 0 xa (nI T) (nI im) (nI tm) xm (nI sc) (nI vm)))] s.heap.size = A at hD ⊢
  have hA : ∀ q : Nat, s.heap.size ≤ q → A q := fun q h => by rw [← hAe]; exact Or.inr h
  have hS : va_S A s.heap s.heap [] := va_S.rf
  have hP : va_P (dC, dI) vwCl [(m9, .inr (23, mT mr mv vf 0 xa (nI T) (nI im) (nI tm) xm (nI sc) (nI vm)))] s.heap := hP
  have hl := lv_entry ([.ref m9]) (n := 1) (Nat.le_of_ble_eq_true rfl)
  rw [lg_entry_eq]
  generalize (lg_sl ([.ref m9]) ++ List.replicate (1 - (lg_sl ([.ref m9])).length) Slot.unset).toArray = ls at hl ⊢
  have hl : lv_has ls 1 [(0, .ref m9)] := hl
  refine lv_aload_n hx hb dX23_ok_0 rfl (lv_at hl 0 rfl) ?_
  refine va_get (D := (dC, dI)) (ci := 23) (v := .int 0) (C := RX23) (T := TX23) (N := 89) hx hb hts in_c_tok0_X23 hown hK hP 0 rfl rfl 3 (by decide) (hts (.fieldLink RX23 80 "OwnedPlacesModel" "fault" "I") (wm_c_tok0 1 rfl)) (fun _ h9 => h9) rfl dX23_ok_1 ?_
  refine lv_if_ne (tgt := 11) hx hb dX23_ok_4 (by decide) (fun c_1 => absurd c_1 (by decide)) (fun _ => ?_)
  refine lv_iconst (v := 1) hx hb dX23_ok_7 (by decide) ?_
  refine lv_goto (tgt := 12) hx hb dX23_ok_8 (by decide) ?_
  have hP9 := hP.sub (ws' := [(m9, .inr (23, mT mr mv vf 0 xa (nI T) (nI im) (nI tm) xm (nI sc) (nI vm)))]) [0] rfl
  have hD9 := hD.sub (ws' := [(m9, .inr (23, mT mr mv vf 0 xa (nI T) (nI im) (nI tm) xm (nI sc) (nI vm)))]) [0] (by decide) rfl
  have hK9 := hK.sub (tys' := []) [] rfl
  exact W.zret (v := 1) hx hb hr (by decide) (fun tS ht hW => ⟨⟨1, (), rfl, rfl, by rw [ht]; exact hP9, va_K.moved hW.alike hK9, hD9⟩, hS.F ht⟩) hS.2.2 dX23_ok_12
set_option maxHeartbeats 4000000 in
set_option maxRecDepth 100000 in
theorem c_tokB (l : Launch) (dC : Nat → ClassId) (dI : Nat → Nat → Nat) (m9 : Nat) (mr : Nat → Nat) (mv : Nat → Int32) (vf : Value) (ff xa xm : Int32) (T im tm sc vm : Nat) (kI : ClassId) (sz : Nat) (hff : ff ≠ 0) : Met l yX23_ok wp_c_tok0 ({ frames := 0, cells := 0, slots := 0, locals := 0 }) (va_Pc [.ref m9] (fun U => U.heap.size = sz ∧ va_P (dC, dI) vwCl [(m9, .inr (23, mT mr mv vf ff xa (nI T) (nI im) (nI tm) xm (nI sc) (nI vm)))] U.heap ∧ va_K (dC, dI) vwCl [] U ∧ va_D (fun _ => True) [(m9, .inr (23, mT mr mv vf ff xa (nI T) (nI im) (nI tm) xm (nI sc) (nI vm)))])) (va_Qi (fun (r : Int32) (_ : Unit) => r = 0) (fun (_ : Unit) (tS : State) => va_P (dC, dI) vwCl [(m9, .inr (23, mT mr mv vf ff xa (nI T) (nI im) (nI tm) xm (nI sc) (nI vm)))] tS.heap ∧ va_K (dC, dI) vwCl [] tS ∧ va_D (va_A [(m9, .inr (23, mT mr mv vf ff xa (nI T) (nI im) (nI tm) xm (nI sc) (nI vm)))] sz) [(m9, .inr (23, mT mr mv vf ff xa (nI T) (nI im) (nI tm) xm (nI sc) (nI vm)))]) (va_A [(m9, .inr (23, mT mr mv vf ff xa (nI T) (nI im) (nI tm) xm (nI sc) (nI vm)))] sz)) 0 0 (va_A [(m9, .inr (23, mT mr mv vf ff xa (nI T) (nI im) (nI tm) xm (nI sc) (nI vm)))] sz) := by
  refine Met.ofW (cc := cX23_ok) (maxL := 1) (ret := (some .boolean)) (by decide) rfl ?_
  intro p e s m args below meth c s₁ B hml hv
  obtain ⟨rfl, hsz, hP, hK, hD0⟩ := hv
  have hx := B.exec
  have hb := B.bytes
  have hr := B.returns
  have hts := atoms_spec (ws := wp_c_tok0) B.pre
  have hown : s.vm.findClass RX23 = some m.cls := findClass_of_methodNamed B.named
  have hlocks := B.notSynchronized
  subst hsz
  have hD := hD0.self (sz := s.heap.size)
  generalize hAe : va_A [(m9, .inr (23, mT mr mv vf ff xa (nI T) (nI im) (nI tm) xm (nI sc) (nI vm)))] s.heap.size = A at hD ⊢
  have hA : ∀ q : Nat, s.heap.size ≤ q → A q := fun q h => by rw [← hAe]; exact Or.inr h
  have hS : va_S A s.heap s.heap [] := va_S.rf
  have hP : va_P (dC, dI) vwCl [(m9, .inr (23, mT mr mv vf ff xa (nI T) (nI im) (nI tm) xm (nI sc) (nI vm)))] s.heap := hP
  have hl := lv_entry ([.ref m9]) (n := 1) (Nat.le_of_ble_eq_true rfl)
  rw [lg_entry_eq]
  generalize (lg_sl ([.ref m9]) ++ List.replicate (1 - (lg_sl ([.ref m9])).length) Slot.unset).toArray = ls at hl ⊢
  have hl : lv_has ls 1 [(0, .ref m9)] := hl
  refine lv_aload_n hx hb dX23_ok_0 rfl (lv_at hl 0 rfl) ?_
  refine va_get (D := (dC, dI)) (ci := 23) (v := .int ff) (C := RX23) (T := TX23) (N := 89) hx hb hts in_c_tok0_X23 hown hK hP 0 rfl rfl 3 (by decide) (hts (.fieldLink RX23 80 "OwnedPlacesModel" "fault" "I") (wm_c_tok0 1 rfl)) (fun _ h9 => h9) rfl dX23_ok_1 ?_
  refine lv_if_ne (tgt := 11) hx hb dX23_ok_4 (by decide) (fun _ => ?_) (fun c_1 => absurd c_1 hff)
  refine lv_iconst (v := 0) hx hb dX23_ok_11 (by decide) ?_
  have hP9 := hP.sub (ws' := [(m9, .inr (23, mT mr mv vf ff xa (nI T) (nI im) (nI tm) xm (nI sc) (nI vm)))]) [0] rfl
  have hD9 := hD.sub (ws' := [(m9, .inr (23, mT mr mv vf ff xa (nI T) (nI im) (nI tm) xm (nI sc) (nI vm)))]) [0] (by decide) rfl
  have hK9 := hK.sub (tys' := []) [] rfl
  exact W.zret (v := 0) hx hb hr (by decide) (fun tS ht hW => ⟨⟨0, (), rfl, rfl, by rw [ht]; exact hP9, va_K.moved hW.alike hK9, hD9⟩, hS.F ht⟩) hS.2.2 dX23_ok_12
def wf_c_tfa0 : List Cond := [.code yX23_fail cX23_fail 3 none, .fieldLink RX23 80 "OwnedPlacesModel" "fault" "I", .fieldLink RX23 31 "OwnedPlacesModel" "tokenAt" "[I", .fieldLink RX23 83 "OwnedPlacesModel" "faultAt" "I"]
def wp_c_tfa0 : List Cond := wf_c_tfa0 ++ (wsX230 ++ [])
theorem in_c_tfa0_X23 : ∀ w ∈ wsX230, w ∈ wp_c_tfa0 := fun w h => List.mem_append_right _ (List.mem_append_left _ h)
theorem wg_c_tfa0 : wf_c_tfa0.all goodWord = true := by decide +kernel
theorem wm_c_tfa0 (k : Nat) {w : Cond} (h : wp_c_tfa0[k]? = some w) : w ∈ wp_c_tfa0 := List.mem_of_getElem? h
set_option maxHeartbeats 4000000 in
set_option maxRecDepth 100000 in
theorem c_tfa0 (l : Launch) (dC : Nat → ClassId) (dI : Nat → Nat → Nat) (m9 : Nat) (mr : Nat → Nat) (mv : Nat → Int32) (vf : Value) (xa xm : Int32) (T im tm sc vm : Nat) (kI : ClassId) (fa : Nat → Int32) (wh : Int32) (tj : Nat) (sz : Nat) (htj : tj < 3002) : Met l yX23_fail wp_c_tfa0 ({ frames := 0, cells := 0, slots := 0, locals := 0 }) (va_Pc [.ref m9, .int wh, .int (nI tj)] (fun U => U.heap.size = sz ∧ va_P (dC, dI) vwCl [(m9, .inr (23, mT mr mv vf 0 xa (nI T) (nI im) (nI tm) xm (nI sc) (nI vm))), (mr 6, .inl (kI, 3002, .inl fa))] U.heap ∧ va_K (dC, dI) vwCl [(kI, .int)] U ∧ va_D (fun _ => True) [(m9, .inr (23, mT mr mv vf 0 xa (nI T) (nI im) (nI tm) xm (nI sc) (nI vm))), (mr 6, .inl (kI, 3002, .inl fa))])) (va_Qv (fun _ : Unit => True) (fun (_ : Unit) (tS : State) => va_P (dC, dI) vwCl [(m9, .inr (23, mT mr mv vf wh (fa tj) (nI T) (nI im) (nI tm) xm (nI sc) (nI vm))), (mr 6, .inl (kI, 3002, .inl fa))] tS.heap ∧ va_K (dC, dI) vwCl [(kI, .int)] tS ∧ va_D (va_A [(m9, .inr (23, mT mr mv vf 0 xa (nI T) (nI im) (nI tm) xm (nI sc) (nI vm))), (mr 6, .inl (kI, 3002, .inl fa))] sz) [(m9, .inr (23, mT mr mv vf wh (fa tj) (nI T) (nI im) (nI tm) xm (nI sc) (nI vm))), (mr 6, .inl (kI, 3002, .inl fa))]) (va_A [(m9, .inr (23, mT mr mv vf 0 xa (nI T) (nI im) (nI tm) xm (nI sc) (nI vm))), (mr 6, .inl (kI, 3002, .inl fa))] sz)) 0 0 (va_A [(m9, .inr (23, mT mr mv vf 0 xa (nI T) (nI im) (nI tm) xm (nI sc) (nI vm))), (mr 6, .inl (kI, 3002, .inl fa))] sz) := by
  refine Met.ofW (cc := cX23_fail) (maxL := 3) (ret := none) (by decide) rfl ?_
  intro p e s m args below meth c s₁ B hml hv
  obtain ⟨rfl, hsz, hP, hK, hD0⟩ := hv
  have hx := B.exec
  have hb := B.bytes
  have hr := B.returns
  have hts := atoms_spec (ws := wp_c_tfa0) B.pre
  have hown : s.vm.findClass RX23 = some m.cls := findClass_of_methodNamed B.named
  have hlocks := B.notSynchronized
  subst hsz
  have hD := hD0.self (sz := s.heap.size)
  generalize hAe : va_A [(m9, .inr (23, mT mr mv vf 0 xa (nI T) (nI im) (nI tm) xm (nI sc) (nI vm))), (mr 6, .inl (kI, 3002, .inl fa))] s.heap.size = A at hD ⊢
  have hA : ∀ q : Nat, s.heap.size ≤ q → A q := fun q h => by rw [← hAe]; exact Or.inr h
  have hS : va_S A s.heap s.heap [] := va_S.rf
  have hP : va_P (dC, dI) vwCl [(m9, .inr (23, mT mr mv vf 0 xa (nI T) (nI im) (nI tm) xm (nI sc) (nI vm))), (mr 6, .inl (kI, 3002, .inl fa))] s.heap := hP
  have hl := lv_entry ([.ref m9, .int wh, .int (nI tj)]) (n := 3) (Nat.le_of_ble_eq_true rfl)
  rw [lg_entry_eq]
  generalize (lg_sl ([.ref m9, .int wh, .int (nI tj)]) ++ List.replicate (3 - (lg_sl ([.ref m9, .int wh, .int (nI tj)])).length) Slot.unset).toArray = ls at hl ⊢
  have hl : lv_has ls 3 [(0, .ref m9), (1, .int wh), (2, .int (nI tj))] := hl
  refine lv_aload_n hx hb dX23_fail_0 rfl (lv_at hl 0 rfl) ?_
  refine va_get (D := (dC, dI)) (ci := 23) (v := .int 0) (C := RX23) (T := TX23) (N := 89) hx hb hts in_c_tfa0_X23 hown hK hP 0 rfl rfl 3 (by decide) (hts (.fieldLink RX23 80 "OwnedPlacesModel" "fault" "I") (wm_c_tfa0 1 rfl)) (fun _ h9 => h9) rfl dX23_fail_1 ?_
  refine lv_if_eq (tgt := 8) hx hb dX23_fail_4 (by decide) (fun _ => ?_) (fun c_1 => absurd (by decide) c_1)
  refine lv_aload_n hx hb dX23_fail_8 rfl (lv_at hl 0 rfl) ?_
  refine lv_iload_n hx hb dX23_fail_9 rfl (lv_at hl 1 rfl) ?_
  refine va_put (D := (dC, dI)) (ci := 23) (v := .int wh) (ty := .int) (C := RX23) (T := TX23) (N := 89) hx hb hts in_c_tfa0_X23 tyX23 tyX23_ok nmX23 hown hK hP hD hS 0 rfl rfl 3 (by decide) (hts (.fieldLink RX23 80 "OwnedPlacesModel" "fault" "I") (wm_c_tfa0 1 rfl)) (fun _ h9 => h9) rfl (by decide +kernel) rfl rfl (Nat.le_of_ble_eq_true rfl) dX23_fail_10 (fun H locs hP hD hS => ?_)
  have hP : va_P (dC, dI) vwCl [(m9, .inr (23, mT mr mv vf wh xa (nI T) (nI im) (nI tm) xm (nI sc) (nI vm))), (mr 6, .inl (kI, 3002, .inl fa))] H := hP
  have hD : va_D A [(m9, .inr (23, mT mr mv vf wh xa (nI T) (nI im) (nI tm) xm (nI sc) (nI vm))), (mr 6, .inl (kI, 3002, .inl fa))] := hD
  refine lv_aload_n hx hb dX23_fail_13 rfl (lv_at hl 0 rfl) ?_
  refine lv_aload_n hx hb dX23_fail_14 rfl (lv_at hl 0 rfl) ?_
  refine va_get (D := (dC, dI)) (ci := 23) (v := .ref (mr 6)) (C := RX23) (T := TX23) (N := 89) hx hb hts in_c_tfa0_X23 hown hK hP 0 rfl rfl 6 (by decide) (hts (.fieldLink RX23 31 "OwnedPlacesModel" "tokenAt" "[I") (wm_c_tfa0 2 rfl)) (fun _ h9 => h9) rfl dX23_fail_15 ?_
  refine lv_iload_n hx hb dX23_fail_18 rfl (lv_at hl 2 rfl) ?_
  refine va_iald hx hb hK hP 1 0 rfl rfl (vp_in_nI htj (by decide)) dX23_fail_19 ?_
  refine lv_topi (fun v_2 ev_2 => ?_)
  obtain rfl : v_2 = fa tj := ev_2.trans (by rw [nI_clamp (by omega)])
  refine va_put (D := (dC, dI)) (ci := 23) (v := .int (fa tj)) (ty := .int) (C := RX23) (T := TX23) (N := 89) hx hb hts in_c_tfa0_X23 tyX23 tyX23_ok nmX23 hown hK hP hD hS 0 rfl rfl 4 (by decide) (hts (.fieldLink RX23 83 "OwnedPlacesModel" "faultAt" "I") (wm_c_tfa0 3 rfl)) (fun _ h9 => h9) rfl (by decide +kernel) rfl rfl (Nat.le_of_ble_eq_true rfl) dX23_fail_20 (fun H locs hP hD hS => ?_)
  have hP : va_P (dC, dI) vwCl [(m9, .inr (23, mT mr mv vf wh (fa tj) (nI T) (nI im) (nI tm) xm (nI sc) (nI vm))), (mr 6, .inl (kI, 3002, .inl fa))] H := hP
  have hD : va_D A [(m9, .inr (23, mT mr mv vf wh (fa tj) (nI T) (nI im) (nI tm) xm (nI sc) (nI vm))), (mr 6, .inl (kI, 3002, .inl fa))] := hD
  have hP9 := hP.sub (ws' := [(m9, .inr (23, mT mr mv vf wh (fa tj) (nI T) (nI im) (nI tm) xm (nI sc) (nI vm))), (mr 6, .inl (kI, 3002, .inl fa))]) [0, 1] rfl
  have hD9 := hD.sub (ws' := [(m9, .inr (23, mT mr mv vf wh (fa tj) (nI T) (nI im) (nI tm) xm (nI sc) (nI vm))), (mr 6, .inl (kI, 3002, .inl fa))]) [0, 1] (by decide) rfl
  have hK9 := hK.sub (tys' := [(kI, .int)]) [0] rfl
  exact W.vret hx hb hr (fun tS ht hW => ⟨⟨(), rfl, trivial, by rw [ht]; exact hP9, va_K.moved hW.alike hK9, hD9⟩, hS.F ht⟩) hS.2.2 dX23_fail_23
set_option maxHeartbeats 4000000 in
set_option maxRecDepth 100000 in
theorem c_tfaB (l : Launch) (dC : Nat → ClassId) (dI : Nat → Nat → Nat) (m9 : Nat) (mr : Nat → Nat) (mv : Nat → Int32) (vf : Value) (ff xa xm : Int32) (T im tm sc vm : Nat) (kI : ClassId) (fa : Nat → Int32) (wh tj : Int32) (sz : Nat) (hff : ff ≠ 0) : Met l yX23_fail wp_c_tfa0 ({ frames := 0, cells := 0, slots := 0, locals := 0 }) (va_Pc [.ref m9, .int wh, .int tj] (fun U => U.heap.size = sz ∧ va_P (dC, dI) vwCl [(m9, .inr (23, mT mr mv vf ff xa (nI T) (nI im) (nI tm) xm (nI sc) (nI vm))), (mr 6, .inl (kI, 3002, .inl fa))] U.heap ∧ va_K (dC, dI) vwCl [(kI, .int)] U ∧ va_D (fun _ => True) [(m9, .inr (23, mT mr mv vf ff xa (nI T) (nI im) (nI tm) xm (nI sc) (nI vm))), (mr 6, .inl (kI, 3002, .inl fa))])) (va_Qv (fun _ : Unit => True) (fun (_ : Unit) (tS : State) => va_P (dC, dI) vwCl [(m9, .inr (23, mT mr mv vf ff xa (nI T) (nI im) (nI tm) xm (nI sc) (nI vm))), (mr 6, .inl (kI, 3002, .inl fa))] tS.heap ∧ va_K (dC, dI) vwCl [(kI, .int)] tS ∧ va_D (va_A [(m9, .inr (23, mT mr mv vf ff xa (nI T) (nI im) (nI tm) xm (nI sc) (nI vm))), (mr 6, .inl (kI, 3002, .inl fa))] sz) [(m9, .inr (23, mT mr mv vf ff xa (nI T) (nI im) (nI tm) xm (nI sc) (nI vm))), (mr 6, .inl (kI, 3002, .inl fa))]) (va_A [(m9, .inr (23, mT mr mv vf ff xa (nI T) (nI im) (nI tm) xm (nI sc) (nI vm))), (mr 6, .inl (kI, 3002, .inl fa))] sz)) 0 0 (va_A [(m9, .inr (23, mT mr mv vf ff xa (nI T) (nI im) (nI tm) xm (nI sc) (nI vm))), (mr 6, .inl (kI, 3002, .inl fa))] sz) := by
  refine Met.ofW (cc := cX23_fail) (maxL := 3) (ret := none) (by decide) rfl ?_
  intro p e s m args below meth c s₁ B hml hv
  obtain ⟨rfl, hsz, hP, hK, hD0⟩ := hv
  have hx := B.exec
  have hb := B.bytes
  have hr := B.returns
  have hts := atoms_spec (ws := wp_c_tfa0) B.pre
  have hown : s.vm.findClass RX23 = some m.cls := findClass_of_methodNamed B.named
  have hlocks := B.notSynchronized
  subst hsz
  have hD := hD0.self (sz := s.heap.size)
  generalize hAe : va_A [(m9, .inr (23, mT mr mv vf ff xa (nI T) (nI im) (nI tm) xm (nI sc) (nI vm))), (mr 6, .inl (kI, 3002, .inl fa))] s.heap.size = A at hD ⊢
  have hA : ∀ q : Nat, s.heap.size ≤ q → A q := fun q h => by rw [← hAe]; exact Or.inr h
  have hS : va_S A s.heap s.heap [] := va_S.rf
  have hP : va_P (dC, dI) vwCl [(m9, .inr (23, mT mr mv vf ff xa (nI T) (nI im) (nI tm) xm (nI sc) (nI vm))), (mr 6, .inl (kI, 3002, .inl fa))] s.heap := hP
  have hl := lv_entry ([.ref m9, .int wh, .int tj]) (n := 3) (Nat.le_of_ble_eq_true rfl)
  rw [lg_entry_eq]
  generalize (lg_sl ([.ref m9, .int wh, .int tj]) ++ List.replicate (3 - (lg_sl ([.ref m9, .int wh, .int tj])).length) Slot.unset).toArray = ls at hl ⊢
  have hl : lv_has ls 3 [(0, .ref m9), (1, .int wh), (2, .int tj)] := hl
  refine lv_aload_n hx hb dX23_fail_0 rfl (lv_at hl 0 rfl) ?_
  refine va_get (D := (dC, dI)) (ci := 23) (v := .int ff) (C := RX23) (T := TX23) (N := 89) hx hb hts in_c_tfa0_X23 hown hK hP 0 rfl rfl 3 (by decide) (hts (.fieldLink RX23 80 "OwnedPlacesModel" "fault" "I") (wm_c_tfa0 1 rfl)) (fun _ h9 => h9) rfl dX23_fail_1 ?_
  refine lv_if_eq (tgt := 8) hx hb dX23_fail_4 (by decide) (fun c_1 => absurd c_1 hff) (fun _ => ?_)
  have hP9 := hP.sub (ws' := [(m9, .inr (23, mT mr mv vf ff xa (nI T) (nI im) (nI tm) xm (nI sc) (nI vm))), (mr 6, .inl (kI, 3002, .inl fa))]) [0, 1] rfl
  have hD9 := hD.sub (ws' := [(m9, .inr (23, mT mr mv vf ff xa (nI T) (nI im) (nI tm) xm (nI sc) (nI vm))), (mr 6, .inl (kI, 3002, .inl fa))]) [0, 1] (by decide) rfl
  have hK9 := hK.sub (tys' := [(kI, .int)]) [0] rfl
  exact W.vret hx hb hr (fun tS ht hW => ⟨⟨(), rfl, trivial, by rw [ht]; exact hP9, va_K.moved hW.alike hK9, hD9⟩, hS.F ht⟩) hS.2.2 dX23_fail_7
