def wf_c_program : List Cond := [.code yX3_program cX3_program 3 none, .fieldLink RX3 19 "OwnedPlaces$Grammar" "total" "I", .fieldLink RX3 23 "OwnedPlaces$Grammar" "shapes" "I", .fieldLink RX3 26 "OwnedPlaces$Grammar" "functions" "I", .fieldLink RX3 15 "OwnedPlaces$Grammar" "text" "LOwnedPlaces$Text;", .code yX9_kind cX9_kind 1 (some .int), .fieldLink RX9 9 "OwnedPlaces$Text" "kinds" "[I", .fieldLink RX9 106 "OwnedPlaces$Text" "now" "I", .methodLink RX3 29 yX9_kind, .instanceMethod yX9_kind, .selects RX9 yX9_kind yX9_kind, .initialized RX9]
def wp_c_program : List Cond := wf_c_program ++ (wsX30 ++ (wsX90 ++ []))
theorem in_c_program_X3 : ∀ w ∈ wsX30, w ∈ wp_c_program := fun w h => List.mem_append_right _ (List.mem_append_left _ h)
theorem in_c_program_X9 : ∀ w ∈ wsX90, w ∈ wp_c_program := fun w h => List.mem_append_right _ (List.mem_append_right _ (List.mem_append_left _ h))
theorem wg_c_program : wf_c_program.all goodWord = true := by decide +kernel
theorem wm_c_program (k : Nat) {w : Cond} (h : wp_c_program[k]? = some w) : w ∈ wp_c_program := List.mem_of_getElem? h
set_option maxRecDepth 20000 in
theorem g_c_program_c_kind_28 : GoodIn wp_c_program (wsV RX3 29 RX9 yX9_kind wp_c_kind) := goodIn_app (goodIn_f [.methodLink RX3 29 yX9_kind, .instanceMethod yX9_kind, .selects RX9 yX9_kind yX9_kind, .initialized RX9] [8, 9, 10, 11] rfl (by decide +kernel)) (goodIn_app (goodIn_f (wf_c_kind) [5, 6, 7] rfl wg_c_kind) (goodIn_app (goodIn_sub in_c_program_X9 gd_X9) (goodIn_n)))
set_option maxHeartbeats 4000000 in
set_option maxRecDepth 100000 in
theorem c_program (l : Launch) (dC : Nat → ClassId) (dI : Nat → Nat → Nat) (g gi : Nat) (h tk tp tn tu tl tb ts tf tz tx th tw : Nat) (kI : ClassId) (fk : Nat → Int32) (sz : Nat) (hf0 : fk 0 = 0) : Met l yX3_program wp_c_program ({ frames := 1, cells := 0, slots := 0, locals := 20 }) (va_Pc [.ref g] (fun U => U.heap.size = sz ∧ va_P (dC, dI) vwCl [(g, .inr (3, [.ref h, .ref gi, .int 0, .int 0, .int 0, .int 0, .int 0])), (h, .inr (9, [.ref tk, .ref tp, .ref tn, .ref tu, .ref tl, .int 0, .int 0, .int 0, .int (-1), .int 20, .ref tb, .int 1, .ref ts, .ref tf, .ref tz, .ref tx, .ref th, .ref tw])), (tk, .inl (kI, 3002, .inl fk))] U.heap ∧ va_K (dC, dI) vwCl [(kI, .int)] U ∧ va_D (fun _ => True) [(g, .inr (3, [.ref h, .ref gi, .int 0, .int 0, .int 0, .int 0, .int 0])), (h, .inr (9, [.ref tk, .ref tp, .ref tn, .ref tu, .ref tl, .int 0, .int 0, .int 0, .int (-1), .int 20, .ref tb, .int 1, .ref ts, .ref tf, .ref tz, .ref tx, .ref th, .ref tw])), (tk, .inl (kI, 3002, .inl fk))])) (va_Qv (fun _ : Unit => True) (fun (_ : Unit) (tS : State) => va_P (dC, dI) vwCl [(g, .inr (3, [.ref h, .ref gi, .int 0, .int 0, .int 0, .int 0, .int 0])), (h, .inr (9, [.ref tk, .ref tp, .ref tn, .ref tu, .ref tl, .int 0, .int 0, .int 0, .int (-1), .int 20, .ref tb, .int 1, .ref ts, .ref tf, .ref tz, .ref tx, .ref th, .ref tw])), (tk, .inl (kI, 3002, .inl fk))] tS.heap ∧ va_K (dC, dI) vwCl [(kI, .int)] tS ∧ va_D (va_A [(g, .inr (3, [.ref h, .ref gi, .int 0, .int 0, .int 0, .int 0, .int 0])), (h, .inr (9, [.ref tk, .ref tp, .ref tn, .ref tu, .ref tl, .int 0, .int 0, .int 0, .int (-1), .int 20, .ref tb, .int 1, .ref ts, .ref tf, .ref tz, .ref tx, .ref th, .ref tw])), (tk, .inl (kI, 3002, .inl fk))] sz) [(g, .inr (3, [.ref h, .ref gi, .int 0, .int 0, .int 0, .int 0, .int 0])), (h, .inr (9, [.ref tk, .ref tp, .ref tn, .ref tu, .ref tl, .int 0, .int 0, .int 0, .int (-1), .int 20, .ref tb, .int 1, .ref ts, .ref tf, .ref tz, .ref tx, .ref th, .ref tw])), (tk, .inl (kI, 3002, .inl fk))]) (va_A [(g, .inr (3, [.ref h, .ref gi, .int 0, .int 0, .int 0, .int 0, .int 0])), (h, .inr (9, [.ref tk, .ref tp, .ref tn, .ref tu, .ref tl, .int 0, .int 0, .int 0, .int (-1), .int 20, .ref tb, .int 1, .ref ts, .ref tf, .ref tz, .ref tx, .ref th, .ref tw])), (tk, .inl (kI, 3002, .inl fk))] sz)) 0 0 (va_A [(g, .inr (3, [.ref h, .ref gi, .int 0, .int 0, .int 0, .int 0, .int 0])), (h, .inr (9, [.ref tk, .ref tp, .ref tn, .ref tu, .ref tl, .int 0, .int 0, .int 0, .int (-1), .int 20, .ref tb, .int 1, .ref ts, .ref tf, .ref tz, .ref tx, .ref th, .ref tw])), (tk, .inl (kI, 3002, .inl fk))] sz) := by
  refine Met.ofW (cc := cX3_program) (maxL := 3) (ret := none) (by decide) rfl ?_
  intro p e s m args below meth c s₁ B hml hv
  obtain ⟨rfl, hsz, hP, hK, hD0⟩ := hv
  have hx := B.exec
  have hb := B.bytes
  have hr := B.returns
  have hts := atoms_spec (ws := wp_c_program) B.pre
  have hown : s.vm.findClass RX3 = some m.cls := findClass_of_methodNamed B.named
  have hlocks := B.notSynchronized
  subst hsz
  have hD := hD0.self (sz := s.heap.size)
  generalize hAe : va_A [(g, .inr (3, [.ref h, .ref gi, .int 0, .int 0, .int 0, .int 0, .int 0])), (h, .inr (9, [.ref tk, .ref tp, .ref tn, .ref tu, .ref tl, .int 0, .int 0, .int 0, .int (-1), .int 20, .ref tb, .int 1, .ref ts, .ref tf, .ref tz, .ref tx, .ref th, .ref tw])), (tk, .inl (kI, 3002, .inl fk))] s.heap.size = A at hD ⊢
  have hA : ∀ q : Nat, s.heap.size ≤ q → A q := fun q h => by rw [← hAe]; exact Or.inr h
  have hS : va_S A s.heap s.heap [] := va_S.rf
  have hP : va_P (dC, dI) vwCl [(g, .inr (3, [.ref h, .ref gi, .int 0, .int 0, .int 0, .int 0, .int 0])), (h, .inr (9, [.ref tk, .ref tp, .ref tn, .ref tu, .ref tl, .int 0, .int 0, .int 0, .int (-1), .int 20, .ref tb, .int 1, .ref ts, .ref tf, .ref tz, .ref tx, .ref th, .ref tw])), (tk, .inl (kI, 3002, .inl fk))] s.heap := hP
  have hl := lv_entry ([.ref g]) (n := 3) (Nat.le_of_ble_eq_true rfl)
  rw [lg_entry_eq]
  generalize (lg_sl ([.ref g]) ++ List.replicate (3 - (lg_sl ([.ref g])).length) Slot.unset).toArray = ls at hl ⊢
  have hl : lv_has ls 3 [(0, .ref g)] := hl
  refine lv_aload_n hx hb dX3_program_0 rfl (lv_at hl 0 rfl) ?_
  refine lv_iconst (v := 0) hx hb dX3_program_1 (by decide) ?_
  refine va_put (D := (dC, dI)) (ci := 3) (v := .int 0) (ty := .int) (C := RX3) (T := TX3) (N := 7) hx hb hts in_c_program_X3 tyX3 tyX3_ok nmX3 hown hK hP hD hS 0 rfl rfl 2 (by decide) (hts (.fieldLink RX3 19 "OwnedPlaces$Grammar" "total" "I") (wm_c_program 1 rfl)) (fun _ h9 => h9) rfl (by decide +kernel) rfl rfl (Nat.le_of_ble_eq_true rfl) dX3_program_2 (fun H locs hP hD hS => ?_)
  have hP : va_P (dC, dI) vwCl [(g, .inr (3, [.ref h, .ref gi, .int 0, .int 0, .int 0, .int 0, .int 0])), (h, .inr (9, [.ref tk, .ref tp, .ref tn, .ref tu, .ref tl, .int 0, .int 0, .int 0, .int (-1), .int 20, .ref tb, .int 1, .ref ts, .ref tf, .ref tz, .ref tx, .ref th, .ref tw])), (tk, .inl (kI, 3002, .inl fk))] H := hP
  have hD : va_D A [(g, .inr (3, [.ref h, .ref gi, .int 0, .int 0, .int 0, .int 0, .int 0])), (h, .inr (9, [.ref tk, .ref tp, .ref tn, .ref tu, .ref tl, .int 0, .int 0, .int 0, .int (-1), .int 20, .ref tb, .int 1, .ref ts, .ref tf, .ref tz, .ref tx, .ref th, .ref tw])), (tk, .inl (kI, 3002, .inl fk))] := hD
  refine lv_aload_n hx hb dX3_program_5 rfl (lv_at hl 0 rfl) ?_
  refine lv_iconst (v := 0) hx hb dX3_program_6 (by decide) ?_
  refine va_put (D := (dC, dI)) (ci := 3) (v := .int 0) (ty := .int) (C := RX3) (T := TX3) (N := 7) hx hb hts in_c_program_X3 tyX3 tyX3_ok nmX3 hown hK hP hD hS 0 rfl rfl 3 (by decide) (hts (.fieldLink RX3 23 "OwnedPlaces$Grammar" "shapes" "I") (wm_c_program 2 rfl)) (fun _ h9 => h9) rfl (by decide +kernel) rfl rfl (Nat.le_of_ble_eq_true rfl) dX3_program_7 (fun H locs hP hD hS => ?_)
  have hP : va_P (dC, dI) vwCl [(g, .inr (3, [.ref h, .ref gi, .int 0, .int 0, .int 0, .int 0, .int 0])), (h, .inr (9, [.ref tk, .ref tp, .ref tn, .ref tu, .ref tl, .int 0, .int 0, .int 0, .int (-1), .int 20, .ref tb, .int 1, .ref ts, .ref tf, .ref tz, .ref tx, .ref th, .ref tw])), (tk, .inl (kI, 3002, .inl fk))] H := hP
  have hD : va_D A [(g, .inr (3, [.ref h, .ref gi, .int 0, .int 0, .int 0, .int 0, .int 0])), (h, .inr (9, [.ref tk, .ref tp, .ref tn, .ref tu, .ref tl, .int 0, .int 0, .int 0, .int (-1), .int 20, .ref tb, .int 1, .ref ts, .ref tf, .ref tz, .ref tx, .ref th, .ref tw])), (tk, .inl (kI, 3002, .inl fk))] := hD
  refine lv_aload_n hx hb dX3_program_10 rfl (lv_at hl 0 rfl) ?_
  refine lv_iconst (v := 0) hx hb dX3_program_11 (by decide) ?_
  refine va_put (D := (dC, dI)) (ci := 3) (v := .int 0) (ty := .int) (C := RX3) (T := TX3) (N := 7) hx hb hts in_c_program_X3 tyX3 tyX3_ok nmX3 hown hK hP hD hS 0 rfl rfl 4 (by decide) (hts (.fieldLink RX3 26 "OwnedPlaces$Grammar" "functions" "I") (wm_c_program 3 rfl)) (fun _ h9 => h9) rfl (by decide +kernel) rfl rfl (Nat.le_of_ble_eq_true rfl) dX3_program_12 (fun H locs hP hD hS => ?_)
  have hP : va_P (dC, dI) vwCl [(g, .inr (3, [.ref h, .ref gi, .int 0, .int 0, .int 0, .int 0, .int 0])), (h, .inr (9, [.ref tk, .ref tp, .ref tn, .ref tu, .ref tl, .int 0, .int 0, .int 0, .int (-1), .int 20, .ref tb, .int 1, .ref ts, .ref tf, .ref tz, .ref tx, .ref th, .ref tw])), (tk, .inl (kI, 3002, .inl fk))] H := hP
  have hD : va_D A [(g, .inr (3, [.ref h, .ref gi, .int 0, .int 0, .int 0, .int 0, .int 0])), (h, .inr (9, [.ref tk, .ref tp, .ref tn, .ref tu, .ref tl, .int 0, .int 0, .int 0, .int (-1), .int 20, .ref tb, .int 1, .ref ts, .ref tf, .ref tz, .ref tx, .ref th, .ref tw])), (tk, .inl (kI, 3002, .inl fk))] := hD
  refine lv_iconst (v := 0) hx hb dX3_program_15 (by decide) ?_
  refine lv_istore_n (lv' := [(1, .int 0), (0, .ref g)]) hx hb dX3_program_16 rfl hl (by decide) rfl (fun ls hl => ?_)
  refine lv_iload_n hx hb dX3_program_17 rfl (lv_at hl 0 rfl) ?_
  refine lv_sipush (v := 3002) hx hb dX3_program_18 (by decide) ?_
  refine lv_icmp_ge (tgt := 84) hx hb dX3_program_21 (by decide) (fun c_1 => absurd c_1 (by decide)) (fun _ => ?_)
  refine lv_aload_n hx hb dX3_program_24 rfl (lv_at hl 1 rfl) ?_
  refine va_get (D := (dC, dI)) (ci := 3) (v := .ref h) (C := RX3) (T := TX3) (N := 7) hx hb hts in_c_program_X3 hown hK hP 0 rfl rfl 0 (by decide) (hts (.fieldLink RX3 15 "OwnedPlaces$Grammar" "text" "LOwnedPlaces$Text;") (wm_c_program 4 rfl)) (fun _ h9 => h9) rfl dX3_program_25 ?_
  have hPc := hP.sub (ws' := [(h, .inr (9, [.ref tk, .ref tp, .ref tn, .ref tu, .ref tl, .int 0, .int 0, .int 0, .int (-1), .int 20, .ref tb, .int 1, .ref ts, .ref tf, .ref tz, .ref tx, .ref th, .ref tw])), (tk, .inl (kI, 3002, .inl fk))]) [1, 2] rfl
  have hDc := hD.sub (ws' := [(h, .inr (9, [.ref tk, .ref tp, .ref tn, .ref tu, .ref tl, .int 0, .int 0, .int 0, .int (-1), .int 20, .ref tb, .int 1, .ref ts, .ref tf, .ref tz, .ref tx, .ref th, .ref tw])), (tk, .inl (kI, 3002, .inl fk))]) [1, 2] (by decide) rfl
  have hKc := hK.sub (tys' := [(kI, .int)]) [0] rfl
  have hFc := va_free (wc := [(h, .inr (9, [.ref tk, .ref tp, .ref tn, .ref tu, .ref tl, .int 0, .int 0, .int 0, .int (-1), .int 20, .ref tb, .int 1, .ref ts, .ref tf, .ref tz, .ref tx, .ref th, .ref tw])), (tk, .inl (kI, 3002, .inl fk))]) hD hS hA [1, 2] rfl
  refine va_calli (va_runV (As := []) (rest := []) ⟨hx, hb, hml, hown, hts⟩ (c_kind l dC dI h tk tp tn tu tl tb ts tf tz tx th tw 20 0 (-1) kI fk H.size hf0) (cwV 0 hts g_c_program_c_kind_28 rfl rfl rfl (by decide +kernel) ⟨Nat.le_of_ble_eq_true rfl, Nat.le_of_ble_eq_true rfl⟩) ⟨fun a U g mk q => by obtain ⟨q0, q1, qP, qK, qD⟩ := q; exact ⟨q0, q1, qP, va_K.moved (u := U) (U := U.calling g mk a) (Vm.Alike.refl U.vm) qK, qD⟩, va_recv hKc hPc (ci := 9) (q0 := 0) rfl rfl, fun U hU hW => ⟨rfl, by rw [hU], by rw [hU]; exact hPc, va_K.moved hW.alike hKc, hDc.weaken (fun _ _ _ _ => trivial)⟩⟩ rfl rfl hl.1 rfl (lv_room (Nat.le_of_ble_eq_true rfl)) dX3_program_28 ⟨(show 0 + 0 ≤ 0 by omega), (show 0 + 0 ≤ 0 by omega)⟩) hS (fun q _ h => hFc q h) hFc (fun r_2 u tS H1 locs ht hvm hw hB hz1 hk1 hS => ?_)
  obtain ⟨hP1, hK1, hD1⟩ := hB
  rw [ht] at hP1
  have hK1 := va_K.moved hvm.symm hK1
  obtain ⟨hP, hD⟩ := va_join (wr := [(g, .inr (3, [.ref h, .ref gi, .int 0, .int 0, .int 0, .int 0, .int 0]))]) (w1 := [(h, .inr (9, [.ref tk, .ref tp, .ref tn, .ref tu, .ref tl, .int 0, .int 0, .int 0, .int (-1), .int 20, .ref tb, .int 1, .ref ts, .ref tf, .ref tz, .ref tx, .ref th, .ref tw])), (tk, .inl (kI, 3002, .inl fk))]) hP hD [1, 2] [0] rfl rfl (by decide) (by decide) hk1 hFc hP1 hD1
  have hK := hK.app hK1
  generalize H1 = H at hP hS ⊢
  have hP : va_P (dC, dI) vwCl [(g, .inr (3, [.ref h, .ref gi, .int 0, .int 0, .int 0, .int 0, .int 0])), (h, .inr (9, [.ref tk, .ref tp, .ref tn, .ref tu, .ref tl, .int 0, .int 0, .int 0, .int (-1), .int 20, .ref tb, .int 1, .ref ts, .ref tf, .ref tz, .ref tx, .ref th, .ref tw])), (tk, .inl (kI, 3002, .inl fk))] H := hP
  have hD : va_D A [(g, .inr (3, [.ref h, .ref gi, .int 0, .int 0, .int 0, .int 0, .int 0])), (h, .inr (9, [.ref tk, .ref tp, .ref tn, .ref tu, .ref tl, .int 0, .int 0, .int 0, .int (-1), .int 20, .ref tb, .int 1, .ref ts, .ref tf, .ref tz, .ref tx, .ref th, .ref tw])), (tk, .inl (kI, 3002, .inl fk))] := hD
  have hK : va_K (dC, dI) vwCl [(kI, .int), (kI, .int)] s := hK
  have hK := hK.sub (tys' := [(kI, .int)]) [0] rfl
  have hP : va_P (dC, dI) vwCl [(g, .inr (3, [.ref h, .ref gi, .int 0, .int 0, .int 0, .int 0, .int 0])), (h, .inr (9, [.ref tk, .ref tp, .ref tn, .ref tu, .ref tl, .int 0, .int 0, .int 0, .int (-1), .int 20, .ref tb, .int 1, .ref ts, .ref tf, .ref tz, .ref tx, .ref th, .ref tw])), (tk, .inl (kI, 3002, .inl fk))] H := hP
  have hD : va_D A [(g, .inr (3, [.ref h, .ref gi, .int 0, .int 0, .int 0, .int 0, .int 0])), (h, .inr (9, [.ref tk, .ref tp, .ref tn, .ref tu, .ref tl, .int 0, .int 0, .int 0, .int (-1), .int 20, .ref tb, .int 1, .ref ts, .ref tf, .ref tz, .ref tx, .ref th, .ref tw])), (tk, .inl (kI, 3002, .inl fk))] := hD
  obtain rfl : r_2 = 0 := hw
  refine lv_if_eq (tgt := 84) hx hb dX3_program_31 (by decide) (fun _ => ?_) (fun c_3 => absurd (by decide) c_3)
  have hP9 := hP.sub (ws' := [(g, .inr (3, [.ref h, .ref gi, .int 0, .int 0, .int 0, .int 0, .int 0])), (h, .inr (9, [.ref tk, .ref tp, .ref tn, .ref tu, .ref tl, .int 0, .int 0, .int 0, .int (-1), .int 20, .ref tb, .int 1, .ref ts, .ref tf, .ref tz, .ref tx, .ref th, .ref tw])), (tk, .inl (kI, 3002, .inl fk))]) [0, 1, 2] rfl
  have hD9 := hD.sub (ws' := [(g, .inr (3, [.ref h, .ref gi, .int 0, .int 0, .int 0, .int 0, .int 0])), (h, .inr (9, [.ref tk, .ref tp, .ref tn, .ref tu, .ref tl, .int 0, .int 0, .int 0, .int (-1), .int 20, .ref tb, .int 1, .ref ts, .ref tf, .ref tz, .ref tx, .ref th, .ref tw])), (tk, .inl (kI, 3002, .inl fk))]) [0, 1, 2] (by decide) rfl
  have hK9 := hK.sub (tys' := [(kI, .int)]) [0] rfl
  exact W.vret hx hb hr (fun tS ht hW => ⟨⟨(), rfl, trivial, by rw [ht]; exact hP9, va_K.moved hW.alike hK9, hD9⟩, hS.F ht⟩) hS.2.2 dX3_program_84
