def wf_c_dclN : List Cond := [.code yX23_declare cX23_declare 5 (some (.object "OwnedPlacesModel$Variable")), .classLink RX23 192 RX21, .instantiable RX21 5, .initialized RX21, .code yX21_init cX21_init 1 none, .methodLink RX21 1 objectInit, .instanceMethod objectInit, .code objectInit ⟨#[0xb1]⟩ 1 none, .instanceMethod yX21_init, .fieldLink RX23 466 "OwnedPlacesModel" "variableMany" "I", .fieldLink RX23 469 "OwnedPlacesModel$Variable" "index" "I", .fieldLink RX23 470 "OwnedPlacesModel$Variable" "name" "I", .fieldLink RX23 471 "OwnedPlacesModel$Variable" "type" "LOwnedPlacesModel$Type;", .fieldLink RX23 473 "OwnedPlacesModel$Variable" "mut" "Z", .fieldLink RX23 474 "OwnedPlacesModel" "scope" "[LOwnedPlacesModel$Variable;", .fieldLink RX23 477 "OwnedPlacesModel" "scopeMany" "I"]
def wp_c_dclN : List Cond := wf_c_dclN ++ (wsX210 ++ (wsX230 ++ []))
theorem in_c_dclN_X21 : ∀ w ∈ wsX210, w ∈ wp_c_dclN := fun w h => List.mem_append_right _ (List.mem_append_left _ h)
theorem in_c_dclN_X23 : ∀ w ∈ wsX230, w ∈ wp_c_dclN := fun w h => List.mem_append_right _ (List.mem_append_right _ (List.mem_append_left _ h))
theorem wg_c_dclN : wf_c_dclN.all goodWord = true := by decide +kernel
theorem wm_c_dclN (k : Nat) {w : Cond} (h : wp_c_dclN[k]? = some w) : w ∈ wp_c_dclN := List.mem_of_getElem? h
set_option maxRecDepth 20000 in
theorem g_c_dclN_c_nV_4 : GoodIn wp_c_dclN wp_c_nV := goodIn_app (goodIn_f (wf_c_nV) [4, 5, 6, 7] rfl wg_c_nV) (goodIn_n)
set_option maxHeartbeats 4000000 in
set_option maxRecDepth 100000 in
theorem c_dclN (l : Launch) (dC : Nat → ClassId) (dI : Nat → Nat → Nat) (m9 : Nat) (mr : Nat → Nat) (mv : Nat → Int32) (vf : Value) (ff xa xm : Int32) (T im tm sc vm : Nat) (kI : ClassId) (L : List Nat) (F : Nat → va_E) (kV : ClassId) (fs : Nat → Option Nat) (nn mu : Int32) (sl : Nat) (sz : Nat) (hsc : sc < 40) (hmu : mu = 0 ∨ mu = 1) : Met l yX23_declare wp_c_dclN ({ frames := 2, cells := 1, slots := 5, locals := 32 }) (va_Pc [.ref m9, .int nn, .null, .int mu] (fun U => U.heap.size = sz ∧ va_P (dC, dI) vwCl (([(m9, .inr (23, mT mr mv vf ff xa (nI T) (nI im) (nI tm) xm (nI sc) (nI vm))), (mr 22, .inl (kV, 40, .inr (.inr (.inr (.inr fs)))))] : va_W) ++ (sT L F)) U.heap ∧ va_K (dC, dI) vwCl [(kV, .object RX21)] U ∧ va_D (fun _ => True) (([(m9, .inr (23, mT mr mv vf ff xa (nI T) (nI im) (nI tm) xm (nI sc) (nI vm))), (mr 22, .inl (kV, 40, .inr (.inr (.inr (.inr fs)))))] : va_W) ++ (sT L F)) ∧ nsM U ∧ slN U.heap = sl)) (va_Qr (fun _ : Unit => True) (fun (_ : Unit) (rA : Nat) (tS : State) => ∃ (L2 : List Nat) (F2 : Nat → va_E), (exS L F L2 F2 ∧ rA ∈ L2) ∧ (F2 rA = .inr (21, [.int (nI vm), .int nn, .null, .int mu, .null])) ∧ (tS.heap.size ≤ sz + (1) ∧ slN tS.heap ≤ sl + (5)) ∧ va_P (dC, dI) vwCl (([(m9, .inr (23, mT mr mv vf ff xa (nI T) (nI im) (nI tm) xm (nI (sc + 1)) (nI (vm + 1)))), (mr 22, .inl (kV, 40, .inr (.inr (.inr (.inr (va_up fs sc (some rA)))))))] : va_W) ++ (sT L2 F2)) tS.heap ∧ va_K (dC, dI) vwCl [(kV, .object RX21)] tS ∧ va_D (va_A (([(m9, .inr (23, mT mr mv vf ff xa (nI T) (nI im) (nI tm) xm (nI sc) (nI vm))), (mr 22, .inl (kV, 40, .inr (.inr (.inr (.inr fs)))))] : va_W) ++ (sT L F)) sz) (([(m9, .inr (23, mT mr mv vf ff xa (nI T) (nI im) (nI tm) xm (nI (sc + 1)) (nI (vm + 1)))), (mr 22, .inl (kV, 40, .inr (.inr (.inr (.inr (va_up fs sc (some rA)))))))] : va_W) ++ (sT L2 F2))) (va_A (([(m9, .inr (23, mT mr mv vf ff xa (nI T) (nI im) (nI tm) xm (nI sc) (nI vm))), (mr 22, .inl (kV, 40, .inr (.inr (.inr (.inr fs)))))] : va_W) ++ (sT L F)) sz)) 1 5 (va_A (([(m9, .inr (23, mT mr mv vf ff xa (nI T) (nI im) (nI tm) xm (nI sc) (nI vm))), (mr 22, .inl (kV, 40, .inr (.inr (.inr (.inr fs)))))] : va_W) ++ (sT L F)) sz) := by
  refine Met.ofW (cc := cX23_declare) (maxL := 5) (ret := (some (.object "OwnedPlacesModel$Variable"))) (by decide) rfl ?_
  intro p e s m args below meth c s₁ B hml hv
  obtain ⟨rfl, hsz, hP, hK, hD0, hpre0, hpre1⟩ := hv
  have hx := B.exec
  have hb := B.bytes
  have hr := B.returns
  have hts := atoms_spec (ws := wp_c_dclN) B.pre
  have hown : s.vm.findClass RX23 = some m.cls := findClass_of_methodNamed B.named
  have hlocks := B.notSynchronized
  subst hsz
  have hD := hD0.self (sz := s.heap.size)
  generalize hAe : va_A (([(m9, .inr (23, mT mr mv vf ff xa (nI T) (nI im) (nI tm) xm (nI sc) (nI vm))), (mr 22, .inl (kV, 40, .inr (.inr (.inr (.inr fs)))))] : va_W) ++ (sT L F)) s.heap.size = A at hD ⊢
  have hA : ∀ q : Nat, s.heap.size ≤ q → A q := fun q h => by rw [← hAe]; exact Or.inr h
  have hS : va_S A s.heap s.heap [] := va_S.rf
  have hP : va_P (dC, dI) vwCl (([(m9, .inr (23, mT mr mv vf ff xa (nI T) (nI im) (nI tm) xm (nI sc) (nI vm))), (mr 22, .inl (kV, 40, .inr (.inr (.inr (.inr fs)))))] : va_W) ++ (sT L F)) s.heap := hP
  have hl := lv_entry ([.ref m9, .int nn, .null, .int mu]) (n := 5) (Nat.le_of_ble_eq_true rfl)
  rw [lg_entry_eq]
  generalize (lg_sl ([.ref m9, .int nn, .null, .int mu]) ++ List.replicate (5 - (lg_sl ([.ref m9, .int nn, .null, .int mu])).length) Slot.unset).toArray = ls at hl ⊢
  have hl : lv_has ls 5 [(0, .ref m9), (1, .int nn), (2, .null), (3, .int mu)] := hl
  have hns := hpre0
  subst hpre1
  refine va_new (ci := 21) (fs := [.int 0, .int 0, .null, .int 0, .null]) (C := RX21) (T := TX21) (N := 5) hx hb hts in_c_dclN_X21 tyX21 tyX21_ok hown (hts (.classLink RX23 192 RX21) (wm_c_dclN 1 rfl)) (hts (.instantiable RX21 5) (wm_c_dclN 2 rfl)) (hts (.initialized RX21) (wm_c_dclN 3 rfl)) hK hP hD hS hA rfl dv_X21 (show 0 + 1 ≤ 1 by omega) (show 0 + 5 ≤ 5 by omega) dX23_declare_0 (fun q_1 H hP hD hS => ?_)
  have hP := va_P.nt hP
  have hD := va_D.nt hD
  have hP : va_P (dC, dI) vwCl (([(m9, .inr (23, mT mr mv vf ff xa (nI T) (nI im) (nI tm) xm (nI sc) (nI vm))), (mr 22, .inl (kV, 40, .inr (.inr (.inr (.inr fs))))), (q_1, .inr (21, [.int 0, .int 0, .null, .int 0, .null]))] : va_W) ++ (sT L F)) H := hP
  have hD : va_D A (([(m9, .inr (23, mT mr mv vf ff xa (nI T) (nI im) (nI tm) xm (nI sc) (nI vm))), (mr 22, .inl (kV, 40, .inr (.inr (.inr (.inr fs))))), (q_1, .inr (21, [.int 0, .int 0, .null, .int 0, .null]))] : va_W) ++ (sT L F)) := hD
  refine W.widen (k := 1) (n := 5) (by omega) (by omega) ?_
  refine lv_dup hx hb dX23_declare_3 rfl ?_
  have hPc := hP.subF (f' := [(q_1, .inr (21, [.int 0, .int 0, .null, .int 0, .null]))]) [2] rfl
  have hDc := hD.subF (f' := [(q_1, .inr (21, [.int 0, .int 0, .null, .int 0, .null]))]) [2] (by decide) rfl
  have hKc := hK.sub (tys' := []) [] rfl
  have hFc := va_freeT (wc := [(q_1, .inr (21, [.int 0, .int 0, .null, .int 0, .null]))]) hD hS hA [2] rfl
  refine va_callv (va_runIN (As := []) (rest := [.ref q_1]) ⟨hx, hb, hml, hown, hts⟩ (c_nV l dC dI q_1 H.size) ⟨va_cnB 0 hts g_c_dclN_c_nV_4 rfl rfl rfl hns.1.2.2.2.2.2.2.2.2 (hts (.initialized RX21) (wm_c_dclN 3 rfl)) (by decide +kernel) ⟨Nat.le_of_ble_eq_true rfl, Nat.le_of_ble_eq_true rfl⟩, rfl, (hts (.instanceMethod yX21_init) (wm_c_dclN 8 rfl))⟩ ⟨fun a U g mk q => by obtain ⟨q0, q1, qP, qK, qD⟩ := q; exact ⟨q0, q1, qP, va_K.moved (u := U) (U := U.calling g mk a) (Vm.Alike.refl U.vm) qK, qD⟩, fun U hU hW => ⟨rfl, by rw [hU], by rw [hU]; exact hPc, va_K.moved hW.alike hKc, hDc.weaken (fun _ _ _ _ => trivial)⟩⟩ rfl rfl hl.1 rfl (lv_room (Nat.le_of_ble_eq_true rfl)) dX23_declare_4 ⟨(show 1 + 0 ≤ 1 by omega), (show 5 + 0 ≤ 5 by omega)⟩) hS (fun q _ h => hFc q h) hFc (fun u tS H1 locs ht hvm hw hB hz1 hk1 hS => ?_)
  obtain ⟨hP1, hK1, hD1⟩ := hB
  rw [ht] at hP1
  have hK1 := va_K.moved hvm.symm hK1
  obtain ⟨hP, hD⟩ := va_joinT (wr := [(m9, .inr (23, mT mr mv vf ff xa (nI T) (nI im) (nI tm) xm (nI sc) (nI vm))), (mr 22, .inl (kV, 40, .inr (.inr (.inr (.inr fs)))))]) (w1 := [(q_1, .inr (21, [.int 0, .int 0, .null, .int 0, .null]))]) hP hD [2] [0, 1] rfl rfl (by decide) (by decide) hk1 hFc hP1 hD1
  generalize H1 = H at hP hS ⊢
  have hP : va_P (dC, dI) vwCl (([(m9, .inr (23, mT mr mv vf ff xa (nI T) (nI im) (nI tm) xm (nI sc) (nI vm))), (mr 22, .inl (kV, 40, .inr (.inr (.inr (.inr fs))))), (q_1, .inr (21, [.int 0, .int 0, .null, .int 0, .null]))] : va_W) ++ (sT L F)) H := hP
  have hD : va_D A (([(m9, .inr (23, mT mr mv vf ff xa (nI T) (nI im) (nI tm) xm (nI sc) (nI vm))), (mr 22, .inl (kV, 40, .inr (.inr (.inr (.inr fs))))), (q_1, .inr (21, [.int 0, .int 0, .null, .int 0, .null]))] : va_W) ++ (sT L F)) := hD
  have hK : va_K (dC, dI) vwCl [(kV, .object RX21)] s := hK
  clear hz1 hk1 hPc hDc hKc hFc hP1 hD1 hK1
  refine lv_astore (lv' := [(4, .ref q_1), (0, .ref m9), (1, .int nn), (2, .null), (3, .int mu)]) hx hb dX23_declare_7 hl (by decide) rfl (fun ls hl => ?_)
  refine lv_aload hx hb dX23_declare_9 (lv_at hl 0 rfl) ?_
  refine lv_aload_n hx hb dX23_declare_11 rfl (lv_at hl 1 rfl) ?_
  refine va_get (D := (dC, dI)) (ci := 23) (v := .int (nI vm)) (C := RX23) (T := TX23) (N := 89) hx hb hts in_c_dclN_X23 hown hK hP 0 rfl rfl 24 (by decide) (hts (.fieldLink RX23 466 "OwnedPlacesModel" "variableMany" "I") (wm_c_dclN 9 rfl)) (fun _ h9 => h9) rfl dX23_declare_12 ?_
  refine va_put (D := (dC, dI)) (ci := 21) (v := .int (nI vm)) (ty := .int) (C := RX21) (T := TX21) (N := 5) hx hb hts in_c_dclN_X21 tyX21 tyX21_ok nmX21 hown hK hP hD hS 2 rfl rfl 0 (by decide) (hts (.fieldLink RX23 469 "OwnedPlacesModel$Variable" "index" "I") (wm_c_dclN 10 rfl)) (fun _ h9 => h9) rfl (by decide +kernel) rfl rfl (Nat.le_of_ble_eq_true rfl) dX23_declare_15 (fun H locs hP hD hS => ?_)
  have hP : va_P (dC, dI) vwCl (([(m9, .inr (23, mT mr mv vf ff xa (nI T) (nI im) (nI tm) xm (nI sc) (nI vm))), (mr 22, .inl (kV, 40, .inr (.inr (.inr (.inr fs))))), (q_1, .inr (21, [.int (nI vm), .int 0, .null, .int 0, .null]))] : va_W) ++ (sT L F)) H := hP
  have hD : va_D A (([(m9, .inr (23, mT mr mv vf ff xa (nI T) (nI im) (nI tm) xm (nI sc) (nI vm))), (mr 22, .inl (kV, 40, .inr (.inr (.inr (.inr fs))))), (q_1, .inr (21, [.int (nI vm), .int 0, .null, .int 0, .null]))] : va_W) ++ (sT L F)) := hD
  refine lv_aload hx hb dX23_declare_18 (lv_at hl 0 rfl) ?_
  refine lv_iload_n hx hb dX23_declare_20 rfl (lv_at hl 2 rfl) ?_
  refine va_put (D := (dC, dI)) (ci := 21) (v := .int nn) (ty := .int) (C := RX21) (T := TX21) (N := 5) hx hb hts in_c_dclN_X21 tyX21 tyX21_ok nmX21 hown hK hP hD hS 2 rfl rfl 1 (by decide) (hts (.fieldLink RX23 470 "OwnedPlacesModel$Variable" "name" "I") (wm_c_dclN 11 rfl)) (fun _ h9 => h9) rfl (by decide +kernel) rfl rfl (Nat.le_of_ble_eq_true rfl) dX23_declare_21 (fun H locs hP hD hS => ?_)
  have hP : va_P (dC, dI) vwCl (([(m9, .inr (23, mT mr mv vf ff xa (nI T) (nI im) (nI tm) xm (nI sc) (nI vm))), (mr 22, .inl (kV, 40, .inr (.inr (.inr (.inr fs))))), (q_1, .inr (21, [.int (nI vm), .int nn, .null, .int 0, .null]))] : va_W) ++ (sT L F)) H := hP
  have hD : va_D A (([(m9, .inr (23, mT mr mv vf ff xa (nI T) (nI im) (nI tm) xm (nI sc) (nI vm))), (mr 22, .inl (kV, 40, .inr (.inr (.inr (.inr fs))))), (q_1, .inr (21, [.int (nI vm), .int nn, .null, .int 0, .null]))] : va_W) ++ (sT L F)) := hD
  refine lv_aload hx hb dX23_declare_24 (lv_at hl 0 rfl) ?_
  refine lv_aload_nN hx hb dX23_declare_26 rfl (lv_at hl 3 rfl) ?_
  refine va_put (D := (dC, dI)) (ci := 21) (v := .null) (ty := (.object "OwnedPlacesModel$Type")) (C := RX21) (T := TX21) (N := 5) hx hb hts in_c_dclN_X21 tyX21 tyX21_ok nmX21 hown hK hP hD hS 2 rfl rfl 2 (by decide) (hts (.fieldLink RX23 471 "OwnedPlacesModel$Variable" "type" "LOwnedPlacesModel$Type;") (wm_c_dclN 12 rfl)) (fun _ h9 => h9) rfl (by decide +kernel) rfl rfl (Nat.le_of_ble_eq_true rfl) dX23_declare_27 (fun H locs hP hD hS => ?_)
  have hP : va_P (dC, dI) vwCl (([(m9, .inr (23, mT mr mv vf ff xa (nI T) (nI im) (nI tm) xm (nI sc) (nI vm))), (mr 22, .inl (kV, 40, .inr (.inr (.inr (.inr fs))))), (q_1, .inr (21, [.int (nI vm), .int nn, .null, .int 0, .null]))] : va_W) ++ (sT L F)) H := hP
  have hD : va_D A (([(m9, .inr (23, mT mr mv vf ff xa (nI T) (nI im) (nI tm) xm (nI sc) (nI vm))), (mr 22, .inl (kV, 40, .inr (.inr (.inr (.inr fs))))), (q_1, .inr (21, [.int (nI vm), .int nn, .null, .int 0, .null]))] : va_W) ++ (sT L F)) := hD
  refine lv_aload hx hb dX23_declare_30 (lv_at hl 0 rfl) ?_
  refine lv_iload_n hx hb dX23_declare_32 rfl (lv_at hl 4 rfl) ?_
  by_cases hm0 : mu = 0
  · subst hm0
    have hl : lv_has ls 5 [(4, .ref q_1), (0, .ref m9), (1, .int nn), (2, .null), (3, .int 0)] := hl
    refine va_put (D := (dC, dI)) (ci := 21) (v := .int 0) (ty := .boolean) (C := RX21) (T := TX21) (N := 5) hx hb hts in_c_dclN_X21 tyX21 tyX21_ok nmX21 hown hK hP hD hS 2 rfl rfl 3 (by decide) (hts (.fieldLink RX23 473 "OwnedPlacesModel$Variable" "mut" "Z") (wm_c_dclN 13 rfl)) (fun _ h9 => h9) rfl (by decide +kernel) (by decide) (by decide) (Nat.le_of_ble_eq_true rfl) dX23_declare_33 (fun H locs hP hD hS => ?_)
    have hP : va_P (dC, dI) vwCl (([(m9, .inr (23, mT mr mv vf ff xa (nI T) (nI im) (nI tm) xm (nI sc) (nI vm))), (mr 22, .inl (kV, 40, .inr (.inr (.inr (.inr fs))))), (q_1, .inr (21, [.int (nI vm), .int nn, .null, .int 0, .null]))] : va_W) ++ (sT L F)) H := hP
    have hD : va_D A (([(m9, .inr (23, mT mr mv vf ff xa (nI T) (nI im) (nI tm) xm (nI sc) (nI vm))), (mr 22, .inl (kV, 40, .inr (.inr (.inr (.inr fs))))), (q_1, .inr (21, [.int (nI vm), .int nn, .null, .int 0, .null]))] : va_W) ++ (sT L F)) := hD
    refine lv_aload_n hx hb dX23_declare_36 rfl (lv_at hl 1 rfl) ?_
    refine lv_dup hx hb dX23_declare_37 rfl ?_
    refine va_get (D := (dC, dI)) (ci := 23) (v := .int (nI vm)) (C := RX23) (T := TX23) (N := 89) hx hb hts in_c_dclN_X23 hown hK hP 0 rfl rfl 24 (by decide) (hts (.fieldLink RX23 466 "OwnedPlacesModel" "variableMany" "I") (wm_c_dclN 9 rfl)) (fun _ h9 => h9) rfl dX23_declare_38 ?_
    refine lv_iconst (v := 1) hx hb dX23_declare_41 (by decide) ?_
    refine lv_iadd hx hb dX23_declare_42 ?_
    refine lv_topi (fun f_3 ef_3 => ?_)
    obtain rfl : f_3 = nI (vm + 1) := ef_3.trans (nI_1 _)
    refine va_put (D := (dC, dI)) (ci := 23) (v := .int (nI (vm + 1))) (ty := .int) (C := RX23) (T := TX23) (N := 89) hx hb hts in_c_dclN_X23 tyX23 tyX23_ok nmX23 hown hK hP hD hS 0 rfl rfl 24 (by decide) (hts (.fieldLink RX23 466 "OwnedPlacesModel" "variableMany" "I") (wm_c_dclN 9 rfl)) (fun _ h9 => h9) rfl (by decide +kernel) rfl rfl (Nat.le_of_ble_eq_true rfl) dX23_declare_43 (fun H locs hP hD hS => ?_)
    have hP : va_P (dC, dI) vwCl (([(m9, .inr (23, mT mr mv vf ff xa (nI T) (nI im) (nI tm) xm (nI sc) (nI (vm + 1)))), (mr 22, .inl (kV, 40, .inr (.inr (.inr (.inr fs))))), (q_1, .inr (21, [.int (nI vm), .int nn, .null, .int 0, .null]))] : va_W) ++ (sT L F)) H := hP
    have hD : va_D A (([(m9, .inr (23, mT mr mv vf ff xa (nI T) (nI im) (nI tm) xm (nI sc) (nI (vm + 1)))), (mr 22, .inl (kV, 40, .inr (.inr (.inr (.inr fs))))), (q_1, .inr (21, [.int (nI vm), .int nn, .null, .int 0, .null]))] : va_W) ++ (sT L F)) := hD
    refine lv_aload_n hx hb dX23_declare_46 rfl (lv_at hl 1 rfl) ?_
    refine va_get (D := (dC, dI)) (ci := 23) (v := .ref (mr 22)) (C := RX23) (T := TX23) (N := 89) hx hb hts in_c_dclN_X23 hown hK hP 0 rfl rfl 22 (by decide) (hts (.fieldLink RX23 474 "OwnedPlacesModel" "scope" "[LOwnedPlacesModel$Variable;") (wm_c_dclN 14 rfl)) (fun _ h9 => h9) rfl dX23_declare_47 ?_
    refine lv_aload_n hx hb dX23_declare_50 rfl (lv_at hl 1 rfl) ?_
    refine va_get (D := (dC, dI)) (ci := 23) (v := .int (nI sc)) (C := RX23) (T := TX23) (N := 89) hx hb hts in_c_dclN_X23 hown hK hP 0 rfl rfl 23 (by decide) (hts (.fieldLink RX23 477 "OwnedPlacesModel" "scopeMany" "I") (wm_c_dclN 15 rfl)) (fun _ h9 => h9) rfl dX23_declare_51 ?_
    refine lv_aload hx hb dX23_declare_54 (lv_at hl 0 rfl) ?_
    refine va_astq (r := (RX21, TX21, 5)) hx hb hK hP hD hS 1 0 2 21 rfl rfl rfl rfl (vp_in_nI (show sc < 40 by omega) (by decide)) dX23_declare_56 (fun H locs hP hD hS => ?_)
    have hP : va_P (dC, dI) vwCl (([(m9, .inr (23, mT mr mv vf ff xa (nI T) (nI im) (nI tm) xm (nI sc) (nI (vm + 1)))), (mr 22, .inl (kV, 40, .inr (.inr (.inr (.inr (va_up fs (nI sc : Int32).toNatClampNeg (some q_1))))))), (q_1, .inr (21, [.int (nI vm), .int nn, .null, .int 0, .null]))] : va_W) ++ (sT L F)) H := hP
    have hD : va_D A (([(m9, .inr (23, mT mr mv vf ff xa (nI T) (nI im) (nI tm) xm (nI sc) (nI (vm + 1)))), (mr 22, .inl (kV, 40, .inr (.inr (.inr (.inr (va_up fs (nI sc : Int32).toNatClampNeg (some q_1))))))), (q_1, .inr (21, [.int (nI vm), .int nn, .null, .int 0, .null]))] : va_W) ++ (sT L F)) := hD
    obtain ⟨fA, efA⟩ : ∃ zZ : Nat → Option Nat, zZ = va_up fs (nI sc : Int32).toNatClampNeg (some q_1) := ⟨_, rfl⟩
    rw [← efA] at hP hD
    have hfA : fA = va_up fs sc (some q_1) := by rw [efA, nI_clamp (by omega)]
    rw [hfA] at hP hD
    have hP : va_P (dC, dI) vwCl (([(m9, .inr (23, mT mr mv vf ff xa (nI T) (nI im) (nI tm) xm (nI sc) (nI (vm + 1)))), (mr 22, .inl (kV, 40, .inr (.inr (.inr (.inr (va_up fs sc (some q_1))))))), (q_1, .inr (21, [.int (nI vm), .int nn, .null, .int 0, .null]))] : va_W) ++ (sT L F)) H := hP
    have hD : va_D A (([(m9, .inr (23, mT mr mv vf ff xa (nI T) (nI im) (nI tm) xm (nI sc) (nI (vm + 1)))), (mr 22, .inl (kV, 40, .inr (.inr (.inr (.inr (va_up fs sc (some q_1))))))), (q_1, .inr (21, [.int (nI vm), .int nn, .null, .int 0, .null]))] : va_W) ++ (sT L F)) := hD
    refine lv_aload_n hx hb dX23_declare_57 rfl (lv_at hl 1 rfl) ?_
    refine lv_dup hx hb dX23_declare_58 rfl ?_
    refine va_get (D := (dC, dI)) (ci := 23) (v := .int (nI sc)) (C := RX23) (T := TX23) (N := 89) hx hb hts in_c_dclN_X23 hown hK hP 0 rfl rfl 23 (by decide) (hts (.fieldLink RX23 477 "OwnedPlacesModel" "scopeMany" "I") (wm_c_dclN 15 rfl)) (fun _ h9 => h9) rfl dX23_declare_59 ?_
    refine lv_iconst (v := 1) hx hb dX23_declare_62 (by decide) ?_
    refine lv_iadd hx hb dX23_declare_63 ?_
    refine lv_topi (fun f_4 ef_4 => ?_)
    obtain rfl : f_4 = nI (sc + 1) := ef_4.trans (nI_1 _)
    refine va_put (D := (dC, dI)) (ci := 23) (v := .int (nI (sc + 1))) (ty := .int) (C := RX23) (T := TX23) (N := 89) hx hb hts in_c_dclN_X23 tyX23 tyX23_ok nmX23 hown hK hP hD hS 0 rfl rfl 23 (by decide) (hts (.fieldLink RX23 477 "OwnedPlacesModel" "scopeMany" "I") (wm_c_dclN 15 rfl)) (fun _ h9 => h9) rfl (by decide +kernel) rfl rfl (Nat.le_of_ble_eq_true rfl) dX23_declare_64 (fun H locs hP hD hS => ?_)
    have hP : va_P (dC, dI) vwCl (([(m9, .inr (23, mT mr mv vf ff xa (nI T) (nI im) (nI tm) xm (nI (sc + 1)) (nI (vm + 1)))), (mr 22, .inl (kV, 40, .inr (.inr (.inr (.inr (va_up fs sc (some q_1))))))), (q_1, .inr (21, [.int (nI vm), .int nn, .null, .int 0, .null]))] : va_W) ++ (sT L F)) H := hP
    have hD : va_D A (([(m9, .inr (23, mT mr mv vf ff xa (nI T) (nI im) (nI tm) xm (nI (sc + 1)) (nI (vm + 1)))), (mr 22, .inl (kV, 40, .inr (.inr (.inr (.inr (va_up fs sc (some q_1))))))), (q_1, .inr (21, [.int (nI vm), .int nn, .null, .int 0, .null]))] : va_W) ++ (sT L F)) := hD
    refine lv_aload hx hb dX23_declare_67 (lv_at hl 0 rfl) ?_
    have hP : va_P (dC, dI) vwCl ((([(m9, .inr (23, mT mr mv vf ff xa (nI T) (nI im) (nI tm) xm (nI (sc + 1)) (nI (vm + 1)))), (mr 22, .inl (kV, 40, .inr (.inr (.inr (.inr (va_up fs sc (some q_1)))))))] : va_W) ++ ([(q_1, .inr (21, [.int (nI vm), .int nn, .null, .int 0, .null]))] : va_W)) ++ sT L F) H := hP.subT (f' := [(m9, .inr (23, mT mr mv vf ff xa (nI T) (nI im) (nI tm) xm (nI (sc + 1)) (nI (vm + 1)))), (mr 22, .inl (kV, 40, .inr (.inr (.inr (.inr (va_up fs sc (some q_1))))))), (q_1, .inr (21, [.int (nI vm), .int nn, .null, .int 0, .null]))]) [0, 1, 2] rfl
    have hD : va_D A ((([(m9, .inr (23, mT mr mv vf ff xa (nI T) (nI im) (nI tm) xm (nI (sc + 1)) (nI (vm + 1)))), (mr 22, .inl (kV, 40, .inr (.inr (.inr (.inr (va_up fs sc (some q_1)))))))] : va_W) ++ ([(q_1, .inr (21, [.int (nI vm), .int nn, .null, .int 0, .null]))] : va_W)) ++ sT L F) := hD.subT (f' := [(m9, .inr (23, mT mr mv vf ff xa (nI T) (nI im) (nI tm) xm (nI (sc + 1)) (nI (vm + 1)))), (mr 22, .inl (kV, 40, .inr (.inr (.inr (.inr (va_up fs sc (some q_1))))))), (q_1, .inr (21, [.int (nI vm), .int nn, .null, .int 0, .null]))]) [0, 1, 2] (by decide) rfl
    obtain ⟨L9, F9, hx9, hm9, hP, hD⟩ := st_fileL [(q_1, .inr (21, [.int (nI vm), .int nn, .null, .int 0, .null]))] hP hD
    have hm9_0 := hm9 _ (List.mem_of_getElem? (i := 0) rfl)
    refine W.grow (fun hgs0 hgs1 => ?_)
    have hP9 := hP.subT (f' := [(m9, .inr (23, mT mr mv vf ff xa (nI T) (nI im) (nI tm) xm (nI (sc + 1)) (nI (vm + 1)))), (mr 22, .inl (kV, 40, .inr (.inr (.inr (.inr (va_up fs sc (some q_1)))))))]) [0, 1] rfl
    have hD9 := hD.subT (f' := [(m9, .inr (23, mT mr mv vf ff xa (nI T) (nI im) (nI tm) xm (nI (sc + 1)) (nI (vm + 1)))), (mr 22, .inl (kV, 40, .inr (.inr (.inr (.inr (va_up fs sc (some q_1)))))))]) [0, 1] (by decide) rfl
    have hK9 := hK.sub (tys' := [(kV, .object RX21)]) [0] rfl
    refine W.widen (k := 1) (n := 5) (by omega) (by omega) ?_
    exact W.aret hx hb hr (Or.inl ⟨_, rfl⟩) (Or.inr ⟨q_1, rfl⟩) (fun tS ht hW => ⟨⟨(), q_1, rfl, trivial, L9, F9, ⟨hx9, hm9_0.1⟩, hm9_0.2, by rw [ht]; exact ⟨by omega, by omega⟩, by rw [ht]; exact hP9, va_K.moved hW.alike hK9, hD9⟩, hS.F ht⟩) hS.2.2 dX23_declare_69
  · obtain rfl : mu = 1 := hmu.resolve_left hm0
    have hl : lv_has ls 5 [(4, .ref q_1), (0, .ref m9), (1, .int nn), (2, .null), (3, .int 1)] := hl
    refine va_put (D := (dC, dI)) (ci := 21) (v := .int 1) (ty := .boolean) (C := RX21) (T := TX21) (N := 5) hx hb hts in_c_dclN_X21 tyX21 tyX21_ok nmX21 hown hK hP hD hS 2 rfl rfl 3 (by decide) (hts (.fieldLink RX23 473 "OwnedPlacesModel$Variable" "mut" "Z") (wm_c_dclN 13 rfl)) (fun _ h9 => h9) rfl (by decide +kernel) (by decide) (by decide) (Nat.le_of_ble_eq_true rfl) dX23_declare_33 (fun H locs hP hD hS => ?_)
    have hP : va_P (dC, dI) vwCl (([(m9, .inr (23, mT mr mv vf ff xa (nI T) (nI im) (nI tm) xm (nI sc) (nI vm))), (mr 22, .inl (kV, 40, .inr (.inr (.inr (.inr fs))))), (q_1, .inr (21, [.int (nI vm), .int nn, .null, .int 1, .null]))] : va_W) ++ (sT L F)) H := hP
    have hD : va_D A (([(m9, .inr (23, mT mr mv vf ff xa (nI T) (nI im) (nI tm) xm (nI sc) (nI vm))), (mr 22, .inl (kV, 40, .inr (.inr (.inr (.inr fs))))), (q_1, .inr (21, [.int (nI vm), .int nn, .null, .int 1, .null]))] : va_W) ++ (sT L F)) := hD
    refine lv_aload_n hx hb dX23_declare_36 rfl (lv_at hl 1 rfl) ?_
    refine lv_dup hx hb dX23_declare_37 rfl ?_
    refine va_get (D := (dC, dI)) (ci := 23) (v := .int (nI vm)) (C := RX23) (T := TX23) (N := 89) hx hb hts in_c_dclN_X23 hown hK hP 0 rfl rfl 24 (by decide) (hts (.fieldLink RX23 466 "OwnedPlacesModel" "variableMany" "I") (wm_c_dclN 9 rfl)) (fun _ h9 => h9) rfl dX23_declare_38 ?_
    refine lv_iconst (v := 1) hx hb dX23_declare_41 (by decide) ?_
    refine lv_iadd hx hb dX23_declare_42 ?_
    refine lv_topi (fun f_3 ef_3 => ?_)
    obtain rfl : f_3 = nI (vm + 1) := ef_3.trans (nI_1 _)
    refine va_put (D := (dC, dI)) (ci := 23) (v := .int (nI (vm + 1))) (ty := .int) (C := RX23) (T := TX23) (N := 89) hx hb hts in_c_dclN_X23 tyX23 tyX23_ok nmX23 hown hK hP hD hS 0 rfl rfl 24 (by decide) (hts (.fieldLink RX23 466 "OwnedPlacesModel" "variableMany" "I") (wm_c_dclN 9 rfl)) (fun _ h9 => h9) rfl (by decide +kernel) rfl rfl (Nat.le_of_ble_eq_true rfl) dX23_declare_43 (fun H locs hP hD hS => ?_)
    have hP : va_P (dC, dI) vwCl (([(m9, .inr (23, mT mr mv vf ff xa (nI T) (nI im) (nI tm) xm (nI sc) (nI (vm + 1)))), (mr 22, .inl (kV, 40, .inr (.inr (.inr (.inr fs))))), (q_1, .inr (21, [.int (nI vm), .int nn, .null, .int 1, .null]))] : va_W) ++ (sT L F)) H := hP
    have hD : va_D A (([(m9, .inr (23, mT mr mv vf ff xa (nI T) (nI im) (nI tm) xm (nI sc) (nI (vm + 1)))), (mr 22, .inl (kV, 40, .inr (.inr (.inr (.inr fs))))), (q_1, .inr (21, [.int (nI vm), .int nn, .null, .int 1, .null]))] : va_W) ++ (sT L F)) := hD
    refine lv_aload_n hx hb dX23_declare_46 rfl (lv_at hl 1 rfl) ?_
    refine va_get (D := (dC, dI)) (ci := 23) (v := .ref (mr 22)) (C := RX23) (T := TX23) (N := 89) hx hb hts in_c_dclN_X23 hown hK hP 0 rfl rfl 22 (by decide) (hts (.fieldLink RX23 474 "OwnedPlacesModel" "scope" "[LOwnedPlacesModel$Variable;") (wm_c_dclN 14 rfl)) (fun _ h9 => h9) rfl dX23_declare_47 ?_
    refine lv_aload_n hx hb dX23_declare_50 rfl (lv_at hl 1 rfl) ?_
    refine va_get (D := (dC, dI)) (ci := 23) (v := .int (nI sc)) (C := RX23) (T := TX23) (N := 89) hx hb hts in_c_dclN_X23 hown hK hP 0 rfl rfl 23 (by decide) (hts (.fieldLink RX23 477 "OwnedPlacesModel" "scopeMany" "I") (wm_c_dclN 15 rfl)) (fun _ h9 => h9) rfl dX23_declare_51 ?_
    refine lv_aload hx hb dX23_declare_54 (lv_at hl 0 rfl) ?_
    refine va_astq (r := (RX21, TX21, 5)) hx hb hK hP hD hS 1 0 2 21 rfl rfl rfl rfl (vp_in_nI (show sc < 40 by omega) (by decide)) dX23_declare_56 (fun H locs hP hD hS => ?_)
    have hP : va_P (dC, dI) vwCl (([(m9, .inr (23, mT mr mv vf ff xa (nI T) (nI im) (nI tm) xm (nI sc) (nI (vm + 1)))), (mr 22, .inl (kV, 40, .inr (.inr (.inr (.inr (va_up fs (nI sc : Int32).toNatClampNeg (some q_1))))))), (q_1, .inr (21, [.int (nI vm), .int nn, .null, .int 1, .null]))] : va_W) ++ (sT L F)) H := hP
    have hD : va_D A (([(m9, .inr (23, mT mr mv vf ff xa (nI T) (nI im) (nI tm) xm (nI sc) (nI (vm + 1)))), (mr 22, .inl (kV, 40, .inr (.inr (.inr (.inr (va_up fs (nI sc : Int32).toNatClampNeg (some q_1))))))), (q_1, .inr (21, [.int (nI vm), .int nn, .null, .int 1, .null]))] : va_W) ++ (sT L F)) := hD
    obtain ⟨fA, efA⟩ : ∃ zZ : Nat → Option Nat, zZ = va_up fs (nI sc : Int32).toNatClampNeg (some q_1) := ⟨_, rfl⟩
    rw [← efA] at hP hD
    have hfA : fA = va_up fs sc (some q_1) := by rw [efA, nI_clamp (by omega)]
    rw [hfA] at hP hD
    have hP : va_P (dC, dI) vwCl (([(m9, .inr (23, mT mr mv vf ff xa (nI T) (nI im) (nI tm) xm (nI sc) (nI (vm + 1)))), (mr 22, .inl (kV, 40, .inr (.inr (.inr (.inr (va_up fs sc (some q_1))))))), (q_1, .inr (21, [.int (nI vm), .int nn, .null, .int 1, .null]))] : va_W) ++ (sT L F)) H := hP
    have hD : va_D A (([(m9, .inr (23, mT mr mv vf ff xa (nI T) (nI im) (nI tm) xm (nI sc) (nI (vm + 1)))), (mr 22, .inl (kV, 40, .inr (.inr (.inr (.inr (va_up fs sc (some q_1))))))), (q_1, .inr (21, [.int (nI vm), .int nn, .null, .int 1, .null]))] : va_W) ++ (sT L F)) := hD
    refine lv_aload_n hx hb dX23_declare_57 rfl (lv_at hl 1 rfl) ?_
    refine lv_dup hx hb dX23_declare_58 rfl ?_
    refine va_get (D := (dC, dI)) (ci := 23) (v := .int (nI sc)) (C := RX23) (T := TX23) (N := 89) hx hb hts in_c_dclN_X23 hown hK hP 0 rfl rfl 23 (by decide) (hts (.fieldLink RX23 477 "OwnedPlacesModel" "scopeMany" "I") (wm_c_dclN 15 rfl)) (fun _ h9 => h9) rfl dX23_declare_59 ?_
    refine lv_iconst (v := 1) hx hb dX23_declare_62 (by decide) ?_
    refine lv_iadd hx hb dX23_declare_63 ?_
    refine lv_topi (fun f_4 ef_4 => ?_)
    obtain rfl : f_4 = nI (sc + 1) := ef_4.trans (nI_1 _)
    refine va_put (D := (dC, dI)) (ci := 23) (v := .int (nI (sc + 1))) (ty := .int) (C := RX23) (T := TX23) (N := 89) hx hb hts in_c_dclN_X23 tyX23 tyX23_ok nmX23 hown hK hP hD hS 0 rfl rfl 23 (by decide) (hts (.fieldLink RX23 477 "OwnedPlacesModel" "scopeMany" "I") (wm_c_dclN 15 rfl)) (fun _ h9 => h9) rfl (by decide +kernel) rfl rfl (Nat.le_of_ble_eq_true rfl) dX23_declare_64 (fun H locs hP hD hS => ?_)
    have hP : va_P (dC, dI) vwCl (([(m9, .inr (23, mT mr mv vf ff xa (nI T) (nI im) (nI tm) xm (nI (sc + 1)) (nI (vm + 1)))), (mr 22, .inl (kV, 40, .inr (.inr (.inr (.inr (va_up fs sc (some q_1))))))), (q_1, .inr (21, [.int (nI vm), .int nn, .null, .int 1, .null]))] : va_W) ++ (sT L F)) H := hP
    have hD : va_D A (([(m9, .inr (23, mT mr mv vf ff xa (nI T) (nI im) (nI tm) xm (nI (sc + 1)) (nI (vm + 1)))), (mr 22, .inl (kV, 40, .inr (.inr (.inr (.inr (va_up fs sc (some q_1))))))), (q_1, .inr (21, [.int (nI vm), .int nn, .null, .int 1, .null]))] : va_W) ++ (sT L F)) := hD
    refine lv_aload hx hb dX23_declare_67 (lv_at hl 0 rfl) ?_
    have hP : va_P (dC, dI) vwCl ((([(m9, .inr (23, mT mr mv vf ff xa (nI T) (nI im) (nI tm) xm (nI (sc + 1)) (nI (vm + 1)))), (mr 22, .inl (kV, 40, .inr (.inr (.inr (.inr (va_up fs sc (some q_1)))))))] : va_W) ++ ([(q_1, .inr (21, [.int (nI vm), .int nn, .null, .int 1, .null]))] : va_W)) ++ sT L F) H := hP.subT (f' := [(m9, .inr (23, mT mr mv vf ff xa (nI T) (nI im) (nI tm) xm (nI (sc + 1)) (nI (vm + 1)))), (mr 22, .inl (kV, 40, .inr (.inr (.inr (.inr (va_up fs sc (some q_1))))))), (q_1, .inr (21, [.int (nI vm), .int nn, .null, .int 1, .null]))]) [0, 1, 2] rfl
    have hD : va_D A ((([(m9, .inr (23, mT mr mv vf ff xa (nI T) (nI im) (nI tm) xm (nI (sc + 1)) (nI (vm + 1)))), (mr 22, .inl (kV, 40, .inr (.inr (.inr (.inr (va_up fs sc (some q_1)))))))] : va_W) ++ ([(q_1, .inr (21, [.int (nI vm), .int nn, .null, .int 1, .null]))] : va_W)) ++ sT L F) := hD.subT (f' := [(m9, .inr (23, mT mr mv vf ff xa (nI T) (nI im) (nI tm) xm (nI (sc + 1)) (nI (vm + 1)))), (mr 22, .inl (kV, 40, .inr (.inr (.inr (.inr (va_up fs sc (some q_1))))))), (q_1, .inr (21, [.int (nI vm), .int nn, .null, .int 1, .null]))]) [0, 1, 2] (by decide) rfl
    obtain ⟨L9, F9, hx9, hm9, hP, hD⟩ := st_fileL [(q_1, .inr (21, [.int (nI vm), .int nn, .null, .int 1, .null]))] hP hD
    have hm9_0 := hm9 _ (List.mem_of_getElem? (i := 0) rfl)
    refine W.grow (fun hgs0 hgs1 => ?_)
    have hP9 := hP.subT (f' := [(m9, .inr (23, mT mr mv vf ff xa (nI T) (nI im) (nI tm) xm (nI (sc + 1)) (nI (vm + 1)))), (mr 22, .inl (kV, 40, .inr (.inr (.inr (.inr (va_up fs sc (some q_1)))))))]) [0, 1] rfl
    have hD9 := hD.subT (f' := [(m9, .inr (23, mT mr mv vf ff xa (nI T) (nI im) (nI tm) xm (nI (sc + 1)) (nI (vm + 1)))), (mr 22, .inl (kV, 40, .inr (.inr (.inr (.inr (va_up fs sc (some q_1)))))))]) [0, 1] (by decide) rfl
    have hK9 := hK.sub (tys' := [(kV, .object RX21)]) [0] rfl
    refine W.widen (k := 1) (n := 5) (by omega) (by omega) ?_
    exact W.aret hx hb hr (Or.inl ⟨_, rfl⟩) (Or.inr ⟨q_1, rfl⟩) (fun tS ht hW => ⟨⟨(), q_1, rfl, trivial, L9, F9, ⟨hx9, hm9_0.1⟩, hm9_0.2, by rw [ht]; exact ⟨by omega, by omega⟩, by rw [ht]; exact hP9, va_K.moved hW.alike hK9, hD9⟩, hS.F ht⟩) hS.2.2 dX23_declare_69
set_option maxRecDepth 20000 in
theorem g_c_dclR_c_nV_4 : GoodIn wp_c_dclN wp_c_nV := goodIn_app (goodIn_f (wf_c_nV) [4, 5, 6, 7] rfl wg_c_nV) (goodIn_n)
set_option maxHeartbeats 4000000 in
set_option maxRecDepth 100000 in
theorem c_dclR (l : Launch) (dC : Nat → ClassId) (dI : Nat → Nat → Nat) (m9 : Nat) (mr : Nat → Nat) (mv : Nat → Int32) (vf : Value) (ff xa xm : Int32) (T im tm sc vm : Nat) (kI : ClassId) (L : List Nat) (F : Nat → va_E) (kV : ClassId) (fs : Nat → Option Nat) (nn mu : Int32) (tt : Nat) (sl : Nat) (sz : Nat) (hsc : sc < 40) (hmu : mu = 0 ∨ mu = 1) : Met l yX23_declare wp_c_dclN ({ frames := 2, cells := 1, slots := 5, locals := 32 }) (va_Pc [.ref m9, .int nn, .ref tt, .int mu] (fun U => U.heap.size = sz ∧ va_P (dC, dI) vwCl (([(m9, .inr (23, mT mr mv vf ff xa (nI T) (nI im) (nI tm) xm (nI sc) (nI vm))), (mr 22, .inl (kV, 40, .inr (.inr (.inr (.inr fs)))))] : va_W) ++ (sT L F)) U.heap ∧ va_K (dC, dI) vwCl [(kV, .object RX21)] U ∧ va_D (fun _ => True) (([(m9, .inr (23, mT mr mv vf ff xa (nI T) (nI im) (nI tm) xm (nI sc) (nI vm))), (mr 22, .inl (kV, 40, .inr (.inr (.inr (.inr fs)))))] : va_W) ++ (sT L F)) ∧ nsM U ∧ slN U.heap = sl)) (va_Qr (fun _ : Unit => True) (fun (_ : Unit) (rA : Nat) (tS : State) => ∃ (L2 : List Nat) (F2 : Nat → va_E), (exS L F L2 F2 ∧ rA ∈ L2) ∧ (F2 rA = .inr (21, [.int (nI vm), .int nn, .ref tt, .int mu, .null])) ∧ (tS.heap.size ≤ sz + (1) ∧ slN tS.heap ≤ sl + (5)) ∧ va_P (dC, dI) vwCl (([(m9, .inr (23, mT mr mv vf ff xa (nI T) (nI im) (nI tm) xm (nI (sc + 1)) (nI (vm + 1)))), (mr 22, .inl (kV, 40, .inr (.inr (.inr (.inr (va_up fs sc (some rA)))))))] : va_W) ++ (sT L2 F2)) tS.heap ∧ va_K (dC, dI) vwCl [(kV, .object RX21)] tS ∧ va_D (va_A (([(m9, .inr (23, mT mr mv vf ff xa (nI T) (nI im) (nI tm) xm (nI sc) (nI vm))), (mr 22, .inl (kV, 40, .inr (.inr (.inr (.inr fs)))))] : va_W) ++ (sT L F)) sz) (([(m9, .inr (23, mT mr mv vf ff xa (nI T) (nI im) (nI tm) xm (nI (sc + 1)) (nI (vm + 1)))), (mr 22, .inl (kV, 40, .inr (.inr (.inr (.inr (va_up fs sc (some rA)))))))] : va_W) ++ (sT L2 F2))) (va_A (([(m9, .inr (23, mT mr mv vf ff xa (nI T) (nI im) (nI tm) xm (nI sc) (nI vm))), (mr 22, .inl (kV, 40, .inr (.inr (.inr (.inr fs)))))] : va_W) ++ (sT L F)) sz)) 1 5 (va_A (([(m9, .inr (23, mT mr mv vf ff xa (nI T) (nI im) (nI tm) xm (nI sc) (nI vm))), (mr 22, .inl (kV, 40, .inr (.inr (.inr (.inr fs)))))] : va_W) ++ (sT L F)) sz) := by
  refine Met.ofW (cc := cX23_declare) (maxL := 5) (ret := (some (.object "OwnedPlacesModel$Variable"))) (by decide) rfl ?_
  intro p e s m args below meth c s₁ B hml hv
  obtain ⟨rfl, hsz, hP, hK, hD0, hpre0, hpre1⟩ := hv
  have hx := B.exec
  have hb := B.bytes
  have hr := B.returns
  have hts := atoms_spec (ws := wp_c_dclN) B.pre
  have hown : s.vm.findClass RX23 = some m.cls := findClass_of_methodNamed B.named
  have hlocks := B.notSynchronized
  subst hsz
  have hD := hD0.self (sz := s.heap.size)
  generalize hAe : va_A (([(m9, .inr (23, mT mr mv vf ff xa (nI T) (nI im) (nI tm) xm (nI sc) (nI vm))), (mr 22, .inl (kV, 40, .inr (.inr (.inr (.inr fs)))))] : va_W) ++ (sT L F)) s.heap.size = A at hD ⊢
  have hA : ∀ q : Nat, s.heap.size ≤ q → A q := fun q h => by rw [← hAe]; exact Or.inr h
  have hS : va_S A s.heap s.heap [] := va_S.rf
  have hP : va_P (dC, dI) vwCl (([(m9, .inr (23, mT mr mv vf ff xa (nI T) (nI im) (nI tm) xm (nI sc) (nI vm))), (mr 22, .inl (kV, 40, .inr (.inr (.inr (.inr fs)))))] : va_W) ++ (sT L F)) s.heap := hP
  have hl := lv_entry ([.ref m9, .int nn, .ref tt, .int mu]) (n := 5) (Nat.le_of_ble_eq_true rfl)
  rw [lg_entry_eq]
  generalize (lg_sl ([.ref m9, .int nn, .ref tt, .int mu]) ++ List.replicate (5 - (lg_sl ([.ref m9, .int nn, .ref tt, .int mu])).length) Slot.unset).toArray = ls at hl ⊢
  have hl : lv_has ls 5 [(0, .ref m9), (1, .int nn), (2, .ref tt), (3, .int mu)] := hl
  have hns := hpre0
  subst hpre1
  refine va_new (ci := 21) (fs := [.int 0, .int 0, .null, .int 0, .null]) (C := RX21) (T := TX21) (N := 5) hx hb hts in_c_dclN_X21 tyX21 tyX21_ok hown (hts (.classLink RX23 192 RX21) (wm_c_dclN 1 rfl)) (hts (.instantiable RX21 5) (wm_c_dclN 2 rfl)) (hts (.initialized RX21) (wm_c_dclN 3 rfl)) hK hP hD hS hA rfl dv_X21 (show 0 + 1 ≤ 1 by omega) (show 0 + 5 ≤ 5 by omega) dX23_declare_0 (fun q_1 H hP hD hS => ?_)
  have hP := va_P.nt hP
  have hD := va_D.nt hD
  have hP : va_P (dC, dI) vwCl (([(m9, .inr (23, mT mr mv vf ff xa (nI T) (nI im) (nI tm) xm (nI sc) (nI vm))), (mr 22, .inl (kV, 40, .inr (.inr (.inr (.inr fs))))), (q_1, .inr (21, [.int 0, .int 0, .null, .int 0, .null]))] : va_W) ++ (sT L F)) H := hP
  have hD : va_D A (([(m9, .inr (23, mT mr mv vf ff xa (nI T) (nI im) (nI tm) xm (nI sc) (nI vm))), (mr 22, .inl (kV, 40, .inr (.inr (.inr (.inr fs))))), (q_1, .inr (21, [.int 0, .int 0, .null, .int 0, .null]))] : va_W) ++ (sT L F)) := hD
  refine W.widen (k := 1) (n := 5) (by omega) (by omega) ?_
  refine lv_dup hx hb dX23_declare_3 rfl ?_
  have hPc := hP.subF (f' := [(q_1, .inr (21, [.int 0, .int 0, .null, .int 0, .null]))]) [2] rfl
  have hDc := hD.subF (f' := [(q_1, .inr (21, [.int 0, .int 0, .null, .int 0, .null]))]) [2] (by decide) rfl
  have hKc := hK.sub (tys' := []) [] rfl
  have hFc := va_freeT (wc := [(q_1, .inr (21, [.int 0, .int 0, .null, .int 0, .null]))]) hD hS hA [2] rfl
  refine va_callv (va_runIN (As := []) (rest := [.ref q_1]) ⟨hx, hb, hml, hown, hts⟩ (c_nV l dC dI q_1 H.size) ⟨va_cnB 0 hts g_c_dclR_c_nV_4 rfl rfl rfl hns.1.2.2.2.2.2.2.2.2 (hts (.initialized RX21) (wm_c_dclN 3 rfl)) (by decide +kernel) ⟨Nat.le_of_ble_eq_true rfl, Nat.le_of_ble_eq_true rfl⟩, rfl, (hts (.instanceMethod yX21_init) (wm_c_dclN 8 rfl))⟩ ⟨fun a U g mk q => by obtain ⟨q0, q1, qP, qK, qD⟩ := q; exact ⟨q0, q1, qP, va_K.moved (u := U) (U := U.calling g mk a) (Vm.Alike.refl U.vm) qK, qD⟩, fun U hU hW => ⟨rfl, by rw [hU], by rw [hU]; exact hPc, va_K.moved hW.alike hKc, hDc.weaken (fun _ _ _ _ => trivial)⟩⟩ rfl rfl hl.1 rfl (lv_room (Nat.le_of_ble_eq_true rfl)) dX23_declare_4 ⟨(show 1 + 0 ≤ 1 by omega), (show 5 + 0 ≤ 5 by omega)⟩) hS (fun q _ h => hFc q h) hFc (fun u tS H1 locs ht hvm hw hB hz1 hk1 hS => ?_)
  obtain ⟨hP1, hK1, hD1⟩ := hB
  rw [ht] at hP1
  have hK1 := va_K.moved hvm.symm hK1
  obtain ⟨hP, hD⟩ := va_joinT (wr := [(m9, .inr (23, mT mr mv vf ff xa (nI T) (nI im) (nI tm) xm (nI sc) (nI vm))), (mr 22, .inl (kV, 40, .inr (.inr (.inr (.inr fs)))))]) (w1 := [(q_1, .inr (21, [.int 0, .int 0, .null, .int 0, .null]))]) hP hD [2] [0, 1] rfl rfl (by decide) (by decide) hk1 hFc hP1 hD1
  generalize H1 = H at hP hS ⊢
  have hP : va_P (dC, dI) vwCl (([(m9, .inr (23, mT mr mv vf ff xa (nI T) (nI im) (nI tm) xm (nI sc) (nI vm))), (mr 22, .inl (kV, 40, .inr (.inr (.inr (.inr fs))))), (q_1, .inr (21, [.int 0, .int 0, .null, .int 0, .null]))] : va_W) ++ (sT L F)) H := hP
  have hD : va_D A (([(m9, .inr (23, mT mr mv vf ff xa (nI T) (nI im) (nI tm) xm (nI sc) (nI vm))), (mr 22, .inl (kV, 40, .inr (.inr (.inr (.inr fs))))), (q_1, .inr (21, [.int 0, .int 0, .null, .int 0, .null]))] : va_W) ++ (sT L F)) := hD
  have hK : va_K (dC, dI) vwCl [(kV, .object RX21)] s := hK
  clear hz1 hk1 hPc hDc hKc hFc hP1 hD1 hK1
  refine lv_astore (lv' := [(4, .ref q_1), (0, .ref m9), (1, .int nn), (2, .ref tt), (3, .int mu)]) hx hb dX23_declare_7 hl (by decide) rfl (fun ls hl => ?_)
  refine lv_aload hx hb dX23_declare_9 (lv_at hl 0 rfl) ?_
  refine lv_aload_n hx hb dX23_declare_11 rfl (lv_at hl 1 rfl) ?_
  refine va_get (D := (dC, dI)) (ci := 23) (v := .int (nI vm)) (C := RX23) (T := TX23) (N := 89) hx hb hts in_c_dclN_X23 hown hK hP 0 rfl rfl 24 (by decide) (hts (.fieldLink RX23 466 "OwnedPlacesModel" "variableMany" "I") (wm_c_dclN 9 rfl)) (fun _ h9 => h9) rfl dX23_declare_12 ?_
  refine va_put (D := (dC, dI)) (ci := 21) (v := .int (nI vm)) (ty := .int) (C := RX21) (T := TX21) (N := 5) hx hb hts in_c_dclN_X21 tyX21 tyX21_ok nmX21 hown hK hP hD hS 2 rfl rfl 0 (by decide) (hts (.fieldLink RX23 469 "OwnedPlacesModel$Variable" "index" "I") (wm_c_dclN 10 rfl)) (fun _ h9 => h9) rfl (by decide +kernel) rfl rfl (Nat.le_of_ble_eq_true rfl) dX23_declare_15 (fun H locs hP hD hS => ?_)
  have hP : va_P (dC, dI) vwCl (([(m9, .inr (23, mT mr mv vf ff xa (nI T) (nI im) (nI tm) xm (nI sc) (nI vm))), (mr 22, .inl (kV, 40, .inr (.inr (.inr (.inr fs))))), (q_1, .inr (21, [.int (nI vm), .int 0, .null, .int 0, .null]))] : va_W) ++ (sT L F)) H := hP
  have hD : va_D A (([(m9, .inr (23, mT mr mv vf ff xa (nI T) (nI im) (nI tm) xm (nI sc) (nI vm))), (mr 22, .inl (kV, 40, .inr (.inr (.inr (.inr fs))))), (q_1, .inr (21, [.int (nI vm), .int 0, .null, .int 0, .null]))] : va_W) ++ (sT L F)) := hD
  refine lv_aload hx hb dX23_declare_18 (lv_at hl 0 rfl) ?_
  refine lv_iload_n hx hb dX23_declare_20 rfl (lv_at hl 2 rfl) ?_
  refine va_put (D := (dC, dI)) (ci := 21) (v := .int nn) (ty := .int) (C := RX21) (T := TX21) (N := 5) hx hb hts in_c_dclN_X21 tyX21 tyX21_ok nmX21 hown hK hP hD hS 2 rfl rfl 1 (by decide) (hts (.fieldLink RX23 470 "OwnedPlacesModel$Variable" "name" "I") (wm_c_dclN 11 rfl)) (fun _ h9 => h9) rfl (by decide +kernel) rfl rfl (Nat.le_of_ble_eq_true rfl) dX23_declare_21 (fun H locs hP hD hS => ?_)
  have hP : va_P (dC, dI) vwCl (([(m9, .inr (23, mT mr mv vf ff xa (nI T) (nI im) (nI tm) xm (nI sc) (nI vm))), (mr 22, .inl (kV, 40, .inr (.inr (.inr (.inr fs))))), (q_1, .inr (21, [.int (nI vm), .int nn, .null, .int 0, .null]))] : va_W) ++ (sT L F)) H := hP
  have hD : va_D A (([(m9, .inr (23, mT mr mv vf ff xa (nI T) (nI im) (nI tm) xm (nI sc) (nI vm))), (mr 22, .inl (kV, 40, .inr (.inr (.inr (.inr fs))))), (q_1, .inr (21, [.int (nI vm), .int nn, .null, .int 0, .null]))] : va_W) ++ (sT L F)) := hD
  refine lv_aload hx hb dX23_declare_24 (lv_at hl 0 rfl) ?_
  refine lv_aload_n hx hb dX23_declare_26 rfl (lv_at hl 3 rfl) ?_
  refine va_put (D := (dC, dI)) (ci := 21) (v := .ref tt) (ty := (.object "OwnedPlacesModel$Type")) (C := RX21) (T := TX21) (N := 5) hx hb hts in_c_dclN_X21 tyX21 tyX21_ok nmX21 hown hK hP hD hS 2 rfl rfl 2 (by decide) (hts (.fieldLink RX23 471 "OwnedPlacesModel$Variable" "type" "LOwnedPlacesModel$Type;") (wm_c_dclN 12 rfl)) (fun _ h9 => h9) rfl (by decide +kernel) rfl rfl (Nat.le_of_ble_eq_true rfl) dX23_declare_27 (fun H locs hP hD hS => ?_)
  have hP : va_P (dC, dI) vwCl (([(m9, .inr (23, mT mr mv vf ff xa (nI T) (nI im) (nI tm) xm (nI sc) (nI vm))), (mr 22, .inl (kV, 40, .inr (.inr (.inr (.inr fs))))), (q_1, .inr (21, [.int (nI vm), .int nn, .ref tt, .int 0, .null]))] : va_W) ++ (sT L F)) H := hP
  have hD : va_D A (([(m9, .inr (23, mT mr mv vf ff xa (nI T) (nI im) (nI tm) xm (nI sc) (nI vm))), (mr 22, .inl (kV, 40, .inr (.inr (.inr (.inr fs))))), (q_1, .inr (21, [.int (nI vm), .int nn, .ref tt, .int 0, .null]))] : va_W) ++ (sT L F)) := hD
  refine lv_aload hx hb dX23_declare_30 (lv_at hl 0 rfl) ?_
  refine lv_iload_n hx hb dX23_declare_32 rfl (lv_at hl 4 rfl) ?_
  by_cases hm0 : mu = 0
  · subst hm0
    have hl : lv_has ls 5 [(4, .ref q_1), (0, .ref m9), (1, .int nn), (2, .ref tt), (3, .int 0)] := hl
    refine va_put (D := (dC, dI)) (ci := 21) (v := .int 0) (ty := .boolean) (C := RX21) (T := TX21) (N := 5) hx hb hts in_c_dclN_X21 tyX21 tyX21_ok nmX21 hown hK hP hD hS 2 rfl rfl 3 (by decide) (hts (.fieldLink RX23 473 "OwnedPlacesModel$Variable" "mut" "Z") (wm_c_dclN 13 rfl)) (fun _ h9 => h9) rfl (by decide +kernel) (by decide) (by decide) (Nat.le_of_ble_eq_true rfl) dX23_declare_33 (fun H locs hP hD hS => ?_)
    have hP : va_P (dC, dI) vwCl (([(m9, .inr (23, mT mr mv vf ff xa (nI T) (nI im) (nI tm) xm (nI sc) (nI vm))), (mr 22, .inl (kV, 40, .inr (.inr (.inr (.inr fs))))), (q_1, .inr (21, [.int (nI vm), .int nn, .ref tt, .int 0, .null]))] : va_W) ++ (sT L F)) H := hP
    have hD : va_D A (([(m9, .inr (23, mT mr mv vf ff xa (nI T) (nI im) (nI tm) xm (nI sc) (nI vm))), (mr 22, .inl (kV, 40, .inr (.inr (.inr (.inr fs))))), (q_1, .inr (21, [.int (nI vm), .int nn, .ref tt, .int 0, .null]))] : va_W) ++ (sT L F)) := hD
    refine lv_aload_n hx hb dX23_declare_36 rfl (lv_at hl 1 rfl) ?_
    refine lv_dup hx hb dX23_declare_37 rfl ?_
    refine va_get (D := (dC, dI)) (ci := 23) (v := .int (nI vm)) (C := RX23) (T := TX23) (N := 89) hx hb hts in_c_dclN_X23 hown hK hP 0 rfl rfl 24 (by decide) (hts (.fieldLink RX23 466 "OwnedPlacesModel" "variableMany" "I") (wm_c_dclN 9 rfl)) (fun _ h9 => h9) rfl dX23_declare_38 ?_
    refine lv_iconst (v := 1) hx hb dX23_declare_41 (by decide) ?_
    refine lv_iadd hx hb dX23_declare_42 ?_
    refine lv_topi (fun f_3 ef_3 => ?_)
    obtain rfl : f_3 = nI (vm + 1) := ef_3.trans (nI_1 _)
    refine va_put (D := (dC, dI)) (ci := 23) (v := .int (nI (vm + 1))) (ty := .int) (C := RX23) (T := TX23) (N := 89) hx hb hts in_c_dclN_X23 tyX23 tyX23_ok nmX23 hown hK hP hD hS 0 rfl rfl 24 (by decide) (hts (.fieldLink RX23 466 "OwnedPlacesModel" "variableMany" "I") (wm_c_dclN 9 rfl)) (fun _ h9 => h9) rfl (by decide +kernel) rfl rfl (Nat.le_of_ble_eq_true rfl) dX23_declare_43 (fun H locs hP hD hS => ?_)
    have hP : va_P (dC, dI) vwCl (([(m9, .inr (23, mT mr mv vf ff xa (nI T) (nI im) (nI tm) xm (nI sc) (nI (vm + 1)))), (mr 22, .inl (kV, 40, .inr (.inr (.inr (.inr fs))))), (q_1, .inr (21, [.int (nI vm), .int nn, .ref tt, .int 0, .null]))] : va_W) ++ (sT L F)) H := hP
    have hD : va_D A (([(m9, .inr (23, mT mr mv vf ff xa (nI T) (nI im) (nI tm) xm (nI sc) (nI (vm + 1)))), (mr 22, .inl (kV, 40, .inr (.inr (.inr (.inr fs))))), (q_1, .inr (21, [.int (nI vm), .int nn, .ref tt, .int 0, .null]))] : va_W) ++ (sT L F)) := hD
    refine lv_aload_n hx hb dX23_declare_46 rfl (lv_at hl 1 rfl) ?_
    refine va_get (D := (dC, dI)) (ci := 23) (v := .ref (mr 22)) (C := RX23) (T := TX23) (N := 89) hx hb hts in_c_dclN_X23 hown hK hP 0 rfl rfl 22 (by decide) (hts (.fieldLink RX23 474 "OwnedPlacesModel" "scope" "[LOwnedPlacesModel$Variable;") (wm_c_dclN 14 rfl)) (fun _ h9 => h9) rfl dX23_declare_47 ?_
    refine lv_aload_n hx hb dX23_declare_50 rfl (lv_at hl 1 rfl) ?_
    refine va_get (D := (dC, dI)) (ci := 23) (v := .int (nI sc)) (C := RX23) (T := TX23) (N := 89) hx hb hts in_c_dclN_X23 hown hK hP 0 rfl rfl 23 (by decide) (hts (.fieldLink RX23 477 "OwnedPlacesModel" "scopeMany" "I") (wm_c_dclN 15 rfl)) (fun _ h9 => h9) rfl dX23_declare_51 ?_
    refine lv_aload hx hb dX23_declare_54 (lv_at hl 0 rfl) ?_
    refine va_astq (r := (RX21, TX21, 5)) hx hb hK hP hD hS 1 0 2 21 rfl rfl rfl rfl (vp_in_nI (show sc < 40 by omega) (by decide)) dX23_declare_56 (fun H locs hP hD hS => ?_)
    have hP : va_P (dC, dI) vwCl (([(m9, .inr (23, mT mr mv vf ff xa (nI T) (nI im) (nI tm) xm (nI sc) (nI (vm + 1)))), (mr 22, .inl (kV, 40, .inr (.inr (.inr (.inr (va_up fs (nI sc : Int32).toNatClampNeg (some q_1))))))), (q_1, .inr (21, [.int (nI vm), .int nn, .ref tt, .int 0, .null]))] : va_W) ++ (sT L F)) H := hP
    have hD : va_D A (([(m9, .inr (23, mT mr mv vf ff xa (nI T) (nI im) (nI tm) xm (nI sc) (nI (vm + 1)))), (mr 22, .inl (kV, 40, .inr (.inr (.inr (.inr (va_up fs (nI sc : Int32).toNatClampNeg (some q_1))))))), (q_1, .inr (21, [.int (nI vm), .int nn, .ref tt, .int 0, .null]))] : va_W) ++ (sT L F)) := hD
    obtain ⟨fA, efA⟩ : ∃ zZ : Nat → Option Nat, zZ = va_up fs (nI sc : Int32).toNatClampNeg (some q_1) := ⟨_, rfl⟩
    rw [← efA] at hP hD
    have hfA : fA = va_up fs sc (some q_1) := by rw [efA, nI_clamp (by omega)]
    rw [hfA] at hP hD
    have hP : va_P (dC, dI) vwCl (([(m9, .inr (23, mT mr mv vf ff xa (nI T) (nI im) (nI tm) xm (nI sc) (nI (vm + 1)))), (mr 22, .inl (kV, 40, .inr (.inr (.inr (.inr (va_up fs sc (some q_1))))))), (q_1, .inr (21, [.int (nI vm), .int nn, .ref tt, .int 0, .null]))] : va_W) ++ (sT L F)) H := hP
    have hD : va_D A (([(m9, .inr (23, mT mr mv vf ff xa (nI T) (nI im) (nI tm) xm (nI sc) (nI (vm + 1)))), (mr 22, .inl (kV, 40, .inr (.inr (.inr (.inr (va_up fs sc (some q_1))))))), (q_1, .inr (21, [.int (nI vm), .int nn, .ref tt, .int 0, .null]))] : va_W) ++ (sT L F)) := hD
    refine lv_aload_n hx hb dX23_declare_57 rfl (lv_at hl 1 rfl) ?_
    refine lv_dup hx hb dX23_declare_58 rfl ?_
    refine va_get (D := (dC, dI)) (ci := 23) (v := .int (nI sc)) (C := RX23) (T := TX23) (N := 89) hx hb hts in_c_dclN_X23 hown hK hP 0 rfl rfl 23 (by decide) (hts (.fieldLink RX23 477 "OwnedPlacesModel" "scopeMany" "I") (wm_c_dclN 15 rfl)) (fun _ h9 => h9) rfl dX23_declare_59 ?_
    refine lv_iconst (v := 1) hx hb dX23_declare_62 (by decide) ?_
    refine lv_iadd hx hb dX23_declare_63 ?_
    refine lv_topi (fun f_4 ef_4 => ?_)
    obtain rfl : f_4 = nI (sc + 1) := ef_4.trans (nI_1 _)
    refine va_put (D := (dC, dI)) (ci := 23) (v := .int (nI (sc + 1))) (ty := .int) (C := RX23) (T := TX23) (N := 89) hx hb hts in_c_dclN_X23 tyX23 tyX23_ok nmX23 hown hK hP hD hS 0 rfl rfl 23 (by decide) (hts (.fieldLink RX23 477 "OwnedPlacesModel" "scopeMany" "I") (wm_c_dclN 15 rfl)) (fun _ h9 => h9) rfl (by decide +kernel) rfl rfl (Nat.le_of_ble_eq_true rfl) dX23_declare_64 (fun H locs hP hD hS => ?_)
    have hP : va_P (dC, dI) vwCl (([(m9, .inr (23, mT mr mv vf ff xa (nI T) (nI im) (nI tm) xm (nI (sc + 1)) (nI (vm + 1)))), (mr 22, .inl (kV, 40, .inr (.inr (.inr (.inr (va_up fs sc (some q_1))))))), (q_1, .inr (21, [.int (nI vm), .int nn, .ref tt, .int 0, .null]))] : va_W) ++ (sT L F)) H := hP
    have hD : va_D A (([(m9, .inr (23, mT mr mv vf ff xa (nI T) (nI im) (nI tm) xm (nI (sc + 1)) (nI (vm + 1)))), (mr 22, .inl (kV, 40, .inr (.inr (.inr (.inr (va_up fs sc (some q_1))))))), (q_1, .inr (21, [.int (nI vm), .int nn, .ref tt, .int 0, .null]))] : va_W) ++ (sT L F)) := hD
    refine lv_aload hx hb dX23_declare_67 (lv_at hl 0 rfl) ?_
    have hP : va_P (dC, dI) vwCl ((([(m9, .inr (23, mT mr mv vf ff xa (nI T) (nI im) (nI tm) xm (nI (sc + 1)) (nI (vm + 1)))), (mr 22, .inl (kV, 40, .inr (.inr (.inr (.inr (va_up fs sc (some q_1)))))))] : va_W) ++ ([(q_1, .inr (21, [.int (nI vm), .int nn, .ref tt, .int 0, .null]))] : va_W)) ++ sT L F) H := hP.subT (f' := [(m9, .inr (23, mT mr mv vf ff xa (nI T) (nI im) (nI tm) xm (nI (sc + 1)) (nI (vm + 1)))), (mr 22, .inl (kV, 40, .inr (.inr (.inr (.inr (va_up fs sc (some q_1))))))), (q_1, .inr (21, [.int (nI vm), .int nn, .ref tt, .int 0, .null]))]) [0, 1, 2] rfl
    have hD : va_D A ((([(m9, .inr (23, mT mr mv vf ff xa (nI T) (nI im) (nI tm) xm (nI (sc + 1)) (nI (vm + 1)))), (mr 22, .inl (kV, 40, .inr (.inr (.inr (.inr (va_up fs sc (some q_1)))))))] : va_W) ++ ([(q_1, .inr (21, [.int (nI vm), .int nn, .ref tt, .int 0, .null]))] : va_W)) ++ sT L F) := hD.subT (f' := [(m9, .inr (23, mT mr mv vf ff xa (nI T) (nI im) (nI tm) xm (nI (sc + 1)) (nI (vm + 1)))), (mr 22, .inl (kV, 40, .inr (.inr (.inr (.inr (va_up fs sc (some q_1))))))), (q_1, .inr (21, [.int (nI vm), .int nn, .ref tt, .int 0, .null]))]) [0, 1, 2] (by decide) rfl
    obtain ⟨L9, F9, hx9, hm9, hP, hD⟩ := st_fileL [(q_1, .inr (21, [.int (nI vm), .int nn, .ref tt, .int 0, .null]))] hP hD
    have hm9_0 := hm9 _ (List.mem_of_getElem? (i := 0) rfl)
    refine W.grow (fun hgs0 hgs1 => ?_)
    have hP9 := hP.subT (f' := [(m9, .inr (23, mT mr mv vf ff xa (nI T) (nI im) (nI tm) xm (nI (sc + 1)) (nI (vm + 1)))), (mr 22, .inl (kV, 40, .inr (.inr (.inr (.inr (va_up fs sc (some q_1)))))))]) [0, 1] rfl
    have hD9 := hD.subT (f' := [(m9, .inr (23, mT mr mv vf ff xa (nI T) (nI im) (nI tm) xm (nI (sc + 1)) (nI (vm + 1)))), (mr 22, .inl (kV, 40, .inr (.inr (.inr (.inr (va_up fs sc (some q_1)))))))]) [0, 1] (by decide) rfl
    have hK9 := hK.sub (tys' := [(kV, .object RX21)]) [0] rfl
    refine W.widen (k := 1) (n := 5) (by omega) (by omega) ?_
    exact W.aret hx hb hr (Or.inl ⟨_, rfl⟩) (Or.inr ⟨q_1, rfl⟩) (fun tS ht hW => ⟨⟨(), q_1, rfl, trivial, L9, F9, ⟨hx9, hm9_0.1⟩, hm9_0.2, by rw [ht]; exact ⟨by omega, by omega⟩, by rw [ht]; exact hP9, va_K.moved hW.alike hK9, hD9⟩, hS.F ht⟩) hS.2.2 dX23_declare_69
  · obtain rfl : mu = 1 := hmu.resolve_left hm0
    have hl : lv_has ls 5 [(4, .ref q_1), (0, .ref m9), (1, .int nn), (2, .ref tt), (3, .int 1)] := hl
    refine va_put (D := (dC, dI)) (ci := 21) (v := .int 1) (ty := .boolean) (C := RX21) (T := TX21) (N := 5) hx hb hts in_c_dclN_X21 tyX21 tyX21_ok nmX21 hown hK hP hD hS 2 rfl rfl 3 (by decide) (hts (.fieldLink RX23 473 "OwnedPlacesModel$Variable" "mut" "Z") (wm_c_dclN 13 rfl)) (fun _ h9 => h9) rfl (by decide +kernel) (by decide) (by decide) (Nat.le_of_ble_eq_true rfl) dX23_declare_33 (fun H locs hP hD hS => ?_)
    have hP : va_P (dC, dI) vwCl (([(m9, .inr (23, mT mr mv vf ff xa (nI T) (nI im) (nI tm) xm (nI sc) (nI vm))), (mr 22, .inl (kV, 40, .inr (.inr (.inr (.inr fs))))), (q_1, .inr (21, [.int (nI vm), .int nn, .ref tt, .int 1, .null]))] : va_W) ++ (sT L F)) H := hP
    have hD : va_D A (([(m9, .inr (23, mT mr mv vf ff xa (nI T) (nI im) (nI tm) xm (nI sc) (nI vm))), (mr 22, .inl (kV, 40, .inr (.inr (.inr (.inr fs))))), (q_1, .inr (21, [.int (nI vm), .int nn, .ref tt, .int 1, .null]))] : va_W) ++ (sT L F)) := hD
    refine lv_aload_n hx hb dX23_declare_36 rfl (lv_at hl 1 rfl) ?_
    refine lv_dup hx hb dX23_declare_37 rfl ?_
    refine va_get (D := (dC, dI)) (ci := 23) (v := .int (nI vm)) (C := RX23) (T := TX23) (N := 89) hx hb hts in_c_dclN_X23 hown hK hP 0 rfl rfl 24 (by decide) (hts (.fieldLink RX23 466 "OwnedPlacesModel" "variableMany" "I") (wm_c_dclN 9 rfl)) (fun _ h9 => h9) rfl dX23_declare_38 ?_
    refine lv_iconst (v := 1) hx hb dX23_declare_41 (by decide) ?_
    refine lv_iadd hx hb dX23_declare_42 ?_
    refine lv_topi (fun f_3 ef_3 => ?_)
    obtain rfl : f_3 = nI (vm + 1) := ef_3.trans (nI_1 _)
    refine va_put (D := (dC, dI)) (ci := 23) (v := .int (nI (vm + 1))) (ty := .int) (C := RX23) (T := TX23) (N := 89) hx hb hts in_c_dclN_X23 tyX23 tyX23_ok nmX23 hown hK hP hD hS 0 rfl rfl 24 (by decide) (hts (.fieldLink RX23 466 "OwnedPlacesModel" "variableMany" "I") (wm_c_dclN 9 rfl)) (fun _ h9 => h9) rfl (by decide +kernel) rfl rfl (Nat.le_of_ble_eq_true rfl) dX23_declare_43 (fun H locs hP hD hS => ?_)
    have hP : va_P (dC, dI) vwCl (([(m9, .inr (23, mT mr mv vf ff xa (nI T) (nI im) (nI tm) xm (nI sc) (nI (vm + 1)))), (mr 22, .inl (kV, 40, .inr (.inr (.inr (.inr fs))))), (q_1, .inr (21, [.int (nI vm), .int nn, .ref tt, .int 1, .null]))] : va_W) ++ (sT L F)) H := hP
    have hD : va_D A (([(m9, .inr (23, mT mr mv vf ff xa (nI T) (nI im) (nI tm) xm (nI sc) (nI (vm + 1)))), (mr 22, .inl (kV, 40, .inr (.inr (.inr (.inr fs))))), (q_1, .inr (21, [.int (nI vm), .int nn, .ref tt, .int 1, .null]))] : va_W) ++ (sT L F)) := hD
    refine lv_aload_n hx hb dX23_declare_46 rfl (lv_at hl 1 rfl) ?_
    refine va_get (D := (dC, dI)) (ci := 23) (v := .ref (mr 22)) (C := RX23) (T := TX23) (N := 89) hx hb hts in_c_dclN_X23 hown hK hP 0 rfl rfl 22 (by decide) (hts (.fieldLink RX23 474 "OwnedPlacesModel" "scope" "[LOwnedPlacesModel$Variable;") (wm_c_dclN 14 rfl)) (fun _ h9 => h9) rfl dX23_declare_47 ?_
    refine lv_aload_n hx hb dX23_declare_50 rfl (lv_at hl 1 rfl) ?_
    refine va_get (D := (dC, dI)) (ci := 23) (v := .int (nI sc)) (C := RX23) (T := TX23) (N := 89) hx hb hts in_c_dclN_X23 hown hK hP 0 rfl rfl 23 (by decide) (hts (.fieldLink RX23 477 "OwnedPlacesModel" "scopeMany" "I") (wm_c_dclN 15 rfl)) (fun _ h9 => h9) rfl dX23_declare_51 ?_
    refine lv_aload hx hb dX23_declare_54 (lv_at hl 0 rfl) ?_
    refine va_astq (r := (RX21, TX21, 5)) hx hb hK hP hD hS 1 0 2 21 rfl rfl rfl rfl (vp_in_nI (show sc < 40 by omega) (by decide)) dX23_declare_56 (fun H locs hP hD hS => ?_)
    have hP : va_P (dC, dI) vwCl (([(m9, .inr (23, mT mr mv vf ff xa (nI T) (nI im) (nI tm) xm (nI sc) (nI (vm + 1)))), (mr 22, .inl (kV, 40, .inr (.inr (.inr (.inr (va_up fs (nI sc : Int32).toNatClampNeg (some q_1))))))), (q_1, .inr (21, [.int (nI vm), .int nn, .ref tt, .int 1, .null]))] : va_W) ++ (sT L F)) H := hP
    have hD : va_D A (([(m9, .inr (23, mT mr mv vf ff xa (nI T) (nI im) (nI tm) xm (nI sc) (nI (vm + 1)))), (mr 22, .inl (kV, 40, .inr (.inr (.inr (.inr (va_up fs (nI sc : Int32).toNatClampNeg (some q_1))))))), (q_1, .inr (21, [.int (nI vm), .int nn, .ref tt, .int 1, .null]))] : va_W) ++ (sT L F)) := hD
    obtain ⟨fA, efA⟩ : ∃ zZ : Nat → Option Nat, zZ = va_up fs (nI sc : Int32).toNatClampNeg (some q_1) := ⟨_, rfl⟩
    rw [← efA] at hP hD
    have hfA : fA = va_up fs sc (some q_1) := by rw [efA, nI_clamp (by omega)]
    rw [hfA] at hP hD
    have hP : va_P (dC, dI) vwCl (([(m9, .inr (23, mT mr mv vf ff xa (nI T) (nI im) (nI tm) xm (nI sc) (nI (vm + 1)))), (mr 22, .inl (kV, 40, .inr (.inr (.inr (.inr (va_up fs sc (some q_1))))))), (q_1, .inr (21, [.int (nI vm), .int nn, .ref tt, .int 1, .null]))] : va_W) ++ (sT L F)) H := hP
    have hD : va_D A (([(m9, .inr (23, mT mr mv vf ff xa (nI T) (nI im) (nI tm) xm (nI sc) (nI (vm + 1)))), (mr 22, .inl (kV, 40, .inr (.inr (.inr (.inr (va_up fs sc (some q_1))))))), (q_1, .inr (21, [.int (nI vm), .int nn, .ref tt, .int 1, .null]))] : va_W) ++ (sT L F)) := hD
    refine lv_aload_n hx hb dX23_declare_57 rfl (lv_at hl 1 rfl) ?_
    refine lv_dup hx hb dX23_declare_58 rfl ?_
    refine va_get (D := (dC, dI)) (ci := 23) (v := .int (nI sc)) (C := RX23) (T := TX23) (N := 89) hx hb hts in_c_dclN_X23 hown hK hP 0 rfl rfl 23 (by decide) (hts (.fieldLink RX23 477 "OwnedPlacesModel" "scopeMany" "I") (wm_c_dclN 15 rfl)) (fun _ h9 => h9) rfl dX23_declare_59 ?_
    refine lv_iconst (v := 1) hx hb dX23_declare_62 (by decide) ?_
    refine lv_iadd hx hb dX23_declare_63 ?_
    refine lv_topi (fun f_4 ef_4 => ?_)
    obtain rfl : f_4 = nI (sc + 1) := ef_4.trans (nI_1 _)
    refine va_put (D := (dC, dI)) (ci := 23) (v := .int (nI (sc + 1))) (ty := .int) (C := RX23) (T := TX23) (N := 89) hx hb hts in_c_dclN_X23 tyX23 tyX23_ok nmX23 hown hK hP hD hS 0 rfl rfl 23 (by decide) (hts (.fieldLink RX23 477 "OwnedPlacesModel" "scopeMany" "I") (wm_c_dclN 15 rfl)) (fun _ h9 => h9) rfl (by decide +kernel) rfl rfl (Nat.le_of_ble_eq_true rfl) dX23_declare_64 (fun H locs hP hD hS => ?_)
    have hP : va_P (dC, dI) vwCl (([(m9, .inr (23, mT mr mv vf ff xa (nI T) (nI im) (nI tm) xm (nI (sc + 1)) (nI (vm + 1)))), (mr 22, .inl (kV, 40, .inr (.inr (.inr (.inr (va_up fs sc (some q_1))))))), (q_1, .inr (21, [.int (nI vm), .int nn, .ref tt, .int 1, .null]))] : va_W) ++ (sT L F)) H := hP
    have hD : va_D A (([(m9, .inr (23, mT mr mv vf ff xa (nI T) (nI im) (nI tm) xm (nI (sc + 1)) (nI (vm + 1)))), (mr 22, .inl (kV, 40, .inr (.inr (.inr (.inr (va_up fs sc (some q_1))))))), (q_1, .inr (21, [.int (nI vm), .int nn, .ref tt, .int 1, .null]))] : va_W) ++ (sT L F)) := hD
    refine lv_aload hx hb dX23_declare_67 (lv_at hl 0 rfl) ?_
    have hP : va_P (dC, dI) vwCl ((([(m9, .inr (23, mT mr mv vf ff xa (nI T) (nI im) (nI tm) xm (nI (sc + 1)) (nI (vm + 1)))), (mr 22, .inl (kV, 40, .inr (.inr (.inr (.inr (va_up fs sc (some q_1)))))))] : va_W) ++ ([(q_1, .inr (21, [.int (nI vm), .int nn, .ref tt, .int 1, .null]))] : va_W)) ++ sT L F) H := hP.subT (f' := [(m9, .inr (23, mT mr mv vf ff xa (nI T) (nI im) (nI tm) xm (nI (sc + 1)) (nI (vm + 1)))), (mr 22, .inl (kV, 40, .inr (.inr (.inr (.inr (va_up fs sc (some q_1))))))), (q_1, .inr (21, [.int (nI vm), .int nn, .ref tt, .int 1, .null]))]) [0, 1, 2] rfl
    have hD : va_D A ((([(m9, .inr (23, mT mr mv vf ff xa (nI T) (nI im) (nI tm) xm (nI (sc + 1)) (nI (vm + 1)))), (mr 22, .inl (kV, 40, .inr (.inr (.inr (.inr (va_up fs sc (some q_1)))))))] : va_W) ++ ([(q_1, .inr (21, [.int (nI vm), .int nn, .ref tt, .int 1, .null]))] : va_W)) ++ sT L F) := hD.subT (f' := [(m9, .inr (23, mT mr mv vf ff xa (nI T) (nI im) (nI tm) xm (nI (sc + 1)) (nI (vm + 1)))), (mr 22, .inl (kV, 40, .inr (.inr (.inr (.inr (va_up fs sc (some q_1))))))), (q_1, .inr (21, [.int (nI vm), .int nn, .ref tt, .int 1, .null]))]) [0, 1, 2] (by decide) rfl
    obtain ⟨L9, F9, hx9, hm9, hP, hD⟩ := st_fileL [(q_1, .inr (21, [.int (nI vm), .int nn, .ref tt, .int 1, .null]))] hP hD
    have hm9_0 := hm9 _ (List.mem_of_getElem? (i := 0) rfl)
    refine W.grow (fun hgs0 hgs1 => ?_)
    have hP9 := hP.subT (f' := [(m9, .inr (23, mT mr mv vf ff xa (nI T) (nI im) (nI tm) xm (nI (sc + 1)) (nI (vm + 1)))), (mr 22, .inl (kV, 40, .inr (.inr (.inr (.inr (va_up fs sc (some q_1)))))))]) [0, 1] rfl
    have hD9 := hD.subT (f' := [(m9, .inr (23, mT mr mv vf ff xa (nI T) (nI im) (nI tm) xm (nI (sc + 1)) (nI (vm + 1)))), (mr 22, .inl (kV, 40, .inr (.inr (.inr (.inr (va_up fs sc (some q_1)))))))]) [0, 1] (by decide) rfl
    have hK9 := hK.sub (tys' := [(kV, .object RX21)]) [0] rfl
    refine W.widen (k := 1) (n := 5) (by omega) (by omega) ?_
    exact W.aret hx hb hr (Or.inl ⟨_, rfl⟩) (Or.inr ⟨q_1, rfl⟩) (fun tS ht hW => ⟨⟨(), q_1, rfl, trivial, L9, F9, ⟨hx9, hm9_0.1⟩, hm9_0.2, by rw [ht]; exact ⟨by omega, by omega⟩, by rw [ht]; exact hP9, va_K.moved hW.alike hK9, hD9⟩, hS.F ht⟩) hS.2.2 dX23_declare_69
