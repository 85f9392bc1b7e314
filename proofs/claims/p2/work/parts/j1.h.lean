def wf_c_rsgn : List Cond := [.code yX23_takeSign cX23_takeSign 4 (some .int), .fieldLink RX23 55 "OwnedPlacesModel" "SIGN_KIND" "[I", .code yX23_addToken cX23_addToken 6 none, .fieldLink RX23 25 "OwnedPlacesModel" "tokenKind" "[I", .fieldLink RX23 28 "OwnedPlacesModel" "tokens" "I", .fieldLink RX23 31 "OwnedPlacesModel" "tokenAt" "[I", .fieldLink RX23 34 "OwnedPlacesModel" "tokenEnd" "[I", .fieldLink RX23 37 "OwnedPlacesModel" "tokenNumber" "[J", .methodLink RX23 51 yX23_addToken, .instanceMethod yX23_addToken, .selects RX23 yX23_addToken yX23_addToken, .initialized RX23, .fieldLink RX23 58 "OwnedPlacesModel" "SIGN_SECOND" "[I", .code yX23_at cX23_at 2 (some .int), .fieldLink RX23 1 "OwnedPlacesModel" "size" "I", .fieldLink RX23 7 "OwnedPlacesModel" "text" "[I", .methodLink RX23 11 yX23_at, .instanceMethod yX23_at, .selects RX23 yX23_at yX23_at, .fieldLink RX23 61 "OwnedPlacesModel" "SIGN_FIRST" "[I"]
def wp_c_rsgn : List Cond := wf_c_rsgn ++ (wsX230 ++ [])
theorem in_c_rsgn_X23 : ∀ w ∈ wsX230, w ∈ wp_c_rsgn := fun w h => List.mem_append_right _ (List.mem_append_left _ h)
theorem wg_c_rsgn : wf_c_rsgn.all goodWord = true := by decide +kernel
theorem wm_c_rsgn (k : Nat) {w : Cond} (h : wp_c_rsgn[k]? = some w) : w ∈ wp_c_rsgn := List.mem_of_getElem? h
set_option maxRecDepth 20000 in
theorem g_c_rsgn_c_radd_103 : GoodIn wp_c_rsgn (wsV RX23 51 RX23 yX23_addToken wp_c_radd) := goodIn_app (goodIn_f [.methodLink RX23 51 yX23_addToken, .instanceMethod yX23_addToken, .selects RX23 yX23_addToken yX23_addToken, .initialized RX23] [8, 9, 10, 11] rfl (by decide +kernel)) (goodIn_app (goodIn_f (wf_c_radd) [2, 3, 4, 5, 6, 7] rfl wg_c_radd) (goodIn_app (goodIn_sub in_c_rsgn_X23 gd_X23) (goodIn_n)))
set_option maxRecDepth 20000 in
theorem g_c_rsgn_c_rat_26 : GoodIn wp_c_rsgn (wsV RX23 11 RX23 yX23_at wp_c_rat) := goodIn_app (goodIn_f [.methodLink RX23 11 yX23_at, .instanceMethod yX23_at, .selects RX23 yX23_at yX23_at, .initialized RX23] [16, 17, 18, 11] rfl (by decide +kernel)) (goodIn_app (goodIn_f (wf_c_rat) [13, 14, 15] rfl wg_c_rat) (goodIn_app (goodIn_sub in_c_rsgn_X23 gd_X23) (goodIn_n)))
set_option maxRecDepth 20000 in
theorem g_c_rsgn_c_radd_75 : GoodIn wp_c_rsgn (wsV RX23 51 RX23 yX23_addToken wp_c_radd) := goodIn_app (goodIn_f [.methodLink RX23 51 yX23_addToken, .instanceMethod yX23_addToken, .selects RX23 yX23_addToken yX23_addToken, .initialized RX23] [8, 9, 10, 11] rfl (by decide +kernel)) (goodIn_app (goodIn_f (wf_c_radd) [2, 3, 4, 5, 6, 7] rfl wg_c_radd) (goodIn_app (goodIn_sub in_c_rsgn_X23 gd_X23) (goodIn_n)))
set_option maxRecDepth 20000 in
theorem g_c_rsgn_c_rat_45 : GoodIn wp_c_rsgn (wsV RX23 11 RX23 yX23_at wp_c_rat) := goodIn_app (goodIn_f [.methodLink RX23 11 yX23_at, .instanceMethod yX23_at, .selects RX23 yX23_at yX23_at, .initialized RX23] [16, 17, 18, 11] rfl (by decide +kernel)) (goodIn_app (goodIn_f (wf_c_rat) [13, 14, 15] rfl wg_c_rat) (goodIn_app (goodIn_sub in_c_rsgn_X23 gd_X23) (goodIn_n)))
set_option maxHeartbeats 4000000 in
set_option maxRecDepth 100000 in
theorem c_rsgn (l : Launch) (dC : Nat → ClassId) (dI : Nat → Nat → Nat) (m9 : Nat) (mr : Nat → Nat) (mv : Nat → Int32) (vf : Value) (xl xf xa xp xi xt xn xe xv xb : Int32) (zs tk : Nat) (kI kL : ClassId) (ft fk fa fe : Nat → Int32) (fn : Nat → Int64) (i0 : Nat) (t0 t1 t2 t3 : Nat) (sz : Nat) (hzs : zs ≤ 3000) (htk : tk < 3002) (hi : i0 < zs) : Met l yX23_takeSign wp_c_rsgn ({ frames := 1, cells := 0, slots := 0, locals := 25 }) (va_Pc [.ref m9, .int (nI i0)] (fun U => U.heap.size = sz ∧ va_P (dC, dI) vwCl [(m9, .inr (23, mA mr mv vf xl (nI zs) xf xa (nI tk) xp xi xt xn xe xv xb)), (mr 0, .inl (kI, 3000, .inl ft)), (mr 5, .inl (kI, 3002, .inl fk)), (mr 6, .inl (kI, 3002, .inl fa)), (mr 7, .inl (kI, 3002, .inl fe)), (mr 8, .inl (kL, 3002, .inr (.inl fn)))] U.heap ∧ va_K (dC, dI) vwCl [(kI, .int), (kL, .long)] U ∧ va_D (fun _ => True) [(m9, .inr (23, mA mr mv vf xl (nI zs) xf xa (nI tk) xp xi xt xn xe xv xb)), (mr 0, .inl (kI, 3000, .inl ft)), (mr 5, .inl (kI, 3002, .inl fk)), (mr 6, .inl (kI, 3002, .inl fa)), (mr 7, .inl (kI, 3002, .inl fe)), (mr 8, .inl (kL, 3002, .inr (.inl fn)))] ∧ stA t0 t1 t2 t3 (va_A [(m9, .inr (23, mA mr mv vf xl (nI zs) xf xa (nI tk) xp xi xt xn xe xv xb)), (mr 0, .inl (kI, 3000, .inl ft)), (mr 5, .inl (kI, 3002, .inl fk)), (mr 6, .inl (kI, 3002, .inl fa)), (mr 7, .inl (kI, 3002, .inl fe)), (mr 8, .inl (kL, 3002, .inr (.inl fn)))] sz) U U.heap)) (va_Qi (fun (r : Int32) (e1 : Nat) => r = nI e1) (fun (e1 : Nat) (tS : State) => ∃ (kd : Int32) (gn : Nat → Int64), (i0 < e1 ∧ e1 ≤ zs ∧ kd ≠ 0 ∧ kd ≠ 19) ∧ va_P (dC, dI) vwCl [(m9, .inr (23, mA mr mv vf xl (nI zs) xf xa (nI (tk + 1)) xp xi xt xn xe xv xb)), (mr 0, .inl (kI, 3000, .inl ft)), (mr 5, .inl (kI, 3002, .inl (upd fk tk kd))), (mr 6, .inl (kI, 3002, .inl (upd fa tk (nI i0)))), (mr 7, .inl (kI, 3002, .inl (upd fe tk (nI e1)))), (mr 8, .inl (kL, 3002, .inr (.inl gn)))] tS.heap ∧ va_K (dC, dI) vwCl [(kI, .int), (kL, .long)] tS ∧ va_D (va_A [(m9, .inr (23, mA mr mv vf xl (nI zs) xf xa (nI tk) xp xi xt xn xe xv xb)), (mr 0, .inl (kI, 3000, .inl ft)), (mr 5, .inl (kI, 3002, .inl fk)), (mr 6, .inl (kI, 3002, .inl fa)), (mr 7, .inl (kI, 3002, .inl fe)), (mr 8, .inl (kL, 3002, .inr (.inl fn)))] sz) [(m9, .inr (23, mA mr mv vf xl (nI zs) xf xa (nI (tk + 1)) xp xi xt xn xe xv xb)), (mr 0, .inl (kI, 3000, .inl ft)), (mr 5, .inl (kI, 3002, .inl (upd fk tk kd))), (mr 6, .inl (kI, 3002, .inl (upd fa tk (nI i0)))), (mr 7, .inl (kI, 3002, .inl (upd fe tk (nI e1)))), (mr 8, .inl (kL, 3002, .inr (.inl gn)))]) (va_A [(m9, .inr (23, mA mr mv vf xl (nI zs) xf xa (nI tk) xp xi xt xn xe xv xb)), (mr 0, .inl (kI, 3000, .inl ft)), (mr 5, .inl (kI, 3002, .inl fk)), (mr 6, .inl (kI, 3002, .inl fa)), (mr 7, .inl (kI, 3002, .inl fe)), (mr 8, .inl (kL, 3002, .inr (.inl fn)))] sz)) 0 0 (va_A [(m9, .inr (23, mA mr mv vf xl (nI zs) xf xa (nI tk) xp xi xt xn xe xv xb)), (mr 0, .inl (kI, 3000, .inl ft)), (mr 5, .inl (kI, 3002, .inl fk)), (mr 6, .inl (kI, 3002, .inl fa)), (mr 7, .inl (kI, 3002, .inl fe)), (mr 8, .inl (kL, 3002, .inr (.inl fn)))] sz) := by
  refine Met.ofW (cc := cX23_takeSign) (maxL := 4) (ret := (some .int)) (by decide) rfl ?_
  intro p e s m args below meth c s₁ B hml hv
  obtain ⟨rfl, hsz, hP, hK, hD0, hpre0⟩ := hv
  have hx := B.exec
  have hb := B.bytes
  have hr := B.returns
  have hts := atoms_spec (ws := wp_c_rsgn) B.pre
  have hown : s.vm.findClass RX23 = some m.cls := findClass_of_methodNamed B.named
  have hlocks := B.notSynchronized
  subst hsz
  have hD := hD0.self (sz := s.heap.size)
  generalize hAe : va_A [(m9, .inr (23, mA mr mv vf xl (nI zs) xf xa (nI tk) xp xi xt xn xe xv xb)), (mr 0, .inl (kI, 3000, .inl ft)), (mr 5, .inl (kI, 3002, .inl fk)), (mr 6, .inl (kI, 3002, .inl fa)), (mr 7, .inl (kI, 3002, .inl fe)), (mr 8, .inl (kL, 3002, .inr (.inl fn)))] s.heap.size = A at hD hpre0 ⊢
  have hA : ∀ q : Nat, s.heap.size ≤ q → A q := fun q h => by rw [← hAe]; exact Or.inr h
  have hS : va_S A s.heap s.heap [] := va_S.rf
  have hP : va_P (dC, dI) vwCl [(m9, .inr (23, mA mr mv vf xl (nI zs) xf xa (nI tk) xp xi xt xn xe xv xb)), (mr 0, .inl (kI, 3000, .inl ft)), (mr 5, .inl (kI, 3002, .inl fk)), (mr 6, .inl (kI, 3002, .inl fa)), (mr 7, .inl (kI, 3002, .inl fe)), (mr 8, .inl (kL, 3002, .inr (.inl fn)))] s.heap := hP
  have hl := lv_entry ([.ref m9, .int (nI i0)]) (n := 4) (Nat.le_of_ble_eq_true rfl)
  rw [lg_entry_eq]
  generalize (lg_sl ([.ref m9, .int (nI i0)]) ++ List.replicate (4 - (lg_sl ([.ref m9, .int (nI i0)])).length) Slot.unset).toArray = ls at hl ⊢
  have hl : lv_has ls 4 [(0, .ref m9), (1, .int (nI i0))] := hl
  refine lv_iconst (v := 0) hx hb dX23_takeSign_0 (by decide) ?_
  refine lv_istore_n (lv' := [(2, .int 0), (0, .ref m9), (1, .int (nI i0))]) hx hb dX23_takeSign_1 rfl hl (by decide) rfl (fun ls hl => ?_)
  refine W_q (fun Q1 hQ1 => ?_)
  have key1 : ∀ (n1 : Nat) (i : Nat) (H : Heap) (locs : List Loc) (ls : Array Slot), (i + n1 = 28 ∧ i ≤ 27) → va_P (dC, dI) vwCl [(m9, .inr (23, mA mr mv vf xl (nI zs) xf xa (nI tk) xp xi xt xn xe xv xb)), (mr 0, .inl (kI, 3000, .inl ft)), (mr 5, .inl (kI, 3002, .inl fk)), (mr 6, .inl (kI, 3002, .inl fa)), (mr 7, .inl (kI, 3002, .inl fe)), (mr 8, .inl (kL, 3002, .inr (.inl fn)))] H → va_D A [(m9, .inr (23, mA mr mv vf xl (nI zs) xf xa (nI tk) xp xi xt xn xe xv xb)), (mr 0, .inl (kI, 3000, .inl ft)), (mr 5, .inl (kI, 3002, .inl fk)), (mr 6, .inl (kI, 3002, .inl fa)), (mr 7, .inl (kI, 3002, .inl fe)), (mr 8, .inl (kL, 3002, .inr (.inl fn)))] → va_S A s.heap H locs → lv_has ls 4 [(2, .int (nI i)), (0, .ref m9), (1, .int (nI i0))] → W p l e (headSpec wp_c_rsgn ({ frames := 1, cells := 0, slots := 0, locals := 25 })).room s m ([.ref m9, .int (nI i0)] : List Value).toArray below meth c H locs 0 0 Q1 (F0 m 2 ls []) := by
    intro n1
    induction n1 with
    | zero => intro i H locs ls ha0; exact absurd ha0 (by omega)
    | succ n1 ih1 =>
      intro i H locs ls ha0 hP hD hS hl
      refine lv_iload_n hx hb dX23_takeSign_2 rfl (lv_at hl 0 rfl) ?_
      refine va_gets (v := .ref t3) hx hb hpre0.2.2.2.1 hS hown (hts (.fieldLink RX23 55 "OwnedPlacesModel" "SIGN_KIND" "[I") (wm_c_rsgn 1 rfl)) (fun _ h9 => h9) dX23_takeSign_3 ?_
      refine va_tlen (v := 27) hx hb hpre0.2.2.2.2 hS rfl dX23_takeSign_6 ?_
      refine lv_icmp_ge (tgt := 96) hx hb dX23_takeSign_7 (by decide) (fun hc => ?_) (fun hc => ?_)
      · refine lv_aload_n hx hb dX23_takeSign_96 rfl (lv_at hl 1 rfl) ?_
        refine lv_iconst (v := 1) hx hb dX23_takeSign_97 (by decide) ?_
        refine lv_iload_n hx hb dX23_takeSign_98 rfl (lv_at hl 2 rfl) ?_
        refine lv_iload_n hx hb dX23_takeSign_99 rfl (lv_at hl 2 rfl) ?_
        refine lv_iconst (v := 1) hx hb dX23_takeSign_100 (by decide) ?_
        refine lv_iadd hx hb dX23_takeSign_101 ?_
        refine lv_topi (fun f_1 ef_1 => ?_)
        obtain rfl : f_1 = nI (i0 + 1) := ef_1.trans (nI_1 _)
        refine lv_lconst (v := 0) hx hb dX23_takeSign_102 (by decide) ?_
        have hPc := hP.sub (ws' := [(m9, .inr (23, mA mr mv vf xl (nI zs) xf xa (nI tk) xp xi xt xn xe xv xb)), (mr 5, .inl (kI, 3002, .inl fk)), (mr 6, .inl (kI, 3002, .inl fa)), (mr 7, .inl (kI, 3002, .inl fe)), (mr 8, .inl (kL, 3002, .inr (.inl fn)))]) [0, 2, 3, 4, 5] rfl
        have hDc := hD.sub (ws' := [(m9, .inr (23, mA mr mv vf xl (nI zs) xf xa (nI tk) xp xi xt xn xe xv xb)), (mr 5, .inl (kI, 3002, .inl fk)), (mr 6, .inl (kI, 3002, .inl fa)), (mr 7, .inl (kI, 3002, .inl fe)), (mr 8, .inl (kL, 3002, .inr (.inl fn)))]) [0, 2, 3, 4, 5] (by decide) rfl
        have hKc := hK.sub (tys' := [(kI, .int), (kL, .long)]) [0, 1] rfl
        have hFc := va_free (wc := [(m9, .inr (23, mA mr mv vf xl (nI zs) xf xa (nI tk) xp xi xt xn xe xv xb)), (mr 5, .inl (kI, 3002, .inl fk)), (mr 6, .inl (kI, 3002, .inl fa)), (mr 7, .inl (kI, 3002, .inl fe)), (mr 8, .inl (kL, 3002, .inr (.inl fn)))]) hD hS hA [0, 2, 3, 4, 5] rfl
        refine va_callv (va_runV (As := [.int 1, .int (nI i0), .int (nI (i0 + 1)), .long 0]) (rest := []) ⟨hx, hb, hml, hown, hts⟩ (c_radd l dC dI m9 mr mv vf xl xf xa xp xi xt xn xe xv xb zs tk kI kL ft fk fa fe fn 1 (nI i0) (nI (i0 + 1)) 0 H.size htk) (cwV 4 hts g_c_rsgn_c_radd_103 rfl rfl rfl (by decide +kernel) ⟨Nat.le_of_ble_eq_true rfl, Nat.le_of_ble_eq_true rfl⟩) ⟨fun a U g mk q => by obtain ⟨q0, q1, qP, qK, qD⟩ := q; exact ⟨q0, q1, qP, va_K.moved (u := U) (U := U.calling g mk a) (Vm.Alike.refl U.vm) qK, qD⟩, va_recv hKc hPc (ci := 23) (q0 := 0) rfl rfl, fun U hU hW => ⟨rfl, by rw [hU], by rw [hU]; exact hPc, va_K.moved hW.alike hKc, hDc.weaken (fun _ _ _ _ => trivial)⟩⟩ rfl rfl hl.1 rfl (lv_room (Nat.le_of_ble_eq_true rfl)) dX23_takeSign_103 ⟨(show 0 + 0 ≤ 0 by omega), (show 0 + 0 ≤ 0 by omega)⟩) hS (fun q _ h => hFc q h) hFc (fun u tS H1 locs ht hvm hw hB hz1 hk1 hS => ?_)
        obtain ⟨gn9, hP1, hK1, hD1⟩ := hB
        rw [ht] at hP1
        have hK1 := va_K.moved hvm.symm hK1
        obtain ⟨hP, hD⟩ := va_join (wr := [(mr 0, .inl (kI, 3000, .inl ft))]) (w1 := [(m9, .inr (23, mA mr mv vf xl (nI zs) xf xa (nI (tk + 1)) xp xi xt xn xe xv xb)), (mr 5, .inl (kI, 3002, .inl (upd fk tk 1))), (mr 6, .inl (kI, 3002, .inl (upd fa tk (nI i0)))), (mr 7, .inl (kI, 3002, .inl (upd fe tk (nI (i0 + 1))))), (mr 8, .inl (kL, 3002, .inr (.inl gn9)))]) hP hD [0, 2, 3, 4, 5] [1] rfl rfl (by decide) (by decide) hk1 hFc hP1 hD1
        have hK := hK.app hK1
        generalize H1 = H at hP hS ⊢
        have hP : va_P (dC, dI) vwCl [(mr 0, .inl (kI, 3000, .inl ft)), (m9, .inr (23, mA mr mv vf xl (nI zs) xf xa (nI (tk + 1)) xp xi xt xn xe xv xb)), (mr 5, .inl (kI, 3002, .inl (upd fk tk 1))), (mr 6, .inl (kI, 3002, .inl (upd fa tk (nI i0)))), (mr 7, .inl (kI, 3002, .inl (upd fe tk (nI (i0 + 1))))), (mr 8, .inl (kL, 3002, .inr (.inl gn9)))] H := hP
        have hD : va_D A [(mr 0, .inl (kI, 3000, .inl ft)), (m9, .inr (23, mA mr mv vf xl (nI zs) xf xa (nI (tk + 1)) xp xi xt xn xe xv xb)), (mr 5, .inl (kI, 3002, .inl (upd fk tk 1))), (mr 6, .inl (kI, 3002, .inl (upd fa tk (nI i0)))), (mr 7, .inl (kI, 3002, .inl (upd fe tk (nI (i0 + 1))))), (mr 8, .inl (kL, 3002, .inr (.inl gn9)))] := hD
        have hK : va_K (dC, dI) vwCl [(kI, .int), (kL, .long), (kI, .int), (kL, .long)] s := hK
        have hK := hK.sub (tys' := [(kI, .int), (kL, .long)]) [0, 1] rfl
        have hP : va_P (dC, dI) vwCl [(mr 0, .inl (kI, 3000, .inl ft)), (m9, .inr (23, mA mr mv vf xl (nI zs) xf xa (nI (tk + 1)) xp xi xt xn xe xv xb)), (mr 5, .inl (kI, 3002, .inl (upd fk tk 1))), (mr 6, .inl (kI, 3002, .inl (upd fa tk (nI i0)))), (mr 7, .inl (kI, 3002, .inl (upd fe tk (nI (i0 + 1))))), (mr 8, .inl (kL, 3002, .inr (.inl gn9)))] H := hP
        have hD : va_D A [(mr 0, .inl (kI, 3000, .inl ft)), (m9, .inr (23, mA mr mv vf xl (nI zs) xf xa (nI (tk + 1)) xp xi xt xn xe xv xb)), (mr 5, .inl (kI, 3002, .inl (upd fk tk 1))), (mr 6, .inl (kI, 3002, .inl (upd fa tk (nI i0)))), (mr 7, .inl (kI, 3002, .inl (upd fe tk (nI (i0 + 1))))), (mr 8, .inl (kL, 3002, .inr (.inl gn9)))] := hD
        refine lv_iload_n hx hb dX23_takeSign_106 rfl (lv_at hl 2 rfl) ?_
        refine lv_iconst (v := 1) hx hb dX23_takeSign_107 (by decide) ?_
        refine lv_iadd hx hb dX23_takeSign_108 ?_
        refine lv_topi (fun f_3 ef_3 => ?_)
        obtain rfl : f_3 = nI (i0 + 1) := ef_3.trans (nI_1 _)
        have hP9 := hP.sub (ws' := [(m9, .inr (23, mA mr mv vf xl (nI zs) xf xa (nI (tk + 1)) xp xi xt xn xe xv xb)), (mr 0, .inl (kI, 3000, .inl ft)), (mr 5, .inl (kI, 3002, .inl (upd fk tk 1))), (mr 6, .inl (kI, 3002, .inl (upd fa tk (nI i0)))), (mr 7, .inl (kI, 3002, .inl (upd fe tk (nI (i0 + 1))))), (mr 8, .inl (kL, 3002, .inr (.inl gn9)))]) [1, 0, 2, 3, 4, 5] rfl
        have hD9 := hD.sub (ws' := [(m9, .inr (23, mA mr mv vf xl (nI zs) xf xa (nI (tk + 1)) xp xi xt xn xe xv xb)), (mr 0, .inl (kI, 3000, .inl ft)), (mr 5, .inl (kI, 3002, .inl (upd fk tk 1))), (mr 6, .inl (kI, 3002, .inl (upd fa tk (nI i0)))), (mr 7, .inl (kI, 3002, .inl (upd fe tk (nI (i0 + 1))))), (mr 8, .inl (kL, 3002, .inr (.inl gn9)))]) [1, 0, 2, 3, 4, 5] (by decide) rfl
        have hK9 := hK.sub (tys' := [(kI, .int), (kL, .long)]) [0, 1] rfl
        subst hQ1
        exact W.iret (v := nI (i0 + 1)) hx hb hr (fun tS ht hW => ⟨⟨(nI (i0 + 1)), i0 + 1, rfl, rfl, 1, gn9, ⟨by omega, by omega, by decide, by decide⟩, by rw [ht]; exact hP9, va_K.moved hW.alike hK9, hD9⟩, hS.F ht⟩) hS.2.2 dX23_takeSign_109
      · have hi27 : i < 27 := by rcases Nat.lt_or_ge i 27 with z9 | z9; exact z9; exact absurd (nI_le (a := 27) z9 (by omega)) hc
        refine va_gets (v := .ref t2) hx hb hpre0.2.2.1.1 hS hown (hts (.fieldLink RX23 58 "OwnedPlacesModel" "SIGN_SECOND" "[I") (wm_c_rsgn 12 rfl)) (fun _ h9 => h9) dX23_takeSign_10 ?_
        refine lv_iload_n hx hb dX23_takeSign_13 rfl (lv_at hl 0 rfl) ?_
        refine va_ti (v := .int (ssL.getD i 0)) hx hb hpre0.2.2.1.2 hS (vp_in_nI hi27 (by decide)) (by rw [nI_clamp (by omega)]) dX23_takeSign_14 ?_
        refine lv_if_eq (tgt := 22) hx hb dX23_takeSign_15 (by decide) (fun hs => ?_) (fun hs => ?_)
        · refine lv_iconst (v := 0) hx hb dX23_takeSign_22 (by decide) ?_
          refine lv_istore_n (lv' := [(3, .int 0), (2, .int (nI i)), (0, .ref m9), (1, .int (nI i0))]) hx hb dX23_takeSign_23 rfl hl (by decide) rfl (fun ls hl => ?_)
          refine lv_aload_n hx hb dX23_takeSign_24 rfl (lv_at hl 2 rfl) ?_
          refine lv_iload_n hx hb dX23_takeSign_25 rfl (lv_at hl 3 rfl) ?_
          have hPc := hP.sub (ws' := [(m9, .inr (23, mA mr mv vf xl (nI zs) xf xa (nI tk) xp xi xt xn xe xv xb)), (mr 0, .inl (kI, 3000, .inl ft))]) [0, 1] rfl
          have hDc := hD.sub (ws' := [(m9, .inr (23, mA mr mv vf xl (nI zs) xf xa (nI tk) xp xi xt xn xe xv xb)), (mr 0, .inl (kI, 3000, .inl ft))]) [0, 1] (by decide) rfl
          have hKc := hK.sub (tys' := [(kI, .int)]) [0] rfl
          have hFc := va_free (wc := [(m9, .inr (23, mA mr mv vf xl (nI zs) xf xa (nI tk) xp xi xt xn xe xv xb)), (mr 0, .inl (kI, 3000, .inl ft))]) hD hS hA [0, 1] rfl
          refine va_calli (va_runV (As := [.int (nI i0)]) (rest := []) ⟨hx, hb, hml, hown, hts⟩ (c_rat l dC dI m9 mr mv vf xl xf xa xp xi xt xn xe xv xb zs tk i0 kI ft H.size hzs (by omega)) (cwV 1 hts g_c_rsgn_c_rat_26 rfl rfl rfl (by decide +kernel) ⟨Nat.le_of_ble_eq_true rfl, Nat.le_of_ble_eq_true rfl⟩) ⟨fun a U g mk q => by obtain ⟨q0, q1, qP, qK, qD⟩ := q; exact ⟨q0, q1, qP, va_K.moved (u := U) (U := U.calling g mk a) (Vm.Alike.refl U.vm) qK, qD⟩, va_recv hKc hPc (ci := 23) (q0 := 0) rfl rfl, fun U hU hW => ⟨rfl, by rw [hU], by rw [hU]; exact hPc, va_K.moved hW.alike hKc, hDc.weaken (fun _ _ _ _ => trivial)⟩⟩ rfl rfl hl.1 rfl (lv_room (Nat.le_of_ble_eq_true rfl)) dX23_takeSign_26 ⟨(show 0 + 0 ≤ 0 by omega), (show 0 + 0 ≤ 0 by omega)⟩) hS (fun q _ h => hFc q h) hFc (fun r_1 u tS H1 locs ht hvm hw hB hz1 hk1 hS => ?_)
          obtain ⟨hP1, hK1, hD1⟩ := hB
          rw [ht] at hP1
          have hK1 := va_K.moved hvm.symm hK1
          obtain ⟨hP, hD⟩ := va_join (wr := [(mr 5, .inl (kI, 3002, .inl fk)), (mr 6, .inl (kI, 3002, .inl fa)), (mr 7, .inl (kI, 3002, .inl fe)), (mr 8, .inl (kL, 3002, .inr (.inl fn)))]) (w1 := [(m9, .inr (23, mA mr mv vf xl (nI zs) xf xa (nI tk) xp xi xt xn xe xv xb)), (mr 0, .inl (kI, 3000, .inl ft))]) hP hD [0, 1] [2, 3, 4, 5] rfl rfl (by decide) (by decide) hk1 hFc hP1 hD1
          have hK := hK.app hK1
          generalize H1 = H at hP hS ⊢
          have hP : va_P (dC, dI) vwCl [(mr 5, .inl (kI, 3002, .inl fk)), (mr 6, .inl (kI, 3002, .inl fa)), (mr 7, .inl (kI, 3002, .inl fe)), (mr 8, .inl (kL, 3002, .inr (.inl fn))), (m9, .inr (23, mA mr mv vf xl (nI zs) xf xa (nI tk) xp xi xt xn xe xv xb)), (mr 0, .inl (kI, 3000, .inl ft))] H := hP
          have hD : va_D A [(mr 5, .inl (kI, 3002, .inl fk)), (mr 6, .inl (kI, 3002, .inl fa)), (mr 7, .inl (kI, 3002, .inl fe)), (mr 8, .inl (kL, 3002, .inr (.inl fn))), (m9, .inr (23, mA mr mv vf xl (nI zs) xf xa (nI tk) xp xi xt xn xe xv xb)), (mr 0, .inl (kI, 3000, .inl ft))] := hD
          have hK : va_K (dC, dI) vwCl [(kI, .int), (kL, .long), (kI, .int)] s := hK
          have hK := hK.sub (tys' := [(kI, .int), (kL, .long)]) [0, 1] rfl
          have hP : va_P (dC, dI) vwCl [(mr 5, .inl (kI, 3002, .inl fk)), (mr 6, .inl (kI, 3002, .inl fa)), (mr 7, .inl (kI, 3002, .inl fe)), (mr 8, .inl (kL, 3002, .inr (.inl fn))), (m9, .inr (23, mA mr mv vf xl (nI zs) xf xa (nI tk) xp xi xt xn xe xv xb)), (mr 0, .inl (kI, 3000, .inl ft))] H := hP
          have hD : va_D A [(mr 5, .inl (kI, 3002, .inl fk)), (mr 6, .inl (kI, 3002, .inl fa)), (mr 7, .inl (kI, 3002, .inl fe)), (mr 8, .inl (kL, 3002, .inr (.inl fn))), (m9, .inr (23, mA mr mv vf xl (nI zs) xf xa (nI tk) xp xi xt xn xe xv xb)), (mr 0, .inl (kI, 3000, .inl ft))] := hD
          have hr_1 : r_1 = atF ft zs (i0) := hw
          refine va_gets (v := .ref t1) hx hb hpre0.2.1.1 hS hown (hts (.fieldLink RX23 61 "OwnedPlacesModel" "SIGN_FIRST" "[I") (wm_c_rsgn 19 rfl)) (fun _ h9 => h9) dX23_takeSign_29 ?_
          refine lv_iload_n hx hb dX23_takeSign_32 rfl (lv_at hl 1 rfl) ?_
          refine va_ti (v := .int (sfL.getD i 0)) hx hb hpre0.2.1.2 hS (vp_in_nI hi27 (by decide)) (by rw [nI_clamp (by omega)]) dX23_takeSign_33 ?_
          refine lv_icmp_ne (tgt := 90) hx hb dX23_takeSign_34 (by decide) (fun hf1 => ?_) (fun hf1 => ?_)
          · obtain ⟨x_2, ex_2⟩ : ∃ yY : Int32, yY = (nI i) + 1 := ⟨_, rfl⟩
            refine lv_iinc (v := x_2) (lv' := [(2, .int x_2), (3, .int 0), (0, .ref m9), (1, .int (nI i0))]) hx hb dX23_takeSign_90 hl (k := 1) rfl (by rw [ex_2]; rfl) (by decide) rfl (fun ls hl => ?_)
            obtain rfl : x_2 = nI (i + 1) := by rw [ex_2]; exact nI_1 i
            have hl : lv_has ls 4 [(2, .int (nI (i + 1))), (3, .int 0), (0, .ref m9), (1, .int (nI i0))] := hl
            refine lv_goto (tgt := 2) hx hb dX23_takeSign_93 (by decide) ?_
            exact ih1 (i + 1) _ _ _ (by omega) (hP.sub [4, 5, 0, 1, 2, 3] rfl) (hD.sub [4, 5, 0, 1, 2, 3] (by decide) rfl) hS (lv_sub hl [0, 2, 3] rfl)
          · refine lv_iload_n hx hb dX23_takeSign_37 rfl (lv_at hl 0 rfl) ?_
            refine lv_if_eq (tgt := 56) hx hb dX23_takeSign_38 (by decide) (fun _ => ?_) (fun c_2 => absurd (by decide) c_2)
            refine lv_aload_n hx hb dX23_takeSign_56 rfl (lv_at hl 2 rfl) ?_
            refine va_gets (v := .ref t3) hx hb hpre0.2.2.2.1 hS hown (hts (.fieldLink RX23 55 "OwnedPlacesModel" "SIGN_KIND" "[I") (wm_c_rsgn 1 rfl)) (fun _ h9 => h9) dX23_takeSign_57 ?_
            refine lv_iload_n hx hb dX23_takeSign_60 rfl (lv_at hl 1 rfl) ?_
            refine va_ti (v := .int (skL.getD i 0)) hx hb hpre0.2.2.2.2 hS (vp_in_nI hi27 (by decide)) (by rw [nI_clamp (by omega)]) dX23_takeSign_61 ?_
            refine lv_iload_n hx hb dX23_takeSign_62 rfl (lv_at hl 3 rfl) ?_
            refine lv_iload_n hx hb dX23_takeSign_63 rfl (lv_at hl 3 rfl) ?_
            refine lv_iload_n hx hb dX23_takeSign_64 rfl (lv_at hl 0 rfl) ?_
            refine lv_if_eq (tgt := 72) hx hb dX23_takeSign_65 (by decide) (fun _ => ?_) (fun c_3 => absurd (by decide) c_3)
            refine lv_iconst (v := 1) hx hb dX23_takeSign_72 (by decide) ?_
            refine lv_iadd hx hb dX23_takeSign_73 ?_
            refine lv_topi (fun f_4 ef_4 => ?_)
            obtain rfl : f_4 = nI (i0 + 1) := ef_4.trans (nI_1 _)
            refine lv_lconst (v := 0) hx hb dX23_takeSign_74 (by decide) ?_
            have hPc := hP.sub (ws' := [(m9, .inr (23, mA mr mv vf xl (nI zs) xf xa (nI tk) xp xi xt xn xe xv xb)), (mr 5, .inl (kI, 3002, .inl fk)), (mr 6, .inl (kI, 3002, .inl fa)), (mr 7, .inl (kI, 3002, .inl fe)), (mr 8, .inl (kL, 3002, .inr (.inl fn)))]) [4, 0, 1, 2, 3] rfl
            have hDc := hD.sub (ws' := [(m9, .inr (23, mA mr mv vf xl (nI zs) xf xa (nI tk) xp xi xt xn xe xv xb)), (mr 5, .inl (kI, 3002, .inl fk)), (mr 6, .inl (kI, 3002, .inl fa)), (mr 7, .inl (kI, 3002, .inl fe)), (mr 8, .inl (kL, 3002, .inr (.inl fn)))]) [4, 0, 1, 2, 3] (by decide) rfl
            have hKc := hK.sub (tys' := [(kI, .int), (kL, .long)]) [0, 1] rfl
            have hFc := va_free (wc := [(m9, .inr (23, mA mr mv vf xl (nI zs) xf xa (nI tk) xp xi xt xn xe xv xb)), (mr 5, .inl (kI, 3002, .inl fk)), (mr 6, .inl (kI, 3002, .inl fa)), (mr 7, .inl (kI, 3002, .inl fe)), (mr 8, .inl (kL, 3002, .inr (.inl fn)))]) hD hS hA [4, 0, 1, 2, 3] rfl
            refine va_callv (va_runV (As := [.int (skL.getD i 0), .int (nI i0), .int (nI (i0 + 1)), .long 0]) (rest := []) ⟨hx, hb, hml, hown, hts⟩ (c_radd l dC dI m9 mr mv vf xl xf xa xp xi xt xn xe xv xb zs tk kI kL ft fk fa fe fn (skL.getD i 0) (nI i0) (nI (i0 + 1)) 0 H.size htk) (cwV 4 hts g_c_rsgn_c_radd_75 rfl rfl rfl (by decide +kernel) ⟨Nat.le_of_ble_eq_true rfl, Nat.le_of_ble_eq_true rfl⟩) ⟨fun a U g mk q => by obtain ⟨q0, q1, qP, qK, qD⟩ := q; exact ⟨q0, q1, qP, va_K.moved (u := U) (U := U.calling g mk a) (Vm.Alike.refl U.vm) qK, qD⟩, va_recv hKc hPc (ci := 23) (q0 := 0) rfl rfl, fun U hU hW => ⟨rfl, by rw [hU], by rw [hU]; exact hPc, va_K.moved hW.alike hKc, hDc.weaken (fun _ _ _ _ => trivial)⟩⟩ rfl rfl hl.1 rfl (lv_room (Nat.le_of_ble_eq_true rfl)) dX23_takeSign_75 ⟨(show 0 + 0 ≤ 0 by omega), (show 0 + 0 ≤ 0 by omega)⟩) hS (fun q _ h => hFc q h) hFc (fun u tS H1 locs ht hvm hw hB hz1 hk1 hS => ?_)
            obtain ⟨gn9, hP1, hK1, hD1⟩ := hB
            rw [ht] at hP1
            have hK1 := va_K.moved hvm.symm hK1
            obtain ⟨hP, hD⟩ := va_join (wr := [(mr 0, .inl (kI, 3000, .inl ft))]) (w1 := [(m9, .inr (23, mA mr mv vf xl (nI zs) xf xa (nI (tk + 1)) xp xi xt xn xe xv xb)), (mr 5, .inl (kI, 3002, .inl (upd fk tk (skL.getD i 0)))), (mr 6, .inl (kI, 3002, .inl (upd fa tk (nI i0)))), (mr 7, .inl (kI, 3002, .inl (upd fe tk (nI (i0 + 1))))), (mr 8, .inl (kL, 3002, .inr (.inl gn9)))]) hP hD [4, 0, 1, 2, 3] [5] rfl rfl (by decide) (by decide) hk1 hFc hP1 hD1
            have hK := hK.app hK1
            generalize H1 = H at hP hS ⊢
            have hP : va_P (dC, dI) vwCl [(mr 0, .inl (kI, 3000, .inl ft)), (m9, .inr (23, mA mr mv vf xl (nI zs) xf xa (nI (tk + 1)) xp xi xt xn xe xv xb)), (mr 5, .inl (kI, 3002, .inl (upd fk tk (skL.getD i 0)))), (mr 6, .inl (kI, 3002, .inl (upd fa tk (nI i0)))), (mr 7, .inl (kI, 3002, .inl (upd fe tk (nI (i0 + 1))))), (mr 8, .inl (kL, 3002, .inr (.inl gn9)))] H := hP
            have hD : va_D A [(mr 0, .inl (kI, 3000, .inl ft)), (m9, .inr (23, mA mr mv vf xl (nI zs) xf xa (nI (tk + 1)) xp xi xt xn xe xv xb)), (mr 5, .inl (kI, 3002, .inl (upd fk tk (skL.getD i 0)))), (mr 6, .inl (kI, 3002, .inl (upd fa tk (nI i0)))), (mr 7, .inl (kI, 3002, .inl (upd fe tk (nI (i0 + 1))))), (mr 8, .inl (kL, 3002, .inr (.inl gn9)))] := hD
            have hK : va_K (dC, dI) vwCl [(kI, .int), (kL, .long), (kI, .int), (kL, .long)] s := hK
            have hK := hK.sub (tys' := [(kI, .int), (kL, .long)]) [0, 1] rfl
            have hP : va_P (dC, dI) vwCl [(mr 0, .inl (kI, 3000, .inl ft)), (m9, .inr (23, mA mr mv vf xl (nI zs) xf xa (nI (tk + 1)) xp xi xt xn xe xv xb)), (mr 5, .inl (kI, 3002, .inl (upd fk tk (skL.getD i 0)))), (mr 6, .inl (kI, 3002, .inl (upd fa tk (nI i0)))), (mr 7, .inl (kI, 3002, .inl (upd fe tk (nI (i0 + 1))))), (mr 8, .inl (kL, 3002, .inr (.inl gn9)))] H := hP
            have hD : va_D A [(mr 0, .inl (kI, 3000, .inl ft)), (m9, .inr (23, mA mr mv vf xl (nI zs) xf xa (nI (tk + 1)) xp xi xt xn xe xv xb)), (mr 5, .inl (kI, 3002, .inl (upd fk tk (skL.getD i 0)))), (mr 6, .inl (kI, 3002, .inl (upd fa tk (nI i0)))), (mr 7, .inl (kI, 3002, .inl (upd fe tk (nI (i0 + 1))))), (mr 8, .inl (kL, 3002, .inr (.inl gn9)))] := hD
            refine lv_iload_n hx hb dX23_takeSign_78 rfl (lv_at hl 3 rfl) ?_
            refine lv_iload_n hx hb dX23_takeSign_79 rfl (lv_at hl 0 rfl) ?_
            refine lv_if_eq (tgt := 87) hx hb dX23_takeSign_80 (by decide) (fun _ => ?_) (fun c_6 => absurd (by decide) c_6)
            refine lv_iconst (v := 1) hx hb dX23_takeSign_87 (by decide) ?_
            refine lv_iadd hx hb dX23_takeSign_88 ?_
            refine lv_topi (fun f_7 ef_7 => ?_)
            obtain rfl : f_7 = nI (i0 + 1) := ef_7.trans (nI_1 _)
            have hP9 := hP.sub (ws' := [(m9, .inr (23, mA mr mv vf xl (nI zs) xf xa (nI (tk + 1)) xp xi xt xn xe xv xb)), (mr 0, .inl (kI, 3000, .inl ft)), (mr 5, .inl (kI, 3002, .inl (upd fk tk (skL.getD i 0)))), (mr 6, .inl (kI, 3002, .inl (upd fa tk (nI i0)))), (mr 7, .inl (kI, 3002, .inl (upd fe tk (nI (i0 + 1))))), (mr 8, .inl (kL, 3002, .inr (.inl gn9)))]) [1, 0, 2, 3, 4, 5] rfl
            have hD9 := hD.sub (ws' := [(m9, .inr (23, mA mr mv vf xl (nI zs) xf xa (nI (tk + 1)) xp xi xt xn xe xv xb)), (mr 0, .inl (kI, 3000, .inl ft)), (mr 5, .inl (kI, 3002, .inl (upd fk tk (skL.getD i 0)))), (mr 6, .inl (kI, 3002, .inl (upd fa tk (nI i0)))), (mr 7, .inl (kI, 3002, .inl (upd fe tk (nI (i0 + 1))))), (mr 8, .inl (kL, 3002, .inr (.inl gn9)))]) [1, 0, 2, 3, 4, 5] (by decide) rfl
            have hK9 := hK.sub (tys' := [(kI, .int), (kL, .long)]) [0, 1] rfl
            subst hQ1
            exact W.iret (v := nI (i0 + 1)) hx hb hr (fun tS ht hW => ⟨⟨(nI (i0 + 1)), i0 + 1, rfl, rfl, skL.getD i 0, gn9, ⟨by omega, by omega, (skL_ok i hi27).1, (skL_ok i hi27).2⟩, by rw [ht]; exact hP9, va_K.moved hW.alike hK9, hD9⟩, hS.F ht⟩) hS.2.2 dX23_takeSign_89
        · refine lv_iconst (v := 1) hx hb dX23_takeSign_18 (by decide) ?_
          refine lv_goto (tgt := 23) hx hb dX23_takeSign_19 (by decide) ?_
          refine lv_istore_n (lv' := [(3, .int 1), (2, .int (nI i)), (0, .ref m9), (1, .int (nI i0))]) hx hb dX23_takeSign_23 rfl hl (by decide) rfl (fun ls hl => ?_)
          refine lv_aload_n hx hb dX23_takeSign_24 rfl (lv_at hl 2 rfl) ?_
          refine lv_iload_n hx hb dX23_takeSign_25 rfl (lv_at hl 3 rfl) ?_
          have hPc := hP.sub (ws' := [(m9, .inr (23, mA mr mv vf xl (nI zs) xf xa (nI tk) xp xi xt xn xe xv xb)), (mr 0, .inl (kI, 3000, .inl ft))]) [0, 1] rfl
          have hDc := hD.sub (ws' := [(m9, .inr (23, mA mr mv vf xl (nI zs) xf xa (nI tk) xp xi xt xn xe xv xb)), (mr 0, .inl (kI, 3000, .inl ft))]) [0, 1] (by decide) rfl
          have hKc := hK.sub (tys' := [(kI, .int)]) [0] rfl
          have hFc := va_free (wc := [(m9, .inr (23, mA mr mv vf xl (nI zs) xf xa (nI tk) xp xi xt xn xe xv xb)), (mr 0, .inl (kI, 3000, .inl ft))]) hD hS hA [0, 1] rfl
          refine va_calli (va_runV (As := [.int (nI i0)]) (rest := []) ⟨hx, hb, hml, hown, hts⟩ (c_rat l dC dI m9 mr mv vf xl xf xa xp xi xt xn xe xv xb zs tk i0 kI ft H.size hzs (by omega)) (cwV 1 hts g_c_rsgn_c_rat_26 rfl rfl rfl (by decide +kernel) ⟨Nat.le_of_ble_eq_true rfl, Nat.le_of_ble_eq_true rfl⟩) ⟨fun a U g mk q => by obtain ⟨q0, q1, qP, qK, qD⟩ := q; exact ⟨q0, q1, qP, va_K.moved (u := U) (U := U.calling g mk a) (Vm.Alike.refl U.vm) qK, qD⟩, va_recv hKc hPc (ci := 23) (q0 := 0) rfl rfl, fun U hU hW => ⟨rfl, by rw [hU], by rw [hU]; exact hPc, va_K.moved hW.alike hKc, hDc.weaken (fun _ _ _ _ => trivial)⟩⟩ rfl rfl hl.1 rfl (lv_room (Nat.le_of_ble_eq_true rfl)) dX23_takeSign_26 ⟨(show 0 + 0 ≤ 0 by omega), (show 0 + 0 ≤ 0 by omega)⟩) hS (fun q _ h => hFc q h) hFc (fun r_1 u tS H1 locs ht hvm hw hB hz1 hk1 hS => ?_)
          obtain ⟨hP1, hK1, hD1⟩ := hB
          rw [ht] at hP1
          have hK1 := va_K.moved hvm.symm hK1
          obtain ⟨hP, hD⟩ := va_join (wr := [(mr 5, .inl (kI, 3002, .inl fk)), (mr 6, .inl (kI, 3002, .inl fa)), (mr 7, .inl (kI, 3002, .inl fe)), (mr 8, .inl (kL, 3002, .inr (.inl fn)))]) (w1 := [(m9, .inr (23, mA mr mv vf xl (nI zs) xf xa (nI tk) xp xi xt xn xe xv xb)), (mr 0, .inl (kI, 3000, .inl ft))]) hP hD [0, 1] [2, 3, 4, 5] rfl rfl (by decide) (by decide) hk1 hFc hP1 hD1
          have hK := hK.app hK1
          generalize H1 = H at hP hS ⊢
          have hP : va_P (dC, dI) vwCl [(mr 5, .inl (kI, 3002, .inl fk)), (mr 6, .inl (kI, 3002, .inl fa)), (mr 7, .inl (kI, 3002, .inl fe)), (mr 8, .inl (kL, 3002, .inr (.inl fn))), (m9, .inr (23, mA mr mv vf xl (nI zs) xf xa (nI tk) xp xi xt xn xe xv xb)), (mr 0, .inl (kI, 3000, .inl ft))] H := hP
          have hD : va_D A [(mr 5, .inl (kI, 3002, .inl fk)), (mr 6, .inl (kI, 3002, .inl fa)), (mr 7, .inl (kI, 3002, .inl fe)), (mr 8, .inl (kL, 3002, .inr (.inl fn))), (m9, .inr (23, mA mr mv vf xl (nI zs) xf xa (nI tk) xp xi xt xn xe xv xb)), (mr 0, .inl (kI, 3000, .inl ft))] := hD
          have hK : va_K (dC, dI) vwCl [(kI, .int), (kL, .long), (kI, .int)] s := hK
          have hK := hK.sub (tys' := [(kI, .int), (kL, .long)]) [0, 1] rfl
          have hP : va_P (dC, dI) vwCl [(mr 5, .inl (kI, 3002, .inl fk)), (mr 6, .inl (kI, 3002, .inl fa)), (mr 7, .inl (kI, 3002, .inl fe)), (mr 8, .inl (kL, 3002, .inr (.inl fn))), (m9, .inr (23, mA mr mv vf xl (nI zs) xf xa (nI tk) xp xi xt xn xe xv xb)), (mr 0, .inl (kI, 3000, .inl ft))] H := hP
          have hD : va_D A [(mr 5, .inl (kI, 3002, .inl fk)), (mr 6, .inl (kI, 3002, .inl fa)), (mr 7, .inl (kI, 3002, .inl fe)), (mr 8, .inl (kL, 3002, .inr (.inl fn))), (m9, .inr (23, mA mr mv vf xl (nI zs) xf xa (nI tk) xp xi xt xn xe xv xb)), (mr 0, .inl (kI, 3000, .inl ft))] := hD
          have hr_1 : r_1 = atF ft zs (i0) := hw
          refine va_gets (v := .ref t1) hx hb hpre0.2.1.1 hS hown (hts (.fieldLink RX23 61 "OwnedPlacesModel" "SIGN_FIRST" "[I") (wm_c_rsgn 19 rfl)) (fun _ h9 => h9) dX23_takeSign_29 ?_
          refine lv_iload_n hx hb dX23_takeSign_32 rfl (lv_at hl 1 rfl) ?_
          refine va_ti (v := .int (sfL.getD i 0)) hx hb hpre0.2.1.2 hS (vp_in_nI hi27 (by decide)) (by rw [nI_clamp (by omega)]) dX23_takeSign_33 ?_
          refine lv_icmp_ne (tgt := 90) hx hb dX23_takeSign_34 (by decide) (fun hf1 => ?_) (fun hf1 => ?_)
          · obtain ⟨x_2, ex_2⟩ : ∃ yY : Int32, yY = (nI i) + 1 := ⟨_, rfl⟩
            refine lv_iinc (v := x_2) (lv' := [(2, .int x_2), (3, .int 1), (0, .ref m9), (1, .int (nI i0))]) hx hb dX23_takeSign_90 hl (k := 1) rfl (by rw [ex_2]; rfl) (by decide) rfl (fun ls hl => ?_)
            obtain rfl : x_2 = nI (i + 1) := by rw [ex_2]; exact nI_1 i
            have hl : lv_has ls 4 [(2, .int (nI (i + 1))), (3, .int 1), (0, .ref m9), (1, .int (nI i0))] := hl
            refine lv_goto (tgt := 2) hx hb dX23_takeSign_93 (by decide) ?_
            exact ih1 (i + 1) _ _ _ (by omega) (hP.sub [4, 5, 0, 1, 2, 3] rfl) (hD.sub [4, 5, 0, 1, 2, 3] (by decide) rfl) hS (lv_sub hl [0, 2, 3] rfl)
          · refine lv_iload_n hx hb dX23_takeSign_37 rfl (lv_at hl 0 rfl) ?_
            refine lv_if_eq (tgt := 56) hx hb dX23_takeSign_38 (by decide) (fun c_2 => absurd c_2 (by decide)) (fun _ => ?_)
            refine lv_aload_n hx hb dX23_takeSign_41 rfl (lv_at hl 2 rfl) ?_
            refine lv_iload_n hx hb dX23_takeSign_42 rfl (lv_at hl 3 rfl) ?_
            refine lv_iconst (v := 1) hx hb dX23_takeSign_43 (by decide) ?_
            refine lv_iadd hx hb dX23_takeSign_44 ?_
            refine lv_topi (fun f_3 ef_3 => ?_)
            obtain rfl : f_3 = nI (i0 + 1) := ef_3.trans (nI_1 _)
            have hPc := hP.sub (ws' := [(m9, .inr (23, mA mr mv vf xl (nI zs) xf xa (nI tk) xp xi xt xn xe xv xb)), (mr 0, .inl (kI, 3000, .inl ft))]) [4, 5] rfl
            have hDc := hD.sub (ws' := [(m9, .inr (23, mA mr mv vf xl (nI zs) xf xa (nI tk) xp xi xt xn xe xv xb)), (mr 0, .inl (kI, 3000, .inl ft))]) [4, 5] (by decide) rfl
            have hKc := hK.sub (tys' := [(kI, .int)]) [0] rfl
            have hFc := va_free (wc := [(m9, .inr (23, mA mr mv vf xl (nI zs) xf xa (nI tk) xp xi xt xn xe xv xb)), (mr 0, .inl (kI, 3000, .inl ft))]) hD hS hA [4, 5] rfl
            refine va_calli (va_runV (As := [.int (nI (i0 + 1))]) (rest := []) ⟨hx, hb, hml, hown, hts⟩ (c_rat l dC dI m9 mr mv vf xl xf xa xp xi xt xn xe xv xb zs tk (i0 + 1) kI ft H.size hzs (by omega)) (cwV 1 hts g_c_rsgn_c_rat_45 rfl rfl rfl (by decide +kernel) ⟨Nat.le_of_ble_eq_true rfl, Nat.le_of_ble_eq_true rfl⟩) ⟨fun a U g mk q => by obtain ⟨q0, q1, qP, qK, qD⟩ := q; exact ⟨q0, q1, qP, va_K.moved (u := U) (U := U.calling g mk a) (Vm.Alike.refl U.vm) qK, qD⟩, va_recv hKc hPc (ci := 23) (q0 := 0) rfl rfl, fun U hU hW => ⟨rfl, by rw [hU], by rw [hU]; exact hPc, va_K.moved hW.alike hKc, hDc.weaken (fun _ _ _ _ => trivial)⟩⟩ rfl rfl hl.1 rfl (lv_room (Nat.le_of_ble_eq_true rfl)) dX23_takeSign_45 ⟨(show 0 + 0 ≤ 0 by omega), (show 0 + 0 ≤ 0 by omega)⟩) hS (fun q _ h => hFc q h) hFc (fun r_4 u tS H1 locs ht hvm hw hB hz1 hk1 hS => ?_)
            obtain ⟨hP1, hK1, hD1⟩ := hB
            rw [ht] at hP1
            have hK1 := va_K.moved hvm.symm hK1
            obtain ⟨hP, hD⟩ := va_join (wr := [(mr 5, .inl (kI, 3002, .inl fk)), (mr 6, .inl (kI, 3002, .inl fa)), (mr 7, .inl (kI, 3002, .inl fe)), (mr 8, .inl (kL, 3002, .inr (.inl fn)))]) (w1 := [(m9, .inr (23, mA mr mv vf xl (nI zs) xf xa (nI tk) xp xi xt xn xe xv xb)), (mr 0, .inl (kI, 3000, .inl ft))]) hP hD [4, 5] [0, 1, 2, 3] rfl rfl (by decide) (by decide) hk1 hFc hP1 hD1
            have hK := hK.app hK1
            generalize H1 = H at hP hS ⊢
            have hP : va_P (dC, dI) vwCl [(mr 5, .inl (kI, 3002, .inl fk)), (mr 6, .inl (kI, 3002, .inl fa)), (mr 7, .inl (kI, 3002, .inl fe)), (mr 8, .inl (kL, 3002, .inr (.inl fn))), (m9, .inr (23, mA mr mv vf xl (nI zs) xf xa (nI tk) xp xi xt xn xe xv xb)), (mr 0, .inl (kI, 3000, .inl ft))] H := hP
            have hD : va_D A [(mr 5, .inl (kI, 3002, .inl fk)), (mr 6, .inl (kI, 3002, .inl fa)), (mr 7, .inl (kI, 3002, .inl fe)), (mr 8, .inl (kL, 3002, .inr (.inl fn))), (m9, .inr (23, mA mr mv vf xl (nI zs) xf xa (nI tk) xp xi xt xn xe xv xb)), (mr 0, .inl (kI, 3000, .inl ft))] := hD
            have hK : va_K (dC, dI) vwCl [(kI, .int), (kL, .long), (kI, .int)] s := hK
            have hK := hK.sub (tys' := [(kI, .int), (kL, .long)]) [0, 1] rfl
            have hP : va_P (dC, dI) vwCl [(mr 5, .inl (kI, 3002, .inl fk)), (mr 6, .inl (kI, 3002, .inl fa)), (mr 7, .inl (kI, 3002, .inl fe)), (mr 8, .inl (kL, 3002, .inr (.inl fn))), (m9, .inr (23, mA mr mv vf xl (nI zs) xf xa (nI tk) xp xi xt xn xe xv xb)), (mr 0, .inl (kI, 3000, .inl ft))] H := hP
            have hD : va_D A [(mr 5, .inl (kI, 3002, .inl fk)), (mr 6, .inl (kI, 3002, .inl fa)), (mr 7, .inl (kI, 3002, .inl fe)), (mr 8, .inl (kL, 3002, .inr (.inl fn))), (m9, .inr (23, mA mr mv vf xl (nI zs) xf xa (nI tk) xp xi xt xn xe xv xb)), (mr 0, .inl (kI, 3000, .inl ft))] := hD
            have hr_4 : r_4 = atF ft zs (i0 + 1) := hw
            refine va_gets (v := .ref t2) hx hb hpre0.2.2.1.1 hS hown (hts (.fieldLink RX23 58 "OwnedPlacesModel" "SIGN_SECOND" "[I") (wm_c_rsgn 12 rfl)) (fun _ h9 => h9) dX23_takeSign_48 ?_
            refine lv_iload_n hx hb dX23_takeSign_51 rfl (lv_at hl 1 rfl) ?_
            refine va_ti (v := .int (ssL.getD i 0)) hx hb hpre0.2.2.1.2 hS (vp_in_nI hi27 (by decide)) (by rw [nI_clamp (by omega)]) dX23_takeSign_52 ?_
            refine lv_icmp_ne (tgt := 90) hx hb dX23_takeSign_53 (by decide) (fun hf2 => ?_) (fun hf2 => ?_)
            · obtain ⟨x_5, ex_5⟩ : ∃ yY : Int32, yY = (nI i) + 1 := ⟨_, rfl⟩
              refine lv_iinc (v := x_5) (lv' := [(2, .int x_5), (3, .int 1), (0, .ref m9), (1, .int (nI i0))]) hx hb dX23_takeSign_90 hl (k := 1) rfl (by rw [ex_5]; rfl) (by decide) rfl (fun ls hl => ?_)
              obtain rfl : x_5 = nI (i + 1) := by rw [ex_5]; exact nI_1 i
              have hl : lv_has ls 4 [(2, .int (nI (i + 1))), (3, .int 1), (0, .ref m9), (1, .int (nI i0))] := hl
              refine lv_goto (tgt := 2) hx hb dX23_takeSign_93 (by decide) ?_
              exact ih1 (i + 1) _ _ _ (by omega) (hP.sub [4, 5, 0, 1, 2, 3] rfl) (hD.sub [4, 5, 0, 1, 2, 3] (by decide) rfl) hS (lv_sub hl [0, 2, 3] rfl)
            · have hi2 : i0 + 1 < zs := atF_lt (hr_4.symm.trans hf2) (ssL_ok i hi27)
              refine lv_aload_n hx hb dX23_takeSign_56 rfl (lv_at hl 2 rfl) ?_
              refine va_gets (v := .ref t3) hx hb hpre0.2.2.2.1 hS hown (hts (.fieldLink RX23 55 "OwnedPlacesModel" "SIGN_KIND" "[I") (wm_c_rsgn 1 rfl)) (fun _ h9 => h9) dX23_takeSign_57 ?_
              refine lv_iload_n hx hb dX23_takeSign_60 rfl (lv_at hl 1 rfl) ?_
              refine va_ti (v := .int (skL.getD i 0)) hx hb hpre0.2.2.2.2 hS (vp_in_nI hi27 (by decide)) (by rw [nI_clamp (by omega)]) dX23_takeSign_61 ?_
              refine lv_iload_n hx hb dX23_takeSign_62 rfl (lv_at hl 3 rfl) ?_
              refine lv_iload_n hx hb dX23_takeSign_63 rfl (lv_at hl 3 rfl) ?_
              refine lv_iload_n hx hb dX23_takeSign_64 rfl (lv_at hl 0 rfl) ?_
              refine lv_if_eq (tgt := 72) hx hb dX23_takeSign_65 (by decide) (fun c_5 => absurd c_5 (by decide)) (fun _ => ?_)
              refine lv_iconst (v := 2) hx hb dX23_takeSign_68 (by decide) ?_
              refine lv_goto (tgt := 73) hx hb dX23_takeSign_69 (by decide) ?_
              refine lv_iadd hx hb dX23_takeSign_73 ?_
              refine lv_topi (fun f_6 ef_6 => ?_)
              obtain rfl : f_6 = nI (i0 + 2) := ef_6.trans (nI_add _ _)
              refine lv_lconst (v := 0) hx hb dX23_takeSign_74 (by decide) ?_
              have hPc := hP.sub (ws' := [(m9, .inr (23, mA mr mv vf xl (nI zs) xf xa (nI tk) xp xi xt xn xe xv xb)), (mr 5, .inl (kI, 3002, .inl fk)), (mr 6, .inl (kI, 3002, .inl fa)), (mr 7, .inl (kI, 3002, .inl fe)), (mr 8, .inl (kL, 3002, .inr (.inl fn)))]) [4, 0, 1, 2, 3] rfl
              have hDc := hD.sub (ws' := [(m9, .inr (23, mA mr mv vf xl (nI zs) xf xa (nI tk) xp xi xt xn xe xv xb)), (mr 5, .inl (kI, 3002, .inl fk)), (mr 6, .inl (kI, 3002, .inl fa)), (mr 7, .inl (kI, 3002, .inl fe)), (mr 8, .inl (kL, 3002, .inr (.inl fn)))]) [4, 0, 1, 2, 3] (by decide) rfl
              have hKc := hK.sub (tys' := [(kI, .int), (kL, .long)]) [0, 1] rfl
              have hFc := va_free (wc := [(m9, .inr (23, mA mr mv vf xl (nI zs) xf xa (nI tk) xp xi xt xn xe xv xb)), (mr 5, .inl (kI, 3002, .inl fk)), (mr 6, .inl (kI, 3002, .inl fa)), (mr 7, .inl (kI, 3002, .inl fe)), (mr 8, .inl (kL, 3002, .inr (.inl fn)))]) hD hS hA [4, 0, 1, 2, 3] rfl
              refine va_callv (va_runV (As := [.int (skL.getD i 0), .int (nI i0), .int (nI (i0 + 2)), .long 0]) (rest := []) ⟨hx, hb, hml, hown, hts⟩ (c_radd l dC dI m9 mr mv vf xl xf xa xp xi xt xn xe xv xb zs tk kI kL ft fk fa fe fn (skL.getD i 0) (nI i0) (nI (i0 + 2)) 0 H.size htk) (cwV 4 hts g_c_rsgn_c_radd_75 rfl rfl rfl (by decide +kernel) ⟨Nat.le_of_ble_eq_true rfl, Nat.le_of_ble_eq_true rfl⟩) ⟨fun a U g mk q => by obtain ⟨q0, q1, qP, qK, qD⟩ := q; exact ⟨q0, q1, qP, va_K.moved (u := U) (U := U.calling g mk a) (Vm.Alike.refl U.vm) qK, qD⟩, va_recv hKc hPc (ci := 23) (q0 := 0) rfl rfl, fun U hU hW => ⟨rfl, by rw [hU], by rw [hU]; exact hPc, va_K.moved hW.alike hKc, hDc.weaken (fun _ _ _ _ => trivial)⟩⟩ rfl rfl hl.1 rfl (lv_room (Nat.le_of_ble_eq_true rfl)) dX23_takeSign_75 ⟨(show 0 + 0 ≤ 0 by omega), (show 0 + 0 ≤ 0 by omega)⟩) hS (fun q _ h => hFc q h) hFc (fun u tS H1 locs ht hvm hw hB hz1 hk1 hS => ?_)
              obtain ⟨gn9, hP1, hK1, hD1⟩ := hB
              rw [ht] at hP1
              have hK1 := va_K.moved hvm.symm hK1
              obtain ⟨hP, hD⟩ := va_join (wr := [(mr 0, .inl (kI, 3000, .inl ft))]) (w1 := [(m9, .inr (23, mA mr mv vf xl (nI zs) xf xa (nI (tk + 1)) xp xi xt xn xe xv xb)), (mr 5, .inl (kI, 3002, .inl (upd fk tk (skL.getD i 0)))), (mr 6, .inl (kI, 3002, .inl (upd fa tk (nI i0)))), (mr 7, .inl (kI, 3002, .inl (upd fe tk (nI (i0 + 2))))), (mr 8, .inl (kL, 3002, .inr (.inl gn9)))]) hP hD [4, 0, 1, 2, 3] [5] rfl rfl (by decide) (by decide) hk1 hFc hP1 hD1
              have hK := hK.app hK1
              generalize H1 = H at hP hS ⊢
              have hP : va_P (dC, dI) vwCl [(mr 0, .inl (kI, 3000, .inl ft)), (m9, .inr (23, mA mr mv vf xl (nI zs) xf xa (nI (tk + 1)) xp xi xt xn xe xv xb)), (mr 5, .inl (kI, 3002, .inl (upd fk tk (skL.getD i 0)))), (mr 6, .inl (kI, 3002, .inl (upd fa tk (nI i0)))), (mr 7, .inl (kI, 3002, .inl (upd fe tk (nI (i0 + 2))))), (mr 8, .inl (kL, 3002, .inr (.inl gn9)))] H := hP
              have hD : va_D A [(mr 0, .inl (kI, 3000, .inl ft)), (m9, .inr (23, mA mr mv vf xl (nI zs) xf xa (nI (tk + 1)) xp xi xt xn xe xv xb)), (mr 5, .inl (kI, 3002, .inl (upd fk tk (skL.getD i 0)))), (mr 6, .inl (kI, 3002, .inl (upd fa tk (nI i0)))), (mr 7, .inl (kI, 3002, .inl (upd fe tk (nI (i0 + 2))))), (mr 8, .inl (kL, 3002, .inr (.inl gn9)))] := hD
              have hK : va_K (dC, dI) vwCl [(kI, .int), (kL, .long), (kI, .int), (kL, .long)] s := hK
              have hK := hK.sub (tys' := [(kI, .int), (kL, .long)]) [0, 1] rfl
              have hP : va_P (dC, dI) vwCl [(mr 0, .inl (kI, 3000, .inl ft)), (m9, .inr (23, mA mr mv vf xl (nI zs) xf xa (nI (tk + 1)) xp xi xt xn xe xv xb)), (mr 5, .inl (kI, 3002, .inl (upd fk tk (skL.getD i 0)))), (mr 6, .inl (kI, 3002, .inl (upd fa tk (nI i0)))), (mr 7, .inl (kI, 3002, .inl (upd fe tk (nI (i0 + 2))))), (mr 8, .inl (kL, 3002, .inr (.inl gn9)))] H := hP
              have hD : va_D A [(mr 0, .inl (kI, 3000, .inl ft)), (m9, .inr (23, mA mr mv vf xl (nI zs) xf xa (nI (tk + 1)) xp xi xt xn xe xv xb)), (mr 5, .inl (kI, 3002, .inl (upd fk tk (skL.getD i 0)))), (mr 6, .inl (kI, 3002, .inl (upd fa tk (nI i0)))), (mr 7, .inl (kI, 3002, .inl (upd fe tk (nI (i0 + 2))))), (mr 8, .inl (kL, 3002, .inr (.inl gn9)))] := hD
              refine lv_iload_n hx hb dX23_takeSign_78 rfl (lv_at hl 3 rfl) ?_
              refine lv_iload_n hx hb dX23_takeSign_79 rfl (lv_at hl 0 rfl) ?_
              refine lv_if_eq (tgt := 87) hx hb dX23_takeSign_80 (by decide) (fun c_8 => absurd c_8 (by decide)) (fun _ => ?_)
              refine lv_iconst (v := 2) hx hb dX23_takeSign_83 (by decide) ?_
              refine lv_goto (tgt := 88) hx hb dX23_takeSign_84 (by decide) ?_
              refine lv_iadd hx hb dX23_takeSign_88 ?_
              refine lv_topi (fun f_9 ef_9 => ?_)
              obtain rfl : f_9 = nI (i0 + 2) := ef_9.trans (nI_add _ _)
              have hP9 := hP.sub (ws' := [(m9, .inr (23, mA mr mv vf xl (nI zs) xf xa (nI (tk + 1)) xp xi xt xn xe xv xb)), (mr 0, .inl (kI, 3000, .inl ft)), (mr 5, .inl (kI, 3002, .inl (upd fk tk (skL.getD i 0)))), (mr 6, .inl (kI, 3002, .inl (upd fa tk (nI i0)))), (mr 7, .inl (kI, 3002, .inl (upd fe tk (nI (i0 + 2))))), (mr 8, .inl (kL, 3002, .inr (.inl gn9)))]) [1, 0, 2, 3, 4, 5] rfl
              have hD9 := hD.sub (ws' := [(m9, .inr (23, mA mr mv vf xl (nI zs) xf xa (nI (tk + 1)) xp xi xt xn xe xv xb)), (mr 0, .inl (kI, 3000, .inl ft)), (mr 5, .inl (kI, 3002, .inl (upd fk tk (skL.getD i 0)))), (mr 6, .inl (kI, 3002, .inl (upd fa tk (nI i0)))), (mr 7, .inl (kI, 3002, .inl (upd fe tk (nI (i0 + 2))))), (mr 8, .inl (kL, 3002, .inr (.inl gn9)))]) [1, 0, 2, 3, 4, 5] (by decide) rfl
              have hK9 := hK.sub (tys' := [(kI, .int), (kL, .long)]) [0, 1] rfl
              subst hQ1
              exact W.iret (v := nI (i0 + 2)) hx hb hr (fun tS ht hW => ⟨⟨(nI (i0 + 2)), i0 + 2, rfl, rfl, skL.getD i 0, gn9, ⟨by omega, by omega, (skL_ok i hi27).1, (skL_ok i hi27).2⟩, by rw [ht]; exact hP9, va_K.moved hW.alike hK9, hD9⟩, hS.F ht⟩) hS.2.2 dX23_takeSign_89
  exact key1 28 0 _ _ _ (by omega) (hP.sub [0, 1, 2, 3, 4, 5] rfl) (hD.sub [0, 1, 2, 3, 4, 5] (by decide) rfl) hS (lv_sub hl [0, 1, 2] rfl)
