def wf_c_rlif : List Cond := [.code yX23_takeLife cX23_takeLife 4 (some .int), .code yX23_at cX23_at 2 (some .int), .fieldLink RX23 1 "OwnedPlacesModel" "size" "I", .fieldLink RX23 7 "OwnedPlacesModel" "text" "[I", .methodLink RX23 11 yX23_at, .instanceMethod yX23_at, .selects RX23 yX23_at yX23_at, .initialized RX23, .code yX23_isLetter cX23_isLetter 1 (some .boolean), .methodLink RX23 48 yX23_isLetter, .static yX23_isLetter, .code yX23_addToken cX23_addToken 6 none, .fieldLink RX23 25 "OwnedPlacesModel" "tokenKind" "[I", .fieldLink RX23 28 "OwnedPlacesModel" "tokens" "I", .fieldLink RX23 31 "OwnedPlacesModel" "tokenAt" "[I", .fieldLink RX23 34 "OwnedPlacesModel" "tokenEnd" "[I", .fieldLink RX23 37 "OwnedPlacesModel" "tokenNumber" "[J", .methodLink RX23 51 yX23_addToken, .instanceMethod yX23_addToken, .selects RX23 yX23_addToken yX23_addToken, .code yX23_wordOf cX23_wordOf 7 (some .int), .fieldLink RX23 15 "OwnedPlacesModel" "WORDS" "[J", .code yX23_wordLength cX23_wordLength 3 (some .int), .methodLink RX23 19 yX23_wordLength, .static yX23_wordLength, .constantLong RX23 23 255, .methodLink RX23 64 yX23_wordOf, .instanceMethod yX23_wordOf, .selects RX23 yX23_wordOf yX23_wordOf, .code yX23_isDigit cX23_isDigit 1 (some .boolean), .methodLink RX23 40 yX23_isDigit, .static yX23_isDigit]
def wp_c_rlif : List Cond := wf_c_rlif ++ (wsX230 ++ [])
theorem in_c_rlif_X23 : ∀ w ∈ wsX230, w ∈ wp_c_rlif := fun w h => List.mem_append_right _ (List.mem_append_left _ h)
theorem wg_c_rlif : wf_c_rlif.all goodWord = true := by decide +kernel
theorem wm_c_rlif (k : Nat) {w : Cond} (h : wp_c_rlif[k]? = some w) : w ∈ wp_c_rlif := List.mem_of_getElem? h
set_option maxRecDepth 20000 in
theorem g_c_rlif_c_rat_24 : GoodIn wp_c_rlif (wsV RX23 11 RX23 yX23_at wp_c_rat) := goodIn_app (goodIn_f [.methodLink RX23 11 yX23_at, .instanceMethod yX23_at, .selects RX23 yX23_at yX23_at, .initialized RX23] [4, 5, 6, 7] rfl (by decide +kernel)) (goodIn_app (goodIn_f (wf_c_rat) [1, 2, 3] rfl wg_c_rat) (goodIn_app (goodIn_sub in_c_rlif_X23 gd_X23) (goodIn_n)))
set_option maxRecDepth 20000 in
theorem g_c_rlif_c_rlet_27 : GoodIn wp_c_rlif (va_wsS RX23 48 yX23_isLetter wp_c_rlet) := goodIn_app (goodIn_f [.methodLink RX23 48 yX23_isLetter, .static yX23_isLetter, .initialized RX23] [9, 10, 7] rfl (by decide +kernel)) (goodIn_app (goodIn_f (wf_c_rlet) [8] rfl wg_c_rlet) (goodIn_n))
set_option maxRecDepth 20000 in
theorem g_c_rlif_c_radd_85 : GoodIn wp_c_rlif (wsV RX23 51 RX23 yX23_addToken wp_c_radd) := goodIn_app (goodIn_f [.methodLink RX23 51 yX23_addToken, .instanceMethod yX23_addToken, .selects RX23 yX23_addToken yX23_addToken, .initialized RX23] [17, 18, 19, 7] rfl (by decide +kernel)) (goodIn_app (goodIn_f (wf_c_radd) [11, 12, 13, 14, 15, 16] rfl wg_c_radd) (goodIn_app (goodIn_sub in_c_rlif_X23 gd_X23) (goodIn_n)))
set_option maxRecDepth 20000 in
theorem g_c_rlif_c_rwo_59 : GoodIn wp_c_rlif (wsV RX23 64 RX23 yX23_wordOf wp_c_rwo) := goodIn_app (goodIn_f [.methodLink RX23 64 yX23_wordOf, .instanceMethod yX23_wordOf, .selects RX23 yX23_wordOf yX23_wordOf, .initialized RX23] [26, 27, 28, 7] rfl (by decide +kernel)) (goodIn_app (goodIn_f (wf_c_rwo) [20, 21, 22, 23, 24, 7, 3, 25] rfl wg_c_rwo) (goodIn_app (goodIn_sub in_c_rlif_X23 gd_X23) (goodIn_n)))
set_option maxRecDepth 20000 in
theorem g_c_rlif_c_rat_13 : GoodIn wp_c_rlif (wsV RX23 11 RX23 yX23_at wp_c_rat) := goodIn_app (goodIn_f [.methodLink RX23 11 yX23_at, .instanceMethod yX23_at, .selects RX23 yX23_at yX23_at, .initialized RX23] [4, 5, 6, 7] rfl (by decide +kernel)) (goodIn_app (goodIn_f (wf_c_rat) [1, 2, 3] rfl wg_c_rat) (goodIn_app (goodIn_sub in_c_rlif_X23 gd_X23) (goodIn_n)))
set_option maxRecDepth 20000 in
theorem g_c_rlif_c_rdig_16 : GoodIn wp_c_rlif (va_wsS RX23 40 yX23_isDigit wp_c_rdig) := goodIn_app (goodIn_f [.methodLink RX23 40 yX23_isDigit, .static yX23_isDigit, .initialized RX23] [30, 31, 7] rfl (by decide +kernel)) (goodIn_app (goodIn_f (wf_c_rdig) [29] rfl wg_c_rdig) (goodIn_n))
set_option maxHeartbeats 4000000 in
set_option maxRecDepth 100000 in
theorem c_rlif (l : Launch) (dC : Nat → ClassId) (dI : Nat → Nat → Nat) (m9 : Nat) (mr : Nat → Nat) (mv : Nat → Int32) (vf : Value) (xl xf xa xp xi xt xn xe xv xb : Int32) (zs tk : Nat) (kI kL : ClassId) (ft fk fa fe : Nat → Int32) (fn : Nat → Int64) (i0 : Nat) (t0 t1 t2 t3 : Nat) (sz : Nat) (hzs : zs ≤ 3000) (htk : tk < 3002) (hi : i0 < zs) : Met l yX23_takeLife wp_c_rlif ({ frames := 2, cells := 0, slots := 0, locals := 48 }) (va_Pc [.ref m9, .int (nI i0)] (fun U => U.heap.size = sz ∧ va_P (dC, dI) vwCl [(m9, .inr (23, mA mr mv vf xl (nI zs) xf xa (nI tk) xp xi xt xn xe xv xb)), (mr 0, .inl (kI, 3000, .inl ft)), (mr 5, .inl (kI, 3002, .inl fk)), (mr 6, .inl (kI, 3002, .inl fa)), (mr 7, .inl (kI, 3002, .inl fe)), (mr 8, .inl (kL, 3002, .inr (.inl fn)))] U.heap ∧ va_K (dC, dI) vwCl [(kI, .int), (kL, .long)] U ∧ va_D (fun _ => True) [(m9, .inr (23, mA mr mv vf xl (nI zs) xf xa (nI tk) xp xi xt xn xe xv xb)), (mr 0, .inl (kI, 3000, .inl ft)), (mr 5, .inl (kI, 3002, .inl fk)), (mr 6, .inl (kI, 3002, .inl fa)), (mr 7, .inl (kI, 3002, .inl fe)), (mr 8, .inl (kL, 3002, .inr (.inl fn)))] ∧ stA t0 t1 t2 t3 (va_A [(m9, .inr (23, mA mr mv vf xl (nI zs) xf xa (nI tk) xp xi xt xn xe xv xb)), (mr 0, .inl (kI, 3000, .inl ft)), (mr 5, .inl (kI, 3002, .inl fk)), (mr 6, .inl (kI, 3002, .inl fa)), (mr 7, .inl (kI, 3002, .inl fe)), (mr 8, .inl (kL, 3002, .inr (.inl fn)))] sz) U U.heap)) (va_Qi (fun (r : Int32) (e1 : Nat) => r = nI e1) (fun (e1 : Nat) (tS : State) => ∃ (kd : Int32) (gn : Nat → Int64), (i0 < e1 ∧ e1 ≤ zs ∧ kd ≠ 0 ∧ kd ≠ 19) ∧ va_P (dC, dI) vwCl [(m9, .inr (23, mA mr mv vf xl (nI zs) xf xa (nI (tk + 1)) xp xi xt xn xe xv xb)), (mr 0, .inl (kI, 3000, .inl ft)), (mr 5, .inl (kI, 3002, .inl (upd fk tk kd))), (mr 6, .inl (kI, 3002, .inl (upd fa tk (nI i0)))), (mr 7, .inl (kI, 3002, .inl (upd fe tk (nI e1)))), (mr 8, .inl (kL, 3002, .inr (.inl gn)))] tS.heap ∧ va_K (dC, dI) vwCl [(kI, .int), (kL, .long)] tS ∧ va_D (va_A [(m9, .inr (23, mA mr mv vf xl (nI zs) xf xa (nI tk) xp xi xt xn xe xv xb)), (mr 0, .inl (kI, 3000, .inl ft)), (mr 5, .inl (kI, 3002, .inl fk)), (mr 6, .inl (kI, 3002, .inl fa)), (mr 7, .inl (kI, 3002, .inl fe)), (mr 8, .inl (kL, 3002, .inr (.inl fn)))] sz) [(m9, .inr (23, mA mr mv vf xl (nI zs) xf xa (nI (tk + 1)) xp xi xt xn xe xv xb)), (mr 0, .inl (kI, 3000, .inl ft)), (mr 5, .inl (kI, 3002, .inl (upd fk tk kd))), (mr 6, .inl (kI, 3002, .inl (upd fa tk (nI i0)))), (mr 7, .inl (kI, 3002, .inl (upd fe tk (nI e1)))), (mr 8, .inl (kL, 3002, .inr (.inl gn)))]) (va_A [(m9, .inr (23, mA mr mv vf xl (nI zs) xf xa (nI tk) xp xi xt xn xe xv xb)), (mr 0, .inl (kI, 3000, .inl ft)), (mr 5, .inl (kI, 3002, .inl fk)), (mr 6, .inl (kI, 3002, .inl fa)), (mr 7, .inl (kI, 3002, .inl fe)), (mr 8, .inl (kL, 3002, .inr (.inl fn)))] sz)) 0 0 (va_A [(m9, .inr (23, mA mr mv vf xl (nI zs) xf xa (nI tk) xp xi xt xn xe xv xb)), (mr 0, .inl (kI, 3000, .inl ft)), (mr 5, .inl (kI, 3002, .inl fk)), (mr 6, .inl (kI, 3002, .inl fa)), (mr 7, .inl (kI, 3002, .inl fe)), (mr 8, .inl (kL, 3002, .inr (.inl fn)))] sz) := by
  refine Met.ofW (cc := cX23_takeLife) (maxL := 4) (ret := (some .int)) (by decide) rfl ?_
  intro p e s m args below meth c s₁ B hml hv
  obtain ⟨rfl, hsz, hP, hK, hD0, hpre0⟩ := hv
  have hx := B.exec
  have hb := B.bytes
  have hr := B.returns
  have hts := atoms_spec (ws := wp_c_rlif) B.pre
  have hown : s.vm.findClass RX23 = some m.cls := findClass_of_methodNamed B.named
  have hlocks := B.notSynchronized
  subst hsz
  have hD := hD0.self (sz := s.heap.size)
  generalize hAe : va_A [(m9, .inr (23, mA mr mv vf xl (nI zs) xf xa (nI tk) xp xi xt xn xe xv xb)), (mr 0, .inl (kI, 3000, .inl ft)), (mr 5, .inl (kI, 3002, .inl fk)), (mr 6, .inl (kI, 3002, .inl fa)), (mr 7, .inl (kI, 3002, .inl fe)), (mr 8, .inl (kL, 3002, .inr (.inl fn)))] s.heap.size = A at hD hpre0 ⊢
  have hA : ∀ q : Nat, s.heap.size ≤ q → A q := fun q h => by rw [← hAe]; exact Or.inr h
  have hS : va_S A s.heap s.heap [] := va_S.rf
  have hP : va_P (dC, dI) vwCl [(m9, .inr (23, mA mr mv vf xl (nI zs) xf xa (nI tk) xp xi xt xn xe xv xb)), (mr 0, .inl (kI, 3000, .inl ft)), (mr 5, .inl (kI, 3002, .inl fk)), (mr 6, .inl (kI, 3002, .inl fa)), (mr 7, .inl (kI, 3002, .inl fe)), (mr 8, .inl (kL, 3002, .inr (.inl fn)))] s.heap := hP
  have hl := lv_entry ([.ref m9, .int (nI i0)]) (n := 4) (Nat.le_of_ble_eq_true rfl)
  rw [lg_entry_eq]
  generalize (lg_sl ([.ref m9, .int (nI i0)]) ++ List.replicate (4 - (lg_sl ([.ref m9, .int (nI i0)])).length) Slot.unset).toArray = ls at hl ⊢
  have hl : lv_has ls 4 [(0, .ref m9), (1, .int (nI i0))] := hl
  refine lv_iload_n hx hb dX23_takeLife_0 rfl (lv_at hl 1 rfl) ?_
  refine lv_iconst (v := 1) hx hb dX23_takeLife_1 (by decide) ?_
  refine lv_iadd hx hb dX23_takeLife_2 ?_
  refine lv_topi (fun f_1 ef_1 => ?_)
  obtain rfl : f_1 = nI (i0 + 1) := ef_1.trans (nI_1 _)
  refine lv_istore_n (lv' := [(2, .int (nI (i0 + 1))), (0, .ref m9), (1, .int (nI i0))]) hx hb dX23_takeLife_3 rfl hl (by decide) rfl (fun ls hl => ?_)
  refine W_q (fun Q1 hQ1 => ?_)
  have key1 : ∀ (n1 : Nat) (i : Nat) (H : Heap) (locs : List Loc) (ls : Array Slot), (i + n1 = zs + 1 ∧ i ≤ zs) → (i0 + 1 ≤ i) → va_P (dC, dI) vwCl [(m9, .inr (23, mA mr mv vf xl (nI zs) xf xa (nI tk) xp xi xt xn xe xv xb)), (mr 0, .inl (kI, 3000, .inl ft)), (mr 5, .inl (kI, 3002, .inl fk)), (mr 6, .inl (kI, 3002, .inl fa)), (mr 7, .inl (kI, 3002, .inl fe)), (mr 8, .inl (kL, 3002, .inr (.inl fn)))] H → va_D A [(m9, .inr (23, mA mr mv vf xl (nI zs) xf xa (nI tk) xp xi xt xn xe xv xb)), (mr 0, .inl (kI, 3000, .inl ft)), (mr 5, .inl (kI, 3002, .inl fk)), (mr 6, .inl (kI, 3002, .inl fa)), (mr 7, .inl (kI, 3002, .inl fe)), (mr 8, .inl (kL, 3002, .inr (.inl fn)))] → va_S A s.heap H locs → lv_has ls 4 [(2, .int (nI i)), (0, .ref m9), (1, .int (nI i0))] → W p l e (headSpec wp_c_rlif ({ frames := 2, cells := 0, slots := 0, locals := 48 })).room s m ([.ref m9, .int (nI i0)] : List Value).toArray below meth c H locs 0 0 Q1 (F0 m 4 ls []) := by
    intro n1
    induction n1 with
    | zero => intro i H locs ls hb0 hb1; exact absurd hb0 (by omega)
    | succ n1 ih1 =>
      intro i H locs ls hb0 hb1 hP hD hS hl
      refine lv_iload_n hx hb dX23_takeLife_4 rfl (lv_at hl 0 rfl) ?_
      refine lv_iload_n hx hb dX23_takeLife_5 rfl (lv_at hl 2 rfl) ?_
      refine lv_iconst (v := 1) hx hb dX23_takeLife_6 (by decide) ?_
      refine lv_iadd hx hb dX23_takeLife_7 ?_
      refine lv_topi (fun f_2 ef_2 => ?_)
      obtain rfl : f_2 = nI (i0 + 1) := ef_2.trans (nI_1 _)
      refine lv_icmp_le (tgt := 22) hx hb dX23_takeLife_8 (by decide) (fun hc => ?_) (fun hc => ?_)
      · refine lv_aload_n hx hb dX23_takeLife_22 rfl (lv_at hl 1 rfl) ?_
        refine lv_iload_n hx hb dX23_takeLife_23 rfl (lv_at hl 0 rfl) ?_
        have hPc := hP.sub (ws' := [(m9, .inr (23, mA mr mv vf xl (nI zs) xf xa (nI tk) xp xi xt xn xe xv xb)), (mr 0, .inl (kI, 3000, .inl ft))]) [0, 1] rfl
        have hDc := hD.sub (ws' := [(m9, .inr (23, mA mr mv vf xl (nI zs) xf xa (nI tk) xp xi xt xn xe xv xb)), (mr 0, .inl (kI, 3000, .inl ft))]) [0, 1] (by decide) rfl
        have hKc := hK.sub (tys' := [(kI, .int)]) [0] rfl
        have hFc := va_free (wc := [(m9, .inr (23, mA mr mv vf xl (nI zs) xf xa (nI tk) xp xi xt xn xe xv xb)), (mr 0, .inl (kI, 3000, .inl ft))]) hD hS hA [0, 1] rfl
        refine va_calli (va_runV (As := [.int (nI i)]) (rest := []) ⟨hx, hb, hml, hown, hts⟩ (c_rat l dC dI m9 mr mv vf xl xf xa xp xi xt xn xe xv xb zs tk i kI ft H.size hzs (by omega)) (cwV 1 hts g_c_rlif_c_rat_24 rfl rfl rfl (by decide +kernel) ⟨Nat.le_of_ble_eq_true rfl, Nat.le_of_ble_eq_true rfl⟩) ⟨fun a U g mk q => by obtain ⟨q0, q1, qP, qK, qD⟩ := q; exact ⟨q0, q1, qP, va_K.moved (u := U) (U := U.calling g mk a) (Vm.Alike.refl U.vm) qK, qD⟩, va_recv hKc hPc (ci := 23) (q0 := 0) rfl rfl, fun U hU hW => ⟨rfl, by rw [hU], by rw [hU]; exact hPc, va_K.moved hW.alike hKc, hDc.weaken (fun _ _ _ _ => trivial)⟩⟩ rfl rfl hl.1 rfl (lv_room (Nat.le_of_ble_eq_true rfl)) dX23_takeLife_24 ⟨(show 0 + 0 ≤ 0 by omega), (show 0 + 0 ≤ 0 by omega)⟩) hS (fun q _ h => hFc q h) hFc (fun r_3 u tS H1 locs ht hvm hw hB hz1 hk1 hS => ?_)
        obtain ⟨hP1, hK1, hD1⟩ := hB
        rw [ht] at hP1
        have hK1 := va_K.moved hvm.symm hK1
        obtain ⟨hP, hD⟩ := va_join (wr := [(mr 5, .inl (kI, 3002, .inl fk)), (mr 6, .inl (kI, 3002, .inl fa)), (mr 7, .inl (kI, 3002, .inl fe)), (mr 8, .inl (kL, 3002, .inr (.inl fn)))]) (w1 := [(m9, .inr (23, mA mr mv vf xl (nI zs) xf xa (nI tk) xp xi xt xn xe xv xb)), (mr 0, .inl (kI, 3000, .inl ft))]) hP hD [0, 1] [2, 3, 4, 5] rfl rfl (by decide) (by decide) hk1 hFc hP1 hD1
        have hK := hK.app hK1
        generalize H1 = H at hP hS ⊢
        have hP : va_P (dC, dI) vwCl [(mr 5, .inl (kI, 3002, .inl fk)), (mr 6, .inl (kI, 3002, .inl fa)), (mr 7, .inl (kI, 3002, .inl fe)), (mr 8, .inl (kL, 3002, .inr (.inl fn))), (m9, .inr (23, mA mr mv vf xl (nI zs) xf xa (nI tk) xp xi xt xn xe xv xb)), (mr 0, .inl (kI, 3000, .inl ft))] H := hP
        have hD : va_D A [(mr 5, .inl (kI, 3002, .inl fk)), (mr 6, .inl (kI, 3002, .inl fa)), (mr 7, .inl (kI, 3002, .inl fe)), (mr 8, .inl (kL, 3002, .inr (.inl fn))), (m9, .inr (23, mA mr mv vf xl (nI zs) xf xa (nI tk) xp xi xt xn xe xv xb)), (mr 0, .inl (kI, 3000, .inl ft))] := hD
        have hK : va_K (dC, dI) vwCl [(kI, .int), (kL, .long), (kI, .int)] s := hK
        have hK := hK.sub (tys' := [(kI, .int), (kL, .long)]) [0, 1] rfl
        have hP : va_P (dC, dI) vwCl [(mr 5, .inl (kI, 3002, .inl fk)), (mr 6, .inl (kI, 3002, .inl fa)), (mr 7, .inl (kI, 3002, .inl fe)), (mr 8, .inl (kL, 3002, .inr (.inl fn))), (m9, .inr (23, mA mr mv vf xl (nI zs) xf xa (nI tk) xp xi xt xn xe xv xb)), (mr 0, .inl (kI, 3000, .inl ft))] H := hP
        have hD : va_D A [(mr 5, .inl (kI, 3002, .inl fk)), (mr 6, .inl (kI, 3002, .inl fa)), (mr 7, .inl (kI, 3002, .inl fe)), (mr 8, .inl (kL, 3002, .inr (.inl fn))), (m9, .inr (23, mA mr mv vf xl (nI zs) xf xa (nI tk) xp xi xt xn xe xv xb)), (mr 0, .inl (kI, 3000, .inl ft))] := hD
        have hr_3 : r_3 = atF ft zs (i) := hw
        have hPc := hP.sub (ws' := []) [] rfl
        have hDc := hD.sub (ws' := []) [] (by decide) rfl
        have hKc := hK.sub (tys' := []) [] rfl
        have hFc := va_free (wc := []) hD hS hA [] rfl
        refine va_calli (va_runS (As := [.int r_3]) (rest := []) ⟨hx, hb, hml, hown, hts⟩ (c_rlet l dC dI r_3 H.size) (va_cwS 1 hts g_c_rlif_c_rlet_27 rfl rfl rfl (by decide +kernel) ⟨Nat.le_of_ble_eq_true rfl, Nat.le_of_ble_eq_true rfl⟩) ⟨fun a U g mk q => by obtain ⟨q0, q1, qP, qK, qD⟩ := q; exact ⟨q0, q1, qP, va_K.moved (u := U) (U := U.calling g mk a) (Vm.Alike.refl U.vm) qK, qD⟩, fun U hU hW => ⟨rfl, by rw [hU], by rw [hU]; exact hPc, va_K.moved hW.alike hKc, hDc.weaken (fun _ _ _ _ => trivial)⟩⟩ rfl rfl hl.1 rfl (lv_room (Nat.le_of_ble_eq_true rfl)) dX23_takeLife_27 ⟨(show 0 + 0 ≤ 0 by omega), (show 0 + 0 ≤ 0 by omega)⟩) hS (fun q _ h => hFc q h) hFc (fun r_4 u tS H1 locs ht hvm hw hB hz1 hk1 hS => ?_)
        obtain ⟨hP1, hK1, hD1⟩ := hB
        rw [ht] at hP1
        have hK1 := va_K.moved hvm.symm hK1
        obtain ⟨hP, hD⟩ := va_join (wr := [(mr 5, .inl (kI, 3002, .inl fk)), (mr 6, .inl (kI, 3002, .inl fa)), (mr 7, .inl (kI, 3002, .inl fe)), (mr 8, .inl (kL, 3002, .inr (.inl fn))), (m9, .inr (23, mA mr mv vf xl (nI zs) xf xa (nI tk) xp xi xt xn xe xv xb)), (mr 0, .inl (kI, 3000, .inl ft))]) (w1 := []) hP hD [] [0, 1, 2, 3, 4, 5] rfl rfl (by decide) (by decide) hk1 hFc hP1 hD1
        generalize H1 = H at hP hS ⊢
        have hP : va_P (dC, dI) vwCl [(mr 5, .inl (kI, 3002, .inl fk)), (mr 6, .inl (kI, 3002, .inl fa)), (mr 7, .inl (kI, 3002, .inl fe)), (mr 8, .inl (kL, 3002, .inr (.inl fn))), (m9, .inr (23, mA mr mv vf xl (nI zs) xf xa (nI tk) xp xi xt xn xe xv xb)), (mr 0, .inl (kI, 3000, .inl ft))] H := hP
        have hD : va_D A [(mr 5, .inl (kI, 3002, .inl fk)), (mr 6, .inl (kI, 3002, .inl fa)), (mr 7, .inl (kI, 3002, .inl fe)), (mr 8, .inl (kL, 3002, .inr (.inl fn))), (m9, .inr (23, mA mr mv vf xl (nI zs) xf xa (nI tk) xp xi xt xn xe xv xb)), (mr 0, .inl (kI, 3000, .inl ft))] := hD
        have hK : va_K (dC, dI) vwCl [(kI, .int), (kL, .long)] s := hK
        have hr_4 : r_4 = letF r_3 := hw.2
        refine lv_if_eq (tgt := 39) hx hb dX23_takeLife_30 (by decide) (fun hlx => ?_) (fun hlx => ?_)
        · refine lv_iload_n hx hb dX23_takeLife_39 rfl (lv_at hl 0 rfl) ?_
          refine lv_iload_n hx hb dX23_takeLife_40 rfl (lv_at hl 2 rfl) ?_
          refine lv_iconst (v := 1) hx hb dX23_takeLife_41 (by decide) ?_
          refine lv_iadd hx hb dX23_takeLife_42 ?_
          refine lv_topi (fun f_5 ef_5 => ?_)
          obtain rfl : f_5 = nI (i0 + 1) := ef_5.trans (nI_1 _)
          refine lv_icmp_le (tgt := 70) hx hb dX23_takeLife_43 (by decide) (fun he1 => ?_) (fun he1 => ?_)
          · refine lv_iconst (v := 0) hx hb dX23_takeLife_70 (by decide) ?_
            refine lv_istore_n (lv' := [(3, .int 0), (2, .int (nI i)), (0, .ref m9), (1, .int (nI i0))]) hx hb dX23_takeLife_71 rfl hl (by decide) rfl (fun ls hl => ?_)
            refine lv_aload_n hx hb dX23_takeLife_72 rfl (lv_at hl 2 rfl) ?_
            refine lv_iload_n hx hb dX23_takeLife_73 rfl (lv_at hl 0 rfl) ?_
            refine lv_if_eq (tgt := 81) hx hb dX23_takeLife_74 (by decide) (fun _ => ?_) (fun c_6 => absurd (by decide) c_6)
            refine lv_iconst (v := 1) hx hb dX23_takeLife_81 (by decide) ?_
            refine lv_iload_n hx hb dX23_takeLife_82 rfl (lv_at hl 3 rfl) ?_
            refine lv_iload_n hx hb dX23_takeLife_83 rfl (lv_at hl 1 rfl) ?_
            refine lv_lconst (v := 0) hx hb dX23_takeLife_84 (by decide) ?_
            have hPc := hP.sub (ws' := [(m9, .inr (23, mA mr mv vf xl (nI zs) xf xa (nI tk) xp xi xt xn xe xv xb)), (mr 5, .inl (kI, 3002, .inl fk)), (mr 6, .inl (kI, 3002, .inl fa)), (mr 7, .inl (kI, 3002, .inl fe)), (mr 8, .inl (kL, 3002, .inr (.inl fn)))]) [4, 0, 1, 2, 3] rfl
            have hDc := hD.sub (ws' := [(m9, .inr (23, mA mr mv vf xl (nI zs) xf xa (nI tk) xp xi xt xn xe xv xb)), (mr 5, .inl (kI, 3002, .inl fk)), (mr 6, .inl (kI, 3002, .inl fa)), (mr 7, .inl (kI, 3002, .inl fe)), (mr 8, .inl (kL, 3002, .inr (.inl fn)))]) [4, 0, 1, 2, 3] (by decide) rfl
            have hKc := hK.sub (tys' := [(kI, .int), (kL, .long)]) [0, 1] rfl
            have hFc := va_free (wc := [(m9, .inr (23, mA mr mv vf xl (nI zs) xf xa (nI tk) xp xi xt xn xe xv xb)), (mr 5, .inl (kI, 3002, .inl fk)), (mr 6, .inl (kI, 3002, .inl fa)), (mr 7, .inl (kI, 3002, .inl fe)), (mr 8, .inl (kL, 3002, .inr (.inl fn)))]) hD hS hA [4, 0, 1, 2, 3] rfl
            refine va_callv (va_runV (As := [.int 1, .int (nI i0), .int (nI i), .long 0]) (rest := []) ⟨hx, hb, hml, hown, hts⟩ (c_radd l dC dI m9 mr mv vf xl xf xa xp xi xt xn xe xv xb zs tk kI kL ft fk fa fe fn 1 (nI i0) (nI i) 0 H.size htk) (cwV 4 hts g_c_rlif_c_radd_85 rfl rfl rfl (by decide +kernel) ⟨Nat.le_of_ble_eq_true rfl, Nat.le_of_ble_eq_true rfl⟩) ⟨fun a U g mk q => by obtain ⟨q0, q1, qP, qK, qD⟩ := q; exact ⟨q0, q1, qP, va_K.moved (u := U) (U := U.calling g mk a) (Vm.Alike.refl U.vm) qK, qD⟩, va_recv hKc hPc (ci := 23) (q0 := 0) rfl rfl, fun U hU hW => ⟨rfl, by rw [hU], by rw [hU]; exact hPc, va_K.moved hW.alike hKc, hDc.weaken (fun _ _ _ _ => trivial)⟩⟩ rfl rfl hl.1 rfl (lv_room (Nat.le_of_ble_eq_true rfl)) dX23_takeLife_85 ⟨(show 0 + 0 ≤ 0 by omega), (show 0 + 0 ≤ 0 by omega)⟩) hS (fun q _ h => hFc q h) hFc (fun u tS H1 locs ht hvm hw hB hz1 hk1 hS => ?_)
            obtain ⟨gn9, hP1, hK1, hD1⟩ := hB
            rw [ht] at hP1
            have hK1 := va_K.moved hvm.symm hK1
            obtain ⟨hP, hD⟩ := va_join (wr := [(mr 0, .inl (kI, 3000, .inl ft))]) (w1 := [(m9, .inr (23, mA mr mv vf xl (nI zs) xf xa (nI (tk + 1)) xp xi xt xn xe xv xb)), (mr 5, .inl (kI, 3002, .inl (upd fk tk 1))), (mr 6, .inl (kI, 3002, .inl (upd fa tk (nI i0)))), (mr 7, .inl (kI, 3002, .inl (upd fe tk (nI i)))), (mr 8, .inl (kL, 3002, .inr (.inl gn9)))]) hP hD [4, 0, 1, 2, 3] [5] rfl rfl (by decide) (by decide) hk1 hFc hP1 hD1
            have hK := hK.app hK1
            generalize H1 = H at hP hS ⊢
            have hP : va_P (dC, dI) vwCl [(mr 0, .inl (kI, 3000, .inl ft)), (m9, .inr (23, mA mr mv vf xl (nI zs) xf xa (nI (tk + 1)) xp xi xt xn xe xv xb)), (mr 5, .inl (kI, 3002, .inl (upd fk tk 1))), (mr 6, .inl (kI, 3002, .inl (upd fa tk (nI i0)))), (mr 7, .inl (kI, 3002, .inl (upd fe tk (nI i)))), (mr 8, .inl (kL, 3002, .inr (.inl gn9)))] H := hP
            have hD : va_D A [(mr 0, .inl (kI, 3000, .inl ft)), (m9, .inr (23, mA mr mv vf xl (nI zs) xf xa (nI (tk + 1)) xp xi xt xn xe xv xb)), (mr 5, .inl (kI, 3002, .inl (upd fk tk 1))), (mr 6, .inl (kI, 3002, .inl (upd fa tk (nI i0)))), (mr 7, .inl (kI, 3002, .inl (upd fe tk (nI i)))), (mr 8, .inl (kL, 3002, .inr (.inl gn9)))] := hD
            have hK : va_K (dC, dI) vwCl [(kI, .int), (kL, .long), (kI, .int), (kL, .long)] s := hK
            have hK := hK.sub (tys' := [(kI, .int), (kL, .long)]) [0, 1] rfl
            have hP : va_P (dC, dI) vwCl [(mr 0, .inl (kI, 3000, .inl ft)), (m9, .inr (23, mA mr mv vf xl (nI zs) xf xa (nI (tk + 1)) xp xi xt xn xe xv xb)), (mr 5, .inl (kI, 3002, .inl (upd fk tk 1))), (mr 6, .inl (kI, 3002, .inl (upd fa tk (nI i0)))), (mr 7, .inl (kI, 3002, .inl (upd fe tk (nI i)))), (mr 8, .inl (kL, 3002, .inr (.inl gn9)))] H := hP
            have hD : va_D A [(mr 0, .inl (kI, 3000, .inl ft)), (m9, .inr (23, mA mr mv vf xl (nI zs) xf xa (nI (tk + 1)) xp xi xt xn xe xv xb)), (mr 5, .inl (kI, 3002, .inl (upd fk tk 1))), (mr 6, .inl (kI, 3002, .inl (upd fa tk (nI i0)))), (mr 7, .inl (kI, 3002, .inl (upd fe tk (nI i)))), (mr 8, .inl (kL, 3002, .inr (.inl gn9)))] := hD
            refine lv_iload_n hx hb dX23_takeLife_88 rfl (lv_at hl 1 rfl) ?_
            have hP9 := hP.sub (ws' := [(m9, .inr (23, mA mr mv vf xl (nI zs) xf xa (nI (tk + 1)) xp xi xt xn xe xv xb)), (mr 0, .inl (kI, 3000, .inl ft)), (mr 5, .inl (kI, 3002, .inl (upd fk tk 1))), (mr 6, .inl (kI, 3002, .inl (upd fa tk (nI i0)))), (mr 7, .inl (kI, 3002, .inl (upd fe tk (nI i)))), (mr 8, .inl (kL, 3002, .inr (.inl gn9)))]) [1, 0, 2, 3, 4, 5] rfl
            have hD9 := hD.sub (ws' := [(m9, .inr (23, mA mr mv vf xl (nI zs) xf xa (nI (tk + 1)) xp xi xt xn xe xv xb)), (mr 0, .inl (kI, 3000, .inl ft)), (mr 5, .inl (kI, 3002, .inl (upd fk tk 1))), (mr 6, .inl (kI, 3002, .inl (upd fa tk (nI i0)))), (mr 7, .inl (kI, 3002, .inl (upd fe tk (nI i)))), (mr 8, .inl (kL, 3002, .inr (.inl gn9)))]) [1, 0, 2, 3, 4, 5] (by decide) rfl
            have hK9 := hK.sub (tys' := [(kI, .int), (kL, .long)]) [0, 1] rfl
            subst hQ1
            exact W.iret (v := nI i) hx hb hr (fun tS ht hW => ⟨⟨(nI i), i, rfl, rfl, 1, gn9, ⟨by omega, by omega, by decide, by decide⟩, by rw [ht]; exact hP9, va_K.moved hW.alike hK9, hD9⟩, hS.F ht⟩) hS.2.2 dX23_takeLife_89
          · refine lv_iload_n hx hb dX23_takeLife_46 rfl (lv_at hl 0 rfl) ?_
            refine lv_iload_n hx hb dX23_takeLife_47 rfl (lv_at hl 2 rfl) ?_
            refine lv_isub hx hb dX23_takeLife_48 ?_
            refine lv_topi (fun f_6 ef_6 => ?_)
            obtain rfl : f_6 = nI (i - i0) := ef_6.trans (pk_sub (a := i) (b := i0) (by omega))
            refine lv_bipush (v := 21) hx hb dX23_takeLife_49 (by decide) ?_
            refine lv_icmp_gt (tgt := 70) hx hb dX23_takeLife_51 (by decide) (fun he2 => ?_) (fun he2 => ?_)
            · refine lv_iconst (v := 0) hx hb dX23_takeLife_70 (by decide) ?_
              refine lv_istore_n (lv' := [(3, .int 0), (2, .int (nI i)), (0, .ref m9), (1, .int (nI i0))]) hx hb dX23_takeLife_71 rfl hl (by decide) rfl (fun ls hl => ?_)
              refine lv_aload_n hx hb dX23_takeLife_72 rfl (lv_at hl 2 rfl) ?_
              refine lv_iload_n hx hb dX23_takeLife_73 rfl (lv_at hl 0 rfl) ?_
              refine lv_if_eq (tgt := 81) hx hb dX23_takeLife_74 (by decide) (fun _ => ?_) (fun c_7 => absurd (by decide) c_7)
              refine lv_iconst (v := 1) hx hb dX23_takeLife_81 (by decide) ?_
              refine lv_iload_n hx hb dX23_takeLife_82 rfl (lv_at hl 3 rfl) ?_
              refine lv_iload_n hx hb dX23_takeLife_83 rfl (lv_at hl 1 rfl) ?_
              refine lv_lconst (v := 0) hx hb dX23_takeLife_84 (by decide) ?_
              have hPc := hP.sub (ws' := [(m9, .inr (23, mA mr mv vf xl (nI zs) xf xa (nI tk) xp xi xt xn xe xv xb)), (mr 5, .inl (kI, 3002, .inl fk)), (mr 6, .inl (kI, 3002, .inl fa)), (mr 7, .inl (kI, 3002, .inl fe)), (mr 8, .inl (kL, 3002, .inr (.inl fn)))]) [4, 0, 1, 2, 3] rfl
              have hDc := hD.sub (ws' := [(m9, .inr (23, mA mr mv vf xl (nI zs) xf xa (nI tk) xp xi xt xn xe xv xb)), (mr 5, .inl (kI, 3002, .inl fk)), (mr 6, .inl (kI, 3002, .inl fa)), (mr 7, .inl (kI, 3002, .inl fe)), (mr 8, .inl (kL, 3002, .inr (.inl fn)))]) [4, 0, 1, 2, 3] (by decide) rfl
              have hKc := hK.sub (tys' := [(kI, .int), (kL, .long)]) [0, 1] rfl
              have hFc := va_free (wc := [(m9, .inr (23, mA mr mv vf xl (nI zs) xf xa (nI tk) xp xi xt xn xe xv xb)), (mr 5, .inl (kI, 3002, .inl fk)), (mr 6, .inl (kI, 3002, .inl fa)), (mr 7, .inl (kI, 3002, .inl fe)), (mr 8, .inl (kL, 3002, .inr (.inl fn)))]) hD hS hA [4, 0, 1, 2, 3] rfl
              refine va_callv (va_runV (As := [.int 1, .int (nI i0), .int (nI i), .long 0]) (rest := []) ⟨hx, hb, hml, hown, hts⟩ (c_radd l dC dI m9 mr mv vf xl xf xa xp xi xt xn xe xv xb zs tk kI kL ft fk fa fe fn 1 (nI i0) (nI i) 0 H.size htk) (cwV 4 hts g_c_rlif_c_radd_85 rfl rfl rfl (by decide +kernel) ⟨Nat.le_of_ble_eq_true rfl, Nat.le_of_ble_eq_true rfl⟩) ⟨fun a U g mk q => by obtain ⟨q0, q1, qP, qK, qD⟩ := q; exact ⟨q0, q1, qP, va_K.moved (u := U) (U := U.calling g mk a) (Vm.Alike.refl U.vm) qK, qD⟩, va_recv hKc hPc (ci := 23) (q0 := 0) rfl rfl, fun U hU hW => ⟨rfl, by rw [hU], by rw [hU]; exact hPc, va_K.moved hW.alike hKc, hDc.weaken (fun _ _ _ _ => trivial)⟩⟩ rfl rfl hl.1 rfl (lv_room (Nat.le_of_ble_eq_true rfl)) dX23_takeLife_85 ⟨(show 0 + 0 ≤ 0 by omega), (show 0 + 0 ≤ 0 by omega)⟩) hS (fun q _ h => hFc q h) hFc (fun u tS H1 locs ht hvm hw hB hz1 hk1 hS => ?_)
              obtain ⟨gn9, hP1, hK1, hD1⟩ := hB
              rw [ht] at hP1
              have hK1 := va_K.moved hvm.symm hK1
              obtain ⟨hP, hD⟩ := va_join (wr := [(mr 0, .inl (kI, 3000, .inl ft))]) (w1 := [(m9, .inr (23, mA mr mv vf xl (nI zs) xf xa (nI (tk + 1)) xp xi xt xn xe xv xb)), (mr 5, .inl (kI, 3002, .inl (upd fk tk 1))), (mr 6, .inl (kI, 3002, .inl (upd fa tk (nI i0)))), (mr 7, .inl (kI, 3002, .inl (upd fe tk (nI i)))), (mr 8, .inl (kL, 3002, .inr (.inl gn9)))]) hP hD [4, 0, 1, 2, 3] [5] rfl rfl (by decide) (by decide) hk1 hFc hP1 hD1
              have hK := hK.app hK1
              generalize H1 = H at hP hS ⊢
              have hP : va_P (dC, dI) vwCl [(mr 0, .inl (kI, 3000, .inl ft)), (m9, .inr (23, mA mr mv vf xl (nI zs) xf xa (nI (tk + 1)) xp xi xt xn xe xv xb)), (mr 5, .inl (kI, 3002, .inl (upd fk tk 1))), (mr 6, .inl (kI, 3002, .inl (upd fa tk (nI i0)))), (mr 7, .inl (kI, 3002, .inl (upd fe tk (nI i)))), (mr 8, .inl (kL, 3002, .inr (.inl gn9)))] H := hP
              have hD : va_D A [(mr 0, .inl (kI, 3000, .inl ft)), (m9, .inr (23, mA mr mv vf xl (nI zs) xf xa (nI (tk + 1)) xp xi xt xn xe xv xb)), (mr 5, .inl (kI, 3002, .inl (upd fk tk 1))), (mr 6, .inl (kI, 3002, .inl (upd fa tk (nI i0)))), (mr 7, .inl (kI, 3002, .inl (upd fe tk (nI i)))), (mr 8, .inl (kL, 3002, .inr (.inl gn9)))] := hD
              have hK : va_K (dC, dI) vwCl [(kI, .int), (kL, .long), (kI, .int), (kL, .long)] s := hK
              have hK := hK.sub (tys' := [(kI, .int), (kL, .long)]) [0, 1] rfl
              have hP : va_P (dC, dI) vwCl [(mr 0, .inl (kI, 3000, .inl ft)), (m9, .inr (23, mA mr mv vf xl (nI zs) xf xa (nI (tk + 1)) xp xi xt xn xe xv xb)), (mr 5, .inl (kI, 3002, .inl (upd fk tk 1))), (mr 6, .inl (kI, 3002, .inl (upd fa tk (nI i0)))), (mr 7, .inl (kI, 3002, .inl (upd fe tk (nI i)))), (mr 8, .inl (kL, 3002, .inr (.inl gn9)))] H := hP
              have hD : va_D A [(mr 0, .inl (kI, 3000, .inl ft)), (m9, .inr (23, mA mr mv vf xl (nI zs) xf xa (nI (tk + 1)) xp xi xt xn xe xv xb)), (mr 5, .inl (kI, 3002, .inl (upd fk tk 1))), (mr 6, .inl (kI, 3002, .inl (upd fa tk (nI i0)))), (mr 7, .inl (kI, 3002, .inl (upd fe tk (nI i)))), (mr 8, .inl (kL, 3002, .inr (.inl gn9)))] := hD
              refine lv_iload_n hx hb dX23_takeLife_88 rfl (lv_at hl 1 rfl) ?_
              have hP9 := hP.sub (ws' := [(m9, .inr (23, mA mr mv vf xl (nI zs) xf xa (nI (tk + 1)) xp xi xt xn xe xv xb)), (mr 0, .inl (kI, 3000, .inl ft)), (mr 5, .inl (kI, 3002, .inl (upd fk tk 1))), (mr 6, .inl (kI, 3002, .inl (upd fa tk (nI i0)))), (mr 7, .inl (kI, 3002, .inl (upd fe tk (nI i)))), (mr 8, .inl (kL, 3002, .inr (.inl gn9)))]) [1, 0, 2, 3, 4, 5] rfl
              have hD9 := hD.sub (ws' := [(m9, .inr (23, mA mr mv vf xl (nI zs) xf xa (nI (tk + 1)) xp xi xt xn xe xv xb)), (mr 0, .inl (kI, 3000, .inl ft)), (mr 5, .inl (kI, 3002, .inl (upd fk tk 1))), (mr 6, .inl (kI, 3002, .inl (upd fa tk (nI i0)))), (mr 7, .inl (kI, 3002, .inl (upd fe tk (nI i)))), (mr 8, .inl (kL, 3002, .inr (.inl gn9)))]) [1, 0, 2, 3, 4, 5] (by decide) rfl
              have hK9 := hK.sub (tys' := [(kI, .int), (kL, .long)]) [0, 1] rfl
              subst hQ1
              exact W.iret (v := nI i) hx hb hr (fun tS ht hW => ⟨⟨(nI i), i, rfl, rfl, 1, gn9, ⟨by omega, by omega, by decide, by decide⟩, by rw [ht]; exact hP9, va_K.moved hW.alike hK9, hD9⟩, hS.F ht⟩) hS.2.2 dX23_takeLife_89
            · refine lv_aload_n hx hb dX23_takeLife_54 rfl (lv_at hl 1 rfl) ?_
              refine lv_iload_n hx hb dX23_takeLife_55 rfl (lv_at hl 2 rfl) ?_
              refine lv_iconst (v := 1) hx hb dX23_takeLife_56 (by decide) ?_
              refine lv_iadd hx hb dX23_takeLife_57 ?_
              refine lv_topi (fun f_7 ef_7 => ?_)
              obtain rfl : f_7 = nI (i0 + 1) := ef_7.trans (nI_1 _)
              refine lv_iload_n hx hb dX23_takeLife_58 rfl (lv_at hl 0 rfl) ?_
              have hPc := hP.sub (ws' := [(m9, .inr (23, mA mr mv vf xl (nI zs) xf xa (nI tk) xp xi xt xn xe xv xb)), (mr 0, .inl (kI, 3000, .inl ft))]) [4, 5] rfl
              have hDc := hD.sub (ws' := [(m9, .inr (23, mA mr mv vf xl (nI zs) xf xa (nI tk) xp xi xt xn xe xv xb)), (mr 0, .inl (kI, 3000, .inl ft))]) [4, 5] (by decide) rfl
              have hKc := hK.sub (tys' := [(kI, .int)]) [0] rfl
              have hFc := va_free (wc := [(m9, .inr (23, mA mr mv vf xl (nI zs) xf xa (nI tk) xp xi xt xn xe xv xb)), (mr 0, .inl (kI, 3000, .inl ft))]) hD hS hA [4, 5] rfl
              refine va_calli (va_runV (As := [.int (nI (i0 + 1)), .int (nI i)]) (rest := []) ⟨hx, hb, hml, hown, hts⟩ (c_rwo l dC dI m9 mr mv vf xl xf xa xp xi xt xn xe xv xb zs tk (i0 + 1) i kI ft t0 t1 t2 t3 H.size (by omega)) (cwV 2 hts g_c_rlif_c_rwo_59 rfl rfl rfl (by decide +kernel) ⟨Nat.le_of_ble_eq_true rfl, Nat.le_of_ble_eq_true rfl⟩) ⟨fun a U g mk q => by obtain ⟨q0, q1, qP, qK, qD, qx0⟩ := q; exact ⟨q0, q1, qP, va_K.moved (u := U) (U := U.calling g mk a) (Vm.Alike.refl U.vm) qK, qD, stA.moved (u := U) (U := U.calling g mk a) (Vm.Alike.refl U.vm) qx0⟩, va_recv hKc hPc (ci := 23) (q0 := 0) rfl rfl, fun U hU hW => ⟨rfl, by rw [hU], by rw [hU]; exact hPc, va_K.moved hW.alike hKc, hDc.weaken (fun _ _ _ _ => trivial), by rw [hU]; exact ((hpre0.kept hS.2.1).moved hW.alike).narrow hFc⟩⟩ rfl rfl hl.1 rfl (lv_room (Nat.le_of_ble_eq_true rfl)) dX23_takeLife_59 ⟨(show 0 + 0 ≤ 0 by omega), (show 0 + 0 ≤ 0 by omega)⟩) hS (fun q _ h => hFc q h) hFc (fun r_8 u tS H1 locs ht hvm hw hB hz1 hk1 hS => ?_)
              obtain ⟨hP1, hK1, hD1⟩ := hB
              rw [ht] at hP1
              have hK1 := va_K.moved hvm.symm hK1
              obtain ⟨hP, hD⟩ := va_join (wr := [(mr 5, .inl (kI, 3002, .inl fk)), (mr 6, .inl (kI, 3002, .inl fa)), (mr 7, .inl (kI, 3002, .inl fe)), (mr 8, .inl (kL, 3002, .inr (.inl fn)))]) (w1 := [(m9, .inr (23, mA mr mv vf xl (nI zs) xf xa (nI tk) xp xi xt xn xe xv xb)), (mr 0, .inl (kI, 3000, .inl ft))]) hP hD [4, 5] [0, 1, 2, 3] rfl rfl (by decide) (by decide) hk1 hFc hP1 hD1
              have hK := hK.app hK1
              generalize H1 = H at hP hS ⊢
              have hP : va_P (dC, dI) vwCl [(mr 5, .inl (kI, 3002, .inl fk)), (mr 6, .inl (kI, 3002, .inl fa)), (mr 7, .inl (kI, 3002, .inl fe)), (mr 8, .inl (kL, 3002, .inr (.inl fn))), (m9, .inr (23, mA mr mv vf xl (nI zs) xf xa (nI tk) xp xi xt xn xe xv xb)), (mr 0, .inl (kI, 3000, .inl ft))] H := hP
              have hD : va_D A [(mr 5, .inl (kI, 3002, .inl fk)), (mr 6, .inl (kI, 3002, .inl fa)), (mr 7, .inl (kI, 3002, .inl fe)), (mr 8, .inl (kL, 3002, .inr (.inl fn))), (m9, .inr (23, mA mr mv vf xl (nI zs) xf xa (nI tk) xp xi xt xn xe xv xb)), (mr 0, .inl (kI, 3000, .inl ft))] := hD
              have hK : va_K (dC, dI) vwCl [(kI, .int), (kL, .long), (kI, .int)] s := hK
              have hK := hK.sub (tys' := [(kI, .int), (kL, .long)]) [0, 1] rfl
              have hP : va_P (dC, dI) vwCl [(mr 5, .inl (kI, 3002, .inl fk)), (mr 6, .inl (kI, 3002, .inl fa)), (mr 7, .inl (kI, 3002, .inl fe)), (mr 8, .inl (kL, 3002, .inr (.inl fn))), (m9, .inr (23, mA mr mv vf xl (nI zs) xf xa (nI tk) xp xi xt xn xe xv xb)), (mr 0, .inl (kI, 3000, .inl ft))] H := hP
              have hD : va_D A [(mr 5, .inl (kI, 3002, .inl fk)), (mr 6, .inl (kI, 3002, .inl fa)), (mr 7, .inl (kI, 3002, .inl fe)), (mr 8, .inl (kL, 3002, .inr (.inl fn))), (m9, .inr (23, mA mr mv vf xl (nI zs) xf xa (nI tk) xp xi xt xn xe xv xb)), (mr 0, .inl (kI, 3000, .inl ft))] := hD
              refine lv_iconst (v := 2) hx hb dX23_takeLife_62 (by decide) ?_
              refine lv_icmp_ne (tgt := 70) hx hb dX23_takeLife_63 (by decide) (fun he3 => ?_) (fun he3 => ?_)
              · refine lv_iconst (v := 0) hx hb dX23_takeLife_70 (by decide) ?_
                refine lv_istore_n (lv' := [(3, .int 0), (2, .int (nI i)), (0, .ref m9), (1, .int (nI i0))]) hx hb dX23_takeLife_71 rfl hl (by decide) rfl (fun ls hl => ?_)
                refine lv_aload_n hx hb dX23_takeLife_72 rfl (lv_at hl 2 rfl) ?_
                refine lv_iload_n hx hb dX23_takeLife_73 rfl (lv_at hl 0 rfl) ?_
                refine lv_if_eq (tgt := 81) hx hb dX23_takeLife_74 (by decide) (fun _ => ?_) (fun c_9 => absurd (by decide) c_9)
                refine lv_iconst (v := 1) hx hb dX23_takeLife_81 (by decide) ?_
                refine lv_iload_n hx hb dX23_takeLife_82 rfl (lv_at hl 3 rfl) ?_
                refine lv_iload_n hx hb dX23_takeLife_83 rfl (lv_at hl 1 rfl) ?_
                refine lv_lconst (v := 0) hx hb dX23_takeLife_84 (by decide) ?_
                have hPc := hP.sub (ws' := [(m9, .inr (23, mA mr mv vf xl (nI zs) xf xa (nI tk) xp xi xt xn xe xv xb)), (mr 5, .inl (kI, 3002, .inl fk)), (mr 6, .inl (kI, 3002, .inl fa)), (mr 7, .inl (kI, 3002, .inl fe)), (mr 8, .inl (kL, 3002, .inr (.inl fn)))]) [4, 0, 1, 2, 3] rfl
                have hDc := hD.sub (ws' := [(m9, .inr (23, mA mr mv vf xl (nI zs) xf xa (nI tk) xp xi xt xn xe xv xb)), (mr 5, .inl (kI, 3002, .inl fk)), (mr 6, .inl (kI, 3002, .inl fa)), (mr 7, .inl (kI, 3002, .inl fe)), (mr 8, .inl (kL, 3002, .inr (.inl fn)))]) [4, 0, 1, 2, 3] (by decide) rfl
                have hKc := hK.sub (tys' := [(kI, .int), (kL, .long)]) [0, 1] rfl
                have hFc := va_free (wc := [(m9, .inr (23, mA mr mv vf xl (nI zs) xf xa (nI tk) xp xi xt xn xe xv xb)), (mr 5, .inl (kI, 3002, .inl fk)), (mr 6, .inl (kI, 3002, .inl fa)), (mr 7, .inl (kI, 3002, .inl fe)), (mr 8, .inl (kL, 3002, .inr (.inl fn)))]) hD hS hA [4, 0, 1, 2, 3] rfl
                refine va_callv (va_runV (As := [.int 1, .int (nI i0), .int (nI i), .long 0]) (rest := []) ⟨hx, hb, hml, hown, hts⟩ (c_radd l dC dI m9 mr mv vf xl xf xa xp xi xt xn xe xv xb zs tk kI kL ft fk fa fe fn 1 (nI i0) (nI i) 0 H.size htk) (cwV 4 hts g_c_rlif_c_radd_85 rfl rfl rfl (by decide +kernel) ⟨Nat.le_of_ble_eq_true rfl, Nat.le_of_ble_eq_true rfl⟩) ⟨fun a U g mk q => by obtain ⟨q0, q1, qP, qK, qD⟩ := q; exact ⟨q0, q1, qP, va_K.moved (u := U) (U := U.calling g mk a) (Vm.Alike.refl U.vm) qK, qD⟩, va_recv hKc hPc (ci := 23) (q0 := 0) rfl rfl, fun U hU hW => ⟨rfl, by rw [hU], by rw [hU]; exact hPc, va_K.moved hW.alike hKc, hDc.weaken (fun _ _ _ _ => trivial)⟩⟩ rfl rfl hl.1 rfl (lv_room (Nat.le_of_ble_eq_true rfl)) dX23_takeLife_85 ⟨(show 0 + 0 ≤ 0 by omega), (show 0 + 0 ≤ 0 by omega)⟩) hS (fun q _ h => hFc q h) hFc (fun u tS H1 locs ht hvm hw hB hz1 hk1 hS => ?_)
                obtain ⟨gn9, hP1, hK1, hD1⟩ := hB
                rw [ht] at hP1
                have hK1 := va_K.moved hvm.symm hK1
                obtain ⟨hP, hD⟩ := va_join (wr := [(mr 0, .inl (kI, 3000, .inl ft))]) (w1 := [(m9, .inr (23, mA mr mv vf xl (nI zs) xf xa (nI (tk + 1)) xp xi xt xn xe xv xb)), (mr 5, .inl (kI, 3002, .inl (upd fk tk 1))), (mr 6, .inl (kI, 3002, .inl (upd fa tk (nI i0)))), (mr 7, .inl (kI, 3002, .inl (upd fe tk (nI i)))), (mr 8, .inl (kL, 3002, .inr (.inl gn9)))]) hP hD [4, 0, 1, 2, 3] [5] rfl rfl (by decide) (by decide) hk1 hFc hP1 hD1
                have hK := hK.app hK1
                generalize H1 = H at hP hS ⊢
                have hP : va_P (dC, dI) vwCl [(mr 0, .inl (kI, 3000, .inl ft)), (m9, .inr (23, mA mr mv vf xl (nI zs) xf xa (nI (tk + 1)) xp xi xt xn xe xv xb)), (mr 5, .inl (kI, 3002, .inl (upd fk tk 1))), (mr 6, .inl (kI, 3002, .inl (upd fa tk (nI i0)))), (mr 7, .inl (kI, 3002, .inl (upd fe tk (nI i)))), (mr 8, .inl (kL, 3002, .inr (.inl gn9)))] H := hP
                have hD : va_D A [(mr 0, .inl (kI, 3000, .inl ft)), (m9, .inr (23, mA mr mv vf xl (nI zs) xf xa (nI (tk + 1)) xp xi xt xn xe xv xb)), (mr 5, .inl (kI, 3002, .inl (upd fk tk 1))), (mr 6, .inl (kI, 3002, .inl (upd fa tk (nI i0)))), (mr 7, .inl (kI, 3002, .inl (upd fe tk (nI i)))), (mr 8, .inl (kL, 3002, .inr (.inl gn9)))] := hD
                have hK : va_K (dC, dI) vwCl [(kI, .int), (kL, .long), (kI, .int), (kL, .long)] s := hK
                have hK := hK.sub (tys' := [(kI, .int), (kL, .long)]) [0, 1] rfl
                have hP : va_P (dC, dI) vwCl [(mr 0, .inl (kI, 3000, .inl ft)), (m9, .inr (23, mA mr mv vf xl (nI zs) xf xa (nI (tk + 1)) xp xi xt xn xe xv xb)), (mr 5, .inl (kI, 3002, .inl (upd fk tk 1))), (mr 6, .inl (kI, 3002, .inl (upd fa tk (nI i0)))), (mr 7, .inl (kI, 3002, .inl (upd fe tk (nI i)))), (mr 8, .inl (kL, 3002, .inr (.inl gn9)))] H := hP
                have hD : va_D A [(mr 0, .inl (kI, 3000, .inl ft)), (m9, .inr (23, mA mr mv vf xl (nI zs) xf xa (nI (tk + 1)) xp xi xt xn xe xv xb)), (mr 5, .inl (kI, 3002, .inl (upd fk tk 1))), (mr 6, .inl (kI, 3002, .inl (upd fa tk (nI i0)))), (mr 7, .inl (kI, 3002, .inl (upd fe tk (nI i)))), (mr 8, .inl (kL, 3002, .inr (.inl gn9)))] := hD
                refine lv_iload_n hx hb dX23_takeLife_88 rfl (lv_at hl 1 rfl) ?_
                have hP9 := hP.sub (ws' := [(m9, .inr (23, mA mr mv vf xl (nI zs) xf xa (nI (tk + 1)) xp xi xt xn xe xv xb)), (mr 0, .inl (kI, 3000, .inl ft)), (mr 5, .inl (kI, 3002, .inl (upd fk tk 1))), (mr 6, .inl (kI, 3002, .inl (upd fa tk (nI i0)))), (mr 7, .inl (kI, 3002, .inl (upd fe tk (nI i)))), (mr 8, .inl (kL, 3002, .inr (.inl gn9)))]) [1, 0, 2, 3, 4, 5] rfl
                have hD9 := hD.sub (ws' := [(m9, .inr (23, mA mr mv vf xl (nI zs) xf xa (nI (tk + 1)) xp xi xt xn xe xv xb)), (mr 0, .inl (kI, 3000, .inl ft)), (mr 5, .inl (kI, 3002, .inl (upd fk tk 1))), (mr 6, .inl (kI, 3002, .inl (upd fa tk (nI i0)))), (mr 7, .inl (kI, 3002, .inl (upd fe tk (nI i)))), (mr 8, .inl (kL, 3002, .inr (.inl gn9)))]) [1, 0, 2, 3, 4, 5] (by decide) rfl
                have hK9 := hK.sub (tys' := [(kI, .int), (kL, .long)]) [0, 1] rfl
                subst hQ1
                exact W.iret (v := nI i) hx hb hr (fun tS ht hW => ⟨⟨(nI i), i, rfl, rfl, 1, gn9, ⟨by omega, by omega, by decide, by decide⟩, by rw [ht]; exact hP9, va_K.moved hW.alike hK9, hD9⟩, hS.F ht⟩) hS.2.2 dX23_takeLife_89
              · refine lv_iconst (v := 1) hx hb dX23_takeLife_66 (by decide) ?_
                refine lv_goto (tgt := 71) hx hb dX23_takeLife_67 (by decide) ?_
                refine lv_istore_n (lv' := [(3, .int 1), (2, .int (nI i)), (0, .ref m9), (1, .int (nI i0))]) hx hb dX23_takeLife_71 rfl hl (by decide) rfl (fun ls hl => ?_)
                refine lv_aload_n hx hb dX23_takeLife_72 rfl (lv_at hl 2 rfl) ?_
                refine lv_iload_n hx hb dX23_takeLife_73 rfl (lv_at hl 0 rfl) ?_
                refine lv_if_eq (tgt := 81) hx hb dX23_takeLife_74 (by decide) (fun c_9 => absurd c_9 (by decide)) (fun _ => ?_)
                refine lv_iconst (v := 4) hx hb dX23_takeLife_77 (by decide) ?_
                refine lv_goto (tgt := 82) hx hb dX23_takeLife_78 (by decide) ?_
                refine lv_iload_n hx hb dX23_takeLife_82 rfl (lv_at hl 3 rfl) ?_
                refine lv_iload_n hx hb dX23_takeLife_83 rfl (lv_at hl 1 rfl) ?_
                refine lv_lconst (v := 0) hx hb dX23_takeLife_84 (by decide) ?_
                have hPc := hP.sub (ws' := [(m9, .inr (23, mA mr mv vf xl (nI zs) xf xa (nI tk) xp xi xt xn xe xv xb)), (mr 5, .inl (kI, 3002, .inl fk)), (mr 6, .inl (kI, 3002, .inl fa)), (mr 7, .inl (kI, 3002, .inl fe)), (mr 8, .inl (kL, 3002, .inr (.inl fn)))]) [4, 0, 1, 2, 3] rfl
                have hDc := hD.sub (ws' := [(m9, .inr (23, mA mr mv vf xl (nI zs) xf xa (nI tk) xp xi xt xn xe xv xb)), (mr 5, .inl (kI, 3002, .inl fk)), (mr 6, .inl (kI, 3002, .inl fa)), (mr 7, .inl (kI, 3002, .inl fe)), (mr 8, .inl (kL, 3002, .inr (.inl fn)))]) [4, 0, 1, 2, 3] (by decide) rfl
                have hKc := hK.sub (tys' := [(kI, .int), (kL, .long)]) [0, 1] rfl
                have hFc := va_free (wc := [(m9, .inr (23, mA mr mv vf xl (nI zs) xf xa (nI tk) xp xi xt xn xe xv xb)), (mr 5, .inl (kI, 3002, .inl fk)), (mr 6, .inl (kI, 3002, .inl fa)), (mr 7, .inl (kI, 3002, .inl fe)), (mr 8, .inl (kL, 3002, .inr (.inl fn)))]) hD hS hA [4, 0, 1, 2, 3] rfl
                refine va_callv (va_runV (As := [.int 4, .int (nI i0), .int (nI i), .long 0]) (rest := []) ⟨hx, hb, hml, hown, hts⟩ (c_radd l dC dI m9 mr mv vf xl xf xa xp xi xt xn xe xv xb zs tk kI kL ft fk fa fe fn 4 (nI i0) (nI i) 0 H.size htk) (cwV 4 hts g_c_rlif_c_radd_85 rfl rfl rfl (by decide +kernel) ⟨Nat.le_of_ble_eq_true rfl, Nat.le_of_ble_eq_true rfl⟩) ⟨fun a U g mk q => by obtain ⟨q0, q1, qP, qK, qD⟩ := q; exact ⟨q0, q1, qP, va_K.moved (u := U) (U := U.calling g mk a) (Vm.Alike.refl U.vm) qK, qD⟩, va_recv hKc hPc (ci := 23) (q0 := 0) rfl rfl, fun U hU hW => ⟨rfl, by rw [hU], by rw [hU]; exact hPc, va_K.moved hW.alike hKc, hDc.weaken (fun _ _ _ _ => trivial)⟩⟩ rfl rfl hl.1 rfl (lv_room (Nat.le_of_ble_eq_true rfl)) dX23_takeLife_85 ⟨(show 0 + 0 ≤ 0 by omega), (show 0 + 0 ≤ 0 by omega)⟩) hS (fun q _ h => hFc q h) hFc (fun u tS H1 locs ht hvm hw hB hz1 hk1 hS => ?_)
                obtain ⟨gn9, hP1, hK1, hD1⟩ := hB
                rw [ht] at hP1
                have hK1 := va_K.moved hvm.symm hK1
                obtain ⟨hP, hD⟩ := va_join (wr := [(mr 0, .inl (kI, 3000, .inl ft))]) (w1 := [(m9, .inr (23, mA mr mv vf xl (nI zs) xf xa (nI (tk + 1)) xp xi xt xn xe xv xb)), (mr 5, .inl (kI, 3002, .inl (upd fk tk 4))), (mr 6, .inl (kI, 3002, .inl (upd fa tk (nI i0)))), (mr 7, .inl (kI, 3002, .inl (upd fe tk (nI i)))), (mr 8, .inl (kL, 3002, .inr (.inl gn9)))]) hP hD [4, 0, 1, 2, 3] [5] rfl rfl (by decide) (by decide) hk1 hFc hP1 hD1
                have hK := hK.app hK1
                generalize H1 = H at hP hS ⊢
                have hP : va_P (dC, dI) vwCl [(mr 0, .inl (kI, 3000, .inl ft)), (m9, .inr (23, mA mr mv vf xl (nI zs) xf xa (nI (tk + 1)) xp xi xt xn xe xv xb)), (mr 5, .inl (kI, 3002, .inl (upd fk tk 4))), (mr 6, .inl (kI, 3002, .inl (upd fa tk (nI i0)))), (mr 7, .inl (kI, 3002, .inl (upd fe tk (nI i)))), (mr 8, .inl (kL, 3002, .inr (.inl gn9)))] H := hP
                have hD : va_D A [(mr 0, .inl (kI, 3000, .inl ft)), (m9, .inr (23, mA mr mv vf xl (nI zs) xf xa (nI (tk + 1)) xp xi xt xn xe xv xb)), (mr 5, .inl (kI, 3002, .inl (upd fk tk 4))), (mr 6, .inl (kI, 3002, .inl (upd fa tk (nI i0)))), (mr 7, .inl (kI, 3002, .inl (upd fe tk (nI i)))), (mr 8, .inl (kL, 3002, .inr (.inl gn9)))] := hD
                have hK : va_K (dC, dI) vwCl [(kI, .int), (kL, .long), (kI, .int), (kL, .long)] s := hK
                have hK := hK.sub (tys' := [(kI, .int), (kL, .long)]) [0, 1] rfl
                have hP : va_P (dC, dI) vwCl [(mr 0, .inl (kI, 3000, .inl ft)), (m9, .inr (23, mA mr mv vf xl (nI zs) xf xa (nI (tk + 1)) xp xi xt xn xe xv xb)), (mr 5, .inl (kI, 3002, .inl (upd fk tk 4))), (mr 6, .inl (kI, 3002, .inl (upd fa tk (nI i0)))), (mr 7, .inl (kI, 3002, .inl (upd fe tk (nI i)))), (mr 8, .inl (kL, 3002, .inr (.inl gn9)))] H := hP
                have hD : va_D A [(mr 0, .inl (kI, 3000, .inl ft)), (m9, .inr (23, mA mr mv vf xl (nI zs) xf xa (nI (tk + 1)) xp xi xt xn xe xv xb)), (mr 5, .inl (kI, 3002, .inl (upd fk tk 4))), (mr 6, .inl (kI, 3002, .inl (upd fa tk (nI i0)))), (mr 7, .inl (kI, 3002, .inl (upd fe tk (nI i)))), (mr 8, .inl (kL, 3002, .inr (.inl gn9)))] := hD
                refine lv_iload_n hx hb dX23_takeLife_88 rfl (lv_at hl 1 rfl) ?_
                have hP9 := hP.sub (ws' := [(m9, .inr (23, mA mr mv vf xl (nI zs) xf xa (nI (tk + 1)) xp xi xt xn xe xv xb)), (mr 0, .inl (kI, 3000, .inl ft)), (mr 5, .inl (kI, 3002, .inl (upd fk tk 4))), (mr 6, .inl (kI, 3002, .inl (upd fa tk (nI i0)))), (mr 7, .inl (kI, 3002, .inl (upd fe tk (nI i)))), (mr 8, .inl (kL, 3002, .inr (.inl gn9)))]) [1, 0, 2, 3, 4, 5] rfl
                have hD9 := hD.sub (ws' := [(m9, .inr (23, mA mr mv vf xl (nI zs) xf xa (nI (tk + 1)) xp xi xt xn xe xv xb)), (mr 0, .inl (kI, 3000, .inl ft)), (mr 5, .inl (kI, 3002, .inl (upd fk tk 4))), (mr 6, .inl (kI, 3002, .inl (upd fa tk (nI i0)))), (mr 7, .inl (kI, 3002, .inl (upd fe tk (nI i)))), (mr 8, .inl (kL, 3002, .inr (.inl gn9)))]) [1, 0, 2, 3, 4, 5] (by decide) rfl
                have hK9 := hK.sub (tys' := [(kI, .int), (kL, .long)]) [0, 1] rfl
                subst hQ1
                exact W.iret (v := nI i) hx hb hr (fun tS ht hW => ⟨⟨(nI i), i, rfl, rfl, 4, gn9, ⟨by omega, by omega, by decide, by decide⟩, by rw [ht]; exact hP9, va_K.moved hW.alike hK9, hD9⟩, hS.F ht⟩) hS.2.2 dX23_takeLife_89
        · have hlt : i < zs := letF_lt (fun q => hlx (by rw [hr_4, hr_3]; exact q))
          obtain ⟨x_5, ex_5⟩ : ∃ yY : Int32, yY = (nI i) + 1 := ⟨_, rfl⟩
          refine lv_iinc (v := x_5) (lv' := [(2, .int x_5), (0, .ref m9), (1, .int (nI i0))]) hx hb dX23_takeLife_33 hl (k := 0) rfl (by rw [ex_5]; rfl) (by decide) rfl (fun ls hl => ?_)
          obtain rfl : x_5 = nI (i + 1) := by rw [ex_5]; exact nI_1 i
          have hl : lv_has ls 4 [(2, .int (nI (i + 1))), (0, .ref m9), (1, .int (nI i0))] := hl
          refine lv_goto (tgt := 4) hx hb dX23_takeLife_36 (by decide) ?_
          exact ih1 (i + 1) _ _ _ (by omega) (by omega) (hP.sub [4, 5, 0, 1, 2, 3] rfl) (hD.sub [4, 5, 0, 1, 2, 3] (by decide) rfl) hS (lv_sub hl [0, 1, 2] rfl)
      · refine lv_aload_n hx hb dX23_takeLife_11 rfl (lv_at hl 1 rfl) ?_
        refine lv_iload_n hx hb dX23_takeLife_12 rfl (lv_at hl 0 rfl) ?_
        have hPc := hP.sub (ws' := [(m9, .inr (23, mA mr mv vf xl (nI zs) xf xa (nI tk) xp xi xt xn xe xv xb)), (mr 0, .inl (kI, 3000, .inl ft))]) [0, 1] rfl
        have hDc := hD.sub (ws' := [(m9, .inr (23, mA mr mv vf xl (nI zs) xf xa (nI tk) xp xi xt xn xe xv xb)), (mr 0, .inl (kI, 3000, .inl ft))]) [0, 1] (by decide) rfl
        have hKc := hK.sub (tys' := [(kI, .int)]) [0] rfl
        have hFc := va_free (wc := [(m9, .inr (23, mA mr mv vf xl (nI zs) xf xa (nI tk) xp xi xt xn xe xv xb)), (mr 0, .inl (kI, 3000, .inl ft))]) hD hS hA [0, 1] rfl
        refine va_calli (va_runV (As := [.int (nI i)]) (rest := []) ⟨hx, hb, hml, hown, hts⟩ (c_rat l dC dI m9 mr mv vf xl xf xa xp xi xt xn xe xv xb zs tk i kI ft H.size hzs (by omega)) (cwV 1 hts g_c_rlif_c_rat_13 rfl rfl rfl (by decide +kernel) ⟨Nat.le_of_ble_eq_true rfl, Nat.le_of_ble_eq_true rfl⟩) ⟨fun a U g mk q => by obtain ⟨q0, q1, qP, qK, qD⟩ := q; exact ⟨q0, q1, qP, va_K.moved (u := U) (U := U.calling g mk a) (Vm.Alike.refl U.vm) qK, qD⟩, va_recv hKc hPc (ci := 23) (q0 := 0) rfl rfl, fun U hU hW => ⟨rfl, by rw [hU], by rw [hU]; exact hPc, va_K.moved hW.alike hKc, hDc.weaken (fun _ _ _ _ => trivial)⟩⟩ rfl rfl hl.1 rfl (lv_room (Nat.le_of_ble_eq_true rfl)) dX23_takeLife_13 ⟨(show 0 + 0 ≤ 0 by omega), (show 0 + 0 ≤ 0 by omega)⟩) hS (fun q _ h => hFc q h) hFc (fun r_3 u tS H1 locs ht hvm hw hB hz1 hk1 hS => ?_)
        obtain ⟨hP1, hK1, hD1⟩ := hB
        rw [ht] at hP1
        have hK1 := va_K.moved hvm.symm hK1
        obtain ⟨hP, hD⟩ := va_join (wr := [(mr 5, .inl (kI, 3002, .inl fk)), (mr 6, .inl (kI, 3002, .inl fa)), (mr 7, .inl (kI, 3002, .inl fe)), (mr 8, .inl (kL, 3002, .inr (.inl fn)))]) (w1 := [(m9, .inr (23, mA mr mv vf xl (nI zs) xf xa (nI tk) xp xi xt xn xe xv xb)), (mr 0, .inl (kI, 3000, .inl ft))]) hP hD [0, 1] [2, 3, 4, 5] rfl rfl (by decide) (by decide) hk1 hFc hP1 hD1
        have hK := hK.app hK1
        generalize H1 = H at hP hS ⊢
        have hP : va_P (dC, dI) vwCl [(mr 5, .inl (kI, 3002, .inl fk)), (mr 6, .inl (kI, 3002, .inl fa)), (mr 7, .inl (kI, 3002, .inl fe)), (mr 8, .inl (kL, 3002, .inr (.inl fn))), (m9, .inr (23, mA mr mv vf xl (nI zs) xf xa (nI tk) xp xi xt xn xe xv xb)), (mr 0, .inl (kI, 3000, .inl ft))] H := hP
        have hD : va_D A [(mr 5, .inl (kI, 3002, .inl fk)), (mr 6, .inl (kI, 3002, .inl fa)), (mr 7, .inl (kI, 3002, .inl fe)), (mr 8, .inl (kL, 3002, .inr (.inl fn))), (m9, .inr (23, mA mr mv vf xl (nI zs) xf xa (nI tk) xp xi xt xn xe xv xb)), (mr 0, .inl (kI, 3000, .inl ft))] := hD
        have hK : va_K (dC, dI) vwCl [(kI, .int), (kL, .long), (kI, .int)] s := hK
        have hK := hK.sub (tys' := [(kI, .int), (kL, .long)]) [0, 1] rfl
        have hP : va_P (dC, dI) vwCl [(mr 5, .inl (kI, 3002, .inl fk)), (mr 6, .inl (kI, 3002, .inl fa)), (mr 7, .inl (kI, 3002, .inl fe)), (mr 8, .inl (kL, 3002, .inr (.inl fn))), (m9, .inr (23, mA mr mv vf xl (nI zs) xf xa (nI tk) xp xi xt xn xe xv xb)), (mr 0, .inl (kI, 3000, .inl ft))] H := hP
        have hD : va_D A [(mr 5, .inl (kI, 3002, .inl fk)), (mr 6, .inl (kI, 3002, .inl fa)), (mr 7, .inl (kI, 3002, .inl fe)), (mr 8, .inl (kL, 3002, .inr (.inl fn))), (m9, .inr (23, mA mr mv vf xl (nI zs) xf xa (nI tk) xp xi xt xn xe xv xb)), (mr 0, .inl (kI, 3000, .inl ft))] := hD
        have hr_3 : r_3 = atF ft zs (i) := hw
        have hPc := hP.sub (ws' := []) [] rfl
        have hDc := hD.sub (ws' := []) [] (by decide) rfl
        have hKc := hK.sub (tys' := []) [] rfl
        have hFc := va_free (wc := []) hD hS hA [] rfl
        refine va_calli (va_runS (As := [.int r_3]) (rest := []) ⟨hx, hb, hml, hown, hts⟩ (c_rdig l dC dI r_3 H.size) (va_cwS 1 hts g_c_rlif_c_rdig_16 rfl rfl rfl (by decide +kernel) ⟨Nat.le_of_ble_eq_true rfl, Nat.le_of_ble_eq_true rfl⟩) ⟨fun a U g mk q => by obtain ⟨q0, q1, qP, qK, qD⟩ := q; exact ⟨q0, q1, qP, va_K.moved (u := U) (U := U.calling g mk a) (Vm.Alike.refl U.vm) qK, qD⟩, fun U hU hW => ⟨rfl, by rw [hU], by rw [hU]; exact hPc, va_K.moved hW.alike hKc, hDc.weaken (fun _ _ _ _ => trivial)⟩⟩ rfl rfl hl.1 rfl (lv_room (Nat.le_of_ble_eq_true rfl)) dX23_takeLife_16 ⟨(show 0 + 0 ≤ 0 by omega), (show 0 + 0 ≤ 0 by omega)⟩) hS (fun q _ h => hFc q h) hFc (fun r_4 u tS H1 locs ht hvm hw hB hz1 hk1 hS => ?_)
        obtain ⟨hP1, hK1, hD1⟩ := hB
        rw [ht] at hP1
        have hK1 := va_K.moved hvm.symm hK1
        obtain ⟨hP, hD⟩ := va_join (wr := [(mr 5, .inl (kI, 3002, .inl fk)), (mr 6, .inl (kI, 3002, .inl fa)), (mr 7, .inl (kI, 3002, .inl fe)), (mr 8, .inl (kL, 3002, .inr (.inl fn))), (m9, .inr (23, mA mr mv vf xl (nI zs) xf xa (nI tk) xp xi xt xn xe xv xb)), (mr 0, .inl (kI, 3000, .inl ft))]) (w1 := []) hP hD [] [0, 1, 2, 3, 4, 5] rfl rfl (by decide) (by decide) hk1 hFc hP1 hD1
        generalize H1 = H at hP hS ⊢
        have hP : va_P (dC, dI) vwCl [(mr 5, .inl (kI, 3002, .inl fk)), (mr 6, .inl (kI, 3002, .inl fa)), (mr 7, .inl (kI, 3002, .inl fe)), (mr 8, .inl (kL, 3002, .inr (.inl fn))), (m9, .inr (23, mA mr mv vf xl (nI zs) xf xa (nI tk) xp xi xt xn xe xv xb)), (mr 0, .inl (kI, 3000, .inl ft))] H := hP
        have hD : va_D A [(mr 5, .inl (kI, 3002, .inl fk)), (mr 6, .inl (kI, 3002, .inl fa)), (mr 7, .inl (kI, 3002, .inl fe)), (mr 8, .inl (kL, 3002, .inr (.inl fn))), (m9, .inr (23, mA mr mv vf xl (nI zs) xf xa (nI tk) xp xi xt xn xe xv xb)), (mr 0, .inl (kI, 3000, .inl ft))] := hD
        have hK : va_K (dC, dI) vwCl [(kI, .int), (kL, .long)] s := hK
        have hr_4 : r_4 = digF r_3 := hw.2
        refine lv_if_ne (tgt := 33) hx hb dX23_takeLife_19 (by decide) (fun hd1 => ?_) (fun hd1 => ?_)
        · have hlt : i < zs := digF_lt (fun q => hd1 (by rw [hr_4, hr_3]; exact q))
          obtain ⟨x_5, ex_5⟩ : ∃ yY : Int32, yY = (nI i) + 1 := ⟨_, rfl⟩
          refine lv_iinc (v := x_5) (lv' := [(2, .int x_5), (0, .ref m9), (1, .int (nI i0))]) hx hb dX23_takeLife_33 hl (k := 0) rfl (by rw [ex_5]; rfl) (by decide) rfl (fun ls hl => ?_)
          obtain rfl : x_5 = nI (i + 1) := by rw [ex_5]; exact nI_1 i
          have hl : lv_has ls 4 [(2, .int (nI (i + 1))), (0, .ref m9), (1, .int (nI i0))] := hl
          refine lv_goto (tgt := 4) hx hb dX23_takeLife_36 (by decide) ?_
          exact ih1 (i + 1) _ _ _ (by omega) (by omega) (hP.sub [4, 5, 0, 1, 2, 3] rfl) (hD.sub [4, 5, 0, 1, 2, 3] (by decide) rfl) hS (lv_sub hl [0, 1, 2] rfl)
        · refine lv_aload_n hx hb dX23_takeLife_22 rfl (lv_at hl 1 rfl) ?_
          refine lv_iload_n hx hb dX23_takeLife_23 rfl (lv_at hl 0 rfl) ?_
          have hPc := hP.sub (ws' := [(m9, .inr (23, mA mr mv vf xl (nI zs) xf xa (nI tk) xp xi xt xn xe xv xb)), (mr 0, .inl (kI, 3000, .inl ft))]) [4, 5] rfl
          have hDc := hD.sub (ws' := [(m9, .inr (23, mA mr mv vf xl (nI zs) xf xa (nI tk) xp xi xt xn xe xv xb)), (mr 0, .inl (kI, 3000, .inl ft))]) [4, 5] (by decide) rfl
          have hKc := hK.sub (tys' := [(kI, .int)]) [0] rfl
          have hFc := va_free (wc := [(m9, .inr (23, mA mr mv vf xl (nI zs) xf xa (nI tk) xp xi xt xn xe xv xb)), (mr 0, .inl (kI, 3000, .inl ft))]) hD hS hA [4, 5] rfl
          refine va_calli (va_runV (As := [.int (nI i)]) (rest := []) ⟨hx, hb, hml, hown, hts⟩ (c_rat l dC dI m9 mr mv vf xl xf xa xp xi xt xn xe xv xb zs tk i kI ft H.size hzs (by omega)) (cwV 1 hts g_c_rlif_c_rat_24 rfl rfl rfl (by decide +kernel) ⟨Nat.le_of_ble_eq_true rfl, Nat.le_of_ble_eq_true rfl⟩) ⟨fun a U g mk q => by obtain ⟨q0, q1, qP, qK, qD⟩ := q; exact ⟨q0, q1, qP, va_K.moved (u := U) (U := U.calling g mk a) (Vm.Alike.refl U.vm) qK, qD⟩, va_recv hKc hPc (ci := 23) (q0 := 0) rfl rfl, fun U hU hW => ⟨rfl, by rw [hU], by rw [hU]; exact hPc, va_K.moved hW.alike hKc, hDc.weaken (fun _ _ _ _ => trivial)⟩⟩ rfl rfl hl.1 rfl (lv_room (Nat.le_of_ble_eq_true rfl)) dX23_takeLife_24 ⟨(show 0 + 0 ≤ 0 by omega), (show 0 + 0 ≤ 0 by omega)⟩) hS (fun q _ h => hFc q h) hFc (fun r_5 u tS H1 locs ht hvm hw hB hz1 hk1 hS => ?_)
          obtain ⟨hP1, hK1, hD1⟩ := hB
          rw [ht] at hP1
          have hK1 := va_K.moved hvm.symm hK1
          obtain ⟨hP, hD⟩ := va_join (wr := [(mr 5, .inl (kI, 3002, .inl fk)), (mr 6, .inl (kI, 3002, .inl fa)), (mr 7, .inl (kI, 3002, .inl fe)), (mr 8, .inl (kL, 3002, .inr (.inl fn)))]) (w1 := [(m9, .inr (23, mA mr mv vf xl (nI zs) xf xa (nI tk) xp xi xt xn xe xv xb)), (mr 0, .inl (kI, 3000, .inl ft))]) hP hD [4, 5] [0, 1, 2, 3] rfl rfl (by decide) (by decide) hk1 hFc hP1 hD1
          have hK := hK.app hK1
          generalize H1 = H at hP hS ⊢
          have hP : va_P (dC, dI) vwCl [(mr 5, .inl (kI, 3002, .inl fk)), (mr 6, .inl (kI, 3002, .inl fa)), (mr 7, .inl (kI, 3002, .inl fe)), (mr 8, .inl (kL, 3002, .inr (.inl fn))), (m9, .inr (23, mA mr mv vf xl (nI zs) xf xa (nI tk) xp xi xt xn xe xv xb)), (mr 0, .inl (kI, 3000, .inl ft))] H := hP
          have hD : va_D A [(mr 5, .inl (kI, 3002, .inl fk)), (mr 6, .inl (kI, 3002, .inl fa)), (mr 7, .inl (kI, 3002, .inl fe)), (mr 8, .inl (kL, 3002, .inr (.inl fn))), (m9, .inr (23, mA mr mv vf xl (nI zs) xf xa (nI tk) xp xi xt xn xe xv xb)), (mr 0, .inl (kI, 3000, .inl ft))] := hD
          have hK : va_K (dC, dI) vwCl [(kI, .int), (kL, .long), (kI, .int)] s := hK
          have hK := hK.sub (tys' := [(kI, .int), (kL, .long)]) [0, 1] rfl
          have hP : va_P (dC, dI) vwCl [(mr 5, .inl (kI, 3002, .inl fk)), (mr 6, .inl (kI, 3002, .inl fa)), (mr 7, .inl (kI, 3002, .inl fe)), (mr 8, .inl (kL, 3002, .inr (.inl fn))), (m9, .inr (23, mA mr mv vf xl (nI zs) xf xa (nI tk) xp xi xt xn xe xv xb)), (mr 0, .inl (kI, 3000, .inl ft))] H := hP
          have hD : va_D A [(mr 5, .inl (kI, 3002, .inl fk)), (mr 6, .inl (kI, 3002, .inl fa)), (mr 7, .inl (kI, 3002, .inl fe)), (mr 8, .inl (kL, 3002, .inr (.inl fn))), (m9, .inr (23, mA mr mv vf xl (nI zs) xf xa (nI tk) xp xi xt xn xe xv xb)), (mr 0, .inl (kI, 3000, .inl ft))] := hD
          have hr_5 : r_5 = atF ft zs (i) := hw
          have hPc := hP.sub (ws' := []) [] rfl
          have hDc := hD.sub (ws' := []) [] (by decide) rfl
          have hKc := hK.sub (tys' := []) [] rfl
          have hFc := va_free (wc := []) hD hS hA [] rfl
          refine va_calli (va_runS (As := [.int r_5]) (rest := []) ⟨hx, hb, hml, hown, hts⟩ (c_rlet l dC dI r_5 H.size) (va_cwS 1 hts g_c_rlif_c_rlet_27 rfl rfl rfl (by decide +kernel) ⟨Nat.le_of_ble_eq_true rfl, Nat.le_of_ble_eq_true rfl⟩) ⟨fun a U g mk q => by obtain ⟨q0, q1, qP, qK, qD⟩ := q; exact ⟨q0, q1, qP, va_K.moved (u := U) (U := U.calling g mk a) (Vm.Alike.refl U.vm) qK, qD⟩, fun U hU hW => ⟨rfl, by rw [hU], by rw [hU]; exact hPc, va_K.moved hW.alike hKc, hDc.weaken (fun _ _ _ _ => trivial)⟩⟩ rfl rfl hl.1 rfl (lv_room (Nat.le_of_ble_eq_true rfl)) dX23_takeLife_27 ⟨(show 0 + 0 ≤ 0 by omega), (show 0 + 0 ≤ 0 by omega)⟩) hS (fun q _ h => hFc q h) hFc (fun r_6 u tS H1 locs ht hvm hw hB hz1 hk1 hS => ?_)
          obtain ⟨hP1, hK1, hD1⟩ := hB
          rw [ht] at hP1
          have hK1 := va_K.moved hvm.symm hK1
          obtain ⟨hP, hD⟩ := va_join (wr := [(mr 5, .inl (kI, 3002, .inl fk)), (mr 6, .inl (kI, 3002, .inl fa)), (mr 7, .inl (kI, 3002, .inl fe)), (mr 8, .inl (kL, 3002, .inr (.inl fn))), (m9, .inr (23, mA mr mv vf xl (nI zs) xf xa (nI tk) xp xi xt xn xe xv xb)), (mr 0, .inl (kI, 3000, .inl ft))]) (w1 := []) hP hD [] [0, 1, 2, 3, 4, 5] rfl rfl (by decide) (by decide) hk1 hFc hP1 hD1
          generalize H1 = H at hP hS ⊢
          have hP : va_P (dC, dI) vwCl [(mr 5, .inl (kI, 3002, .inl fk)), (mr 6, .inl (kI, 3002, .inl fa)), (mr 7, .inl (kI, 3002, .inl fe)), (mr 8, .inl (kL, 3002, .inr (.inl fn))), (m9, .inr (23, mA mr mv vf xl (nI zs) xf xa (nI tk) xp xi xt xn xe xv xb)), (mr 0, .inl (kI, 3000, .inl ft))] H := hP
          have hD : va_D A [(mr 5, .inl (kI, 3002, .inl fk)), (mr 6, .inl (kI, 3002, .inl fa)), (mr 7, .inl (kI, 3002, .inl fe)), (mr 8, .inl (kL, 3002, .inr (.inl fn))), (m9, .inr (23, mA mr mv vf xl (nI zs) xf xa (nI tk) xp xi xt xn xe xv xb)), (mr 0, .inl (kI, 3000, .inl ft))] := hD
          have hK : va_K (dC, dI) vwCl [(kI, .int), (kL, .long)] s := hK
          have hr_6 : r_6 = letF r_5 := hw.2
          refine lv_if_eq (tgt := 39) hx hb dX23_takeLife_30 (by decide) (fun hlx => ?_) (fun hlx => ?_)
          · refine lv_iload_n hx hb dX23_takeLife_39 rfl (lv_at hl 0 rfl) ?_
            refine lv_iload_n hx hb dX23_takeLife_40 rfl (lv_at hl 2 rfl) ?_
            refine lv_iconst (v := 1) hx hb dX23_takeLife_41 (by decide) ?_
            refine lv_iadd hx hb dX23_takeLife_42 ?_
            refine lv_topi (fun f_7 ef_7 => ?_)
            obtain rfl : f_7 = nI (i0 + 1) := ef_7.trans (nI_1 _)
            refine lv_icmp_le (tgt := 70) hx hb dX23_takeLife_43 (by decide) (fun he1 => ?_) (fun he1 => ?_)
            · refine lv_iconst (v := 0) hx hb dX23_takeLife_70 (by decide) ?_
              refine lv_istore_n (lv' := [(3, .int 0), (2, .int (nI i)), (0, .ref m9), (1, .int (nI i0))]) hx hb dX23_takeLife_71 rfl hl (by decide) rfl (fun ls hl => ?_)
              refine lv_aload_n hx hb dX23_takeLife_72 rfl (lv_at hl 2 rfl) ?_
              refine lv_iload_n hx hb dX23_takeLife_73 rfl (lv_at hl 0 rfl) ?_
              refine lv_if_eq (tgt := 81) hx hb dX23_takeLife_74 (by decide) (fun _ => ?_) (fun c_8 => absurd (by decide) c_8)
              refine lv_iconst (v := 1) hx hb dX23_takeLife_81 (by decide) ?_
              refine lv_iload_n hx hb dX23_takeLife_82 rfl (lv_at hl 3 rfl) ?_
              refine lv_iload_n hx hb dX23_takeLife_83 rfl (lv_at hl 1 rfl) ?_
              refine lv_lconst (v := 0) hx hb dX23_takeLife_84 (by decide) ?_
              have hPc := hP.sub (ws' := [(m9, .inr (23, mA mr mv vf xl (nI zs) xf xa (nI tk) xp xi xt xn xe xv xb)), (mr 5, .inl (kI, 3002, .inl fk)), (mr 6, .inl (kI, 3002, .inl fa)), (mr 7, .inl (kI, 3002, .inl fe)), (mr 8, .inl (kL, 3002, .inr (.inl fn)))]) [4, 0, 1, 2, 3] rfl
              have hDc := hD.sub (ws' := [(m9, .inr (23, mA mr mv vf xl (nI zs) xf xa (nI tk) xp xi xt xn xe xv xb)), (mr 5, .inl (kI, 3002, .inl fk)), (mr 6, .inl (kI, 3002, .inl fa)), (mr 7, .inl (kI, 3002, .inl fe)), (mr 8, .inl (kL, 3002, .inr (.inl fn)))]) [4, 0, 1, 2, 3] (by decide) rfl
              have hKc := hK.sub (tys' := [(kI, .int), (kL, .long)]) [0, 1] rfl
              have hFc := va_free (wc := [(m9, .inr (23, mA mr mv vf xl (nI zs) xf xa (nI tk) xp xi xt xn xe xv xb)), (mr 5, .inl (kI, 3002, .inl fk)), (mr 6, .inl (kI, 3002, .inl fa)), (mr 7, .inl (kI, 3002, .inl fe)), (mr 8, .inl (kL, 3002, .inr (.inl fn)))]) hD hS hA [4, 0, 1, 2, 3] rfl
              refine va_callv (va_runV (As := [.int 1, .int (nI i0), .int (nI i), .long 0]) (rest := []) ⟨hx, hb, hml, hown, hts⟩ (c_radd l dC dI m9 mr mv vf xl xf xa xp xi xt xn xe xv xb zs tk kI kL ft fk fa fe fn 1 (nI i0) (nI i) 0 H.size htk) (cwV 4 hts g_c_rlif_c_radd_85 rfl rfl rfl (by decide +kernel) ⟨Nat.le_of_ble_eq_true rfl, Nat.le_of_ble_eq_true rfl⟩) ⟨fun a U g mk q => by obtain ⟨q0, q1, qP, qK, qD⟩ := q; exact ⟨q0, q1, qP, va_K.moved (u := U) (U := U.calling g mk a) (Vm.Alike.refl U.vm) qK, qD⟩, va_recv hKc hPc (ci := 23) (q0 := 0) rfl rfl, fun U hU hW => ⟨rfl, by rw [hU], by rw [hU]; exact hPc, va_K.moved hW.alike hKc, hDc.weaken (fun _ _ _ _ => trivial)⟩⟩ rfl rfl hl.1 rfl (lv_room (Nat.le_of_ble_eq_true rfl)) dX23_takeLife_85 ⟨(show 0 + 0 ≤ 0 by omega), (show 0 + 0 ≤ 0 by omega)⟩) hS (fun q _ h => hFc q h) hFc (fun u tS H1 locs ht hvm hw hB hz1 hk1 hS => ?_)
              obtain ⟨gn9, hP1, hK1, hD1⟩ := hB
              rw [ht] at hP1
              have hK1 := va_K.moved hvm.symm hK1
              obtain ⟨hP, hD⟩ := va_join (wr := [(mr 0, .inl (kI, 3000, .inl ft))]) (w1 := [(m9, .inr (23, mA mr mv vf xl (nI zs) xf xa (nI (tk + 1)) xp xi xt xn xe xv xb)), (mr 5, .inl (kI, 3002, .inl (upd fk tk 1))), (mr 6, .inl (kI, 3002, .inl (upd fa tk (nI i0)))), (mr 7, .inl (kI, 3002, .inl (upd fe tk (nI i)))), (mr 8, .inl (kL, 3002, .inr (.inl gn9)))]) hP hD [4, 0, 1, 2, 3] [5] rfl rfl (by decide) (by decide) hk1 hFc hP1 hD1
              have hK := hK.app hK1
              generalize H1 = H at hP hS ⊢
              have hP : va_P (dC, dI) vwCl [(mr 0, .inl (kI, 3000, .inl ft)), (m9, .inr (23, mA mr mv vf xl (nI zs) xf xa (nI (tk + 1)) xp xi xt xn xe xv xb)), (mr 5, .inl (kI, 3002, .inl (upd fk tk 1))), (mr 6, .inl (kI, 3002, .inl (upd fa tk (nI i0)))), (mr 7, .inl (kI, 3002, .inl (upd fe tk (nI i)))), (mr 8, .inl (kL, 3002, .inr (.inl gn9)))] H := hP
              have hD : va_D A [(mr 0, .inl (kI, 3000, .inl ft)), (m9, .inr (23, mA mr mv vf xl (nI zs) xf xa (nI (tk + 1)) xp xi xt xn xe xv xb)), (mr 5, .inl (kI, 3002, .inl (upd fk tk 1))), (mr 6, .inl (kI, 3002, .inl (upd fa tk (nI i0)))), (mr 7, .inl (kI, 3002, .inl (upd fe tk (nI i)))), (mr 8, .inl (kL, 3002, .inr (.inl gn9)))] := hD
              have hK : va_K (dC, dI) vwCl [(kI, .int), (kL, .long), (kI, .int), (kL, .long)] s := hK
              have hK := hK.sub (tys' := [(kI, .int), (kL, .long)]) [0, 1] rfl
              have hP : va_P (dC, dI) vwCl [(mr 0, .inl (kI, 3000, .inl ft)), (m9, .inr (23, mA mr mv vf xl (nI zs) xf xa (nI (tk + 1)) xp xi xt xn xe xv xb)), (mr 5, .inl (kI, 3002, .inl (upd fk tk 1))), (mr 6, .inl (kI, 3002, .inl (upd fa tk (nI i0)))), (mr 7, .inl (kI, 3002, .inl (upd fe tk (nI i)))), (mr 8, .inl (kL, 3002, .inr (.inl gn9)))] H := hP
              have hD : va_D A [(mr 0, .inl (kI, 3000, .inl ft)), (m9, .inr (23, mA mr mv vf xl (nI zs) xf xa (nI (tk + 1)) xp xi xt xn xe xv xb)), (mr 5, .inl (kI, 3002, .inl (upd fk tk 1))), (mr 6, .inl (kI, 3002, .inl (upd fa tk (nI i0)))), (mr 7, .inl (kI, 3002, .inl (upd fe tk (nI i)))), (mr 8, .inl (kL, 3002, .inr (.inl gn9)))] := hD
              refine lv_iload_n hx hb dX23_takeLife_88 rfl (lv_at hl 1 rfl) ?_
              have hP9 := hP.sub (ws' := [(m9, .inr (23, mA mr mv vf xl (nI zs) xf xa (nI (tk + 1)) xp xi xt xn xe xv xb)), (mr 0, .inl (kI, 3000, .inl ft)), (mr 5, .inl (kI, 3002, .inl (upd fk tk 1))), (mr 6, .inl (kI, 3002, .inl (upd fa tk (nI i0)))), (mr 7, .inl (kI, 3002, .inl (upd fe tk (nI i)))), (mr 8, .inl (kL, 3002, .inr (.inl gn9)))]) [1, 0, 2, 3, 4, 5] rfl
              have hD9 := hD.sub (ws' := [(m9, .inr (23, mA mr mv vf xl (nI zs) xf xa (nI (tk + 1)) xp xi xt xn xe xv xb)), (mr 0, .inl (kI, 3000, .inl ft)), (mr 5, .inl (kI, 3002, .inl (upd fk tk 1))), (mr 6, .inl (kI, 3002, .inl (upd fa tk (nI i0)))), (mr 7, .inl (kI, 3002, .inl (upd fe tk (nI i)))), (mr 8, .inl (kL, 3002, .inr (.inl gn9)))]) [1, 0, 2, 3, 4, 5] (by decide) rfl
              have hK9 := hK.sub (tys' := [(kI, .int), (kL, .long)]) [0, 1] rfl
              subst hQ1
              exact W.iret (v := nI i) hx hb hr (fun tS ht hW => ⟨⟨(nI i), i, rfl, rfl, 1, gn9, ⟨by omega, by omega, by decide, by decide⟩, by rw [ht]; exact hP9, va_K.moved hW.alike hK9, hD9⟩, hS.F ht⟩) hS.2.2 dX23_takeLife_89
            · refine lv_iload_n hx hb dX23_takeLife_46 rfl (lv_at hl 0 rfl) ?_
              refine lv_iload_n hx hb dX23_takeLife_47 rfl (lv_at hl 2 rfl) ?_
              refine lv_isub hx hb dX23_takeLife_48 ?_
              refine lv_topi (fun f_8 ef_8 => ?_)
              obtain rfl : f_8 = nI (i - i0) := ef_8.trans (pk_sub (a := i) (b := i0) (by omega))
              refine lv_bipush (v := 21) hx hb dX23_takeLife_49 (by decide) ?_
              refine lv_icmp_gt (tgt := 70) hx hb dX23_takeLife_51 (by decide) (fun he2 => ?_) (fun he2 => ?_)
              · refine lv_iconst (v := 0) hx hb dX23_takeLife_70 (by decide) ?_
                refine lv_istore_n (lv' := [(3, .int 0), (2, .int (nI i)), (0, .ref m9), (1, .int (nI i0))]) hx hb dX23_takeLife_71 rfl hl (by decide) rfl (fun ls hl => ?_)
                refine lv_aload_n hx hb dX23_takeLife_72 rfl (lv_at hl 2 rfl) ?_
                refine lv_iload_n hx hb dX23_takeLife_73 rfl (lv_at hl 0 rfl) ?_
                refine lv_if_eq (tgt := 81) hx hb dX23_takeLife_74 (by decide) (fun _ => ?_) (fun c_9 => absurd (by decide) c_9)
                refine lv_iconst (v := 1) hx hb dX23_takeLife_81 (by decide) ?_
                refine lv_iload_n hx hb dX23_takeLife_82 rfl (lv_at hl 3 rfl) ?_
                refine lv_iload_n hx hb dX23_takeLife_83 rfl (lv_at hl 1 rfl) ?_
                refine lv_lconst (v := 0) hx hb dX23_takeLife_84 (by decide) ?_
                have hPc := hP.sub (ws' := [(m9, .inr (23, mA mr mv vf xl (nI zs) xf xa (nI tk) xp xi xt xn xe xv xb)), (mr 5, .inl (kI, 3002, .inl fk)), (mr 6, .inl (kI, 3002, .inl fa)), (mr 7, .inl (kI, 3002, .inl fe)), (mr 8, .inl (kL, 3002, .inr (.inl fn)))]) [4, 0, 1, 2, 3] rfl
                have hDc := hD.sub (ws' := [(m9, .inr (23, mA mr mv vf xl (nI zs) xf xa (nI tk) xp xi xt xn xe xv xb)), (mr 5, .inl (kI, 3002, .inl fk)), (mr 6, .inl (kI, 3002, .inl fa)), (mr 7, .inl (kI, 3002, .inl fe)), (mr 8, .inl (kL, 3002, .inr (.inl fn)))]) [4, 0, 1, 2, 3] (by decide) rfl
                have hKc := hK.sub (tys' := [(kI, .int), (kL, .long)]) [0, 1] rfl
                have hFc := va_free (wc := [(m9, .inr (23, mA mr mv vf xl (nI zs) xf xa (nI tk) xp xi xt xn xe xv xb)), (mr 5, .inl (kI, 3002, .inl fk)), (mr 6, .inl (kI, 3002, .inl fa)), (mr 7, .inl (kI, 3002, .inl fe)), (mr 8, .inl (kL, 3002, .inr (.inl fn)))]) hD hS hA [4, 0, 1, 2, 3] rfl
                refine va_callv (va_runV (As := [.int 1, .int (nI i0), .int (nI i), .long 0]) (rest := []) ⟨hx, hb, hml, hown, hts⟩ (c_radd l dC dI m9 mr mv vf xl xf xa xp xi xt xn xe xv xb zs tk kI kL ft fk fa fe fn 1 (nI i0) (nI i) 0 H.size htk) (cwV 4 hts g_c_rlif_c_radd_85 rfl rfl rfl (by decide +kernel) ⟨Nat.le_of_ble_eq_true rfl, Nat.le_of_ble_eq_true rfl⟩) ⟨fun a U g mk q => by obtain ⟨q0, q1, qP, qK, qD⟩ := q; exact ⟨q0, q1, qP, va_K.moved (u := U) (U := U.calling g mk a) (Vm.Alike.refl U.vm) qK, qD⟩, va_recv hKc hPc (ci := 23) (q0 := 0) rfl rfl, fun U hU hW => ⟨rfl, by rw [hU], by rw [hU]; exact hPc, va_K.moved hW.alike hKc, hDc.weaken (fun _ _ _ _ => trivial)⟩⟩ rfl rfl hl.1 rfl (lv_room (Nat.le_of_ble_eq_true rfl)) dX23_takeLife_85 ⟨(show 0 + 0 ≤ 0 by omega), (show 0 + 0 ≤ 0 by omega)⟩) hS (fun q _ h => hFc q h) hFc (fun u tS H1 locs ht hvm hw hB hz1 hk1 hS => ?_)
                obtain ⟨gn9, hP1, hK1, hD1⟩ := hB
                rw [ht] at hP1
                have hK1 := va_K.moved hvm.symm hK1
                obtain ⟨hP, hD⟩ := va_join (wr := [(mr 0, .inl (kI, 3000, .inl ft))]) (w1 := [(m9, .inr (23, mA mr mv vf xl (nI zs) xf xa (nI (tk + 1)) xp xi xt xn xe xv xb)), (mr 5, .inl (kI, 3002, .inl (upd fk tk 1))), (mr 6, .inl (kI, 3002, .inl (upd fa tk (nI i0)))), (mr 7, .inl (kI, 3002, .inl (upd fe tk (nI i)))), (mr 8, .inl (kL, 3002, .inr (.inl gn9)))]) hP hD [4, 0, 1, 2, 3] [5] rfl rfl (by decide) (by decide) hk1 hFc hP1 hD1
                have hK := hK.app hK1
                generalize H1 = H at hP hS ⊢
                have hP : va_P (dC, dI) vwCl [(mr 0, .inl (kI, 3000, .inl ft)), (m9, .inr (23, mA mr mv vf xl (nI zs) xf xa (nI (tk + 1)) xp xi xt xn xe xv xb)), (mr 5, .inl (kI, 3002, .inl (upd fk tk 1))), (mr 6, .inl (kI, 3002, .inl (upd fa tk (nI i0)))), (mr 7, .inl (kI, 3002, .inl (upd fe tk (nI i)))), (mr 8, .inl (kL, 3002, .inr (.inl gn9)))] H := hP
                have hD : va_D A [(mr 0, .inl (kI, 3000, .inl ft)), (m9, .inr (23, mA mr mv vf xl (nI zs) xf xa (nI (tk + 1)) xp xi xt xn xe xv xb)), (mr 5, .inl (kI, 3002, .inl (upd fk tk 1))), (mr 6, .inl (kI, 3002, .inl (upd fa tk (nI i0)))), (mr 7, .inl (kI, 3002, .inl (upd fe tk (nI i)))), (mr 8, .inl (kL, 3002, .inr (.inl gn9)))] := hD
                have hK : va_K (dC, dI) vwCl [(kI, .int), (kL, .long), (kI, .int), (kL, .long)] s := hK
                have hK := hK.sub (tys' := [(kI, .int), (kL, .long)]) [0, 1] rfl
                have hP : va_P (dC, dI) vwCl [(mr 0, .inl (kI, 3000, .inl ft)), (m9, .inr (23, mA mr mv vf xl (nI zs) xf xa (nI (tk + 1)) xp xi xt xn xe xv xb)), (mr 5, .inl (kI, 3002, .inl (upd fk tk 1))), (mr 6, .inl (kI, 3002, .inl (upd fa tk (nI i0)))), (mr 7, .inl (kI, 3002, .inl (upd fe tk (nI i)))), (mr 8, .inl (kL, 3002, .inr (.inl gn9)))] H := hP
                have hD : va_D A [(mr 0, .inl (kI, 3000, .inl ft)), (m9, .inr (23, mA mr mv vf xl (nI zs) xf xa (nI (tk + 1)) xp xi xt xn xe xv xb)), (mr 5, .inl (kI, 3002, .inl (upd fk tk 1))), (mr 6, .inl (kI, 3002, .inl (upd fa tk (nI i0)))), (mr 7, .inl (kI, 3002, .inl (upd fe tk (nI i)))), (mr 8, .inl (kL, 3002, .inr (.inl gn9)))] := hD
                refine lv_iload_n hx hb dX23_takeLife_88 rfl (lv_at hl 1 rfl) ?_
                have hP9 := hP.sub (ws' := [(m9, .inr (23, mA mr mv vf xl (nI zs) xf xa (nI (tk + 1)) xp xi xt xn xe xv xb)), (mr 0, .inl (kI, 3000, .inl ft)), (mr 5, .inl (kI, 3002, .inl (upd fk tk 1))), (mr 6, .inl (kI, 3002, .inl (upd fa tk (nI i0)))), (mr 7, .inl (kI, 3002, .inl (upd fe tk (nI i)))), (mr 8, .inl (kL, 3002, .inr (.inl gn9)))]) [1, 0, 2, 3, 4, 5] rfl
                have hD9 := hD.sub (ws' := [(m9, .inr (23, mA mr mv vf xl (nI zs) xf xa (nI (tk + 1)) xp xi xt xn xe xv xb)), (mr 0, .inl (kI, 3000, .inl ft)), (mr 5, .inl (kI, 3002, .inl (upd fk tk 1))), (mr 6, .inl (kI, 3002, .inl (upd fa tk (nI i0)))), (mr 7, .inl (kI, 3002, .inl (upd fe tk (nI i)))), (mr 8, .inl (kL, 3002, .inr (.inl gn9)))]) [1, 0, 2, 3, 4, 5] (by decide) rfl
                have hK9 := hK.sub (tys' := [(kI, .int), (kL, .long)]) [0, 1] rfl
                subst hQ1
                exact W.iret (v := nI i) hx hb hr (fun tS ht hW => ⟨⟨(nI i), i, rfl, rfl, 1, gn9, ⟨by omega, by omega, by decide, by decide⟩, by rw [ht]; exact hP9, va_K.moved hW.alike hK9, hD9⟩, hS.F ht⟩) hS.2.2 dX23_takeLife_89
              · refine lv_aload_n hx hb dX23_takeLife_54 rfl (lv_at hl 1 rfl) ?_
                refine lv_iload_n hx hb dX23_takeLife_55 rfl (lv_at hl 2 rfl) ?_
                refine lv_iconst (v := 1) hx hb dX23_takeLife_56 (by decide) ?_
                refine lv_iadd hx hb dX23_takeLife_57 ?_
                refine lv_topi (fun f_9 ef_9 => ?_)
                obtain rfl : f_9 = nI (i0 + 1) := ef_9.trans (nI_1 _)
                refine lv_iload_n hx hb dX23_takeLife_58 rfl (lv_at hl 0 rfl) ?_
                have hPc := hP.sub (ws' := [(m9, .inr (23, mA mr mv vf xl (nI zs) xf xa (nI tk) xp xi xt xn xe xv xb)), (mr 0, .inl (kI, 3000, .inl ft))]) [4, 5] rfl
                have hDc := hD.sub (ws' := [(m9, .inr (23, mA mr mv vf xl (nI zs) xf xa (nI tk) xp xi xt xn xe xv xb)), (mr 0, .inl (kI, 3000, .inl ft))]) [4, 5] (by decide) rfl
                have hKc := hK.sub (tys' := [(kI, .int)]) [0] rfl
                have hFc := va_free (wc := [(m9, .inr (23, mA mr mv vf xl (nI zs) xf xa (nI tk) xp xi xt xn xe xv xb)), (mr 0, .inl (kI, 3000, .inl ft))]) hD hS hA [4, 5] rfl
                refine va_calli (va_runV (As := [.int (nI (i0 + 1)), .int (nI i)]) (rest := []) ⟨hx, hb, hml, hown, hts⟩ (c_rwo l dC dI m9 mr mv vf xl xf xa xp xi xt xn xe xv xb zs tk (i0 + 1) i kI ft t0 t1 t2 t3 H.size (by omega)) (cwV 2 hts g_c_rlif_c_rwo_59 rfl rfl rfl (by decide +kernel) ⟨Nat.le_of_ble_eq_true rfl, Nat.le_of_ble_eq_true rfl⟩) ⟨fun a U g mk q => by obtain ⟨q0, q1, qP, qK, qD, qx0⟩ := q; exact ⟨q0, q1, qP, va_K.moved (u := U) (U := U.calling g mk a) (Vm.Alike.refl U.vm) qK, qD, stA.moved (u := U) (U := U.calling g mk a) (Vm.Alike.refl U.vm) qx0⟩, va_recv hKc hPc (ci := 23) (q0 := 0) rfl rfl, fun U hU hW => ⟨rfl, by rw [hU], by rw [hU]; exact hPc, va_K.moved hW.alike hKc, hDc.weaken (fun _ _ _ _ => trivial), by rw [hU]; exact ((hpre0.kept hS.2.1).moved hW.alike).narrow hFc⟩⟩ rfl rfl hl.1 rfl (lv_room (Nat.le_of_ble_eq_true rfl)) dX23_takeLife_59 ⟨(show 0 + 0 ≤ 0 by omega), (show 0 + 0 ≤ 0 by omega)⟩) hS (fun q _ h => hFc q h) hFc (fun r_10 u tS H1 locs ht hvm hw hB hz1 hk1 hS => ?_)
                obtain ⟨hP1, hK1, hD1⟩ := hB
                rw [ht] at hP1
                have hK1 := va_K.moved hvm.symm hK1
                obtain ⟨hP, hD⟩ := va_join (wr := [(mr 5, .inl (kI, 3002, .inl fk)), (mr 6, .inl (kI, 3002, .inl fa)), (mr 7, .inl (kI, 3002, .inl fe)), (mr 8, .inl (kL, 3002, .inr (.inl fn)))]) (w1 := [(m9, .inr (23, mA mr mv vf xl (nI zs) xf xa (nI tk) xp xi xt xn xe xv xb)), (mr 0, .inl (kI, 3000, .inl ft))]) hP hD [4, 5] [0, 1, 2, 3] rfl rfl (by decide) (by decide) hk1 hFc hP1 hD1
                have hK := hK.app hK1
                generalize H1 = H at hP hS ⊢
                have hP : va_P (dC, dI) vwCl [(mr 5, .inl (kI, 3002, .inl fk)), (mr 6, .inl (kI, 3002, .inl fa)), (mr 7, .inl (kI, 3002, .inl fe)), (mr 8, .inl (kL, 3002, .inr (.inl fn))), (m9, .inr (23, mA mr mv vf xl (nI zs) xf xa (nI tk) xp xi xt xn xe xv xb)), (mr 0, .inl (kI, 3000, .inl ft))] H := hP
                have hD : va_D A [(mr 5, .inl (kI, 3002, .inl fk)), (mr 6, .inl (kI, 3002, .inl fa)), (mr 7, .inl (kI, 3002, .inl fe)), (mr 8, .inl (kL, 3002, .inr (.inl fn))), (m9, .inr (23, mA mr mv vf xl (nI zs) xf xa (nI tk) xp xi xt xn xe xv xb)), (mr 0, .inl (kI, 3000, .inl ft))] := hD
                have hK : va_K (dC, dI) vwCl [(kI, .int), (kL, .long), (kI, .int)] s := hK
                have hK := hK.sub (tys' := [(kI, .int), (kL, .long)]) [0, 1] rfl
                have hP : va_P (dC, dI) vwCl [(mr 5, .inl (kI, 3002, .inl fk)), (mr 6, .inl (kI, 3002, .inl fa)), (mr 7, .inl (kI, 3002, .inl fe)), (mr 8, .inl (kL, 3002, .inr (.inl fn))), (m9, .inr (23, mA mr mv vf xl (nI zs) xf xa (nI tk) xp xi xt xn xe xv xb)), (mr 0, .inl (kI, 3000, .inl ft))] H := hP
                have hD : va_D A [(mr 5, .inl (kI, 3002, .inl fk)), (mr 6, .inl (kI, 3002, .inl fa)), (mr 7, .inl (kI, 3002, .inl fe)), (mr 8, .inl (kL, 3002, .inr (.inl fn))), (m9, .inr (23, mA mr mv vf xl (nI zs) xf xa (nI tk) xp xi xt xn xe xv xb)), (mr 0, .inl (kI, 3000, .inl ft))] := hD
                refine lv_iconst (v := 2) hx hb dX23_takeLife_62 (by decide) ?_
                refine lv_icmp_ne (tgt := 70) hx hb dX23_takeLife_63 (by decide) (fun he3 => ?_) (fun he3 => ?_)
                · refine lv_iconst (v := 0) hx hb dX23_takeLife_70 (by decide) ?_
                  refine lv_istore_n (lv' := [(3, .int 0), (2, .int (nI i)), (0, .ref m9), (1, .int (nI i0))]) hx hb dX23_takeLife_71 rfl hl (by decide) rfl (fun ls hl => ?_)
                  refine lv_aload_n hx hb dX23_takeLife_72 rfl (lv_at hl 2 rfl) ?_
                  refine lv_iload_n hx hb dX23_takeLife_73 rfl (lv_at hl 0 rfl) ?_
                  refine lv_if_eq (tgt := 81) hx hb dX23_takeLife_74 (by decide) (fun _ => ?_) (fun c_11 => absurd (by decide) c_11)
                  refine lv_iconst (v := 1) hx hb dX23_takeLife_81 (by decide) ?_
                  refine lv_iload_n hx hb dX23_takeLife_82 rfl (lv_at hl 3 rfl) ?_
                  refine lv_iload_n hx hb dX23_takeLife_83 rfl (lv_at hl 1 rfl) ?_
                  refine lv_lconst (v := 0) hx hb dX23_takeLife_84 (by decide) ?_
                  have hPc := hP.sub (ws' := [(m9, .inr (23, mA mr mv vf xl (nI zs) xf xa (nI tk) xp xi xt xn xe xv xb)), (mr 5, .inl (kI, 3002, .inl fk)), (mr 6, .inl (kI, 3002, .inl fa)), (mr 7, .inl (kI, 3002, .inl fe)), (mr 8, .inl (kL, 3002, .inr (.inl fn)))]) [4, 0, 1, 2, 3] rfl
                  have hDc := hD.sub (ws' := [(m9, .inr (23, mA mr mv vf xl (nI zs) xf xa (nI tk) xp xi xt xn xe xv xb)), (mr 5, .inl (kI, 3002, .inl fk)), (mr 6, .inl (kI, 3002, .inl fa)), (mr 7, .inl (kI, 3002, .inl fe)), (mr 8, .inl (kL, 3002, .inr (.inl fn)))]) [4, 0, 1, 2, 3] (by decide) rfl
                  have hKc := hK.sub (tys' := [(kI, .int), (kL, .long)]) [0, 1] rfl
                  have hFc := va_free (wc := [(m9, .inr (23, mA mr mv vf xl (nI zs) xf xa (nI tk) xp xi xt xn xe xv xb)), (mr 5, .inl (kI, 3002, .inl fk)), (mr 6, .inl (kI, 3002, .inl fa)), (mr 7, .inl (kI, 3002, .inl fe)), (mr 8, .inl (kL, 3002, .inr (.inl fn)))]) hD hS hA [4, 0, 1, 2, 3] rfl
                  refine va_callv (va_runV (As := [.int 1, .int (nI i0), .int (nI i), .long 0]) (rest := []) ⟨hx, hb, hml, hown, hts⟩ (c_radd l dC dI m9 mr mv vf xl xf xa xp xi xt xn xe xv xb zs tk kI kL ft fk fa fe fn 1 (nI i0) (nI i) 0 H.size htk) (cwV 4 hts g_c_rlif_c_radd_85 rfl rfl rfl (by decide +kernel) ⟨Nat.le_of_ble_eq_true rfl, Nat.le_of_ble_eq_true rfl⟩) ⟨fun a U g mk q => by obtain ⟨q0, q1, qP, qK, qD⟩ := q; exact ⟨q0, q1, qP, va_K.moved (u := U) (U := U.calling g mk a) (Vm.Alike.refl U.vm) qK, qD⟩, va_recv hKc hPc (ci := 23) (q0 := 0) rfl rfl, fun U hU hW => ⟨rfl, by rw [hU], by rw [hU]; exact hPc, va_K.moved hW.alike hKc, hDc.weaken (fun _ _ _ _ => trivial)⟩⟩ rfl rfl hl.1 rfl (lv_room (Nat.le_of_ble_eq_true rfl)) dX23_takeLife_85 ⟨(show 0 + 0 ≤ 0 by omega), (show 0 + 0 ≤ 0 by omega)⟩) hS (fun q _ h => hFc q h) hFc (fun u tS H1 locs ht hvm hw hB hz1 hk1 hS => ?_)
                  obtain ⟨gn9, hP1, hK1, hD1⟩ := hB
                  rw [ht] at hP1
                  have hK1 := va_K.moved hvm.symm hK1
                  obtain ⟨hP, hD⟩ := va_join (wr := [(mr 0, .inl (kI, 3000, .inl ft))]) (w1 := [(m9, .inr (23, mA mr mv vf xl (nI zs) xf xa (nI (tk + 1)) xp xi xt xn xe xv xb)), (mr 5, .inl (kI, 3002, .inl (upd fk tk 1))), (mr 6, .inl (kI, 3002, .inl (upd fa tk (nI i0)))), (mr 7, .inl (kI, 3002, .inl (upd fe tk (nI i)))), (mr 8, .inl (kL, 3002, .inr (.inl gn9)))]) hP hD [4, 0, 1, 2, 3] [5] rfl rfl (by decide) (by decide) hk1 hFc hP1 hD1
                  have hK := hK.app hK1
                  generalize H1 = H at hP hS ⊢
                  have hP : va_P (dC, dI) vwCl [(mr 0, .inl (kI, 3000, .inl ft)), (m9, .inr (23, mA mr mv vf xl (nI zs) xf xa (nI (tk + 1)) xp xi xt xn xe xv xb)), (mr 5, .inl (kI, 3002, .inl (upd fk tk 1))), (mr 6, .inl (kI, 3002, .inl (upd fa tk (nI i0)))), (mr 7, .inl (kI, 3002, .inl (upd fe tk (nI i)))), (mr 8, .inl (kL, 3002, .inr (.inl gn9)))] H := hP
                  have hD : va_D A [(mr 0, .inl (kI, 3000, .inl ft)), (m9, .inr (23, mA mr mv vf xl (nI zs) xf xa (nI (tk + 1)) xp xi xt xn xe xv xb)), (mr 5, .inl (kI, 3002, .inl (upd fk tk 1))), (mr 6, .inl (kI, 3002, .inl (upd fa tk (nI i0)))), (mr 7, .inl (kI, 3002, .inl (upd fe tk (nI i)))), (mr 8, .inl (kL, 3002, .inr (.inl gn9)))] := hD
                  have hK : va_K (dC, dI) vwCl [(kI, .int), (kL, .long), (kI, .int), (kL, .long)] s := hK
                  have hK := hK.sub (tys' := [(kI, .int), (kL, .long)]) [0, 1] rfl
                  have hP : va_P (dC, dI) vwCl [(mr 0, .inl (kI, 3000, .inl ft)), (m9, .inr (23, mA mr mv vf xl (nI zs) xf xa (nI (tk + 1)) xp xi xt xn xe xv xb)), (mr 5, .inl (kI, 3002, .inl (upd fk tk 1))), (mr 6, .inl (kI, 3002, .inl (upd fa tk (nI i0)))), (mr 7, .inl (kI, 3002, .inl (upd fe tk (nI i)))), (mr 8, .inl (kL, 3002, .inr (.inl gn9)))] H := hP
                  have hD : va_D A [(mr 0, .inl (kI, 3000, .inl ft)), (m9, .inr (23, mA mr mv vf xl (nI zs) xf xa (nI (tk + 1)) xp xi xt xn xe xv xb)), (mr 5, .inl (kI, 3002, .inl (upd fk tk 1))), (mr 6, .inl (kI, 3002, .inl (upd fa tk (nI i0)))), (mr 7, .inl (kI, 3002, .inl (upd fe tk (nI i)))), (mr 8, .inl (kL, 3002, .inr (.inl gn9)))] := hD
                  refine lv_iload_n hx hb dX23_takeLife_88 rfl (lv_at hl 1 rfl) ?_
                  have hP9 := hP.sub (ws' := [(m9, .inr (23, mA mr mv vf xl (nI zs) xf xa (nI (tk + 1)) xp xi xt xn xe xv xb)), (mr 0, .inl (kI, 3000, .inl ft)), (mr 5, .inl (kI, 3002, .inl (upd fk tk 1))), (mr 6, .inl (kI, 3002, .inl (upd fa tk (nI i0)))), (mr 7, .inl (kI, 3002, .inl (upd fe tk (nI i)))), (mr 8, .inl (kL, 3002, .inr (.inl gn9)))]) [1, 0, 2, 3, 4, 5] rfl
                  have hD9 := hD.sub (ws' := [(m9, .inr (23, mA mr mv vf xl (nI zs) xf xa (nI (tk + 1)) xp xi xt xn xe xv xb)), (mr 0, .inl (kI, 3000, .inl ft)), (mr 5, .inl (kI, 3002, .inl (upd fk tk 1))), (mr 6, .inl (kI, 3002, .inl (upd fa tk (nI i0)))), (mr 7, .inl (kI, 3002, .inl (upd fe tk (nI i)))), (mr 8, .inl (kL, 3002, .inr (.inl gn9)))]) [1, 0, 2, 3, 4, 5] (by decide) rfl
                  have hK9 := hK.sub (tys' := [(kI, .int), (kL, .long)]) [0, 1] rfl
                  subst hQ1
                  exact W.iret (v := nI i) hx hb hr (fun tS ht hW => ⟨⟨(nI i), i, rfl, rfl, 1, gn9, ⟨by omega, by omega, by decide, by decide⟩, by rw [ht]; exact hP9, va_K.moved hW.alike hK9, hD9⟩, hS.F ht⟩) hS.2.2 dX23_takeLife_89
                · refine lv_iconst (v := 1) hx hb dX23_takeLife_66 (by decide) ?_
                  refine lv_goto (tgt := 71) hx hb dX23_takeLife_67 (by decide) ?_
                  refine lv_istore_n (lv' := [(3, .int 1), (2, .int (nI i)), (0, .ref m9), (1, .int (nI i0))]) hx hb dX23_takeLife_71 rfl hl (by decide) rfl (fun ls hl => ?_)
                  refine lv_aload_n hx hb dX23_takeLife_72 rfl (lv_at hl 2 rfl) ?_
                  refine lv_iload_n hx hb dX23_takeLife_73 rfl (lv_at hl 0 rfl) ?_
                  refine lv_if_eq (tgt := 81) hx hb dX23_takeLife_74 (by decide) (fun c_11 => absurd c_11 (by decide)) (fun _ => ?_)
                  refine lv_iconst (v := 4) hx hb dX23_takeLife_77 (by decide) ?_
                  refine lv_goto (tgt := 82) hx hb dX23_takeLife_78 (by decide) ?_
                  refine lv_iload_n hx hb dX23_takeLife_82 rfl (lv_at hl 3 rfl) ?_
                  refine lv_iload_n hx hb dX23_takeLife_83 rfl (lv_at hl 1 rfl) ?_
                  refine lv_lconst (v := 0) hx hb dX23_takeLife_84 (by decide) ?_
                  have hPc := hP.sub (ws' := [(m9, .inr (23, mA mr mv vf xl (nI zs) xf xa (nI tk) xp xi xt xn xe xv xb)), (mr 5, .inl (kI, 3002, .inl fk)), (mr 6, .inl (kI, 3002, .inl fa)), (mr 7, .inl (kI, 3002, .inl fe)), (mr 8, .inl (kL, 3002, .inr (.inl fn)))]) [4, 0, 1, 2, 3] rfl
                  have hDc := hD.sub (ws' := [(m9, .inr (23, mA mr mv vf xl (nI zs) xf xa (nI tk) xp xi xt xn xe xv xb)), (mr 5, .inl (kI, 3002, .inl fk)), (mr 6, .inl (kI, 3002, .inl fa)), (mr 7, .inl (kI, 3002, .inl fe)), (mr 8, .inl (kL, 3002, .inr (.inl fn)))]) [4, 0, 1, 2, 3] (by decide) rfl
                  have hKc := hK.sub (tys' := [(kI, .int), (kL, .long)]) [0, 1] rfl
                  have hFc := va_free (wc := [(m9, .inr (23, mA mr mv vf xl (nI zs) xf xa (nI tk) xp xi xt xn xe xv xb)), (mr 5, .inl (kI, 3002, .inl fk)), (mr 6, .inl (kI, 3002, .inl fa)), (mr 7, .inl (kI, 3002, .inl fe)), (mr 8, .inl (kL, 3002, .inr (.inl fn)))]) hD hS hA [4, 0, 1, 2, 3] rfl
                  refine va_callv (va_runV (As := [.int 4, .int (nI i0), .int (nI i), .long 0]) (rest := []) ⟨hx, hb, hml, hown, hts⟩ (c_radd l dC dI m9 mr mv vf xl xf xa xp xi xt xn xe xv xb zs tk kI kL ft fk fa fe fn 4 (nI i0) (nI i) 0 H.size htk) (cwV 4 hts g_c_rlif_c_radd_85 rfl rfl rfl (by decide +kernel) ⟨Nat.le_of_ble_eq_true rfl, Nat.le_of_ble_eq_true rfl⟩) ⟨fun a U g mk q => by obtain ⟨q0, q1, qP, qK, qD⟩ := q; exact ⟨q0, q1, qP, va_K.moved (u := U) (U := U.calling g mk a) (Vm.Alike.refl U.vm) qK, qD⟩, va_recv hKc hPc (ci := 23) (q0 := 0) rfl rfl, fun U hU hW => ⟨rfl, by rw [hU], by rw [hU]; exact hPc, va_K.moved hW.alike hKc, hDc.weaken (fun _ _ _ _ => trivial)⟩⟩ rfl rfl hl.1 rfl (lv_room (Nat.le_of_ble_eq_true rfl)) dX23_takeLife_85 ⟨(show 0 + 0 ≤ 0 by omega), (show 0 + 0 ≤ 0 by omega)⟩) hS (fun q _ h => hFc q h) hFc (fun u tS H1 locs ht hvm hw hB hz1 hk1 hS => ?_)
                  obtain ⟨gn9, hP1, hK1, hD1⟩ := hB
                  rw [ht] at hP1
                  have hK1 := va_K.moved hvm.symm hK1
                  obtain ⟨hP, hD⟩ := va_join (wr := [(mr 0, .inl (kI, 3000, .inl ft))]) (w1 := [(m9, .inr (23, mA mr mv vf xl (nI zs) xf xa (nI (tk + 1)) xp xi xt xn xe xv xb)), (mr 5, .inl (kI, 3002, .inl (upd fk tk 4))), (mr 6, .inl (kI, 3002, .inl (upd fa tk (nI i0)))), (mr 7, .inl (kI, 3002, .inl (upd fe tk (nI i)))), (mr 8, .inl (kL, 3002, .inr (.inl gn9)))]) hP hD [4, 0, 1, 2, 3] [5] rfl rfl (by decide) (by decide) hk1 hFc hP1 hD1
                  have hK := hK.app hK1
                  generalize H1 = H at hP hS ⊢
                  have hP : va_P (dC, dI) vwCl [(mr 0, .inl (kI, 3000, .inl ft)), (m9, .inr (23, mA mr mv vf xl (nI zs) xf xa (nI (tk + 1)) xp xi xt xn xe xv xb)), (mr 5, .inl (kI, 3002, .inl (upd fk tk 4))), (mr 6, .inl (kI, 3002, .inl (upd fa tk (nI i0)))), (mr 7, .inl (kI, 3002, .inl (upd fe tk (nI i)))), (mr 8, .inl (kL, 3002, .inr (.inl gn9)))] H := hP
                  have hD : va_D A [(mr 0, .inl (kI, 3000, .inl ft)), (m9, .inr (23, mA mr mv vf xl (nI zs) xf xa (nI (tk + 1)) xp xi xt xn xe xv xb)), (mr 5, .inl (kI, 3002, .inl (upd fk tk 4))), (mr 6, .inl (kI, 3002, .inl (upd fa tk (nI i0)))), (mr 7, .inl (kI, 3002, .inl (upd fe tk (nI i)))), (mr 8, .inl (kL, 3002, .inr (.inl gn9)))] := hD
                  have hK : va_K (dC, dI) vwCl [(kI, .int), (kL, .long), (kI, .int), (kL, .long)] s := hK
                  have hK := hK.sub (tys' := [(kI, .int), (kL, .long)]) [0, 1] rfl
                  have hP : va_P (dC, dI) vwCl [(mr 0, .inl (kI, 3000, .inl ft)), (m9, .inr (23, mA mr mv vf xl (nI zs) xf xa (nI (tk + 1)) xp xi xt xn xe xv xb)), (mr 5, .inl (kI, 3002, .inl (upd fk tk 4))), (mr 6, .inl (kI, 3002, .inl (upd fa tk (nI i0)))), (mr 7, .inl (kI, 3002, .inl (upd fe tk (nI i)))), (mr 8, .inl (kL, 3002, .inr (.inl gn9)))] H := hP
                  have hD : va_D A [(mr 0, .inl (kI, 3000, .inl ft)), (m9, .inr (23, mA mr mv vf xl (nI zs) xf xa (nI (tk + 1)) xp xi xt xn xe xv xb)), (mr 5, .inl (kI, 3002, .inl (upd fk tk 4))), (mr 6, .inl (kI, 3002, .inl (upd fa tk (nI i0)))), (mr 7, .inl (kI, 3002, .inl (upd fe tk (nI i)))), (mr 8, .inl (kL, 3002, .inr (.inl gn9)))] := hD
                  refine lv_iload_n hx hb dX23_takeLife_88 rfl (lv_at hl 1 rfl) ?_
                  have hP9 := hP.sub (ws' := [(m9, .inr (23, mA mr mv vf xl (nI zs) xf xa (nI (tk + 1)) xp xi xt xn xe xv xb)), (mr 0, .inl (kI, 3000, .inl ft)), (mr 5, .inl (kI, 3002, .inl (upd fk tk 4))), (mr 6, .inl (kI, 3002, .inl (upd fa tk (nI i0)))), (mr 7, .inl (kI, 3002, .inl (upd fe tk (nI i)))), (mr 8, .inl (kL, 3002, .inr (.inl gn9)))]) [1, 0, 2, 3, 4, 5] rfl
                  have hD9 := hD.sub (ws' := [(m9, .inr (23, mA mr mv vf xl (nI zs) xf xa (nI (tk + 1)) xp xi xt xn xe xv xb)), (mr 0, .inl (kI, 3000, .inl ft)), (mr 5, .inl (kI, 3002, .inl (upd fk tk 4))), (mr 6, .inl (kI, 3002, .inl (upd fa tk (nI i0)))), (mr 7, .inl (kI, 3002, .inl (upd fe tk (nI i)))), (mr 8, .inl (kL, 3002, .inr (.inl gn9)))]) [1, 0, 2, 3, 4, 5] (by decide) rfl
                  have hK9 := hK.sub (tys' := [(kI, .int), (kL, .long)]) [0, 1] rfl
                  subst hQ1
                  exact W.iret (v := nI i) hx hb hr (fun tS ht hW => ⟨⟨(nI i), i, rfl, rfl, 4, gn9, ⟨by omega, by omega, by decide, by decide⟩, by rw [ht]; exact hP9, va_K.moved hW.alike hK9, hD9⟩, hS.F ht⟩) hS.2.2 dX23_takeLife_89
          · have hlt : i < zs := letF_lt (fun q => hlx (by rw [hr_6, hr_5]; exact q))
            obtain ⟨x_7, ex_7⟩ : ∃ yY : Int32, yY = (nI i) + 1 := ⟨_, rfl⟩
            refine lv_iinc (v := x_7) (lv' := [(2, .int x_7), (0, .ref m9), (1, .int (nI i0))]) hx hb dX23_takeLife_33 hl (k := 0) rfl (by rw [ex_7]; rfl) (by decide) rfl (fun ls hl => ?_)
            obtain rfl : x_7 = nI (i + 1) := by rw [ex_7]; exact nI_1 i
            have hl : lv_has ls 4 [(2, .int (nI (i + 1))), (0, .ref m9), (1, .int (nI i0))] := hl
            refine lv_goto (tgt := 4) hx hb dX23_takeLife_36 (by decide) ?_
            exact ih1 (i + 1) _ _ _ (by omega) (by omega) (hP.sub [4, 5, 0, 1, 2, 3] rfl) (hD.sub [4, 5, 0, 1, 2, 3] (by decide) rfl) hS (lv_sub hl [0, 1, 2] rfl)
  exact key1 (zs - i0) (i0 + 1) _ _ _ (by omega) (Nat.le_refl _) (hP.sub [0, 1, 2, 3, 4, 5] rfl) (hD.sub [0, 1, 2, 3, 4, 5] (by decide) rfl) hS (lv_sub hl [0, 1, 2] rfl)
