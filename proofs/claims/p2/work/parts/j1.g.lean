def wf_c_rnum : List Cond := [.code yX23_takeNumber cX23_takeNumber 7 (some .int), .code yX23_at cX23_at 2 (some .int), .fieldLink RX23 1 "OwnedPlacesModel" "size" "I", .fieldLink RX23 7 "OwnedPlacesModel" "text" "[I", .methodLink RX23 11 yX23_at, .instanceMethod yX23_at, .selects RX23 yX23_at yX23_at, .initialized RX23, .code yX23_isDigit cX23_isDigit 1 (some .boolean), .methodLink RX23 40 yX23_isDigit, .static yX23_isDigit, .code yX23_isLetter cX23_isLetter 1 (some .boolean), .methodLink RX23 48 yX23_isLetter, .static yX23_isLetter, .code yX23_addToken cX23_addToken 6 none, .fieldLink RX23 25 "OwnedPlacesModel" "tokenKind" "[I", .fieldLink RX23 28 "OwnedPlacesModel" "tokens" "I", .fieldLink RX23 31 "OwnedPlacesModel" "tokenAt" "[I", .fieldLink RX23 34 "OwnedPlacesModel" "tokenEnd" "[I", .fieldLink RX23 37 "OwnedPlacesModel" "tokenNumber" "[J", .methodLink RX23 51 yX23_addToken, .instanceMethod yX23_addToken, .selects RX23 yX23_addToken yX23_addToken, .constantLong RX23 44 922337203685477580, .constantLong RX23 46 10]
def wp_c_rnum : List Cond := wf_c_rnum ++ (wsX230 ++ [])
theorem in_c_rnum_X23 : ∀ w ∈ wsX230, w ∈ wp_c_rnum := fun w h => List.mem_append_right _ (List.mem_append_left _ h)
theorem wg_c_rnum : wf_c_rnum.all goodWord = true := by decide +kernel
theorem wm_c_rnum (k : Nat) {w : Cond} (h : wp_c_rnum[k]? = some w) : w ∈ wp_c_rnum := List.mem_of_getElem? h
set_option maxRecDepth 20000 in
theorem g_c_rnum_c_rat_9 : GoodIn wp_c_rnum (wsV RX23 11 RX23 yX23_at wp_c_rat) := goodIn_app (goodIn_f [.methodLink RX23 11 yX23_at, .instanceMethod yX23_at, .selects RX23 yX23_at yX23_at, .initialized RX23] [4, 5, 6, 7] rfl (by decide +kernel)) (goodIn_app (goodIn_f (wf_c_rat) [1, 2, 3] rfl wg_c_rat) (goodIn_app (goodIn_sub in_c_rnum_X23 gd_X23) (goodIn_n)))
set_option maxRecDepth 20000 in
theorem g_c_rnum_c_rdig_12 : GoodIn wp_c_rnum (va_wsS RX23 40 yX23_isDigit wp_c_rdig) := goodIn_app (goodIn_f [.methodLink RX23 40 yX23_isDigit, .static yX23_isDigit, .initialized RX23] [9, 10, 7] rfl (by decide +kernel)) (goodIn_app (goodIn_f (wf_c_rdig) [8] rfl wg_c_rdig) (goodIn_n))
set_option maxRecDepth 20000 in
theorem g_c_rnum_c_rat_76 : GoodIn wp_c_rnum (wsV RX23 11 RX23 yX23_at wp_c_rat) := goodIn_app (goodIn_f [.methodLink RX23 11 yX23_at, .instanceMethod yX23_at, .selects RX23 yX23_at yX23_at, .initialized RX23] [4, 5, 6, 7] rfl (by decide +kernel)) (goodIn_app (goodIn_f (wf_c_rat) [1, 2, 3] rfl wg_c_rat) (goodIn_app (goodIn_sub in_c_rnum_X23 gd_X23) (goodIn_n)))
set_option maxRecDepth 20000 in
theorem g_c_rnum_c_rlet_79 : GoodIn wp_c_rnum (va_wsS RX23 48 yX23_isLetter wp_c_rlet) := goodIn_app (goodIn_f [.methodLink RX23 48 yX23_isLetter, .static yX23_isLetter, .initialized RX23] [12, 13, 7] rfl (by decide +kernel)) (goodIn_app (goodIn_f (wf_c_rlet) [11] rfl wg_c_rlet) (goodIn_n))
set_option maxRecDepth 20000 in
theorem g_c_rnum_c_radd_102 : GoodIn wp_c_rnum (wsV RX23 51 RX23 yX23_addToken wp_c_radd) := goodIn_app (goodIn_f [.methodLink RX23 51 yX23_addToken, .instanceMethod yX23_addToken, .selects RX23 yX23_addToken yX23_addToken, .initialized RX23] [20, 21, 22, 7] rfl (by decide +kernel)) (goodIn_app (goodIn_f (wf_c_radd) [14, 15, 16, 17, 18, 19] rfl wg_c_radd) (goodIn_app (goodIn_sub in_c_rnum_X23 gd_X23) (goodIn_n)))
set_option maxHeartbeats 4000000 in
set_option maxRecDepth 100000 in
theorem c_rnum (l : Launch) (dC : Nat → ClassId) (dI : Nat → Nat → Nat) (m9 : Nat) (mr : Nat → Nat) (mv : Nat → Int32) (vf : Value) (xl xf xa xp xi xt xn xe xv xb : Int32) (zs tk : Nat) (kI kL : ClassId) (ft fk fa fe : Nat → Int32) (fn : Nat → Int64) (i0 : Nat) (sz : Nat) (hzs : zs ≤ 3000) (htk : tk < 3002) (hi : i0 < zs) (hd : ¬ digF (atF ft zs i0) = 0) : Met l yX23_takeNumber wp_c_rnum ({ frames := 1, cells := 0, slots := 0, locals := 25 }) (va_Pc [.ref m9, .int (nI i0)] (fun U => U.heap.size = sz ∧ va_P (dC, dI) vwCl [(m9, .inr (23, mA mr mv vf xl (nI zs) xf xa (nI tk) xp xi xt xn xe xv xb)), (mr 0, .inl (kI, 3000, .inl ft)), (mr 5, .inl (kI, 3002, .inl fk)), (mr 6, .inl (kI, 3002, .inl fa)), (mr 7, .inl (kI, 3002, .inl fe)), (mr 8, .inl (kL, 3002, .inr (.inl fn)))] U.heap ∧ va_K (dC, dI) vwCl [(kI, .int), (kL, .long)] U ∧ va_D (fun _ => True) [(m9, .inr (23, mA mr mv vf xl (nI zs) xf xa (nI tk) xp xi xt xn xe xv xb)), (mr 0, .inl (kI, 3000, .inl ft)), (mr 5, .inl (kI, 3002, .inl fk)), (mr 6, .inl (kI, 3002, .inl fa)), (mr 7, .inl (kI, 3002, .inl fe)), (mr 8, .inl (kL, 3002, .inr (.inl fn)))])) (va_Qi (fun (r : Int32) (e1 : Nat) => r = nI e1) (fun (e1 : Nat) (tS : State) => ∃ (kd : Int32) (gn : Nat → Int64), (i0 < e1 ∧ e1 ≤ zs ∧ kd ≠ 0 ∧ kd ≠ 19) ∧ va_P (dC, dI) vwCl [(m9, .inr (23, mA mr mv vf xl (nI zs) xf xa (nI (tk + 1)) xp xi xt xn xe xv xb)), (mr 0, .inl (kI, 3000, .inl ft)), (mr 5, .inl (kI, 3002, .inl (upd fk tk kd))), (mr 6, .inl (kI, 3002, .inl (upd fa tk (nI i0)))), (mr 7, .inl (kI, 3002, .inl (upd fe tk (nI e1)))), (mr 8, .inl (kL, 3002, .inr (.inl gn)))] tS.heap ∧ va_K (dC, dI) vwCl [(kI, .int), (kL, .long)] tS ∧ va_D (va_A [(m9, .inr (23, mA mr mv vf xl (nI zs) xf xa (nI tk) xp xi xt xn xe xv xb)), (mr 0, .inl (kI, 3000, .inl ft)), (mr 5, .inl (kI, 3002, .inl fk)), (mr 6, .inl (kI, 3002, .inl fa)), (mr 7, .inl (kI, 3002, .inl fe)), (mr 8, .inl (kL, 3002, .inr (.inl fn)))] sz) [(m9, .inr (23, mA mr mv vf xl (nI zs) xf xa (nI (tk + 1)) xp xi xt xn xe xv xb)), (mr 0, .inl (kI, 3000, .inl ft)), (mr 5, .inl (kI, 3002, .inl (upd fk tk kd))), (mr 6, .inl (kI, 3002, .inl (upd fa tk (nI i0)))), (mr 7, .inl (kI, 3002, .inl (upd fe tk (nI e1)))), (mr 8, .inl (kL, 3002, .inr (.inl gn)))]) (va_A [(m9, .inr (23, mA mr mv vf xl (nI zs) xf xa (nI tk) xp xi xt xn xe xv xb)), (mr 0, .inl (kI, 3000, .inl ft)), (mr 5, .inl (kI, 3002, .inl fk)), (mr 6, .inl (kI, 3002, .inl fa)), (mr 7, .inl (kI, 3002, .inl fe)), (mr 8, .inl (kL, 3002, .inr (.inl fn)))] sz)) 0 0 (va_A [(m9, .inr (23, mA mr mv vf xl (nI zs) xf xa (nI tk) xp xi xt xn xe xv xb)), (mr 0, .inl (kI, 3000, .inl ft)), (mr 5, .inl (kI, 3002, .inl fk)), (mr 6, .inl (kI, 3002, .inl fa)), (mr 7, .inl (kI, 3002, .inl fe)), (mr 8, .inl (kL, 3002, .inr (.inl fn)))] sz) := by
  refine Met.ofW (cc := cX23_takeNumber) (maxL := 7) (ret := (some .int)) (by decide) rfl ?_
  intro p e s m args below meth c s₁ B hml hv
  obtain ⟨rfl, hsz, hP, hK, hD0⟩ := hv
  have hx := B.exec
  have hb := B.bytes
  have hr := B.returns
  have hts := atoms_spec (ws := wp_c_rnum) B.pre
  have hown : s.vm.findClass RX23 = some m.cls := findClass_of_methodNamed B.named
  have hlocks := B.notSynchronized
  subst hsz
  have hD := hD0.self (sz := s.heap.size)
  generalize hAe : va_A [(m9, .inr (23, mA mr mv vf xl (nI zs) xf xa (nI tk) xp xi xt xn xe xv xb)), (mr 0, .inl (kI, 3000, .inl ft)), (mr 5, .inl (kI, 3002, .inl fk)), (mr 6, .inl (kI, 3002, .inl fa)), (mr 7, .inl (kI, 3002, .inl fe)), (mr 8, .inl (kL, 3002, .inr (.inl fn)))] s.heap.size = A at hD ⊢
  have hA : ∀ q : Nat, s.heap.size ≤ q → A q := fun q h => by rw [← hAe]; exact Or.inr h
  have hS : va_S A s.heap s.heap [] := va_S.rf
  have hP : va_P (dC, dI) vwCl [(m9, .inr (23, mA mr mv vf xl (nI zs) xf xa (nI tk) xp xi xt xn xe xv xb)), (mr 0, .inl (kI, 3000, .inl ft)), (mr 5, .inl (kI, 3002, .inl fk)), (mr 6, .inl (kI, 3002, .inl fa)), (mr 7, .inl (kI, 3002, .inl fe)), (mr 8, .inl (kL, 3002, .inr (.inl fn)))] s.heap := hP
  have hl := lv_entry ([.ref m9, .int (nI i0)]) (n := 7) (Nat.le_of_ble_eq_true rfl)
  rw [lg_entry_eq]
  generalize (lg_sl ([.ref m9, .int (nI i0)]) ++ List.replicate (7 - (lg_sl ([.ref m9, .int (nI i0)])).length) Slot.unset).toArray = ls at hl ⊢
  have hl : lv_has ls 7 [(0, .ref m9), (1, .int (nI i0))] := hl
  refine lv_iload_n hx hb dX23_takeNumber_0 rfl (lv_at hl 1 rfl) ?_
  refine lv_istore_n (lv' := [(2, .int (nI i0)), (0, .ref m9), (1, .int (nI i0))]) hx hb dX23_takeNumber_1 rfl hl (by decide) rfl (fun ls hl => ?_)
  refine lv_lconst (v := 0) hx hb dX23_takeNumber_2 (by decide) ?_
  refine lv_lstore_n (lv' := [(3, .long 0), (2, .int (nI i0)), (0, .ref m9), (1, .int (nI i0))]) hx hb dX23_takeNumber_3 rfl hl (by decide) rfl (fun ls hl => ?_)
  refine lv_iconst (v := 1) hx hb dX23_takeNumber_4 (by decide) ?_
  refine lv_istore (lv' := [(5, .int 1), (3, .long 0), (2, .int (nI i0)), (0, .ref m9), (1, .int (nI i0))]) hx hb dX23_takeNumber_5 hl (by decide) rfl (fun ls hl => ?_)
  refine W_q (fun Q1 hQ1 => ?_)
  have key1 : ∀ (n1 : Nat) (i : Nat) (x : Int64) (go : Int32) (H : Heap) (locs : List Loc) (ls : Array Slot), (i + n1 = zs + 1 ∧ i ≤ zs) → (i0 ≤ i) → va_P (dC, dI) vwCl [(m9, .inr (23, mA mr mv vf xl (nI zs) xf xa (nI tk) xp xi xt xn xe xv xb)), (mr 0, .inl (kI, 3000, .inl ft)), (mr 5, .inl (kI, 3002, .inl fk)), (mr 6, .inl (kI, 3002, .inl fa)), (mr 7, .inl (kI, 3002, .inl fe)), (mr 8, .inl (kL, 3002, .inr (.inl fn)))] H → va_D A [(m9, .inr (23, mA mr mv vf xl (nI zs) xf xa (nI tk) xp xi xt xn xe xv xb)), (mr 0, .inl (kI, 3000, .inl ft)), (mr 5, .inl (kI, 3002, .inl fk)), (mr 6, .inl (kI, 3002, .inl fa)), (mr 7, .inl (kI, 3002, .inl fe)), (mr 8, .inl (kL, 3002, .inr (.inl fn)))] → va_S A s.heap H locs → lv_has ls 7 [(2, .int (nI i)), (3, .long x), (5, .int go), (0, .ref m9), (1, .int (nI i0))] → W p l e (headSpec wp_c_rnum ({ frames := 1, cells := 0, slots := 0, locals := 25 })).room s m ([.ref m9, .int (nI i0)] : List Value).toArray below meth c H locs 0 0 Q1 (F0 m 7 ls []) := by
    intro n1
    induction n1 with
    | zero => intro i x go H locs ls hb0 hb1; exact absurd hb0 (by omega)
    | succ n1 ih1 =>
      intro i x go H locs ls hb0 hb1 hP hD hS hl
      refine lv_aload_n hx hb dX23_takeNumber_7 rfl (lv_at hl 3 rfl) ?_
      refine lv_iload_n hx hb dX23_takeNumber_8 rfl (lv_at hl 0 rfl) ?_
      have hPc := hP.sub (ws' := [(m9, .inr (23, mA mr mv vf xl (nI zs) xf xa (nI tk) xp xi xt xn xe xv xb)), (mr 0, .inl (kI, 3000, .inl ft))]) [0, 1] rfl
      have hDc := hD.sub (ws' := [(m9, .inr (23, mA mr mv vf xl (nI zs) xf xa (nI tk) xp xi xt xn xe xv xb)), (mr 0, .inl (kI, 3000, .inl ft))]) [0, 1] (by decide) rfl
      have hKc := hK.sub (tys' := [(kI, .int)]) [0] rfl
      have hFc := va_free (wc := [(m9, .inr (23, mA mr mv vf xl (nI zs) xf xa (nI tk) xp xi xt xn xe xv xb)), (mr 0, .inl (kI, 3000, .inl ft))]) hD hS hA [0, 1] rfl
      refine va_calli (va_runV (As := [.int (nI i)]) (rest := []) ⟨hx, hb, hml, hown, hts⟩ (c_rat l dC dI m9 mr mv vf xl xf xa xp xi xt xn xe xv xb zs tk i kI ft H.size hzs (by omega)) (cwV 1 hts g_c_rnum_c_rat_9 rfl rfl rfl (by decide +kernel) ⟨Nat.le_of_ble_eq_true rfl, Nat.le_of_ble_eq_true rfl⟩) ⟨fun a U g mk q => by obtain ⟨q0, q1, qP, qK, qD⟩ := q; exact ⟨q0, q1, qP, va_K.moved (u := U) (U := U.calling g mk a) (Vm.Alike.refl U.vm) qK, qD⟩, va_recv hKc hPc (ci := 23) (q0 := 0) rfl rfl, fun U hU hW => ⟨rfl, by rw [hU], by rw [hU]; exact hPc, va_K.moved hW.alike hKc, hDc.weaken (fun _ _ _ _ => trivial)⟩⟩ rfl rfl hl.1 rfl (lv_room (Nat.le_of_ble_eq_true rfl)) dX23_takeNumber_9 ⟨(show 0 + 0 ≤ 0 by omega), (show 0 + 0 ≤ 0 by omega)⟩) hS (fun q _ h => hFc q h) hFc (fun r_1 u tS H1 locs ht hvm hw hB hz1 hk1 hS => ?_)
      obtain ⟨hP1, hK1, hD1⟩ := hB
      rw [ht] at hP1
      have hK1 := va_K.moved hvm.symm hK1
      obtain ⟨hP, hD⟩ := va_join (wr := [(mr 5, .inl (kI, 3002, .inl fk)), (mr 6, .inl (kI, 3002, .inl fa)), (mr 7, .inl (kI, 3002, .inl fe)), (mr 8, .inl (kL, 3002, .inr (.inl fn)))]) (w1 := [(m9, .inr (23, mA mr mv vf xl (nI zs) xf xa (nI tk) xp xi xt xn xe xv xb)), (mr 0, .inl (kI, 3000, .inl ft))]) hP hD [0, 1] [2, 3, 4, 5] rfl rfl (by decide) (by decide) hk1 hFc hP1 hD1
      have hK := hK.app hK1
      generalize H1 = H at hP hS ⊢
      have hP : va_P (dC, dI) vwCl [(mr 5, .inl (kI, 3002, .inl fk)), (mr 6, .inl (kI, 3002, .inl fa)), (mr 7, .inl (kI, 3002, .inl fe)), (mr 8, .inl (kL, 3002, .inr (.inl fn))), (m9, .inr (23, mA mr mv vf xl (nI zs) xf xa (nI tk) xp xi xt xn xe xv xb)), (mr 0, .inl (kI, 3000, .inl ft))] H := hP
      have hD : va_D A [(mr 5, .inl (kI, 3002, .inl fk)), (mr 6, .inl (kI, 3002, .inl fa)), (mr 7, .inl (kI, 3002, .inl fe)), (mr 8, .inl (kL, 3002, .inr (.inl fn))), (m9, .inr (23, mA mr mv vf xl (nI zs) xf xa (nI tk) xp xi xt xn xe xv xb)), (mr 0, .inl (kI, 3000, .inl ft))] := hD
      have hK : va_K (dC, dI) vwCl [(kI, .int), (kL, .long), (kI, .int)] s := hK
      have hK := hK.sub (tys' := [(kI, .int), (kL, .long)]) [0, 1] rfl
      have hP : va_P (dC, dI) vwCl [(mr 5, .inl (kI, 3002, .inl fk)), (mr 6, .inl (kI, 3002, .inl fa)), (mr 7, .inl (kI, 3002, .inl fe)), (mr 8, .inl (kL, 3002, .inr (.inl fn))), (m9, .inr (23, mA mr mv vf xl (nI zs) xf xa (nI tk) xp xi xt xn xe xv xb)), (mr 0, .inl (kI, 3000, .inl ft))] H := hP
      have hD : va_D A [(mr 5, .inl (kI, 3002, .inl fk)), (mr 6, .inl (kI, 3002, .inl fa)), (mr 7, .inl (kI, 3002, .inl fe)), (mr 8, .inl (kL, 3002, .inr (.inl fn))), (m9, .inr (23, mA mr mv vf xl (nI zs) xf xa (nI tk) xp xi xt xn xe xv xb)), (mr 0, .inl (kI, 3000, .inl ft))] := hD
      have hr_1 : r_1 = atF ft zs (i) := hw
      have hPc := hP.sub (ws' := []) [] rfl
      have hDc := hD.sub (ws' := []) [] (by decide) rfl
      have hKc := hK.sub (tys' := []) [] rfl
      have hFc := va_free (wc := []) hD hS hA [] rfl
      refine va_calli (va_runS (As := [.int r_1]) (rest := []) ⟨hx, hb, hml, hown, hts⟩ (c_rdig l dC dI r_1 H.size) (va_cwS 1 hts g_c_rnum_c_rdig_12 rfl rfl rfl (by decide +kernel) ⟨Nat.le_of_ble_eq_true rfl, Nat.le_of_ble_eq_true rfl⟩) ⟨fun a U g mk q => by obtain ⟨q0, q1, qP, qK, qD⟩ := q; exact ⟨q0, q1, qP, va_K.moved (u := U) (U := U.calling g mk a) (Vm.Alike.refl U.vm) qK, qD⟩, fun U hU hW => ⟨rfl, by rw [hU], by rw [hU]; exact hPc, va_K.moved hW.alike hKc, hDc.weaken (fun _ _ _ _ => trivial)⟩⟩ rfl rfl hl.1 rfl (lv_room (Nat.le_of_ble_eq_true rfl)) dX23_takeNumber_12 ⟨(show 0 + 0 ≤ 0 by omega), (show 0 + 0 ≤ 0 by omega)⟩) hS (fun q _ h => hFc q h) hFc (fun r_2 u tS H1 locs ht hvm hw hB hz1 hk1 hS => ?_)
      obtain ⟨hP1, hK1, hD1⟩ := hB
      rw [ht] at hP1
      have hK1 := va_K.moved hvm.symm hK1
      obtain ⟨hP, hD⟩ := va_join (wr := [(mr 5, .inl (kI, 3002, .inl fk)), (mr 6, .inl (kI, 3002, .inl fa)), (mr 7, .inl (kI, 3002, .inl fe)), (mr 8, .inl (kL, 3002, .inr (.inl fn))), (m9, .inr (23, mA mr mv vf xl (nI zs) xf xa (nI tk) xp xi xt xn xe xv xb)), (mr 0, .inl (kI, 3000, .inl ft))]) (w1 := []) hP hD [] [0, 1, 2, 3, 4, 5] rfl rfl (by decide) (by decide) hk1 hFc hP1 hD1
      generalize H1 = H at hP hS ⊢
      have hP : va_P (dC, dI) vwCl [(mr 5, .inl (kI, 3002, .inl fk)), (mr 6, .inl (kI, 3002, .inl fa)), (mr 7, .inl (kI, 3002, .inl fe)), (mr 8, .inl (kL, 3002, .inr (.inl fn))), (m9, .inr (23, mA mr mv vf xl (nI zs) xf xa (nI tk) xp xi xt xn xe xv xb)), (mr 0, .inl (kI, 3000, .inl ft))] H := hP
      have hD : va_D A [(mr 5, .inl (kI, 3002, .inl fk)), (mr 6, .inl (kI, 3002, .inl fa)), (mr 7, .inl (kI, 3002, .inl fe)), (mr 8, .inl (kL, 3002, .inr (.inl fn))), (m9, .inr (23, mA mr mv vf xl (nI zs) xf xa (nI tk) xp xi xt xn xe xv xb)), (mr 0, .inl (kI, 3000, .inl ft))] := hD
      have hK : va_K (dC, dI) vwCl [(kI, .int), (kL, .long)] s := hK
      have hr_2 : r_2 = digF r_1 := hw.2
      refine lv_if_eq (tgt := 74) hx hb dX23_takeNumber_15 (by decide) (fun hc => ?_) (fun hc => ?_)
      · have hi0 : i0 < i := by
          rcases Nat.lt_or_ge i0 i with z9 | z9
          · exact z9
          · exact absurd (by rw [show i0 = i by omega, ← hr_1, ← hr_2]; exact hc) hd
        refine lv_aload_n hx hb dX23_takeNumber_74 rfl (lv_at hl 3 rfl) ?_
        refine lv_iload_n hx hb dX23_takeNumber_75 rfl (lv_at hl 0 rfl) ?_
        have hPc := hP.sub (ws' := [(m9, .inr (23, mA mr mv vf xl (nI zs) xf xa (nI tk) xp xi xt xn xe xv xb)), (mr 0, .inl (kI, 3000, .inl ft))]) [4, 5] rfl
        have hDc := hD.sub (ws' := [(m9, .inr (23, mA mr mv vf xl (nI zs) xf xa (nI tk) xp xi xt xn xe xv xb)), (mr 0, .inl (kI, 3000, .inl ft))]) [4, 5] (by decide) rfl
        have hKc := hK.sub (tys' := [(kI, .int)]) [0] rfl
        have hFc := va_free (wc := [(m9, .inr (23, mA mr mv vf xl (nI zs) xf xa (nI tk) xp xi xt xn xe xv xb)), (mr 0, .inl (kI, 3000, .inl ft))]) hD hS hA [4, 5] rfl
        refine va_calli (va_runV (As := [.int (nI i)]) (rest := []) ⟨hx, hb, hml, hown, hts⟩ (c_rat l dC dI m9 mr mv vf xl xf xa xp xi xt xn xe xv xb zs tk i kI ft H.size hzs (by omega)) (cwV 1 hts g_c_rnum_c_rat_76 rfl rfl rfl (by decide +kernel) ⟨Nat.le_of_ble_eq_true rfl, Nat.le_of_ble_eq_true rfl⟩) ⟨fun a U g mk q => by obtain ⟨q0, q1, qP, qK, qD⟩ := q; exact ⟨q0, q1, qP, va_K.moved (u := U) (U := U.calling g mk a) (Vm.Alike.refl U.vm) qK, qD⟩, va_recv hKc hPc (ci := 23) (q0 := 0) rfl rfl, fun U hU hW => ⟨rfl, by rw [hU], by rw [hU]; exact hPc, va_K.moved hW.alike hKc, hDc.weaken (fun _ _ _ _ => trivial)⟩⟩ rfl rfl hl.1 rfl (lv_room (Nat.le_of_ble_eq_true rfl)) dX23_takeNumber_76 ⟨(show 0 + 0 ≤ 0 by omega), (show 0 + 0 ≤ 0 by omega)⟩) hS (fun q _ h => hFc q h) hFc (fun r_3 u tS H1 locs ht hvm hw hB hz1 hk1 hS => ?_)
        obtain ⟨hP1, hK1, hD1⟩ := hB
        rw [ht] at hP1
        have hK1 := va_K.moved hvm.symm hK1
        obtain ⟨hP, hD⟩ := va_join (wr := [(mr 5, .inl (kI, 3002, .inl fk)), (mr 6, .inl (kI, 3002, .inl fa)), (mr 7, .inl (kI, 3002, .inl fe)), (mr 8, .inl (kL, 3002, .inr (.inl fn)))]) (w1 := [(m9, .inr (23, mA mr mv vf xl (nI zs) xf xa (nI tk) xp xi xt xn xe xv xb)), (mr 0, .inl (kI, 3000, .inl ft))]) hP hD [4, 5] [0, 1, 2, 3] rfl rfl (by decide) (by decide) hk1 hFc hP1 hD1
        have hK := hK.app hK1
        generalize H1 = H at hP hS ⊢
        have hP : va_P (dC, dI) vwCl [(mr 5, .inl (kI, 3002, .inl fk)), (mr 6, .inl (kI, 3002, .inl fa)), (mr 7, .inl (kI, 3002, .inl fe)), (mr 8, .inl (kL, 3002, .inr (.inl fn))), (m9, .inr (23, mA mr mv vf xl (nI zs) xf xa (nI tk) xp xi xt xn xe xv xb)), (mr 0, .inl (kI, 3000, .inl ft))] H := hP
        have hD : va_D A [(mr 5, .inl (kI, 3002, .inl fk)), (mr 6, .inl (kI, 3002, .inl fa)), (mr 7, .inl (kI, 3002, .inl fe)), (mr 8, .inl (kL, 3002, .inr (.inl fn))), (m9, .inr (23, mA mr mv vf xl (nI zs) xf xa (nI tk) xp xi xt xn xe xv xb)), (mr 0, .inl (kI, 3000, .inl ft))] := hD
        have hK : va_K (dC, dI) vwCl [(kI, .int), (kL, .long), (kI, .int)] s := hK
        have hK := hK.sub (tys' := [(kI, .int), (kL, .long)]) [0, 1] rfl
        have hP : va_P (dC, dI) vwCl [(mr 5, .inl (kI, 3002, .inl fk)), (mr 6, .inl (kI, 3002, .inl fa)), (mr 7, .inl (kI, 3002, .inl fe)), (mr 8, .inl (kL, 3002, .inr (.inl fn))), (m9, .inr (23, mA mr mv vf xl (nI zs) xf xa (nI tk) xp xi xt xn xe xv xb)), (mr 0, .inl (kI, 3000, .inl ft))] H := hP
        have hD : va_D A [(mr 5, .inl (kI, 3002, .inl fk)), (mr 6, .inl (kI, 3002, .inl fa)), (mr 7, .inl (kI, 3002, .inl fe)), (mr 8, .inl (kL, 3002, .inr (.inl fn))), (m9, .inr (23, mA mr mv vf xl (nI zs) xf xa (nI tk) xp xi xt xn xe xv xb)), (mr 0, .inl (kI, 3000, .inl ft))] := hD
        have hr_3 : r_3 = atF ft zs (i) := hw
        have hPc := hP.sub (ws' := []) [] rfl
        have hDc := hD.sub (ws' := []) [] (by decide) rfl
        have hKc := hK.sub (tys' := []) [] rfl
        have hFc := va_free (wc := []) hD hS hA [] rfl
        refine va_calli (va_runS (As := [.int r_3]) (rest := []) ⟨hx, hb, hml, hown, hts⟩ (c_rlet l dC dI r_3 H.size) (va_cwS 1 hts g_c_rnum_c_rlet_79 rfl rfl rfl (by decide +kernel) ⟨Nat.le_of_ble_eq_true rfl, Nat.le_of_ble_eq_true rfl⟩) ⟨fun a U g mk q => by obtain ⟨q0, q1, qP, qK, qD⟩ := q; exact ⟨q0, q1, qP, va_K.moved (u := U) (U := U.calling g mk a) (Vm.Alike.refl U.vm) qK, qD⟩, fun U hU hW => ⟨rfl, by rw [hU], by rw [hU]; exact hPc, va_K.moved hW.alike hKc, hDc.weaken (fun _ _ _ _ => trivial)⟩⟩ rfl rfl hl.1 rfl (lv_room (Nat.le_of_ble_eq_true rfl)) dX23_takeNumber_79 ⟨(show 0 + 0 ≤ 0 by omega), (show 0 + 0 ≤ 0 by omega)⟩) hS (fun q _ h => hFc q h) hFc (fun r_4 u tS H1 locs ht hvm hw hB hz1 hk1 hS => ?_)
        obtain ⟨hP1, hK1, hD1⟩ := hB
        rw [ht] at hP1
        have hK1 := va_K.moved hvm.symm hK1
        obtain ⟨hP, hD⟩ := va_join (wr := [(mr 5, .inl (kI, 3002, .inl fk)), (mr 6, .inl (kI, 3002, .inl fa)), (mr 7, .inl (kI, 3002, .inl fe)), (mr 8, .inl (kL, 3002, .inr (.inl fn))), (m9, .inr (23, mA mr mv vf xl (nI zs) xf xa (nI tk) xp xi xt xn xe xv xb)), (mr 0, .inl (kI, 3000, .inl ft))]) (w1 := []) hP hD [] [0, 1, 2, 3, 4, 5] rfl rfl (by decide) (by decide) hk1 hFc hP1 hD1
        generalize H1 = H at hP hS ⊢
        have hP : va_P (dC, dI) vwCl [(mr 5, .inl (kI, 3002, .inl fk)), (mr 6, .inl (kI, 3002, .inl fa)), (mr 7, .inl (kI, 3002, .inl fe)), (mr 8, .inl (kL, 3002, .inr (.inl fn))), (m9, .inr (23, mA mr mv vf xl (nI zs) xf xa (nI tk) xp xi xt xn xe xv xb)), (mr 0, .inl (kI, 3000, .inl ft))] H := hP
        have hD : va_D A [(mr 5, .inl (kI, 3002, .inl fk)), (mr 6, .inl (kI, 3002, .inl fa)), (mr 7, .inl (kI, 3002, .inl fe)), (mr 8, .inl (kL, 3002, .inr (.inl fn))), (m9, .inr (23, mA mr mv vf xl (nI zs) xf xa (nI tk) xp xi xt xn xe xv xb)), (mr 0, .inl (kI, 3000, .inl ft))] := hD
        have hK : va_K (dC, dI) vwCl [(kI, .int), (kL, .long)] s := hK
        have hr_4 : r_4 = letF r_3 := hw.2
        refine lv_if_eq (tgt := 88) hx hb dX23_takeNumber_82 (by decide) (fun hlx => ?_) (fun hlx => ?_)
        · refine lv_aload_n hx hb dX23_takeNumber_88 rfl (lv_at hl 3 rfl) ?_
          refine lv_iload hx hb dX23_takeNumber_89 (lv_at hl 2 rfl) ?_
          refine lv_if_eq (tgt := 98) hx hb dX23_takeNumber_91 (by decide) (fun hg => ?_) (fun hg => ?_)
          · refine lv_iconst (v := 1) hx hb dX23_takeNumber_98 (by decide) ?_
            refine lv_iload_n hx hb dX23_takeNumber_99 rfl (lv_at hl 4 rfl) ?_
            refine lv_iload_n hx hb dX23_takeNumber_100 rfl (lv_at hl 0 rfl) ?_
            refine lv_lload_n hx hb dX23_takeNumber_101 rfl (lv_at hl 1 rfl) ?_
            have hPc := hP.sub (ws' := [(m9, .inr (23, mA mr mv vf xl (nI zs) xf xa (nI tk) xp xi xt xn xe xv xb)), (mr 5, .inl (kI, 3002, .inl fk)), (mr 6, .inl (kI, 3002, .inl fa)), (mr 7, .inl (kI, 3002, .inl fe)), (mr 8, .inl (kL, 3002, .inr (.inl fn)))]) [4, 0, 1, 2, 3] rfl
            have hDc := hD.sub (ws' := [(m9, .inr (23, mA mr mv vf xl (nI zs) xf xa (nI tk) xp xi xt xn xe xv xb)), (mr 5, .inl (kI, 3002, .inl fk)), (mr 6, .inl (kI, 3002, .inl fa)), (mr 7, .inl (kI, 3002, .inl fe)), (mr 8, .inl (kL, 3002, .inr (.inl fn)))]) [4, 0, 1, 2, 3] (by decide) rfl
            have hKc := hK.sub (tys' := [(kI, .int), (kL, .long)]) [0, 1] rfl
            have hFc := va_free (wc := [(m9, .inr (23, mA mr mv vf xl (nI zs) xf xa (nI tk) xp xi xt xn xe xv xb)), (mr 5, .inl (kI, 3002, .inl fk)), (mr 6, .inl (kI, 3002, .inl fa)), (mr 7, .inl (kI, 3002, .inl fe)), (mr 8, .inl (kL, 3002, .inr (.inl fn)))]) hD hS hA [4, 0, 1, 2, 3] rfl
            refine va_callv (va_runV (As := [.int 1, .int (nI i0), .int (nI i), .long x]) (rest := []) ⟨hx, hb, hml, hown, hts⟩ (c_radd l dC dI m9 mr mv vf xl xf xa xp xi xt xn xe xv xb zs tk kI kL ft fk fa fe fn 1 (nI i0) (nI i) x H.size htk) (cwV 4 hts g_c_rnum_c_radd_102 rfl rfl rfl (by decide +kernel) ⟨Nat.le_of_ble_eq_true rfl, Nat.le_of_ble_eq_true rfl⟩) ⟨fun a U g mk q => by obtain ⟨q0, q1, qP, qK, qD⟩ := q; exact ⟨q0, q1, qP, va_K.moved (u := U) (U := U.calling g mk a) (Vm.Alike.refl U.vm) qK, qD⟩, va_recv hKc hPc (ci := 23) (q0 := 0) rfl rfl, fun U hU hW => ⟨rfl, by rw [hU], by rw [hU]; exact hPc, va_K.moved hW.alike hKc, hDc.weaken (fun _ _ _ _ => trivial)⟩⟩ rfl rfl hl.1 rfl (lv_room (Nat.le_of_ble_eq_true rfl)) dX23_takeNumber_102 ⟨(show 0 + 0 ≤ 0 by omega), (show 0 + 0 ≤ 0 by omega)⟩) hS (fun q _ h => hFc q h) hFc (fun u tS H1 locs ht hvm hw hB hz1 hk1 hS => ?_)
            obtain ⟨gn9, hP1, hK1, hD1⟩ := hB
            rw [ht] at hP1
            have hK1 := va_K.moved hvm.symm hK1
            obtain ⟨hP, hD⟩ := va_join (wr := [(mr 0, .inl (kI, 3000, .inl ft))]) (w1 := [(m9, .inr (23, mA mr mv vf xl (nI zs) xf xa (nI (tk + 1)) xp xi xt xn xe xv xb)), (mr 5, .inl (kI, 3002, .inl (upd fk tk 1))), (mr 6, .inl (kI, 3002, .inl (upd fa tk (nI i0)))), (mr 7, .inl (kI, 3002, .inl (upd fe tk (nI i)))), (mr 8, .inl (kL, 3002, .inr (.inl gn9)))]) hP hD [4, 0, 1, 2, 3] [5] rfl rfl (by decide) (by decide) hk1 hFc hP1 hD1
            have hK := hK.app hK1
            generalize H1 = H at hP hS ⊢
            have hP : va_P (dC, dI) vwCl [(mr 0, .inl (kI, 3000, .inl ft)), (m9, .inr (23, mA mr mv vf xl (nI zs) xf xa (nI (tk + 1)) xp xi xt xn xe xv xb)), (mr 5, .inl (kI, 3002, .inl (upd fk tk 1))), (mr 6, .inl (kI, 3002, .inl (upd fa tk (nI i0)))), (mr 7, .inl (kI, 3002, .inl (upd fe tk (nI i)))), (mr 8, .inl (kL, 3002, .inr (.inl gn9)))] H := hP
            have hD : va_D A [(mr 0, .inl (kI, 3000, .inl ft)), (m9, .inr (23, mA mr mv vf xl (nI zs) xf xa (nI (tk + 1)) xp xi xt xn xe xv xb)), (mr 5, .inl (kI, 3002, .inl (upd fk tk 1))), (mr 6, .inl (kI, 3002, .inl (upd fa tk (nI i0)))), (mr 7, .inl (kI, 3002, .inl (upd fe tk (nI i)))), (mr 8, .inl (kL, 3002, .inr (.inl gn9)))] := hD
            have hK : va_K (dC, dI) vwCl [(kI, .int), (kL, .long), (kI, .int), (kL, .long)] s := hK
            have hK := hK.sub (tys' := [(kI, .int), (kL, .long)]) [0, 1] rfl
            have hP : va_P (dC, dI) vwCl [(mr 0, .inl (kI, 3000, .inl ft)), (m9, .inr (23, mA mr mv vf xl (nI zs) xf xa (nI (tk + 1)) xp xi xt xn xe xv xb)), (mr 5, .inl (kI, 3002, .inl (upd fk tk 1))), (mr 6, .inl (kI, 3002, .inl (upd fa tk (nI i0)))), (mr 7, .inl (kI, 3002, .inl (upd fe tk (nI i)))), (mr 8, .inl (kL, 3002, .inr (.inl gn9)))] H := hP
            have hD : va_D A [(mr 0, .inl (kI, 3000, .inl ft)), (m9, .inr (23, mA mr mv vf xl (nI zs) xf xa (nI (tk + 1)) xp xi xt xn xe xv xb)), (mr 5, .inl (kI, 3002, .inl (upd fk tk 1))), (mr 6, .inl (kI, 3002, .inl (upd fa tk (nI i0)))), (mr 7, .inl (kI, 3002, .inl (upd fe tk (nI i)))), (mr 8, .inl (kL, 3002, .inr (.inl gn9)))] := hD
            refine lv_iload_n hx hb dX23_takeNumber_105 rfl (lv_at hl 0 rfl) ?_
            have hP9 := hP.sub (ws' := [(m9, .inr (23, mA mr mv vf xl (nI zs) xf xa (nI (tk + 1)) xp xi xt xn xe xv xb)), (mr 0, .inl (kI, 3000, .inl ft)), (mr 5, .inl (kI, 3002, .inl (upd fk tk 1))), (mr 6, .inl (kI, 3002, .inl (upd fa tk (nI i0)))), (mr 7, .inl (kI, 3002, .inl (upd fe tk (nI i)))), (mr 8, .inl (kL, 3002, .inr (.inl gn9)))]) [1, 0, 2, 3, 4, 5] rfl
            have hD9 := hD.sub (ws' := [(m9, .inr (23, mA mr mv vf xl (nI zs) xf xa (nI (tk + 1)) xp xi xt xn xe xv xb)), (mr 0, .inl (kI, 3000, .inl ft)), (mr 5, .inl (kI, 3002, .inl (upd fk tk 1))), (mr 6, .inl (kI, 3002, .inl (upd fa tk (nI i0)))), (mr 7, .inl (kI, 3002, .inl (upd fe tk (nI i)))), (mr 8, .inl (kL, 3002, .inr (.inl gn9)))]) [1, 0, 2, 3, 4, 5] (by decide) rfl
            have hK9 := hK.sub (tys' := [(kI, .int), (kL, .long)]) [0, 1] rfl
            subst hQ1
            exact W.iret (v := nI i) hx hb hr (fun tS ht hW => ⟨⟨(nI i), i, rfl, rfl, 1, gn9, ⟨hi0, by omega, by decide, by decide⟩, by rw [ht]; exact hP9, va_K.moved hW.alike hK9, hD9⟩, hS.F ht⟩) hS.2.2 dX23_takeNumber_106
          · refine lv_iconst (v := 3) hx hb dX23_takeNumber_94 (by decide) ?_
            refine lv_goto (tgt := 99) hx hb dX23_takeNumber_95 (by decide) ?_
            refine lv_iload_n hx hb dX23_takeNumber_99 rfl (lv_at hl 4 rfl) ?_
            refine lv_iload_n hx hb dX23_takeNumber_100 rfl (lv_at hl 0 rfl) ?_
            refine lv_lload_n hx hb dX23_takeNumber_101 rfl (lv_at hl 1 rfl) ?_
            have hPc := hP.sub (ws' := [(m9, .inr (23, mA mr mv vf xl (nI zs) xf xa (nI tk) xp xi xt xn xe xv xb)), (mr 5, .inl (kI, 3002, .inl fk)), (mr 6, .inl (kI, 3002, .inl fa)), (mr 7, .inl (kI, 3002, .inl fe)), (mr 8, .inl (kL, 3002, .inr (.inl fn)))]) [4, 0, 1, 2, 3] rfl
            have hDc := hD.sub (ws' := [(m9, .inr (23, mA mr mv vf xl (nI zs) xf xa (nI tk) xp xi xt xn xe xv xb)), (mr 5, .inl (kI, 3002, .inl fk)), (mr 6, .inl (kI, 3002, .inl fa)), (mr 7, .inl (kI, 3002, .inl fe)), (mr 8, .inl (kL, 3002, .inr (.inl fn)))]) [4, 0, 1, 2, 3] (by decide) rfl
            have hKc := hK.sub (tys' := [(kI, .int), (kL, .long)]) [0, 1] rfl
            have hFc := va_free (wc := [(m9, .inr (23, mA mr mv vf xl (nI zs) xf xa (nI tk) xp xi xt xn xe xv xb)), (mr 5, .inl (kI, 3002, .inl fk)), (mr 6, .inl (kI, 3002, .inl fa)), (mr 7, .inl (kI, 3002, .inl fe)), (mr 8, .inl (kL, 3002, .inr (.inl fn)))]) hD hS hA [4, 0, 1, 2, 3] rfl
            refine va_callv (va_runV (As := [.int 3, .int (nI i0), .int (nI i), .long x]) (rest := []) ⟨hx, hb, hml, hown, hts⟩ (c_radd l dC dI m9 mr mv vf xl xf xa xp xi xt xn xe xv xb zs tk kI kL ft fk fa fe fn 3 (nI i0) (nI i) x H.size htk) (cwV 4 hts g_c_rnum_c_radd_102 rfl rfl rfl (by decide +kernel) ⟨Nat.le_of_ble_eq_true rfl, Nat.le_of_ble_eq_true rfl⟩) ⟨fun a U g mk q => by obtain ⟨q0, q1, qP, qK, qD⟩ := q; exact ⟨q0, q1, qP, va_K.moved (u := U) (U := U.calling g mk a) (Vm.Alike.refl U.vm) qK, qD⟩, va_recv hKc hPc (ci := 23) (q0 := 0) rfl rfl, fun U hU hW => ⟨rfl, by rw [hU], by rw [hU]; exact hPc, va_K.moved hW.alike hKc, hDc.weaken (fun _ _ _ _ => trivial)⟩⟩ rfl rfl hl.1 rfl (lv_room (Nat.le_of_ble_eq_true rfl)) dX23_takeNumber_102 ⟨(show 0 + 0 ≤ 0 by omega), (show 0 + 0 ≤ 0 by omega)⟩) hS (fun q _ h => hFc q h) hFc (fun u tS H1 locs ht hvm hw hB hz1 hk1 hS => ?_)
            obtain ⟨gn9, hP1, hK1, hD1⟩ := hB
            rw [ht] at hP1
            have hK1 := va_K.moved hvm.symm hK1
            obtain ⟨hP, hD⟩ := va_join (wr := [(mr 0, .inl (kI, 3000, .inl ft))]) (w1 := [(m9, .inr (23, mA mr mv vf xl (nI zs) xf xa (nI (tk + 1)) xp xi xt xn xe xv xb)), (mr 5, .inl (kI, 3002, .inl (upd fk tk 3))), (mr 6, .inl (kI, 3002, .inl (upd fa tk (nI i0)))), (mr 7, .inl (kI, 3002, .inl (upd fe tk (nI i)))), (mr 8, .inl (kL, 3002, .inr (.inl gn9)))]) hP hD [4, 0, 1, 2, 3] [5] rfl rfl (by decide) (by decide) hk1 hFc hP1 hD1
            have hK := hK.app hK1
            generalize H1 = H at hP hS ⊢
            have hP : va_P (dC, dI) vwCl [(mr 0, .inl (kI, 3000, .inl ft)), (m9, .inr (23, mA mr mv vf xl (nI zs) xf xa (nI (tk + 1)) xp xi xt xn xe xv xb)), (mr 5, .inl (kI, 3002, .inl (upd fk tk 3))), (mr 6, .inl (kI, 3002, .inl (upd fa tk (nI i0)))), (mr 7, .inl (kI, 3002, .inl (upd fe tk (nI i)))), (mr 8, .inl (kL, 3002, .inr (.inl gn9)))] H := hP
            have hD : va_D A [(mr 0, .inl (kI, 3000, .inl ft)), (m9, .inr (23, mA mr mv vf xl (nI zs) xf xa (nI (tk + 1)) xp xi xt xn xe xv xb)), (mr 5, .inl (kI, 3002, .inl (upd fk tk 3))), (mr 6, .inl (kI, 3002, .inl (upd fa tk (nI i0)))), (mr 7, .inl (kI, 3002, .inl (upd fe tk (nI i)))), (mr 8, .inl (kL, 3002, .inr (.inl gn9)))] := hD
            have hK : va_K (dC, dI) vwCl [(kI, .int), (kL, .long), (kI, .int), (kL, .long)] s := hK
            have hK := hK.sub (tys' := [(kI, .int), (kL, .long)]) [0, 1] rfl
            have hP : va_P (dC, dI) vwCl [(mr 0, .inl (kI, 3000, .inl ft)), (m9, .inr (23, mA mr mv vf xl (nI zs) xf xa (nI (tk + 1)) xp xi xt xn xe xv xb)), (mr 5, .inl (kI, 3002, .inl (upd fk tk 3))), (mr 6, .inl (kI, 3002, .inl (upd fa tk (nI i0)))), (mr 7, .inl (kI, 3002, .inl (upd fe tk (nI i)))), (mr 8, .inl (kL, 3002, .inr (.inl gn9)))] H := hP
            have hD : va_D A [(mr 0, .inl (kI, 3000, .inl ft)), (m9, .inr (23, mA mr mv vf xl (nI zs) xf xa (nI (tk + 1)) xp xi xt xn xe xv xb)), (mr 5, .inl (kI, 3002, .inl (upd fk tk 3))), (mr 6, .inl (kI, 3002, .inl (upd fa tk (nI i0)))), (mr 7, .inl (kI, 3002, .inl (upd fe tk (nI i)))), (mr 8, .inl (kL, 3002, .inr (.inl gn9)))] := hD
            refine lv_iload_n hx hb dX23_takeNumber_105 rfl (lv_at hl 0 rfl) ?_
            have hP9 := hP.sub (ws' := [(m9, .inr (23, mA mr mv vf xl (nI zs) xf xa (nI (tk + 1)) xp xi xt xn xe xv xb)), (mr 0, .inl (kI, 3000, .inl ft)), (mr 5, .inl (kI, 3002, .inl (upd fk tk 3))), (mr 6, .inl (kI, 3002, .inl (upd fa tk (nI i0)))), (mr 7, .inl (kI, 3002, .inl (upd fe tk (nI i)))), (mr 8, .inl (kL, 3002, .inr (.inl gn9)))]) [1, 0, 2, 3, 4, 5] rfl
            have hD9 := hD.sub (ws' := [(m9, .inr (23, mA mr mv vf xl (nI zs) xf xa (nI (tk + 1)) xp xi xt xn xe xv xb)), (mr 0, .inl (kI, 3000, .inl ft)), (mr 5, .inl (kI, 3002, .inl (upd fk tk 3))), (mr 6, .inl (kI, 3002, .inl (upd fa tk (nI i0)))), (mr 7, .inl (kI, 3002, .inl (upd fe tk (nI i)))), (mr 8, .inl (kL, 3002, .inr (.inl gn9)))]) [1, 0, 2, 3, 4, 5] (by decide) rfl
            have hK9 := hK.sub (tys' := [(kI, .int), (kL, .long)]) [0, 1] rfl
            subst hQ1
            exact W.iret (v := nI i) hx hb hr (fun tS ht hW => ⟨⟨(nI i), i, rfl, rfl, 3, gn9, ⟨hi0, by omega, by decide, by decide⟩, by rw [ht]; exact hP9, va_K.moved hW.alike hK9, hD9⟩, hS.F ht⟩) hS.2.2 dX23_takeNumber_106
        · refine lv_iconst (v := 0) hx hb dX23_takeNumber_85 (by decide) ?_
          refine lv_istore (lv' := [(5, .int 0), (2, .int (nI i)), (3, .long x), (0, .ref m9), (1, .int (nI i0))]) hx hb dX23_takeNumber_86 hl (by decide) rfl (fun ls hl => ?_)
          refine lv_aload_n hx hb dX23_takeNumber_88 rfl (lv_at hl 3 rfl) ?_
          refine lv_iload hx hb dX23_takeNumber_89 (lv_at hl 0 rfl) ?_
          refine lv_if_eq (tgt := 98) hx hb dX23_takeNumber_91 (by decide) (fun _ => ?_) (fun c_5 => absurd (by decide) c_5)
          refine lv_iconst (v := 1) hx hb dX23_takeNumber_98 (by decide) ?_
          refine lv_iload_n hx hb dX23_takeNumber_99 rfl (lv_at hl 4 rfl) ?_
          refine lv_iload_n hx hb dX23_takeNumber_100 rfl (lv_at hl 1 rfl) ?_
          refine lv_lload_n hx hb dX23_takeNumber_101 rfl (lv_at hl 2 rfl) ?_
          have hPc := hP.sub (ws' := [(m9, .inr (23, mA mr mv vf xl (nI zs) xf xa (nI tk) xp xi xt xn xe xv xb)), (mr 5, .inl (kI, 3002, .inl fk)), (mr 6, .inl (kI, 3002, .inl fa)), (mr 7, .inl (kI, 3002, .inl fe)), (mr 8, .inl (kL, 3002, .inr (.inl fn)))]) [4, 0, 1, 2, 3] rfl
          have hDc := hD.sub (ws' := [(m9, .inr (23, mA mr mv vf xl (nI zs) xf xa (nI tk) xp xi xt xn xe xv xb)), (mr 5, .inl (kI, 3002, .inl fk)), (mr 6, .inl (kI, 3002, .inl fa)), (mr 7, .inl (kI, 3002, .inl fe)), (mr 8, .inl (kL, 3002, .inr (.inl fn)))]) [4, 0, 1, 2, 3] (by decide) rfl
          have hKc := hK.sub (tys' := [(kI, .int), (kL, .long)]) [0, 1] rfl
          have hFc := va_free (wc := [(m9, .inr (23, mA mr mv vf xl (nI zs) xf xa (nI tk) xp xi xt xn xe xv xb)), (mr 5, .inl (kI, 3002, .inl fk)), (mr 6, .inl (kI, 3002, .inl fa)), (mr 7, .inl (kI, 3002, .inl fe)), (mr 8, .inl (kL, 3002, .inr (.inl fn)))]) hD hS hA [4, 0, 1, 2, 3] rfl
          refine va_callv (va_runV (As := [.int 1, .int (nI i0), .int (nI i), .long x]) (rest := []) ⟨hx, hb, hml, hown, hts⟩ (c_radd l dC dI m9 mr mv vf xl xf xa xp xi xt xn xe xv xb zs tk kI kL ft fk fa fe fn 1 (nI i0) (nI i) x H.size htk) (cwV 4 hts g_c_rnum_c_radd_102 rfl rfl rfl (by decide +kernel) ⟨Nat.le_of_ble_eq_true rfl, Nat.le_of_ble_eq_true rfl⟩) ⟨fun a U g mk q => by obtain ⟨q0, q1, qP, qK, qD⟩ := q; exact ⟨q0, q1, qP, va_K.moved (u := U) (U := U.calling g mk a) (Vm.Alike.refl U.vm) qK, qD⟩, va_recv hKc hPc (ci := 23) (q0 := 0) rfl rfl, fun U hU hW => ⟨rfl, by rw [hU], by rw [hU]; exact hPc, va_K.moved hW.alike hKc, hDc.weaken (fun _ _ _ _ => trivial)⟩⟩ rfl rfl hl.1 rfl (lv_room (Nat.le_of_ble_eq_true rfl)) dX23_takeNumber_102 ⟨(show 0 + 0 ≤ 0 by omega), (show 0 + 0 ≤ 0 by omega)⟩) hS (fun q _ h => hFc q h) hFc (fun u tS H1 locs ht hvm hw hB hz1 hk1 hS => ?_)
          obtain ⟨gn9, hP1, hK1, hD1⟩ := hB
          rw [ht] at hP1
          have hK1 := va_K.moved hvm.symm hK1
          obtain ⟨hP, hD⟩ := va_join (wr := [(mr 0, .inl (kI, 3000, .inl ft))]) (w1 := [(m9, .inr (23, mA mr mv vf xl (nI zs) xf xa (nI (tk + 1)) xp xi xt xn xe xv xb)), (mr 5, .inl (kI, 3002, .inl (upd fk tk 1))), (mr 6, .inl (kI, 3002, .inl (upd fa tk (nI i0)))), (mr 7, .inl (kI, 3002, .inl (upd fe tk (nI i)))), (mr 8, .inl (kL, 3002, .inr (.inl gn9)))]) hP hD [4, 0, 1, 2, 3] [5] rfl rfl (by decide) (by decide) hk1 hFc hP1 hD1
          have hK := hK.app hK1
          generalize H1 = H at hP hS ⊢
          have hP : va_P (dC, dI) vwCl [(mr 0, .inl (kI, 3000, .inl ft)), (m9, .inr (23, mA mr mv vf xl (nI zs) xf xa (nI (tk + 1)) xp xi xt xn xe xv xb)), (mr 5, .inl (kI, 3002, .inl (upd fk tk 1))), (mr 6, .inl (kI, 3002, .inl (upd fa tk (nI i0)))), (mr 7, .inl (kI, 3002, .inl (upd fe tk (nI i)))), (mr 8, .inl (kL, 3002, .inr (.inl gn9)))] H := hP
          have hD : va_D A [(mr 0, .inl (kI, 3000, .inl ft)), (m9, .inr (23, mA mr mv vf xl (nI zs) xf xa (nI (tk + 1)) xp xi xt xn xe xv xb)), (mr 5, .inl (kI, 3002, .inl (upd fk tk 1))), (mr 6, .inl (kI, 3002, .inl (upd fa tk (nI i0)))), (mr 7, .inl (kI, 3002, .inl (upd fe tk (nI i)))), (mr 8, .inl (kL, 3002, .inr (.inl gn9)))] := hD
          have hK : va_K (dC, dI) vwCl [(kI, .int), (kL, .long), (kI, .int), (kL, .long)] s := hK
          have hK := hK.sub (tys' := [(kI, .int), (kL, .long)]) [0, 1] rfl
          have hP : va_P (dC, dI) vwCl [(mr 0, .inl (kI, 3000, .inl ft)), (m9, .inr (23, mA mr mv vf xl (nI zs) xf xa (nI (tk + 1)) xp xi xt xn xe xv xb)), (mr 5, .inl (kI, 3002, .inl (upd fk tk 1))), (mr 6, .inl (kI, 3002, .inl (upd fa tk (nI i0)))), (mr 7, .inl (kI, 3002, .inl (upd fe tk (nI i)))), (mr 8, .inl (kL, 3002, .inr (.inl gn9)))] H := hP
          have hD : va_D A [(mr 0, .inl (kI, 3000, .inl ft)), (m9, .inr (23, mA mr mv vf xl (nI zs) xf xa (nI (tk + 1)) xp xi xt xn xe xv xb)), (mr 5, .inl (kI, 3002, .inl (upd fk tk 1))), (mr 6, .inl (kI, 3002, .inl (upd fa tk (nI i0)))), (mr 7, .inl (kI, 3002, .inl (upd fe tk (nI i)))), (mr 8, .inl (kL, 3002, .inr (.inl gn9)))] := hD
          refine lv_iload_n hx hb dX23_takeNumber_105 rfl (lv_at hl 1 rfl) ?_
          have hP9 := hP.sub (ws' := [(m9, .inr (23, mA mr mv vf xl (nI zs) xf xa (nI (tk + 1)) xp xi xt xn xe xv xb)), (mr 0, .inl (kI, 3000, .inl ft)), (mr 5, .inl (kI, 3002, .inl (upd fk tk 1))), (mr 6, .inl (kI, 3002, .inl (upd fa tk (nI i0)))), (mr 7, .inl (kI, 3002, .inl (upd fe tk (nI i)))), (mr 8, .inl (kL, 3002, .inr (.inl gn9)))]) [1, 0, 2, 3, 4, 5] rfl
          have hD9 := hD.sub (ws' := [(m9, .inr (23, mA mr mv vf xl (nI zs) xf xa (nI (tk + 1)) xp xi xt xn xe xv xb)), (mr 0, .inl (kI, 3000, .inl ft)), (mr 5, .inl (kI, 3002, .inl (upd fk tk 1))), (mr 6, .inl (kI, 3002, .inl (upd fa tk (nI i0)))), (mr 7, .inl (kI, 3002, .inl (upd fe tk (nI i)))), (mr 8, .inl (kL, 3002, .inr (.inl gn9)))]) [1, 0, 2, 3, 4, 5] (by decide) rfl
          have hK9 := hK.sub (tys' := [(kI, .int), (kL, .long)]) [0, 1] rfl
          subst hQ1
          exact W.iret (v := nI i) hx hb hr (fun tS ht hW => ⟨⟨(nI i), i, rfl, rfl, 1, gn9, ⟨hi0, by omega, by decide, by decide⟩, by rw [ht]; exact hP9, va_K.moved hW.alike hK9, hD9⟩, hS.F ht⟩) hS.2.2 dX23_takeNumber_106
      · have hlt : i < zs := digF_lt (fun q => hc (by rw [hr_2, hr_1]; exact q))
        refine lv_aload_n hx hb dX23_takeNumber_18 rfl (lv_at hl 3 rfl) ?_
        refine va_get (D := (dC, dI)) (ci := 23) (v := .ref (mr 0)) (C := RX23) (T := TX23) (N := 89) hx hb hts in_c_rnum_X23 hown hK hP 4 rfl rfl 0 (by decide) (hts (.fieldLink RX23 7 "OwnedPlacesModel" "text" "[I") (wm_c_rnum 3 rfl)) (fun _ h9 => h9) rfl dX23_takeNumber_19 ?_
        refine lv_iload_n hx hb dX23_takeNumber_22 rfl (lv_at hl 0 rfl) ?_
        refine va_iald hx hb hK hP 5 0 rfl rfl (vp_in_nI (show i < 3000 by omega) (by decide)) dX23_takeNumber_23 ?_
        refine lv_topi (fun v_3 ev_3 => ?_)
        refine lv_bipush (v := 48) hx hb dX23_takeNumber_24 (by decide) ?_
        refine lv_isub hx hb dX23_takeNumber_26 ?_
        refine lv_topi (fun f_4 ef_4 => ?_)
        refine lv_istore (lv' := [(6, .int f_4), (2, .int (nI i)), (3, .long x), (5, .int go), (0, .ref m9), (1, .int (nI i0))]) hx hb dX23_takeNumber_27 hl (by decide) rfl (fun ls hl => ?_)
        refine lv_lload_n hx hb dX23_takeNumber_29 rfl (lv_at hl 2 rfl) ?_
        refine lv_ldc2 (v := 922337203685477580) hx hb hown (hts (.constantLong RX23 44 922337203685477580) (wm_c_rnum 23 rfl)) dX23_takeNumber_30 ?_
        refine W.lcmp hx hb dX23_takeNumber_33 ?_
        refine lv_topi (fun f_5 ef_5 => ?_)
        refine lv_if_gt (tgt := 52) hx hb dX23_takeNumber_34 (by decide) (fun hz1 => ?_) (fun hz1 => ?_)
        · refine lv_iconst (v := 0) hx hb dX23_takeNumber_52 (by decide) ?_
          refine lv_istore (lv' := [(5, .int 0), (6, .int f_4), (2, .int (nI i)), (3, .long x), (0, .ref m9), (1, .int (nI i0))]) hx hb dX23_takeNumber_53 hl (by decide) rfl (fun ls hl => ?_)
          refine lv_goto (tgt := 68) hx hb dX23_takeNumber_55 (by decide) ?_
          obtain ⟨x_6, ex_6⟩ : ∃ yY : Int32, yY = (nI i) + 1 := ⟨_, rfl⟩
          refine lv_iinc (v := x_6) (lv' := [(2, .int x_6), (5, .int 0), (6, .int f_4), (3, .long x), (0, .ref m9), (1, .int (nI i0))]) hx hb dX23_takeNumber_68 hl (k := 2) rfl (by rw [ex_6]; rfl) (by decide) rfl (fun ls hl => ?_)
          obtain rfl : x_6 = nI (i + 1) := by rw [ex_6]; exact nI_1 i
          have hl : lv_has ls 7 [(2, .int (nI (i + 1))), (5, .int 0), (6, .int f_4), (3, .long x), (0, .ref m9), (1, .int (nI i0))] := hl
          refine lv_goto (tgt := 7) hx hb dX23_takeNumber_71 (by decide) ?_
          exact ih1 (i + 1) x 0 _ _ _ (by omega) (by omega) (hP.sub [4, 5, 0, 1, 2, 3] rfl) (hD.sub [4, 5, 0, 1, 2, 3] (by decide) rfl) hS (lv_sub hl [0, 3, 1, 4, 5] rfl)
        · refine lv_lload_n hx hb dX23_takeNumber_37 rfl (lv_at hl 2 rfl) ?_
          refine lv_ldc2 (v := 922337203685477580) hx hb hown (hts (.constantLong RX23 44 922337203685477580) (wm_c_rnum 23 rfl)) dX23_takeNumber_38 ?_
          refine W.lcmp hx hb dX23_takeNumber_41 ?_
          refine lv_topi (fun f_6 ef_6 => ?_)
          refine lv_if_ne (tgt := 58) hx hb dX23_takeNumber_42 (by decide) (fun hz2 => ?_) (fun hz2 => ?_)
          · refine lv_ldc2 (v := 10) hx hb hown (hts (.constantLong RX23 46 10) (wm_c_rnum 24 rfl)) dX23_takeNumber_58 ?_
            refine lv_lload_n hx hb dX23_takeNumber_61 rfl (lv_at hl 2 rfl) ?_
            refine lv_lmul hx hb dX23_takeNumber_62 ?_
            refine lv_topl (fun f_7 ef_7 => ?_)
            refine lv_iload hx hb dX23_takeNumber_63 (lv_at hl 0 rfl) ?_
            obtain ⟨f_8, ef_8⟩ : ∃ yY : Int64, yY = (f_4 : Int32).toInt64 := ⟨_, rfl⟩
            refine lv_i2l (v := f_8) hx hb dX23_takeNumber_65 ef_8.symm ?_
            refine lv_ladd hx hb dX23_takeNumber_66 ?_
            refine lv_topl (fun f_9 ef_9 => ?_)
            refine lv_lstore_n (lv' := [(3, .long f_9), (6, .int f_4), (2, .int (nI i)), (5, .int go), (0, .ref m9), (1, .int (nI i0))]) hx hb dX23_takeNumber_67 rfl hl (by decide) rfl (fun ls hl => ?_)
            obtain ⟨x_10, ex_10⟩ : ∃ yY : Int32, yY = (nI i) + 1 := ⟨_, rfl⟩
            refine lv_iinc (v := x_10) (lv' := [(2, .int x_10), (3, .long f_9), (6, .int f_4), (5, .int go), (0, .ref m9), (1, .int (nI i0))]) hx hb dX23_takeNumber_68 hl (k := 2) rfl (by rw [ex_10]; rfl) (by decide) rfl (fun ls hl => ?_)
            obtain rfl : x_10 = nI (i + 1) := by rw [ex_10]; exact nI_1 i
            have hl : lv_has ls 7 [(2, .int (nI (i + 1))), (3, .long f_9), (6, .int f_4), (5, .int go), (0, .ref m9), (1, .int (nI i0))] := hl
            refine lv_goto (tgt := 7) hx hb dX23_takeNumber_71 (by decide) ?_
            exact ih1 (i + 1) f_9 go _ _ _ (by omega) (by omega) (hP.sub [4, 5, 0, 1, 2, 3] rfl) (hD.sub [4, 5, 0, 1, 2, 3] (by decide) rfl) hS (lv_sub hl [0, 1, 3, 4, 5] rfl)
          · refine lv_iload hx hb dX23_takeNumber_45 (lv_at hl 0 rfl) ?_
            refine lv_bipush (v := 7) hx hb dX23_takeNumber_47 (by decide) ?_
            refine lv_icmp_le (tgt := 58) hx hb dX23_takeNumber_49 (by decide) (fun hz3 => ?_) (fun hz3 => ?_)
            · refine lv_ldc2 (v := 10) hx hb hown (hts (.constantLong RX23 46 10) (wm_c_rnum 24 rfl)) dX23_takeNumber_58 ?_
              refine lv_lload_n hx hb dX23_takeNumber_61 rfl (lv_at hl 2 rfl) ?_
              refine lv_lmul hx hb dX23_takeNumber_62 ?_
              refine lv_topl (fun f_7 ef_7 => ?_)
              refine lv_iload hx hb dX23_takeNumber_63 (lv_at hl 0 rfl) ?_
              obtain ⟨f_8, ef_8⟩ : ∃ yY : Int64, yY = (f_4 : Int32).toInt64 := ⟨_, rfl⟩
              refine lv_i2l (v := f_8) hx hb dX23_takeNumber_65 ef_8.symm ?_
              refine lv_ladd hx hb dX23_takeNumber_66 ?_
              refine lv_topl (fun f_9 ef_9 => ?_)
              refine lv_lstore_n (lv' := [(3, .long f_9), (6, .int f_4), (2, .int (nI i)), (5, .int go), (0, .ref m9), (1, .int (nI i0))]) hx hb dX23_takeNumber_67 rfl hl (by decide) rfl (fun ls hl => ?_)
              obtain ⟨x_10, ex_10⟩ : ∃ yY : Int32, yY = (nI i) + 1 := ⟨_, rfl⟩
              refine lv_iinc (v := x_10) (lv' := [(2, .int x_10), (3, .long f_9), (6, .int f_4), (5, .int go), (0, .ref m9), (1, .int (nI i0))]) hx hb dX23_takeNumber_68 hl (k := 2) rfl (by rw [ex_10]; rfl) (by decide) rfl (fun ls hl => ?_)
              obtain rfl : x_10 = nI (i + 1) := by rw [ex_10]; exact nI_1 i
              have hl : lv_has ls 7 [(2, .int (nI (i + 1))), (3, .long f_9), (6, .int f_4), (5, .int go), (0, .ref m9), (1, .int (nI i0))] := hl
              refine lv_goto (tgt := 7) hx hb dX23_takeNumber_71 (by decide) ?_
              exact ih1 (i + 1) f_9 go _ _ _ (by omega) (by omega) (hP.sub [4, 5, 0, 1, 2, 3] rfl) (hD.sub [4, 5, 0, 1, 2, 3] (by decide) rfl) hS (lv_sub hl [0, 1, 3, 4, 5] rfl)
            · refine lv_iconst (v := 0) hx hb dX23_takeNumber_52 (by decide) ?_
              refine lv_istore (lv' := [(5, .int 0), (6, .int f_4), (2, .int (nI i)), (3, .long x), (0, .ref m9), (1, .int (nI i0))]) hx hb dX23_takeNumber_53 hl (by decide) rfl (fun ls hl => ?_)
              refine lv_goto (tgt := 68) hx hb dX23_takeNumber_55 (by decide) ?_
              obtain ⟨x_7, ex_7⟩ : ∃ yY : Int32, yY = (nI i) + 1 := ⟨_, rfl⟩
              refine lv_iinc (v := x_7) (lv' := [(2, .int x_7), (5, .int 0), (6, .int f_4), (3, .long x), (0, .ref m9), (1, .int (nI i0))]) hx hb dX23_takeNumber_68 hl (k := 2) rfl (by rw [ex_7]; rfl) (by decide) rfl (fun ls hl => ?_)
              obtain rfl : x_7 = nI (i + 1) := by rw [ex_7]; exact nI_1 i
              have hl : lv_has ls 7 [(2, .int (nI (i + 1))), (5, .int 0), (6, .int f_4), (3, .long x), (0, .ref m9), (1, .int (nI i0))] := hl
              refine lv_goto (tgt := 7) hx hb dX23_takeNumber_71 (by decide) ?_
              exact ih1 (i + 1) x 0 _ _ _ (by omega) (by omega) (hP.sub [4, 5, 0, 1, 2, 3] rfl) (hD.sub [4, 5, 0, 1, 2, 3] (by decide) rfl) hS (lv_sub hl [0, 3, 1, 4, 5] rfl)
  exact key1 (zs + 1 - i0) i0 0 1 _ _ _ (by omega) (Nat.le_refl _) (hP.sub [0, 1, 2, 3, 4, 5] rfl) (hD.sub [0, 1, 2, 3, 4, 5] (by decide) rfl) hS (lv_sub hl [2, 1, 0, 3, 4] rfl)
