def wf_c_wrg : List Cond := [.code yX23_wrong cX23_wrong 4 (some (.object "OwnedPlacesModel$Type")), .code yX23_fail cX23_fail 3 none, .fieldLink RX23 80 "OwnedPlacesModel" "fault" "I", .fieldLink RX23 31 "OwnedPlacesModel" "tokenAt" "[I", .fieldLink RX23 83 "OwnedPlacesModel" "faultAt" "I", .methodLink RX23 96 yX23_fail, .instanceMethod yX23_fail, .selects RX23 yX23_fail yX23_fail, .initialized RX23, .code yX23_plainType cX23_plainType 2 (some (.object "OwnedPlacesModel$Type")), .code yX23_type cX23_type 5 (some (.object "OwnedPlacesModel$Type")), .fieldLink RX23 382 "OwnedPlacesModel" "typeMany" "I", .fieldLink RX23 385 "OwnedPlacesModel" "types" "[LOwnedPlacesModel$Type;", .fieldLink RX23 386 "OwnedPlacesModel$Type" "kind" "I", .fieldLink RX23 387 "OwnedPlacesModel$Type" "index" "I", .fieldLink RX23 390 "OwnedPlacesModel$Type" "of" "LOwnedPlacesModel$Type;", .classLink RX23 164 RX20, .instantiable RX20 4, .initialized RX20, .code yX20_init cX20_init 1 none, .methodLink RX20 1 objectInit, .instanceMethod objectInit, .code objectInit ⟨#[0xb1]⟩ 1 none, .instanceMethod yX20_init, .fieldLink RX23 394 "OwnedPlacesModel$Type" "id" "I", .methodLink RX23 397 yX23_type, .instanceMethod yX23_type, .selects RX23 yX23_type yX23_type, .methodLink RX23 405 yX23_plainType, .instanceMethod yX23_plainType, .selects RX23 yX23_plainType yX23_plainType, .code yX23_told cX23_told 3 (some (.object "OwnedPlacesModel$Type")), .fieldLink RX23 484 "OwnedPlacesModel$Exp" "type" "LOwnedPlacesModel$Type;", .methodLink RX23 485 yX23_told, .instanceMethod yX23_told, .selects RX23 yX23_told yX23_told]
def wp_c_wrg : List Cond := wf_c_wrg ++ (wsX230 ++ (wsX200 ++ (wsX150 ++ [])))
theorem in_c_wrg_X23 : ∀ w ∈ wsX230, w ∈ wp_c_wrg := fun w h => List.mem_append_right _ (List.mem_append_left _ h)
theorem in_c_wrg_X20 : ∀ w ∈ wsX200, w ∈ wp_c_wrg := fun w h => List.mem_append_right _ (List.mem_append_right _ (List.mem_append_left _ h))
theorem in_c_wrg_X15 : ∀ w ∈ wsX150, w ∈ wp_c_wrg := fun w h => List.mem_append_right _ (List.mem_append_right _ (List.mem_append_right _ (List.mem_append_left _ h)))
theorem wg_c_wrg : wf_c_wrg.all goodWord = true := by decide +kernel
theorem wm_c_wrg (k : Nat) {w : Cond} (h : wp_c_wrg[k]? = some w) : w ∈ wp_c_wrg := List.mem_of_getElem? h
set_option maxRecDepth 20000 in
theorem g_c_wrg_c_tfa0_3 : GoodIn wp_c_wrg (wsV RX23 96 RX23 yX23_fail wp_c_tfa0) := goodIn_app (goodIn_f [.methodLink RX23 96 yX23_fail, .instanceMethod yX23_fail, .selects RX23 yX23_fail yX23_fail, .initialized RX23] [5, 6, 7, 8] rfl (by decide +kernel)) (goodIn_app (goodIn_f (wf_c_tfa0) [1, 2, 3, 4] rfl wg_c_tfa0) (goodIn_app (goodIn_sub in_c_wrg_X23 gd_X23) (goodIn_n)))
set_option maxRecDepth 20000 in
theorem g_c_wrg_c_plt_10 : GoodIn wp_c_wrg (wsV RX23 405 RX23 yX23_plainType wp_c_plt) := goodIn_app (goodIn_f [.methodLink RX23 405 yX23_plainType, .instanceMethod yX23_plainType, .selects RX23 yX23_plainType yX23_plainType, .initialized RX23] [28, 29, 30, 8] rfl (by decide +kernel)) (goodIn_app (goodIn_f (wf_c_plt) [9, 10, 11, 12, 13, 14, 15, 16, 17, 18, 19, 20, 21, 22, 23, 24, 25, 26, 27, 8] rfl wg_c_plt) (goodIn_app (goodIn_sub in_c_wrg_X23 gd_X23) (goodIn_app (goodIn_sub in_c_wrg_X20 gd_X20) (goodIn_n))))
set_option maxRecDepth 20000 in
theorem g_c_wrg_c_tld_13 : GoodIn wp_c_wrg (wsV RX23 485 RX23 yX23_told wp_c_tld) := goodIn_app (goodIn_f [.methodLink RX23 485 yX23_told, .instanceMethod yX23_told, .selects RX23 yX23_told yX23_told, .initialized RX23] [33, 34, 35, 8] rfl (by decide +kernel)) (goodIn_app (goodIn_f (wf_c_tld) [31, 32] rfl wg_c_tld) (goodIn_app (goodIn_sub in_c_wrg_X15 gd_X15) (goodIn_n)))
set_option maxHeartbeats 4000000 in
set_option maxRecDepth 100000 in
theorem c_wrg (l : Launch) (dC : Nat → ClassId) (dI : Nat → Nat → Nat) (m9 : Nat) (mr : Nat → Nat) (mv : Nat → Int32) (vf : Value) (ff xa xm : Int32) (T im tm sc vm : Nat) (kI : ClassId) (fk fa fe ft : Nat → Int32) (zs : Nat) (L : List Nat) (F : Nat → va_E) (G : Nat → va_E) (kT : ClassId) (fy : Nat → Option Nat) (Y : Nat → Int32 × Int32 × Option Nat) (ad : Nat → Nat) (kE kS kB kA kV kW kP kM : ClassId) (fi : Nat → Option Nat) (xI ps ms : Nat → Nat) (ik : Nat → Int32) (qz : Nat) (ee : Nat) (gs : List Value) (wh : Int32) (tj : Nat) (sl : Nat) (sz : Nat) (htg : tgd L F G fk fa fe T zs kE kI kS kB kA kV kW kT kP fi im xI ps ms ik qz fy tm Y ad) (hem : ee ∈ L) (heF : F ee = .inr (15, gs)) (hpt : ptN Y tm ≤ 1999) (hgl : gs.length = 14) (htj : tj < 3002) (hwh : wh ≠ 0) : Met l yX23_wrong wp_c_wrg ({ frames := 4, cells := 1, slots := 4, locals := 77 }) (va_Pc [.ref m9, .ref ee, .int wh, .int (nI tj)] (fun U => U.heap.size = sz ∧ va_P (dC, dI) vwCl (([(m9, .inr (23, mT mr mv vf 0 xa (nI T) (nI im) (nI tm) xm (nI sc) (nI vm))), (mr 6, .inl (kI, 3002, .inl fa)), (mr 7, .inl (kI, 3002, .inl fe)), (mr 0, .inl (kI, 3000, .inl ft)), (mr 11, .inl (kM, 70, .inr (.inr (.inr (.inr fi))))), (mr 18, .inl (kT, 2000, .inr (.inr (.inr (.inr fy)))))] : va_W) ++ (sT L F)) U.heap ∧ va_K (dC, dI) vwCl [(kI, .int), (kM, .object RX16), (kT, .object RX20)] U ∧ va_D (fun _ => True) (([(m9, .inr (23, mT mr mv vf 0 xa (nI T) (nI im) (nI tm) xm (nI sc) (nI vm))), (mr 6, .inl (kI, 3002, .inl fa)), (mr 7, .inl (kI, 3002, .inl fe)), (mr 0, .inl (kI, 3000, .inl ft)), (mr 11, .inl (kM, 70, .inr (.inr (.inr (.inr fi))))), (mr 18, .inl (kT, 2000, .inr (.inr (.inr (.inr fy)))))] : va_W) ++ (sT L F)) ∧ nsM U ∧ slN U.heap = sl)) (va_Qr (fun _ : Unit => True) (fun (_ : Unit) (rA : Nat) (tS : State) => ∃ (L2 : List Nat) (F2 : Nat → va_E) (G2 : Nat → va_E) (tm2 : Nat) (fy2 : Nat → Option Nat) (Y2 : Nat → Int32 × Int32 × Option Nat) (ad2 : Nat → Nat) (t2 : Nat), (tgd L2 F2 G2 fk fa fe T zs kE kI kS kB kA kV kW kT kP fi im xI ps ms ik qz fy2 tm2 Y2 ad2) ∧ (tX L G tm Y ad L2 G2 tm2 Y2 ad2) ∧ (t2 < tm2 ∧ rA = ad2 t2 ∧ Y2 t2 = (0, 0, none)) ∧ (ptN Y2 tm2 ≤ ptN Y tm ∧ tm2 ≤ tm + 1) ∧ ((∀ a ∈ L, a ≠ ee → F2 a = F a) ∧ F2 ee = .inr (15, gs.set 12 (.ref (ad2 t2)))) ∧ (tS.heap.size ≤ sz + ((tm2 - tm)) ∧ slN tS.heap ≤ sl + (4 * (tm2 - tm))) ∧ va_P (dC, dI) vwCl (([(m9, .inr (23, mT mr mv vf wh (fa tj) (nI T) (nI im) (nI tm2) xm (nI sc) (nI vm))), (mr 6, .inl (kI, 3002, .inl fa)), (mr 7, .inl (kI, 3002, .inl fe)), (mr 0, .inl (kI, 3000, .inl ft)), (mr 11, .inl (kM, 70, .inr (.inr (.inr (.inr fi))))), (mr 18, .inl (kT, 2000, .inr (.inr (.inr (.inr fy2)))))] : va_W) ++ (sT L2 F2)) tS.heap ∧ va_K (dC, dI) vwCl [(kI, .int), (kM, .object RX16), (kT, .object RX20)] tS ∧ va_D (va_A (([(m9, .inr (23, mT mr mv vf 0 xa (nI T) (nI im) (nI tm) xm (nI sc) (nI vm))), (mr 6, .inl (kI, 3002, .inl fa)), (mr 7, .inl (kI, 3002, .inl fe)), (mr 0, .inl (kI, 3000, .inl ft)), (mr 11, .inl (kM, 70, .inr (.inr (.inr (.inr fi))))), (mr 18, .inl (kT, 2000, .inr (.inr (.inr (.inr fy)))))] : va_W) ++ (sT L F)) sz) (([(m9, .inr (23, mT mr mv vf wh (fa tj) (nI T) (nI im) (nI tm2) xm (nI sc) (nI vm))), (mr 6, .inl (kI, 3002, .inl fa)), (mr 7, .inl (kI, 3002, .inl fe)), (mr 0, .inl (kI, 3000, .inl ft)), (mr 11, .inl (kM, 70, .inr (.inr (.inr (.inr fi))))), (mr 18, .inl (kT, 2000, .inr (.inr (.inr (.inr fy2)))))] : va_W) ++ (sT L2 F2))) (va_A (([(m9, .inr (23, mT mr mv vf 0 xa (nI T) (nI im) (nI tm) xm (nI sc) (nI vm))), (mr 6, .inl (kI, 3002, .inl fa)), (mr 7, .inl (kI, 3002, .inl fe)), (mr 0, .inl (kI, 3000, .inl ft)), (mr 11, .inl (kM, 70, .inr (.inr (.inr (.inr fi))))), (mr 18, .inl (kT, 2000, .inr (.inr (.inr (.inr fy)))))] : va_W) ++ (sT L F)) sz)) 1 4 (va_A (([(m9, .inr (23, mT mr mv vf 0 xa (nI T) (nI im) (nI tm) xm (nI sc) (nI vm))), (mr 6, .inl (kI, 3002, .inl fa)), (mr 7, .inl (kI, 3002, .inl fe)), (mr 0, .inl (kI, 3000, .inl ft)), (mr 11, .inl (kM, 70, .inr (.inr (.inr (.inr fi))))), (mr 18, .inl (kT, 2000, .inr (.inr (.inr (.inr fy)))))] : va_W) ++ (sT L F)) sz) := by
  refine Met.ofW (cc := cX23_wrong) (maxL := 4) (ret := (some (.object "OwnedPlacesModel$Type"))) (by decide) rfl ?_
  intro p e s m args below meth c s₁ B hml hv
  obtain ⟨rfl, hsz, hP, hK, hD0, hpre0, hpre1⟩ := hv
  have hx := B.exec
  have hb := B.bytes
  have hr := B.returns
  have hts := atoms_spec (ws := wp_c_wrg) B.pre
  have hown : s.vm.findClass RX23 = some m.cls := findClass_of_methodNamed B.named
  have hlocks := B.notSynchronized
  subst hsz
  have hD := hD0.self (sz := s.heap.size)
  generalize hAe : va_A (([(m9, .inr (23, mT mr mv vf 0 xa (nI T) (nI im) (nI tm) xm (nI sc) (nI vm))), (mr 6, .inl (kI, 3002, .inl fa)), (mr 7, .inl (kI, 3002, .inl fe)), (mr 0, .inl (kI, 3000, .inl ft)), (mr 11, .inl (kM, 70, .inr (.inr (.inr (.inr fi))))), (mr 18, .inl (kT, 2000, .inr (.inr (.inr (.inr fy)))))] : va_W) ++ (sT L F)) s.heap.size = A at hD ⊢
  have hA : ∀ q : Nat, s.heap.size ≤ q → A q := fun q h => by rw [← hAe]; exact Or.inr h
  have hS : va_S A s.heap s.heap [] := va_S.rf
  have hP : va_P (dC, dI) vwCl (([(m9, .inr (23, mT mr mv vf 0 xa (nI T) (nI im) (nI tm) xm (nI sc) (nI vm))), (mr 6, .inl (kI, 3002, .inl fa)), (mr 7, .inl (kI, 3002, .inl fe)), (mr 0, .inl (kI, 3000, .inl ft)), (mr 11, .inl (kM, 70, .inr (.inr (.inr (.inr fi))))), (mr 18, .inl (kT, 2000, .inr (.inr (.inr (.inr fy)))))] : va_W) ++ (sT L F)) s.heap := hP
  have hl := lv_entry ([.ref m9, .ref ee, .int wh, .int (nI tj)]) (n := 4) (Nat.le_of_ble_eq_true rfl)
  rw [lg_entry_eq]
  generalize (lg_sl ([.ref m9, .ref ee, .int wh, .int (nI tj)]) ++ List.replicate (4 - (lg_sl ([.ref m9, .ref ee, .int wh, .int (nI tj)])).length) Slot.unset).toArray = ls at hl ⊢
  have hl : lv_has ls 4 [(0, .ref m9), (1, .ref ee), (2, .int wh), (3, .int (nI tj))] := hl
  have hns := hpre0
  subst hpre1
  refine lv_aload_n hx hb dX23_wrong_0 rfl (lv_at hl 0 rfl) ?_
  refine lv_iload_n hx hb dX23_wrong_1 rfl (lv_at hl 2 rfl) ?_
  refine lv_iload_n hx hb dX23_wrong_2 rfl (lv_at hl 3 rfl) ?_
  have hPc := hP.subF (f' := [(m9, .inr (23, mT mr mv vf 0 xa (nI T) (nI im) (nI tm) xm (nI sc) (nI vm))), (mr 6, .inl (kI, 3002, .inl fa))]) [0, 1] rfl
  have hDc := hD.subF (f' := [(m9, .inr (23, mT mr mv vf 0 xa (nI T) (nI im) (nI tm) xm (nI sc) (nI vm))), (mr 6, .inl (kI, 3002, .inl fa))]) [0, 1] (by decide) rfl
  have hKc := hK.sub (tys' := [(kI, .int)]) [0] rfl
  have hFc := va_freeT (wc := [(m9, .inr (23, mT mr mv vf 0 xa (nI T) (nI im) (nI tm) xm (nI sc) (nI vm))), (mr 6, .inl (kI, 3002, .inl fa))]) hD hS hA [0, 1] rfl
  refine va_callv (va_runV (As := [.int wh, .int (nI tj)]) (rest := []) ⟨hx, hb, hml, hown, hts⟩ (c_tfa0 l dC dI m9 mr mv vf xa xm T im tm sc vm kI fa wh tj s.heap.size htj) (cwV 2 hts g_c_wrg_c_tfa0_3 rfl rfl rfl (by decide +kernel) ⟨Nat.le_of_ble_eq_true rfl, Nat.le_of_ble_eq_true rfl⟩) ⟨fun a U g mk q => by obtain ⟨q0, q1, qP, qK, qD⟩ := q; exact ⟨q0, q1, qP, va_K.moved (u := U) (U := U.calling g mk a) (Vm.Alike.refl U.vm) qK, qD⟩, va_recv hKc hPc (ci := 23) (q0 := 0) rfl rfl, fun U hU hW => ⟨rfl, by rw [hU], by rw [hU]; exact hPc, va_K.moved hW.alike hKc, hDc.weaken (fun _ _ _ _ => trivial)⟩⟩ rfl rfl hl.1 rfl (lv_room (Nat.le_of_ble_eq_true rfl)) dX23_wrong_3 ⟨(show 0 + 0 ≤ 1 by omega), (show 0 + 0 ≤ 4 by omega)⟩) hS (fun q _ h => hFc q h) hFc (fun u tS H1 locs ht hvm hw hB hz1 hk1 hS => ?_)
  obtain ⟨hP1, hK1, hD1⟩ := hB
  rw [ht] at hP1
  have hK1 := va_K.moved hvm.symm hK1
  obtain ⟨hP, hD⟩ := va_joinT (wr := [(mr 7, .inl (kI, 3002, .inl fe)), (mr 0, .inl (kI, 3000, .inl ft)), (mr 11, .inl (kM, 70, .inr (.inr (.inr (.inr fi))))), (mr 18, .inl (kT, 2000, .inr (.inr (.inr (.inr fy)))))]) (w1 := [(m9, .inr (23, mT mr mv vf wh (fa tj) (nI T) (nI im) (nI tm) xm (nI sc) (nI vm))), (mr 6, .inl (kI, 3002, .inl fa))]) hP hD [0, 1] [2, 3, 4, 5] rfl rfl (by decide) (by decide) hk1 hFc hP1 hD1
  have hK := hK.app hK1
  generalize H1 = H at hP hS ⊢
  have hP : va_P (dC, dI) vwCl (([(mr 7, .inl (kI, 3002, .inl fe)), (mr 0, .inl (kI, 3000, .inl ft)), (mr 11, .inl (kM, 70, .inr (.inr (.inr (.inr fi))))), (mr 18, .inl (kT, 2000, .inr (.inr (.inr (.inr fy))))), (m9, .inr (23, mT mr mv vf wh (fa tj) (nI T) (nI im) (nI tm) xm (nI sc) (nI vm))), (mr 6, .inl (kI, 3002, .inl fa))] : va_W) ++ (sT L F)) H := hP
  have hD : va_D A (([(mr 7, .inl (kI, 3002, .inl fe)), (mr 0, .inl (kI, 3000, .inl ft)), (mr 11, .inl (kM, 70, .inr (.inr (.inr (.inr fi))))), (mr 18, .inl (kT, 2000, .inr (.inr (.inr (.inr fy))))), (m9, .inr (23, mT mr mv vf wh (fa tj) (nI T) (nI im) (nI tm) xm (nI sc) (nI vm))), (mr 6, .inl (kI, 3002, .inl fa))] : va_W) ++ (sT L F)) := hD
  have hK : va_K (dC, dI) vwCl [(kI, .int), (kM, .object RX16), (kT, .object RX20), (kI, .int)] s := hK
  have hK := hK.sub (tys' := [(kI, .int), (kM, .object RX16), (kT, .object RX20)]) [0, 1, 2] rfl
  clear hz1 hk1 hPc hDc hKc hFc hP1 hD1 hK1
  refine lv_aload_n hx hb dX23_wrong_6 rfl (lv_at hl 0 rfl) ?_
  refine lv_aload_n hx hb dX23_wrong_7 rfl (lv_at hl 1 rfl) ?_
  refine lv_aload_n hx hb dX23_wrong_8 rfl (lv_at hl 0 rfl) ?_
  refine lv_iconst (v := 0) hx hb dX23_wrong_9 (by decide) ?_
  have hPc := hP.subT (f' := [(m9, .inr (23, mT mr mv vf wh (fa tj) (nI T) (nI im) (nI tm) xm (nI sc) (nI vm))), (mr 18, .inl (kT, 2000, .inr (.inr (.inr (.inr fy)))))]) [4, 3] rfl
  have hDc := hD.subT (f' := [(m9, .inr (23, mT mr mv vf wh (fa tj) (nI T) (nI im) (nI tm) xm (nI sc) (nI vm))), (mr 18, .inl (kT, 2000, .inr (.inr (.inr (.inr fy)))))]) [4, 3] (by decide) rfl
  have hKc := hK.sub (tys' := [(kT, .object RX20)]) [2] rfl
  have hFc := va_freeB (wc := [(m9, .inr (23, mT mr mv vf wh (fa tj) (nI T) (nI im) (nI tm) xm (nI sc) (nI vm))), (mr 18, .inl (kT, 2000, .inr (.inr (.inr (.inr fy)))))]) hD hS hA [4, 3] rfl
  refine W.grow (fun hgs0 hgs1 => ?_)
  refine va_callr (va_runV (As := [.int 0]) (rest := [.ref ee, .ref m9]) ⟨hx, hb, hml, hown, hts⟩ (c_plt l dC dI m9 mr mv vf wh (fa tj) xm T im tm sc vm kI fk fa fe ft zs L F G kT fy Y ad kE kS kB kA kV kW kP kM fi xI ps ms ik qz 0 (slN H) H.size htg (by decide) (by omega)) (cwV 1 hts g_c_wrg_c_plt_10 rfl rfl rfl (by decide +kernel) ⟨Nat.le_of_ble_eq_true rfl, Nat.le_of_ble_eq_true rfl⟩) ⟨fun a U g mk q => by obtain ⟨q0, q1, qP, qK, qD, qx0, qx1⟩ := q; exact ⟨q0, q1, qP, va_K.moved (u := U) (U := U.calling g mk a) (Vm.Alike.refl U.vm) qK, qD, nsM.same (u := U) (U := U.calling g mk a) rfl qx0, qx1⟩, va_recv hKc hPc (ci := 23) (q0 := 0) rfl rfl, fun U hU hW => ⟨rfl, by rw [hU], by rw [hU]; exact hPc, va_K.moved hW.alike hKc, hDc.weaken (fun _ _ _ _ => trivial), nsM.warm hW hns, by rw [hU]⟩⟩ rfl rfl hl.1 rfl (lv_room (Nat.le_of_ble_eq_true rfl)) dX23_wrong_10 ⟨(show 0 + 1 ≤ 1 by omega), (show 0 + 4 ≤ 4 by omega)⟩) hS (fun q _ h => hFc q h) hFc (fun u r_2 tS H1 locs ht hvm hw hB hz1 hk1 hS => ?_)
  obtain ⟨Lz1, Fz1, Gz1, tmz1, fyz1, Yz1, adz1, tz1, hf2_0, hf2_1, hf2_2, hf2_3, hf2_4, hf2_5, hP1, hK1, hD1⟩ := hB
  rw [ht] at hP1
  have hK1 := va_K.moved hvm.symm hK1
  rw [ht] at hf2_5
  have hgz : H1.size ≤ s.heap.size + ((tmz1 - tm)) ∧ slN H1 ≤ slN s.heap + (4 * (tmz1 - tm)) := ⟨by have := hf2_5.1; omega, by have := hf2_5.2; omega⟩
  obtain ⟨hP, hD⟩ := va_joinB (wr := [(mr 7, .inl (kI, 3002, .inl fe)), (mr 0, .inl (kI, 3000, .inl ft)), (mr 11, .inl (kM, 70, .inr (.inr (.inr (.inr fi))))), (mr 6, .inl (kI, 3002, .inl fa))]) (w1 := [(m9, .inr (23, mT mr mv vf wh (fa tj) (nI T) (nI im) (nI tmz1) xm (nI sc) (nI vm))), (mr 18, .inl (kT, 2000, .inr (.inr (.inr (.inr fyz1)))))]) hP hD [4, 3] [0, 1, 2, 5] rfl rfl (by decide) (by decide) hk1 hFc hP1 hD1
  have hK := hK.app hK1
  generalize H1 = H at hP hS hgz ⊢
  have hP : va_P (dC, dI) vwCl (([(mr 7, .inl (kI, 3002, .inl fe)), (mr 0, .inl (kI, 3000, .inl ft)), (mr 11, .inl (kM, 70, .inr (.inr (.inr (.inr fi))))), (mr 6, .inl (kI, 3002, .inl fa)), (m9, .inr (23, mT mr mv vf wh (fa tj) (nI T) (nI im) (nI tmz1) xm (nI sc) (nI vm))), (mr 18, .inl (kT, 2000, .inr (.inr (.inr (.inr fyz1)))))] : va_W) ++ (sT Lz1 Fz1)) H := hP
  have hD : va_D A (([(mr 7, .inl (kI, 3002, .inl fe)), (mr 0, .inl (kI, 3000, .inl ft)), (mr 11, .inl (kM, 70, .inr (.inr (.inr (.inr fi))))), (mr 6, .inl (kI, 3002, .inl fa)), (m9, .inr (23, mT mr mv vf wh (fa tj) (nI T) (nI im) (nI tmz1) xm (nI sc) (nI vm))), (mr 18, .inl (kT, 2000, .inr (.inr (.inr (.inr fyz1)))))] : va_W) ++ (sT Lz1 Fz1)) := hD
  have hK : va_K (dC, dI) vwCl [(kI, .int), (kM, .object RX16), (kT, .object RX20), (kT, .object RX20)] s := hK
  have hK := hK.sub (tys' := [(kI, .int), (kM, .object RX16), (kT, .object RX20)]) [0, 1, 2] rfl
  refine W.tight (k := (tmz1 - tm)) (n := 4 * (tmz1 - tm)) hgz.1 hgz.2 ?_
  clear hz1 hk1 hPc hDc hKc hFc hP1 hD1 hK1
  have htm2 := (hf2_1).2.1
  have hpt2 := hf2_4
  obtain rfl : r_2 = adz1 tz1 := hf2_3.2.1
  have hm8 := (hf2_2 _ hem).1
  have hF8 := (hf2_2 _ hem).2.trans heF
  have hPc := hP.subT (f' := [(m9, .inr (23, mT mr mv vf wh (fa tj) (nI T) (nI im) (nI tmz1) xm (nI sc) (nI vm)))]) [4] rfl
  have hDc := hD.subT (f' := [(m9, .inr (23, mT mr mv vf wh (fa tj) (nI T) (nI im) (nI tmz1) xm (nI sc) (nI vm)))]) [4] (by decide) rfl
  have hKc := hK.sub (tys' := []) [] rfl
  have hFc := va_freeB (wc := [(m9, .inr (23, mT mr mv vf wh (fa tj) (nI T) (nI im) (nI tmz1) xm (nI sc) (nI vm)))]) hD hS hA [4] rfl
  refine va_callr (va_runV (As := [.ref ee, .ref (adz1 tz1)]) (rest := []) ⟨hx, hb, hml, hown, hts⟩ (c_tld l dC dI m9 mr mv vf wh (fa tj) xm T im tmz1 sc vm kI Lz1 Fz1 ee (adz1 tz1) gs H.size hm8 hF8 hgl) (cwV 2 hts g_c_wrg_c_tld_13 rfl rfl rfl (by decide +kernel) ⟨Nat.le_of_ble_eq_true rfl, Nat.le_of_ble_eq_true rfl⟩) ⟨fun a U g mk q => by obtain ⟨q0, q1, qP, qK, qD⟩ := q; exact ⟨q0, q1, qP, va_K.moved (u := U) (U := U.calling g mk a) (Vm.Alike.refl U.vm) qK, qD⟩, va_recv hKc hPc (ci := 23) (q0 := 0) rfl rfl, fun U hU hW => ⟨rfl, by rw [hU], by rw [hU]; exact hPc, va_K.moved hW.alike hKc, hDc.weaken (fun _ _ _ _ => trivial)⟩⟩ rfl rfl hl.1 rfl (lv_room (Nat.le_of_ble_eq_true rfl)) dX23_wrong_13 ⟨(show (tmz1 - tm) + 0 ≤ 1 by omega), (show 4 * (tmz1 - tm) + 0 ≤ 4 by omega)⟩) hS (fun q _ h => hFc q h) hFc (fun u r_3 tS H1 locs ht hvm hw hB hz1 hk1 hS => ?_)
  obtain ⟨F9, hf3_0, hP1, hK1, hD1⟩ := hB
  rw [ht] at hP1
  have hK1 := va_K.moved hvm.symm hK1
  obtain ⟨hP, hD⟩ := va_joinB (wr := [(mr 7, .inl (kI, 3002, .inl fe)), (mr 0, .inl (kI, 3000, .inl ft)), (mr 11, .inl (kM, 70, .inr (.inr (.inr (.inr fi))))), (mr 6, .inl (kI, 3002, .inl fa)), (mr 18, .inl (kT, 2000, .inr (.inr (.inr (.inr fyz1)))))]) (w1 := [(m9, .inr (23, mT mr mv vf wh (fa tj) (nI T) (nI im) (nI tmz1) xm (nI sc) (nI vm)))]) hP hD [4] [0, 1, 2, 3, 5] rfl rfl (by decide) (by decide) hk1 hFc hP1 hD1
  generalize H1 = H at hP hS ⊢
  have hP : va_P (dC, dI) vwCl (([(mr 7, .inl (kI, 3002, .inl fe)), (mr 0, .inl (kI, 3000, .inl ft)), (mr 11, .inl (kM, 70, .inr (.inr (.inr (.inr fi))))), (mr 6, .inl (kI, 3002, .inl fa)), (mr 18, .inl (kT, 2000, .inr (.inr (.inr (.inr fyz1))))), (m9, .inr (23, mT mr mv vf wh (fa tj) (nI T) (nI im) (nI tmz1) xm (nI sc) (nI vm)))] : va_W) ++ (sT Lz1 F9)) H := hP
  have hD : va_D A (([(mr 7, .inl (kI, 3002, .inl fe)), (mr 0, .inl (kI, 3000, .inl ft)), (mr 11, .inl (kM, 70, .inr (.inr (.inr (.inr fi))))), (mr 6, .inl (kI, 3002, .inl fa)), (mr 18, .inl (kT, 2000, .inr (.inr (.inr (.inr fyz1))))), (m9, .inr (23, mT mr mv vf wh (fa tj) (nI T) (nI im) (nI tmz1) xm (nI sc) (nI vm)))] : va_W) ++ (sT Lz1 F9)) := hD
  have hK : va_K (dC, dI) vwCl [(kI, .int), (kM, .object RX16), (kT, .object RX20)] s := hK
  clear hz1 hk1 hPc hDc hKc hFc hP1 hD1 hK1
  obtain ⟨hr9, hF9⟩ := hf3_0
  obtain rfl : r_3 = adz1 tz1 := hr9
  have htg9 : tgd Lz1 F9 Gz1 fk fa fe T zs kE kI kS kB kA kV kW kT kP fi im xI ps ms ik qz fyz1 tmz1 Yz1 adz1 := by rw [hF9]; exact tgd_up hf2_0 (cs_put (by rw [← hF8]; exact hf2_0.2.1 _ hm8) rfl)
  refine W.grow (fun hgs0 hgs1 => ?_)
  have hP9 := hP.subT (f' := [(m9, .inr (23, mT mr mv vf wh (fa tj) (nI T) (nI im) (nI tmz1) xm (nI sc) (nI vm))), (mr 6, .inl (kI, 3002, .inl fa)), (mr 7, .inl (kI, 3002, .inl fe)), (mr 0, .inl (kI, 3000, .inl ft)), (mr 11, .inl (kM, 70, .inr (.inr (.inr (.inr fi))))), (mr 18, .inl (kT, 2000, .inr (.inr (.inr (.inr fyz1)))))]) [5, 3, 0, 1, 2, 4] rfl
  have hD9 := hD.subT (f' := [(m9, .inr (23, mT mr mv vf wh (fa tj) (nI T) (nI im) (nI tmz1) xm (nI sc) (nI vm))), (mr 6, .inl (kI, 3002, .inl fa)), (mr 7, .inl (kI, 3002, .inl fe)), (mr 0, .inl (kI, 3000, .inl ft)), (mr 11, .inl (kM, 70, .inr (.inr (.inr (.inr fi))))), (mr 18, .inl (kT, 2000, .inr (.inr (.inr (.inr fyz1)))))]) [5, 3, 0, 1, 2, 4] (by decide) rfl
  have hK9 := hK.sub (tys' := [(kI, .int), (kM, .object RX16), (kT, .object RX20)]) [0, 1, 2] rfl
  refine W.widen (k := 1) (n := 4) (by omega) (by omega) ?_
  exact W.aret hx hb hr (Or.inl ⟨_, rfl⟩) (Or.inr ⟨adz1 tz1, rfl⟩) (fun tS ht hW => ⟨⟨(), adz1 tz1, rfl, trivial, Lz1, F9, Gz1, tmz1, fyz1, Yz1, adz1, tz1, htg9, hf2_1, hf2_3, hf2_4, ⟨fun a ha ne => by rw [hF9, updE_n ne]; exact (hf2_2 a ha).2, by rw [hF9]; exact updE_s⟩, by rw [ht]; exact ⟨by omega, by omega⟩, by rw [ht]; exact hP9, va_K.moved hW.alike hK9, hD9⟩, hS.F ht⟩) hS.2.2 dX23_wrong_16
set_option maxRecDepth 20000 in
theorem g_c_wrgB_c_tfaB_3 : GoodIn wp_c_wrg (wsV RX23 96 RX23 yX23_fail wp_c_tfa0) := goodIn_app (goodIn_f [.methodLink RX23 96 yX23_fail, .instanceMethod yX23_fail, .selects RX23 yX23_fail yX23_fail, .initialized RX23] [5, 6, 7, 8] rfl (by decide +kernel)) (goodIn_app (goodIn_f (wf_c_tfa0) [1, 2, 3, 4] rfl wg_c_tfa0) (goodIn_app (goodIn_sub in_c_wrg_X23 gd_X23) (goodIn_n)))
set_option maxRecDepth 20000 in
theorem g_c_wrgB_c_plt_10 : GoodIn wp_c_wrg (wsV RX23 405 RX23 yX23_plainType wp_c_plt) := goodIn_app (goodIn_f [.methodLink RX23 405 yX23_plainType, .instanceMethod yX23_plainType, .selects RX23 yX23_plainType yX23_plainType, .initialized RX23] [28, 29, 30, 8] rfl (by decide +kernel)) (goodIn_app (goodIn_f (wf_c_plt) [9, 10, 11, 12, 13, 14, 15, 16, 17, 18, 19, 20, 21, 22, 23, 24, 25, 26, 27, 8] rfl wg_c_plt) (goodIn_app (goodIn_sub in_c_wrg_X23 gd_X23) (goodIn_app (goodIn_sub in_c_wrg_X20 gd_X20) (goodIn_n))))
set_option maxRecDepth 20000 in
theorem g_c_wrgB_c_tld_13 : GoodIn wp_c_wrg (wsV RX23 485 RX23 yX23_told wp_c_tld) := goodIn_app (goodIn_f [.methodLink RX23 485 yX23_told, .instanceMethod yX23_told, .selects RX23 yX23_told yX23_told, .initialized RX23] [33, 34, 35, 8] rfl (by decide +kernel)) (goodIn_app (goodIn_f (wf_c_tld) [31, 32] rfl wg_c_tld) (goodIn_app (goodIn_sub in_c_wrg_X15 gd_X15) (goodIn_n)))
set_option maxHeartbeats 4000000 in
set_option maxRecDepth 100000 in
theorem c_wrgB (l : Launch) (dC : Nat → ClassId) (dI : Nat → Nat → Nat) (m9 : Nat) (mr : Nat → Nat) (mv : Nat → Int32) (vf : Value) (ff xa xm : Int32) (T im tm sc vm : Nat) (kI : ClassId) (fk fa fe ft : Nat → Int32) (zs : Nat) (L : List Nat) (F : Nat → va_E) (G : Nat → va_E) (kT : ClassId) (fy : Nat → Option Nat) (Y : Nat → Int32 × Int32 × Option Nat) (ad : Nat → Nat) (kE kS kB kA kV kW kP kM : ClassId) (fi : Nat → Option Nat) (xI ps ms : Nat → Nat) (ik : Nat → Int32) (qz : Nat) (ee : Nat) (gs : List Value) (wh : Int32) (tj : Nat) (sl : Nat) (sz : Nat) (htg : tgd L F G fk fa fe T zs kE kI kS kB kA kV kW kT kP fi im xI ps ms ik qz fy tm Y ad) (hem : ee ∈ L) (heF : F ee = .inr (15, gs)) (hpt : ptN Y tm ≤ 1999) (hgl : gs.length = 14) (hff : ff ≠ 0) : Met l yX23_wrong wp_c_wrg ({ frames := 4, cells := 1, slots := 4, locals := 77 }) (va_Pc [.ref m9, .ref ee, .int wh, .int (nI tj)] (fun U => U.heap.size = sz ∧ va_P (dC, dI) vwCl (([(m9, .inr (23, mT mr mv vf ff xa (nI T) (nI im) (nI tm) xm (nI sc) (nI vm))), (mr 6, .inl (kI, 3002, .inl fa)), (mr 7, .inl (kI, 3002, .inl fe)), (mr 0, .inl (kI, 3000, .inl ft)), (mr 11, .inl (kM, 70, .inr (.inr (.inr (.inr fi))))), (mr 18, .inl (kT, 2000, .inr (.inr (.inr (.inr fy)))))] : va_W) ++ (sT L F)) U.heap ∧ va_K (dC, dI) vwCl [(kI, .int), (kM, .object RX16), (kT, .object RX20)] U ∧ va_D (fun _ => True) (([(m9, .inr (23, mT mr mv vf ff xa (nI T) (nI im) (nI tm) xm (nI sc) (nI vm))), (mr 6, .inl (kI, 3002, .inl fa)), (mr 7, .inl (kI, 3002, .inl fe)), (mr 0, .inl (kI, 3000, .inl ft)), (mr 11, .inl (kM, 70, .inr (.inr (.inr (.inr fi))))), (mr 18, .inl (kT, 2000, .inr (.inr (.inr (.inr fy)))))] : va_W) ++ (sT L F)) ∧ nsM U ∧ slN U.heap = sl)) (va_Qr (fun _ : Unit => True) (fun (_ : Unit) (rA : Nat) (tS : State) => ∃ (L2 : List Nat) (F2 : Nat → va_E) (G2 : Nat → va_E) (tm2 : Nat) (fy2 : Nat → Option Nat) (Y2 : Nat → Int32 × Int32 × Option Nat) (ad2 : Nat → Nat) (t2 : Nat), (tgd L2 F2 G2 fk fa fe T zs kE kI kS kB kA kV kW kT kP fi im xI ps ms ik qz fy2 tm2 Y2 ad2) ∧ (tX L G tm Y ad L2 G2 tm2 Y2 ad2) ∧ (t2 < tm2 ∧ rA = ad2 t2 ∧ Y2 t2 = (0, 0, none)) ∧ (ptN Y2 tm2 ≤ ptN Y tm ∧ tm2 ≤ tm + 1) ∧ ((∀ a ∈ L, a ≠ ee → F2 a = F a) ∧ F2 ee = .inr (15, gs.set 12 (.ref (ad2 t2)))) ∧ (tS.heap.size ≤ sz + ((tm2 - tm)) ∧ slN tS.heap ≤ sl + (4 * (tm2 - tm))) ∧ va_P (dC, dI) vwCl (([(m9, .inr (23, mT mr mv vf ff xa (nI T) (nI im) (nI tm2) xm (nI sc) (nI vm))), (mr 6, .inl (kI, 3002, .inl fa)), (mr 7, .inl (kI, 3002, .inl fe)), (mr 0, .inl (kI, 3000, .inl ft)), (mr 11, .inl (kM, 70, .inr (.inr (.inr (.inr fi))))), (mr 18, .inl (kT, 2000, .inr (.inr (.inr (.inr fy2)))))] : va_W) ++ (sT L2 F2)) tS.heap ∧ va_K (dC, dI) vwCl [(kI, .int), (kM, .object RX16), (kT, .object RX20)] tS ∧ va_D (va_A (([(m9, .inr (23, mT mr mv vf ff xa (nI T) (nI im) (nI tm) xm (nI sc) (nI vm))), (mr 6, .inl (kI, 3002, .inl fa)), (mr 7, .inl (kI, 3002, .inl fe)), (mr 0, .inl (kI, 3000, .inl ft)), (mr 11, .inl (kM, 70, .inr (.inr (.inr (.inr fi))))), (mr 18, .inl (kT, 2000, .inr (.inr (.inr (.inr fy)))))] : va_W) ++ (sT L F)) sz) (([(m9, .inr (23, mT mr mv vf ff xa (nI T) (nI im) (nI tm2) xm (nI sc) (nI vm))), (mr 6, .inl (kI, 3002, .inl fa)), (mr 7, .inl (kI, 3002, .inl fe)), (mr 0, .inl (kI, 3000, .inl ft)), (mr 11, .inl (kM, 70, .inr (.inr (.inr (.inr fi))))), (mr 18, .inl (kT, 2000, .inr (.inr (.inr (.inr fy2)))))] : va_W) ++ (sT L2 F2))) (va_A (([(m9, .inr (23, mT mr mv vf ff xa (nI T) (nI im) (nI tm) xm (nI sc) (nI vm))), (mr 6, .inl (kI, 3002, .inl fa)), (mr 7, .inl (kI, 3002, .inl fe)), (mr 0, .inl (kI, 3000, .inl ft)), (mr 11, .inl (kM, 70, .inr (.inr (.inr (.inr fi))))), (mr 18, .inl (kT, 2000, .inr (.inr (.inr (.inr fy)))))] : va_W) ++ (sT L F)) sz)) 1 4 (va_A (([(m9, .inr (23, mT mr mv vf ff xa (nI T) (nI im) (nI tm) xm (nI sc) (nI vm))), (mr 6, .inl (kI, 3002, .inl fa)), (mr 7, .inl (kI, 3002, .inl fe)), (mr 0, .inl (kI, 3000, .inl ft)), (mr 11, .inl (kM, 70, .inr (.inr (.inr (.inr fi))))), (mr 18, .inl (kT, 2000, .inr (.inr (.inr (.inr fy)))))] : va_W) ++ (sT L F)) sz) := by
  refine Met.ofW (cc := cX23_wrong) (maxL := 4) (ret := (some (.object "OwnedPlacesModel$Type"))) (by decide) rfl ?_
  intro p e s m args below meth c s₁ B hml hv
  obtain ⟨rfl, hsz, hP, hK, hD0, hpre0, hpre1⟩ := hv
  have hx := B.exec
  have hb := B.bytes
  have hr := B.returns
  have hts := atoms_spec (ws := wp_c_wrg) B.pre
  have hown : s.vm.findClass RX23 = some m.cls := findClass_of_methodNamed B.named
  have hlocks := B.notSynchronized
  subst hsz
  have hD := hD0.self (sz := s.heap.size)
  generalize hAe : va_A (([(m9, .inr (23, mT mr mv vf ff xa (nI T) (nI im) (nI tm) xm (nI sc) (nI vm))), (mr 6, .inl (kI, 3002, .inl fa)), (mr 7, .inl (kI, 3002, .inl fe)), (mr 0, .inl (kI, 3000, .inl ft)), (mr 11, .inl (kM, 70, .inr (.inr (.inr (.inr fi))))), (mr 18, .inl (kT, 2000, .inr (.inr (.inr (.inr fy)))))] : va_W) ++ (sT L F)) s.heap.size = A at hD ⊢
  have hA : ∀ q : Nat, s.heap.size ≤ q → A q := fun q h => by rw [← hAe]; exact Or.inr h
  have hS : va_S A s.heap s.heap [] := va_S.rf
  have hP : va_P (dC, dI) vwCl (([(m9, .inr (23, mT mr mv vf ff xa (nI T) (nI im) (nI tm) xm (nI sc) (nI vm))), (mr 6, .inl (kI, 3002, .inl fa)), (mr 7, .inl (kI, 3002, .inl fe)), (mr 0, .inl (kI, 3000, .inl ft)), (mr 11, .inl (kM, 70, .inr (.inr (.inr (.inr fi))))), (mr 18, .inl (kT, 2000, .inr (.inr (.inr (.inr fy)))))] : va_W) ++ (sT L F)) s.heap := hP
  have hl := lv_entry ([.ref m9, .ref ee, .int wh, .int (nI tj)]) (n := 4) (Nat.le_of_ble_eq_true rfl)
  rw [lg_entry_eq]
  generalize (lg_sl ([.ref m9, .ref ee, .int wh, .int (nI tj)]) ++ List.replicate (4 - (lg_sl ([.ref m9, .ref ee, .int wh, .int (nI tj)])).length) Slot.unset).toArray = ls at hl ⊢
  have hl : lv_has ls 4 [(0, .ref m9), (1, .ref ee), (2, .int wh), (3, .int (nI tj))] := hl
  have hns := hpre0
  subst hpre1
  refine lv_aload_n hx hb dX23_wrong_0 rfl (lv_at hl 0 rfl) ?_
  refine lv_iload_n hx hb dX23_wrong_1 rfl (lv_at hl 2 rfl) ?_
  refine lv_iload_n hx hb dX23_wrong_2 rfl (lv_at hl 3 rfl) ?_
  have hPc := hP.subF (f' := [(m9, .inr (23, mT mr mv vf ff xa (nI T) (nI im) (nI tm) xm (nI sc) (nI vm))), (mr 6, .inl (kI, 3002, .inl fa))]) [0, 1] rfl
  have hDc := hD.subF (f' := [(m9, .inr (23, mT mr mv vf ff xa (nI T) (nI im) (nI tm) xm (nI sc) (nI vm))), (mr 6, .inl (kI, 3002, .inl fa))]) [0, 1] (by decide) rfl
  have hKc := hK.sub (tys' := [(kI, .int)]) [0] rfl
  have hFc := va_freeT (wc := [(m9, .inr (23, mT mr mv vf ff xa (nI T) (nI im) (nI tm) xm (nI sc) (nI vm))), (mr 6, .inl (kI, 3002, .inl fa))]) hD hS hA [0, 1] rfl
  refine va_callv (va_runV (As := [.int wh, .int (nI tj)]) (rest := []) ⟨hx, hb, hml, hown, hts⟩ (c_tfaB l dC dI m9 mr mv vf ff xa xm T im tm sc vm kI fa wh (nI tj) s.heap.size hff) (cwV 2 hts g_c_wrgB_c_tfaB_3 rfl rfl rfl (by decide +kernel) ⟨Nat.le_of_ble_eq_true rfl, Nat.le_of_ble_eq_true rfl⟩) ⟨fun a U g mk q => by obtain ⟨q0, q1, qP, qK, qD⟩ := q; exact ⟨q0, q1, qP, va_K.moved (u := U) (U := U.calling g mk a) (Vm.Alike.refl U.vm) qK, qD⟩, va_recv hKc hPc (ci := 23) (q0 := 0) rfl rfl, fun U hU hW => ⟨rfl, by rw [hU], by rw [hU]; exact hPc, va_K.moved hW.alike hKc, hDc.weaken (fun _ _ _ _ => trivial)⟩⟩ rfl rfl hl.1 rfl (lv_room (Nat.le_of_ble_eq_true rfl)) dX23_wrong_3 ⟨(show 0 + 0 ≤ 1 by omega), (show 0 + 0 ≤ 4 by omega)⟩) hS (fun q _ h => hFc q h) hFc (fun u tS H1 locs ht hvm hw hB hz1 hk1 hS => ?_)
  obtain ⟨hP1, hK1, hD1⟩ := hB
  rw [ht] at hP1
  have hK1 := va_K.moved hvm.symm hK1
  obtain ⟨hP, hD⟩ := va_joinT (wr := [(mr 7, .inl (kI, 3002, .inl fe)), (mr 0, .inl (kI, 3000, .inl ft)), (mr 11, .inl (kM, 70, .inr (.inr (.inr (.inr fi))))), (mr 18, .inl (kT, 2000, .inr (.inr (.inr (.inr fy)))))]) (w1 := [(m9, .inr (23, mT mr mv vf ff xa (nI T) (nI im) (nI tm) xm (nI sc) (nI vm))), (mr 6, .inl (kI, 3002, .inl fa))]) hP hD [0, 1] [2, 3, 4, 5] rfl rfl (by decide) (by decide) hk1 hFc hP1 hD1
  have hK := hK.app hK1
  generalize H1 = H at hP hS ⊢
  have hP : va_P (dC, dI) vwCl (([(mr 7, .inl (kI, 3002, .inl fe)), (mr 0, .inl (kI, 3000, .inl ft)), (mr 11, .inl (kM, 70, .inr (.inr (.inr (.inr fi))))), (mr 18, .inl (kT, 2000, .inr (.inr (.inr (.inr fy))))), (m9, .inr (23, mT mr mv vf ff xa (nI T) (nI im) (nI tm) xm (nI sc) (nI vm))), (mr 6, .inl (kI, 3002, .inl fa))] : va_W) ++ (sT L F)) H := hP
  have hD : va_D A (([(mr 7, .inl (kI, 3002, .inl fe)), (mr 0, .inl (kI, 3000, .inl ft)), (mr 11, .inl (kM, 70, .inr (.inr (.inr (.inr fi))))), (mr 18, .inl (kT, 2000, .inr (.inr (.inr (.inr fy))))), (m9, .inr (23, mT mr mv vf ff xa (nI T) (nI im) (nI tm) xm (nI sc) (nI vm))), (mr 6, .inl (kI, 3002, .inl fa))] : va_W) ++ (sT L F)) := hD
  have hK : va_K (dC, dI) vwCl [(kI, .int), (kM, .object RX16), (kT, .object RX20), (kI, .int)] s := hK
  have hK := hK.sub (tys' := [(kI, .int), (kM, .object RX16), (kT, .object RX20)]) [0, 1, 2] rfl
  clear hz1 hk1 hPc hDc hKc hFc hP1 hD1 hK1
  refine lv_aload_n hx hb dX23_wrong_6 rfl (lv_at hl 0 rfl) ?_
  refine lv_aload_n hx hb dX23_wrong_7 rfl (lv_at hl 1 rfl) ?_
  refine lv_aload_n hx hb dX23_wrong_8 rfl (lv_at hl 0 rfl) ?_
  refine lv_iconst (v := 0) hx hb dX23_wrong_9 (by decide) ?_
  have hPc := hP.subT (f' := [(m9, .inr (23, mT mr mv vf ff xa (nI T) (nI im) (nI tm) xm (nI sc) (nI vm))), (mr 18, .inl (kT, 2000, .inr (.inr (.inr (.inr fy)))))]) [4, 3] rfl
  have hDc := hD.subT (f' := [(m9, .inr (23, mT mr mv vf ff xa (nI T) (nI im) (nI tm) xm (nI sc) (nI vm))), (mr 18, .inl (kT, 2000, .inr (.inr (.inr (.inr fy)))))]) [4, 3] (by decide) rfl
  have hKc := hK.sub (tys' := [(kT, .object RX20)]) [2] rfl
  have hFc := va_freeB (wc := [(m9, .inr (23, mT mr mv vf ff xa (nI T) (nI im) (nI tm) xm (nI sc) (nI vm))), (mr 18, .inl (kT, 2000, .inr (.inr (.inr (.inr fy)))))]) hD hS hA [4, 3] rfl
  refine W.grow (fun hgs0 hgs1 => ?_)
  refine va_callr (va_runV (As := [.int 0]) (rest := [.ref ee, .ref m9]) ⟨hx, hb, hml, hown, hts⟩ (c_plt l dC dI m9 mr mv vf ff xa xm T im tm sc vm kI fk fa fe ft zs L F G kT fy Y ad kE kS kB kA kV kW kP kM fi xI ps ms ik qz 0 (slN H) H.size htg (by decide) (by omega)) (cwV 1 hts g_c_wrgB_c_plt_10 rfl rfl rfl (by decide +kernel) ⟨Nat.le_of_ble_eq_true rfl, Nat.le_of_ble_eq_true rfl⟩) ⟨fun a U g mk q => by obtain ⟨q0, q1, qP, qK, qD, qx0, qx1⟩ := q; exact ⟨q0, q1, qP, va_K.moved (u := U) (U := U.calling g mk a) (Vm.Alike.refl U.vm) qK, qD, nsM.same (u := U) (U := U.calling g mk a) rfl qx0, qx1⟩, va_recv hKc hPc (ci := 23) (q0 := 0) rfl rfl, fun U hU hW => ⟨rfl, by rw [hU], by rw [hU]; exact hPc, va_K.moved hW.alike hKc, hDc.weaken (fun _ _ _ _ => trivial), nsM.warm hW hns, by rw [hU]⟩⟩ rfl rfl hl.1 rfl (lv_room (Nat.le_of_ble_eq_true rfl)) dX23_wrong_10 ⟨(show 0 + 1 ≤ 1 by omega), (show 0 + 4 ≤ 4 by omega)⟩) hS (fun q _ h => hFc q h) hFc (fun u r_2 tS H1 locs ht hvm hw hB hz1 hk1 hS => ?_)
  obtain ⟨Lz1, Fz1, Gz1, tmz1, fyz1, Yz1, adz1, tz1, hf2_0, hf2_1, hf2_2, hf2_3, hf2_4, hf2_5, hP1, hK1, hD1⟩ := hB
  rw [ht] at hP1
  have hK1 := va_K.moved hvm.symm hK1
  rw [ht] at hf2_5
  have hgz : H1.size ≤ s.heap.size + ((tmz1 - tm)) ∧ slN H1 ≤ slN s.heap + (4 * (tmz1 - tm)) := ⟨by have := hf2_5.1; omega, by have := hf2_5.2; omega⟩
  obtain ⟨hP, hD⟩ := va_joinB (wr := [(mr 7, .inl (kI, 3002, .inl fe)), (mr 0, .inl (kI, 3000, .inl ft)), (mr 11, .inl (kM, 70, .inr (.inr (.inr (.inr fi))))), (mr 6, .inl (kI, 3002, .inl fa))]) (w1 := [(m9, .inr (23, mT mr mv vf ff xa (nI T) (nI im) (nI tmz1) xm (nI sc) (nI vm))), (mr 18, .inl (kT, 2000, .inr (.inr (.inr (.inr fyz1)))))]) hP hD [4, 3] [0, 1, 2, 5] rfl rfl (by decide) (by decide) hk1 hFc hP1 hD1
  have hK := hK.app hK1
  generalize H1 = H at hP hS hgz ⊢
  have hP : va_P (dC, dI) vwCl (([(mr 7, .inl (kI, 3002, .inl fe)), (mr 0, .inl (kI, 3000, .inl ft)), (mr 11, .inl (kM, 70, .inr (.inr (.inr (.inr fi))))), (mr 6, .inl (kI, 3002, .inl fa)), (m9, .inr (23, mT mr mv vf ff xa (nI T) (nI im) (nI tmz1) xm (nI sc) (nI vm))), (mr 18, .inl (kT, 2000, .inr (.inr (.inr (.inr fyz1)))))] : va_W) ++ (sT Lz1 Fz1)) H := hP
  have hD : va_D A (([(mr 7, .inl (kI, 3002, .inl fe)), (mr 0, .inl (kI, 3000, .inl ft)), (mr 11, .inl (kM, 70, .inr (.inr (.inr (.inr fi))))), (mr 6, .inl (kI, 3002, .inl fa)), (m9, .inr (23, mT mr mv vf ff xa (nI T) (nI im) (nI tmz1) xm (nI sc) (nI vm))), (mr 18, .inl (kT, 2000, .inr (.inr (.inr (.inr fyz1)))))] : va_W) ++ (sT Lz1 Fz1)) := hD
  have hK : va_K (dC, dI) vwCl [(kI, .int), (kM, .object RX16), (kT, .object RX20), (kT, .object RX20)] s := hK
  have hK := hK.sub (tys' := [(kI, .int), (kM, .object RX16), (kT, .object RX20)]) [0, 1, 2] rfl
  refine W.tight (k := (tmz1 - tm)) (n := 4 * (tmz1 - tm)) hgz.1 hgz.2 ?_
  clear hz1 hk1 hPc hDc hKc hFc hP1 hD1 hK1
  have htm2 := (hf2_1).2.1
  have hpt2 := hf2_4
  obtain rfl : r_2 = adz1 tz1 := hf2_3.2.1
  have hm8 := (hf2_2 _ hem).1
  have hF8 := (hf2_2 _ hem).2.trans heF
  have hPc := hP.subT (f' := [(m9, .inr (23, mT mr mv vf ff xa (nI T) (nI im) (nI tmz1) xm (nI sc) (nI vm)))]) [4] rfl
  have hDc := hD.subT (f' := [(m9, .inr (23, mT mr mv vf ff xa (nI T) (nI im) (nI tmz1) xm (nI sc) (nI vm)))]) [4] (by decide) rfl
  have hKc := hK.sub (tys' := []) [] rfl
  have hFc := va_freeB (wc := [(m9, .inr (23, mT mr mv vf ff xa (nI T) (nI im) (nI tmz1) xm (nI sc) (nI vm)))]) hD hS hA [4] rfl
  refine va_callr (va_runV (As := [.ref ee, .ref (adz1 tz1)]) (rest := []) ⟨hx, hb, hml, hown, hts⟩ (c_tld l dC dI m9 mr mv vf ff xa xm T im tmz1 sc vm kI Lz1 Fz1 ee (adz1 tz1) gs H.size hm8 hF8 hgl) (cwV 2 hts g_c_wrgB_c_tld_13 rfl rfl rfl (by decide +kernel) ⟨Nat.le_of_ble_eq_true rfl, Nat.le_of_ble_eq_true rfl⟩) ⟨fun a U g mk q => by obtain ⟨q0, q1, qP, qK, qD⟩ := q; exact ⟨q0, q1, qP, va_K.moved (u := U) (U := U.calling g mk a) (Vm.Alike.refl U.vm) qK, qD⟩, va_recv hKc hPc (ci := 23) (q0 := 0) rfl rfl, fun U hU hW => ⟨rfl, by rw [hU], by rw [hU]; exact hPc, va_K.moved hW.alike hKc, hDc.weaken (fun _ _ _ _ => trivial)⟩⟩ rfl rfl hl.1 rfl (lv_room (Nat.le_of_ble_eq_true rfl)) dX23_wrong_13 ⟨(show (tmz1 - tm) + 0 ≤ 1 by omega), (show 4 * (tmz1 - tm) + 0 ≤ 4 by omega)⟩) hS (fun q _ h => hFc q h) hFc (fun u r_3 tS H1 locs ht hvm hw hB hz1 hk1 hS => ?_)
  obtain ⟨F9, hf3_0, hP1, hK1, hD1⟩ := hB
  rw [ht] at hP1
  have hK1 := va_K.moved hvm.symm hK1
  obtain ⟨hP, hD⟩ := va_joinB (wr := [(mr 7, .inl (kI, 3002, .inl fe)), (mr 0, .inl (kI, 3000, .inl ft)), (mr 11, .inl (kM, 70, .inr (.inr (.inr (.inr fi))))), (mr 6, .inl (kI, 3002, .inl fa)), (mr 18, .inl (kT, 2000, .inr (.inr (.inr (.inr fyz1)))))]) (w1 := [(m9, .inr (23, mT mr mv vf ff xa (nI T) (nI im) (nI tmz1) xm (nI sc) (nI vm)))]) hP hD [4] [0, 1, 2, 3, 5] rfl rfl (by decide) (by decide) hk1 hFc hP1 hD1
  generalize H1 = H at hP hS ⊢
  have hP : va_P (dC, dI) vwCl (([(mr 7, .inl (kI, 3002, .inl fe)), (mr 0, .inl (kI, 3000, .inl ft)), (mr 11, .inl (kM, 70, .inr (.inr (.inr (.inr fi))))), (mr 6, .inl (kI, 3002, .inl fa)), (mr 18, .inl (kT, 2000, .inr (.inr (.inr (.inr fyz1))))), (m9, .inr (23, mT mr mv vf ff xa (nI T) (nI im) (nI tmz1) xm (nI sc) (nI vm)))] : va_W) ++ (sT Lz1 F9)) H := hP
  have hD : va_D A (([(mr 7, .inl (kI, 3002, .inl fe)), (mr 0, .inl (kI, 3000, .inl ft)), (mr 11, .inl (kM, 70, .inr (.inr (.inr (.inr fi))))), (mr 6, .inl (kI, 3002, .inl fa)), (mr 18, .inl (kT, 2000, .inr (.inr (.inr (.inr fyz1))))), (m9, .inr (23, mT mr mv vf ff xa (nI T) (nI im) (nI tmz1) xm (nI sc) (nI vm)))] : va_W) ++ (sT Lz1 F9)) := hD
  have hK : va_K (dC, dI) vwCl [(kI, .int), (kM, .object RX16), (kT, .object RX20)] s := hK
  clear hz1 hk1 hPc hDc hKc hFc hP1 hD1 hK1
  obtain ⟨hr9, hF9⟩ := hf3_0
  obtain rfl : r_3 = adz1 tz1 := hr9
  have htg9 : tgd Lz1 F9 Gz1 fk fa fe T zs kE kI kS kB kA kV kW kT kP fi im xI ps ms ik qz fyz1 tmz1 Yz1 adz1 := by rw [hF9]; exact tgd_up hf2_0 (cs_put (by rw [← hF8]; exact hf2_0.2.1 _ hm8) rfl)
  refine W.grow (fun hgs0 hgs1 => ?_)
  have hP9 := hP.subT (f' := [(m9, .inr (23, mT mr mv vf ff xa (nI T) (nI im) (nI tmz1) xm (nI sc) (nI vm))), (mr 6, .inl (kI, 3002, .inl fa)), (mr 7, .inl (kI, 3002, .inl fe)), (mr 0, .inl (kI, 3000, .inl ft)), (mr 11, .inl (kM, 70, .inr (.inr (.inr (.inr fi))))), (mr 18, .inl (kT, 2000, .inr (.inr (.inr (.inr fyz1)))))]) [5, 3, 0, 1, 2, 4] rfl
  have hD9 := hD.subT (f' := [(m9, .inr (23, mT mr mv vf ff xa (nI T) (nI im) (nI tmz1) xm (nI sc) (nI vm))), (mr 6, .inl (kI, 3002, .inl fa)), (mr 7, .inl (kI, 3002, .inl fe)), (mr 0, .inl (kI, 3000, .inl ft)), (mr 11, .inl (kM, 70, .inr (.inr (.inr (.inr fi))))), (mr 18, .inl (kT, 2000, .inr (.inr (.inr (.inr fyz1)))))]) [5, 3, 0, 1, 2, 4] (by decide) rfl
  have hK9 := hK.sub (tys' := [(kI, .int), (kM, .object RX16), (kT, .object RX20)]) [0, 1, 2] rfl
  refine W.widen (k := 1) (n := 4) (by omega) (by omega) ?_
  exact W.aret hx hb hr (Or.inl ⟨_, rfl⟩) (Or.inr ⟨adz1 tz1, rfl⟩) (fun tS ht hW => ⟨⟨(), adz1 tz1, rfl, trivial, Lz1, F9, Gz1, tmz1, fyz1, Yz1, adz1, tz1, htg9, hf2_1, hf2_3, hf2_4, ⟨fun a ha ne => by rw [hF9, updE_n ne]; exact (hf2_2 a ha).2, by rw [hF9]; exact updE_s⟩, by rw [ht]; exact ⟨by omega, by omega⟩, by rw [ht]; exact hP9, va_K.moved hW.alike hK9, hD9⟩, hS.F ht⟩) hS.2.2 dX23_wrong_16
