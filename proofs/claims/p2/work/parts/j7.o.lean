def wf_c_res : List Cond := [.code yX23_resolve cX23_resolve 5 (some (.object "OwnedPlacesModel$Type")), .code yX23_plainType cX23_plainType 2 (some (.object "OwnedPlacesModel$Type")), .code yX23_type cX23_type 5 (some (.object "OwnedPlacesModel$Type")), .fieldLink RX23 382 "OwnedPlacesModel" "typeMany" "I", .fieldLink RX23 385 "OwnedPlacesModel" "types" "[LOwnedPlacesModel$Type;", .fieldLink RX23 386 "OwnedPlacesModel$Type" "kind" "I", .fieldLink RX23 387 "OwnedPlacesModel$Type" "index" "I", .fieldLink RX23 390 "OwnedPlacesModel$Type" "of" "LOwnedPlacesModel$Type;", .classLink RX23 164 RX20, .instantiable RX20 4, .initialized RX20, .code yX20_init cX20_init 1 none, .methodLink RX20 1 objectInit, .instanceMethod objectInit, .code objectInit ⟨#[0xb1]⟩ 1 none, .instanceMethod yX20_init, .fieldLink RX23 394 "OwnedPlacesModel$Type" "id" "I", .methodLink RX23 397 yX23_type, .instanceMethod yX23_type, .selects RX23 yX23_type yX23_type, .initialized RX23, .methodLink RX23 405 yX23_plainType, .instanceMethod yX23_plainType, .selects RX23 yX23_plainType yX23_plainType, .code yX23_ok cX23_ok 1 (some .boolean), .fieldLink RX23 80 "OwnedPlacesModel" "fault" "I", .methodLink RX23 89 yX23_ok, .instanceMethod yX23_ok, .selects RX23 yX23_ok yX23_ok, .fieldLink RX23 116 "OwnedPlacesModel$Written" "kind" "I", .fieldLink RX23 135 "OwnedPlacesModel$Written" "of" "LOwnedPlacesModel$Written;", .methodLink RX23 409 yX23_resolve, .instanceMethod yX23_resolve, .selects RX23 yX23_resolve yX23_resolve, .fieldLink RX23 113 "OwnedPlacesModel$Written" "token" "I", .code yX23_fail cX23_fail 3 none, .fieldLink RX23 31 "OwnedPlacesModel" "tokenAt" "[I", .fieldLink RX23 83 "OwnedPlacesModel" "faultAt" "I", .methodLink RX23 96 yX23_fail, .instanceMethod yX23_fail, .selects RX23 yX23_fail yX23_fail, .fieldLink RX23 128 "OwnedPlacesModel$Written" "name" "I", .code yX23_itemNamed cX23_itemNamed 3 (some .int), .fieldLink RX23 221 "OwnedPlacesModel" "itemMany" "I", .fieldLink RX23 232 "OwnedPlacesModel" "items" "[LOwnedPlacesModel$Item;", .fieldLink RX23 176 "OwnedPlacesModel$Item" "name" "I", .code yX23_sameName cX23_sameName 5 (some .boolean), .fieldLink RX23 34 "OwnedPlacesModel" "tokenEnd" "[I", .fieldLink RX23 7 "OwnedPlacesModel" "text" "[I", .methodLink RX23 401 yX23_sameName, .instanceMethod yX23_sameName, .selects RX23 yX23_sameName yX23_sameName, .methodLink RX23 413 yX23_itemNamed, .instanceMethod yX23_itemNamed, .selects RX23 yX23_itemNamed yX23_itemNamed, .fieldLink RX23 174 "OwnedPlacesModel$Item" "kind" "I"]
def wp_c_res : List Cond := wf_c_res ++ (wsX230 ++ (wsX200 ++ (wsX220 ++ (wsX160 ++ []))))
theorem in_c_res_X23 : ∀ w ∈ wsX230, w ∈ wp_c_res := fun w h => List.mem_append_right _ (List.mem_append_left _ h)
theorem in_c_res_X20 : ∀ w ∈ wsX200, w ∈ wp_c_res := fun w h => List.mem_append_right _ (List.mem_append_right _ (List.mem_append_left _ h))
theorem in_c_res_X22 : ∀ w ∈ wsX220, w ∈ wp_c_res := fun w h => List.mem_append_right _ (List.mem_append_right _ (List.mem_append_right _ (List.mem_append_left _ h)))
theorem in_c_res_X16 : ∀ w ∈ wsX160, w ∈ wp_c_res := fun w h => List.mem_append_right _ (List.mem_append_right _ (List.mem_append_right _ (List.mem_append_right _ (List.mem_append_left _ h))))
theorem wg_c_res : wf_c_res.all goodWord = true := by decide +kernel
theorem wm_c_res (k : Nat) {w : Cond} (h : wp_c_res[k]? = some w) : w ∈ wp_c_res := List.mem_of_getElem? h
def st_c_res (l : Launch) (dC : Nat → ClassId) (dI : Nat → Nat → Nat) (k : Nat) : Prop := ∀ (m9 : Nat) (mr : Nat → Nat) (mv : Nat → Int32) (vf : Value) (ff xa xm : Int32) (T im tm sc vm : Nat) (kI : ClassId) (fk fa fe ft : Nat → Int32) (zs : Nat) (L : List Nat) (F : Nat → va_E) (G : Nat → va_E) (kT : ClassId) (fy : Nat → Option Nat) (Y : Nat → Int32 × Int32 × Option Nat) (ad : Nat → Nat) (kE kS kB kA kV kW kP kM : ClassId) (fi : Nat → Option Nat) (xI ps ms : Nat → Nat) (ik : Nat → Int32) (qz : Nat) (wr pp qq : Nat) (mb : Int32) (sl : Nat) (sz : Nat), (tgd L F G fk fa fe T zs kE kI kS kB kA kV kW kT kP fi im xI ps ms ik qz fy tm Y ad) → (isT L G fk k wr pp qq) → (qq ≤ T) → (ptN Y tm + (qq - pp) ≤ 1999) → Met l yX23_resolve wp_c_res ({ frames := 4 + 1 * k, cells := (2 * (qq - pp) + 5), slots := (8 * (qq - pp) + 20), locals := 77 + 24 * k }) (va_Pc [.ref m9, .ref wr, .int mb] (fun U => U.heap.size = sz ∧ va_P (dC, dI) vwCl (([(m9, .inr (23, mT mr mv vf 0 xa (nI T) (nI im) (nI tm) xm (nI sc) (nI vm))), (mr 6, .inl (kI, 3002, .inl fa)), (mr 7, .inl (kI, 3002, .inl fe)), (mr 0, .inl (kI, 3000, .inl ft)), (mr 11, .inl (kM, 70, .inr (.inr (.inr (.inr fi))))), (mr 18, .inl (kT, 2000, .inr (.inr (.inr (.inr fy)))))] : va_W) ++ (sT L F)) U.heap ∧ va_K (dC, dI) vwCl [(kI, .int), (kM, .object RX16), (kT, .object RX20)] U ∧ va_D (fun _ => True) (([(m9, .inr (23, mT mr mv vf 0 xa (nI T) (nI im) (nI tm) xm (nI sc) (nI vm))), (mr 6, .inl (kI, 3002, .inl fa)), (mr 7, .inl (kI, 3002, .inl fe)), (mr 0, .inl (kI, 3000, .inl ft)), (mr 11, .inl (kM, 70, .inr (.inr (.inr (.inr fi))))), (mr 18, .inl (kT, 2000, .inr (.inr (.inr (.inr fy)))))] : va_W) ++ (sT L F)) ∧ nsM U ∧ slN U.heap = sl)) (va_Qr (fun _ : Unit => True) (fun (_ : Unit) (rA : Nat) (tS : State) => ∃ (L2 : List Nat) (F2 : Nat → va_E) (G2 : Nat → va_E) (tm2 : Nat) (fy2 : Nat → Option Nat) (Y2 : Nat → Int32 × Int32 × Option Nat) (ad2 : Nat → Nat) (t2 : Nat) (ff2 : Int32) (xa2 : Int32), (tgd L2 F2 G2 fk fa fe T zs kE kI kS kB kA kV kW kT kP fi im xI ps ms ik qz fy2 tm2 Y2 ad2) ∧ (tX L G tm Y ad L2 G2 tm2 Y2 ad2) ∧ (exS L F L2 F2) ∧ (t2 < tm2 ∧ rA = ad2 t2) ∧ (ptN Y2 tm2 ≤ ptN Y tm + (qq - pp) ∧ tm2 ≤ tm + 2 * (qq - pp)) ∧ (tS.heap.size ≤ sz + ((tm2 - tm)) ∧ slN tS.heap ≤ sl + (4 * (tm2 - tm))) ∧ va_P (dC, dI) vwCl (([(m9, .inr (23, mT mr mv vf ff2 xa2 (nI T) (nI im) (nI tm2) xm (nI sc) (nI vm))), (mr 6, .inl (kI, 3002, .inl fa)), (mr 7, .inl (kI, 3002, .inl fe)), (mr 0, .inl (kI, 3000, .inl ft)), (mr 11, .inl (kM, 70, .inr (.inr (.inr (.inr fi))))), (mr 18, .inl (kT, 2000, .inr (.inr (.inr (.inr fy2)))))] : va_W) ++ (sT L2 F2)) tS.heap ∧ va_K (dC, dI) vwCl [(kI, .int), (kM, .object RX16), (kT, .object RX20)] tS ∧ va_D (va_A (([(m9, .inr (23, mT mr mv vf 0 xa (nI T) (nI im) (nI tm) xm (nI sc) (nI vm))), (mr 6, .inl (kI, 3002, .inl fa)), (mr 7, .inl (kI, 3002, .inl fe)), (mr 0, .inl (kI, 3000, .inl ft)), (mr 11, .inl (kM, 70, .inr (.inr (.inr (.inr fi))))), (mr 18, .inl (kT, 2000, .inr (.inr (.inr (.inr fy)))))] : va_W) ++ (sT L F)) sz) (([(m9, .inr (23, mT mr mv vf ff2 xa2 (nI T) (nI im) (nI tm2) xm (nI sc) (nI vm))), (mr 6, .inl (kI, 3002, .inl fa)), (mr 7, .inl (kI, 3002, .inl fe)), (mr 0, .inl (kI, 3000, .inl ft)), (mr 11, .inl (kM, 70, .inr (.inr (.inr (.inr fi))))), (mr 18, .inl (kT, 2000, .inr (.inr (.inr (.inr fy2)))))] : va_W) ++ (sT L2 F2))) (va_A (([(m9, .inr (23, mT mr mv vf 0 xa (nI T) (nI im) (nI tm) xm (nI sc) (nI vm))), (mr 6, .inl (kI, 3002, .inl fa)), (mr 7, .inl (kI, 3002, .inl fe)), (mr 0, .inl (kI, 3000, .inl ft)), (mr 11, .inl (kM, 70, .inr (.inr (.inr (.inr fi))))), (mr 18, .inl (kT, 2000, .inr (.inr (.inr (.inr fy)))))] : va_W) ++ (sT L F)) sz)) (2 * (qq - pp) + 5) (8 * (qq - pp) + 20) (va_A (([(m9, .inr (23, mT mr mv vf 0 xa (nI T) (nI im) (nI tm) xm (nI sc) (nI vm))), (mr 6, .inl (kI, 3002, .inl fa)), (mr 7, .inl (kI, 3002, .inl fe)), (mr 0, .inl (kI, 3000, .inl ft)), (mr 11, .inl (kM, 70, .inr (.inr (.inr (.inr fi))))), (mr 18, .inl (kT, 2000, .inr (.inr (.inr (.inr fy)))))] : va_W) ++ (sT L F)) sz)
def IH_rs (l : Launch) (dC : Nat → ClassId) (dI : Nat → Nat → Nat) (k : Nat) : Prop := st_c_res l dC dI k
set_option maxRecDepth 20000 in
theorem g_c_res_c_plt_2 : GoodIn wp_c_res (wsV RX23 405 RX23 yX23_plainType wp_c_plt) := goodIn_app (goodIn_f [.methodLink RX23 405 yX23_plainType, .instanceMethod yX23_plainType, .selects RX23 yX23_plainType yX23_plainType, .initialized RX23] [21, 22, 23, 20] rfl (by decide +kernel)) (goodIn_app (goodIn_f (wf_c_plt) [1, 2, 3, 4, 5, 6, 7, 8, 9, 10, 11, 12, 13, 14, 15, 16, 17, 18, 19, 20] rfl wg_c_plt) (goodIn_app (goodIn_sub in_c_res_X23 gd_X23) (goodIn_app (goodIn_sub in_c_res_X20 gd_X20) (goodIn_n))))
set_option maxRecDepth 20000 in
theorem g_c_res_c_tok0_7 : GoodIn wp_c_res (wsV RX23 89 RX23 yX23_ok wp_c_tok0) := goodIn_app (goodIn_f [.methodLink RX23 89 yX23_ok, .instanceMethod yX23_ok, .selects RX23 yX23_ok yX23_ok, .initialized RX23] [26, 27, 28, 20] rfl (by decide +kernel)) (goodIn_app (goodIn_f (wf_c_tok0) [24, 25] rfl wg_c_tok0) (goodIn_app (goodIn_sub in_c_res_X23 gd_X23) (goodIn_n)))
set_option maxRecDepth 20000 in
theorem g_c_res_c_plt_70 : GoodIn wp_c_res (wsV RX23 405 RX23 yX23_plainType wp_c_plt) := goodIn_app (goodIn_f [.methodLink RX23 405 yX23_plainType, .instanceMethod yX23_plainType, .selects RX23 yX23_plainType yX23_plainType, .initialized RX23] [21, 22, 23, 20] rfl (by decide +kernel)) (goodIn_app (goodIn_f (wf_c_plt) [1, 2, 3, 4, 5, 6, 7, 8, 9, 10, 11, 12, 13, 14, 15, 16, 17, 18, 19, 20] rfl wg_c_plt) (goodIn_app (goodIn_sub in_c_res_X23 gd_X23) (goodIn_app (goodIn_sub in_c_res_X20 gd_X20) (goodIn_n))))
set_option maxRecDepth 20000 in
theorem g_c_res_c_res_92 : GoodIn wp_c_res (wsV RX23 409 RX23 yX23_resolve wp_c_res) := goodIn_app (goodIn_f [.methodLink RX23 409 yX23_resolve, .instanceMethod yX23_resolve, .selects RX23 yX23_resolve yX23_resolve, .initialized RX23] [31, 32, 33, 20] rfl (by decide +kernel)) (goodIn_app (goodIn_f (wf_c_res) [0, 1, 2, 3, 4, 5, 6, 7, 8, 9, 10, 11, 12, 13, 14, 15, 16, 17, 18, 19, 20, 21, 22, 23, 24, 25, 26, 27, 28, 29, 30, 31, 32, 33, 34, 35, 36, 37, 38, 39, 40, 41, 42, 43, 44, 45, 46, 47, 48, 49, 50, 51, 52, 53, 54, 55] rfl wg_c_res) (goodIn_app (goodIn_sub in_c_res_X23 gd_X23) (goodIn_app (goodIn_sub in_c_res_X20 gd_X20) (goodIn_app (goodIn_sub in_c_res_X22 gd_X22) (goodIn_app (goodIn_sub in_c_res_X16 gd_X16) (goodIn_n))))))
set_option maxRecDepth 20000 in
theorem g_c_res_c_typR_95 : GoodIn wp_c_res (wsV RX23 397 RX23 yX23_type wp_c_typN) := goodIn_app (goodIn_f [.methodLink RX23 397 yX23_type, .instanceMethod yX23_type, .selects RX23 yX23_type yX23_type, .initialized RX23] [17, 18, 19, 20] rfl (by decide +kernel)) (goodIn_app (goodIn_f (wf_c_typN) [2, 3, 4, 5, 6, 7, 8, 9, 10, 11, 12, 13, 14, 15, 16] rfl wg_c_typN) (goodIn_app (goodIn_sub in_c_res_X23 gd_X23) (goodIn_app (goodIn_sub in_c_res_X20 gd_X20) (goodIn_n))))
set_option maxRecDepth 20000 in
theorem g_c_res_c_tfa0_118 : GoodIn wp_c_res (wsV RX23 96 RX23 yX23_fail wp_c_tfa0) := goodIn_app (goodIn_f [.methodLink RX23 96 yX23_fail, .instanceMethod yX23_fail, .selects RX23 yX23_fail yX23_fail, .initialized RX23] [38, 39, 40, 20] rfl (by decide +kernel)) (goodIn_app (goodIn_f (wf_c_tfa0) [35, 25, 36, 37] rfl wg_c_tfa0) (goodIn_app (goodIn_sub in_c_res_X23 gd_X23) (goodIn_n)))
set_option maxRecDepth 20000 in
theorem g_c_res_c_res_146 : GoodIn wp_c_res (wsV RX23 409 RX23 yX23_resolve wp_c_res) := goodIn_app (goodIn_f [.methodLink RX23 409 yX23_resolve, .instanceMethod yX23_resolve, .selects RX23 yX23_resolve yX23_resolve, .initialized RX23] [31, 32, 33, 20] rfl (by decide +kernel)) (goodIn_app (goodIn_f (wf_c_res) [0, 1, 2, 3, 4, 5, 6, 7, 8, 9, 10, 11, 12, 13, 14, 15, 16, 17, 18, 19, 20, 21, 22, 23, 24, 25, 26, 27, 28, 29, 30, 31, 32, 33, 34, 35, 36, 37, 38, 39, 40, 41, 42, 43, 44, 45, 46, 47, 48, 49, 50, 51, 52, 53, 54, 55] rfl wg_c_res) (goodIn_app (goodIn_sub in_c_res_X23 gd_X23) (goodIn_app (goodIn_sub in_c_res_X20 gd_X20) (goodIn_app (goodIn_sub in_c_res_X22 gd_X22) (goodIn_app (goodIn_sub in_c_res_X16 gd_X16) (goodIn_n))))))
set_option maxRecDepth 20000 in
theorem g_c_res_c_typR_149 : GoodIn wp_c_res (wsV RX23 397 RX23 yX23_type wp_c_typN) := goodIn_app (goodIn_f [.methodLink RX23 397 yX23_type, .instanceMethod yX23_type, .selects RX23 yX23_type yX23_type, .initialized RX23] [17, 18, 19, 20] rfl (by decide +kernel)) (goodIn_app (goodIn_f (wf_c_typN) [2, 3, 4, 5, 6, 7, 8, 9, 10, 11, 12, 13, 14, 15, 16] rfl wg_c_typN) (goodIn_app (goodIn_sub in_c_res_X23 gd_X23) (goodIn_app (goodIn_sub in_c_res_X20 gd_X20) (goodIn_n))))
set_option maxRecDepth 20000 in
theorem g_c_res_c_itn_158 : GoodIn wp_c_res (wsV RX23 413 RX23 yX23_itemNamed wp_c_itn) := goodIn_app (goodIn_f [.methodLink RX23 413 yX23_itemNamed, .instanceMethod yX23_itemNamed, .selects RX23 yX23_itemNamed yX23_itemNamed, .initialized RX23] [52, 53, 54, 20] rfl (by decide +kernel)) (goodIn_app (goodIn_f (wf_c_itn) [42, 43, 44, 45, 46, 47, 36, 48, 49, 50, 51, 20] rfl wg_c_itn) (goodIn_app (goodIn_sub in_c_res_X23 gd_X23) (goodIn_app (goodIn_sub in_c_res_X16 gd_X16) (goodIn_n))))
set_option maxRecDepth 20000 in
theorem g_c_res_c_tfa0_189 : GoodIn wp_c_res (wsV RX23 96 RX23 yX23_fail wp_c_tfa0) := goodIn_app (goodIn_f [.methodLink RX23 96 yX23_fail, .instanceMethod yX23_fail, .selects RX23 yX23_fail yX23_fail, .initialized RX23] [38, 39, 40, 20] rfl (by decide +kernel)) (goodIn_app (goodIn_f (wf_c_tfa0) [35, 25, 36, 37] rfl wg_c_tfa0) (goodIn_app (goodIn_sub in_c_res_X23 gd_X23) (goodIn_n)))
set_option maxRecDepth 20000 in
theorem g_c_res_c_typN_218 : GoodIn wp_c_res (wsV RX23 397 RX23 yX23_type wp_c_typN) := goodIn_app (goodIn_f [.methodLink RX23 397 yX23_type, .instanceMethod yX23_type, .selects RX23 yX23_type yX23_type, .initialized RX23] [17, 18, 19, 20] rfl (by decide +kernel)) (goodIn_app (goodIn_f (wf_c_typN) [2, 3, 4, 5, 6, 7, 8, 9, 10, 11, 12, 13, 14, 15, 16] rfl wg_c_typN) (goodIn_app (goodIn_sub in_c_res_X23 gd_X23) (goodIn_app (goodIn_sub in_c_res_X20 gd_X20) (goodIn_n))))
set_option maxHeartbeats 4000000 in
set_option maxRecDepth 100000 in
theorem c_res (l : Launch) (dC : Nat → ClassId) (dI : Nat → Nat → Nat) (k : Nat) (ih : ∀ k1 : Nat, k = k1 + 1 → IH_rs l dC dI k1) : st_c_res l dC dI k := by
  intro m9 mr mv vf ff xa xm T im tm sc vm kI fk fa fe ft zs L F G kT fy Y ad kE kS kB kA kV kW kP kM fi xI ps ms ik qz wr pp qq mb sl sz htg hw_ hqq hpt
  refine Met.ofW (cc := cX23_resolve) (maxL := 5) (ret := (some (.object "OwnedPlacesModel$Type"))) (by decide) rfl ?_
  intro p e s m args below meth c s₁ B hml hv
  obtain ⟨rfl, hsz, hP, hK, hD0, hpre0, hpre1⟩ := hv
  have hx := B.exec
  have hb := B.bytes
  have hr := B.returns
  have hts := atoms_spec (ws := wp_c_res) B.pre
  have hown : s.vm.findClass RX23 = some m.cls := findClass_of_methodNamed B.named
  have hlocks := B.notSynchronized
  subst hsz
  have hD := hD0.self (sz := s.heap.size)
  generalize hAe : va_A (([(m9, .inr (23, mT mr mv vf 0 xa (nI T) (nI im) (nI tm) xm (nI sc) (nI vm))), (mr 6, .inl (kI, 3002, .inl fa)), (mr 7, .inl (kI, 3002, .inl fe)), (mr 0, .inl (kI, 3000, .inl ft)), (mr 11, .inl (kM, 70, .inr (.inr (.inr (.inr fi))))), (mr 18, .inl (kT, 2000, .inr (.inr (.inr (.inr fy)))))] : va_W) ++ (sT L F)) s.heap.size = A at hD ⊢
  have hA : ∀ q : Nat, s.heap.size ≤ q → A q := fun q h => by rw [← hAe]; exact Or.inr h
  have hS : va_S A s.heap s.heap [] := va_S.rf
  have hP : va_P (dC, dI) vwCl (([(m9, .inr (23, mT mr mv vf 0 xa (nI T) (nI im) (nI tm) xm (nI sc) (nI vm))), (mr 6, .inl (kI, 3002, .inl fa)), (mr 7, .inl (kI, 3002, .inl fe)), (mr 0, .inl (kI, 3000, .inl ft)), (mr 11, .inl (kM, 70, .inr (.inr (.inr (.inr fi))))), (mr 18, .inl (kT, 2000, .inr (.inr (.inr (.inr fy)))))] : va_W) ++ (sT L F)) s.heap := hP
  have hl := lv_entry ([.ref m9, .ref wr, .int mb]) (n := 5) (Nat.le_of_ble_eq_true rfl)
  rw [lg_entry_eq]
  generalize (lg_sl ([.ref m9, .ref wr, .int mb]) ++ List.replicate (5 - (lg_sl ([.ref m9, .ref wr, .int mb])).length) Slot.unset).toArray = ls at hl ⊢
  have hl : lv_has ls 5 [(0, .ref m9), (1, .ref wr), (2, .int mb)] := hl
  have hns := hpre0
  subst hpre1
  obtain ⟨k1, hkL⟩ : ∃ k1 : Nat, k = k1 + 1 := by
    cases k with
    | zero => exact hw_.elim
    | succ k1 => exact ⟨k1, rfl⟩
  have hw1 : isT L G fk (k1 + 1) wr pp qq := by rw [← hkL]; exact hw_
  have hwl := isT_lt hw1
  have hT9 : T ≤ 3001 := by have := htg.1.1.2.1; have := htg.1.2.1; omega
  refine lv_aload_n hx hb dX23_resolve_0 rfl (lv_at hl 0 rfl) ?_
  refine lv_iconst (v := 0) hx hb dX23_resolve_1 (by decide) ?_
  have hPc := hP.subT (f' := [(m9, .inr (23, mT mr mv vf 0 xa (nI T) (nI im) (nI tm) xm (nI sc) (nI vm))), (mr 18, .inl (kT, 2000, .inr (.inr (.inr (.inr fy)))))]) [0, 5] rfl
  have hDc := hD.subT (f' := [(m9, .inr (23, mT mr mv vf 0 xa (nI T) (nI im) (nI tm) xm (nI sc) (nI vm))), (mr 18, .inl (kT, 2000, .inr (.inr (.inr (.inr fy)))))]) [0, 5] (by decide) rfl
  have hKc := hK.sub (tys' := [(kT, .object RX20)]) [2] rfl
  have hFc := va_freeB (wc := [(m9, .inr (23, mT mr mv vf 0 xa (nI T) (nI im) (nI tm) xm (nI sc) (nI vm))), (mr 18, .inl (kT, 2000, .inr (.inr (.inr (.inr fy)))))]) hD hS hA [0, 5] rfl
  refine W.grow (fun hgs0 hgs1 => ?_)
  refine va_callr (va_runV (As := [.int 0]) (rest := []) ⟨hx, hb, hml, hown, hts⟩ (c_plt l dC dI m9 mr mv vf 0 xa xm T im tm sc vm kI fk fa fe ft zs L F G kT fy Y ad kE kS kB kA kV kW kP kM fi xI ps ms ik qz 0 (slN s.heap) s.heap.size htg (by decide) (by omega)) (cwV 1 hts g_c_res_c_plt_2 rfl rfl rfl (by decide +kernel) ⟨by show 3 + 1 ≤ 4 + 1 * k; omega, by show 8 + (2 + 11) + (56) ≤ 77 + 24 * k; omega⟩) ⟨fun a U g mk q => by obtain ⟨q0, q1, qP, qK, qD, qx0, qx1⟩ := q; exact ⟨q0, q1, qP, va_K.moved (u := U) (U := U.calling g mk a) (Vm.Alike.refl U.vm) qK, qD, nsM.same (u := U) (U := U.calling g mk a) rfl qx0, qx1⟩, va_recv hKc hPc (ci := 23) (q0 := 0) rfl rfl, fun U hU hW => ⟨rfl, by rw [hU], by rw [hU]; exact hPc, va_K.moved hW.alike hKc, hDc.weaken (fun _ _ _ _ => trivial), nsM.warm hW hns, by rw [hU]⟩⟩ rfl rfl hl.1 rfl (lv_room (Nat.le_of_ble_eq_true rfl)) dX23_resolve_2 ⟨(show 0 + 1 ≤ (2 * (qq - pp) + 5) by omega), (show 0 + 4 ≤ (8 * (qq - pp) + 20) by omega)⟩) hS (fun q _ h => hFc q h) hFc (fun u r_1 tS H1 locs ht hvm hw hB hz1 hk1 hS => ?_)
  obtain ⟨Lz0, Fz0, Gz0, tmz0, fyz0, Yz0, adz0, tz0, hf1_0, hf1_1, hf1_2, hf1_3, hf1_4, hf1_5, hP1, hK1, hD1⟩ := hB
  rw [ht] at hP1
  have hK1 := va_K.moved hvm.symm hK1
  rw [ht] at hf1_5
  have hgz : H1.size ≤ s.heap.size + ((tmz0 - tm)) ∧ slN H1 ≤ slN s.heap + (4 * (tmz0 - tm)) := ⟨by have := hf1_5.1; omega, by have := hf1_5.2; omega⟩
  obtain ⟨hP, hD⟩ := va_joinB (wr := [(mr 6, .inl (kI, 3002, .inl fa)), (mr 7, .inl (kI, 3002, .inl fe)), (mr 0, .inl (kI, 3000, .inl ft)), (mr 11, .inl (kM, 70, .inr (.inr (.inr (.inr fi)))))]) (w1 := [(m9, .inr (23, mT mr mv vf 0 xa (nI T) (nI im) (nI tmz0) xm (nI sc) (nI vm))), (mr 18, .inl (kT, 2000, .inr (.inr (.inr (.inr fyz0)))))]) hP hD [0, 5] [1, 2, 3, 4] rfl rfl (by decide) (by decide) hk1 hFc hP1 hD1
  have hK := hK.app hK1
  generalize H1 = H at hP hS hgz ⊢
  have hP : va_P (dC, dI) vwCl (([(mr 6, .inl (kI, 3002, .inl fa)), (mr 7, .inl (kI, 3002, .inl fe)), (mr 0, .inl (kI, 3000, .inl ft)), (mr 11, .inl (kM, 70, .inr (.inr (.inr (.inr fi))))), (m9, .inr (23, mT mr mv vf 0 xa (nI T) (nI im) (nI tmz0) xm (nI sc) (nI vm))), (mr 18, .inl (kT, 2000, .inr (.inr (.inr (.inr fyz0)))))] : va_W) ++ (sT Lz0 Fz0)) H := hP
  have hD : va_D A (([(mr 6, .inl (kI, 3002, .inl fa)), (mr 7, .inl (kI, 3002, .inl fe)), (mr 0, .inl (kI, 3000, .inl ft)), (mr 11, .inl (kM, 70, .inr (.inr (.inr (.inr fi))))), (m9, .inr (23, mT mr mv vf 0 xa (nI T) (nI im) (nI tmz0) xm (nI sc) (nI vm))), (mr 18, .inl (kT, 2000, .inr (.inr (.inr (.inr fyz0)))))] : va_W) ++ (sT Lz0 Fz0)) := hD
  have hK : va_K (dC, dI) vwCl [(kI, .int), (kM, .object RX16), (kT, .object RX20), (kT, .object RX20)] s := hK
  have hK := hK.sub (tys' := [(kI, .int), (kM, .object RX16), (kT, .object RX20)]) [0, 1, 2] rfl
  refine W.tight (k := (tmz0 - tm)) (n := 4 * (tmz0 - tm)) hgz.1 hgz.2 ?_
  clear hz1 hk1 hPc hDc hKc hFc hP1 hD1 hK1
  have htm1 := (hf1_1).2.1
  have hpt1 := hf1_4
  obtain rfl : r_1 = adz0 tz0 := hf1_3.2.1
  have hw2 := isT_ex hf1_1.1 hw1
  obtain ⟨hwm, vs9, hF9, hv0, hv1⟩ := isT_c hw2
  have hF8 := rl_st hf1_0.2.1 hwm hF9 mtF_22
  refine lv_astore_n (lv' := [(3, .ref (adz0 tz0)), (0, .ref m9), (1, .ref wr), (2, .int mb)]) hx hb dX23_resolve_5 rfl hl (by decide) rfl (fun ls hl => ?_)
  refine lv_aload_n hx hb dX23_resolve_6 rfl (lv_at hl 1 rfl) ?_
  have hPc := hP.subF (f' := [(m9, .inr (23, mT mr mv vf 0 xa (nI T) (nI im) (nI tmz0) xm (nI sc) (nI vm)))]) [4] rfl
  have hDc := hD.subF (f' := [(m9, .inr (23, mT mr mv vf 0 xa (nI T) (nI im) (nI tmz0) xm (nI sc) (nI vm)))]) [4] (by decide) rfl
  have hKc := hK.sub (tys' := []) [] rfl
  have hFc := va_freeT (wc := [(m9, .inr (23, mT mr mv vf 0 xa (nI T) (nI im) (nI tmz0) xm (nI sc) (nI vm)))]) hD hS hA [4] rfl
  refine va_calli (va_runV (As := []) (rest := []) ⟨hx, hb, hml, hown, hts⟩ (c_tok0 l dC dI m9 mr mv vf xa xm T im tmz0 sc vm kI H.size) (cwV 0 hts g_c_res_c_tok0_7 rfl rfl rfl (by decide +kernel) ⟨by show 0 + 1 ≤ 4 + 1 * k; omega, by show 8 + (1 + 11) + (0) ≤ 77 + 24 * k; omega⟩) ⟨fun a U g mk q => by obtain ⟨q0, q1, qP, qK, qD⟩ := q; exact ⟨q0, q1, qP, va_K.moved (u := U) (U := U.calling g mk a) (Vm.Alike.refl U.vm) qK, qD⟩, va_recv hKc hPc (ci := 23) (q0 := 0) rfl rfl, fun U hU hW => ⟨rfl, by rw [hU], by rw [hU]; exact hPc, va_K.moved hW.alike hKc, hDc.weaken (fun _ _ _ _ => trivial)⟩⟩ rfl rfl hl.1 rfl (lv_room (Nat.le_of_ble_eq_true rfl)) dX23_resolve_7 ⟨(show (tmz0 - tm) + 0 ≤ (2 * (qq - pp) + 5) by omega), (show 4 * (tmz0 - tm) + 0 ≤ (8 * (qq - pp) + 20) by omega)⟩) hS (fun q _ h => hFc q h) hFc (fun r_2 u tS H1 locs ht hvm hw hB hz1 hk1 hS => ?_)
  obtain ⟨hP1, hK1, hD1⟩ := hB
  rw [ht] at hP1
  have hK1 := va_K.moved hvm.symm hK1
  obtain ⟨hP, hD⟩ := va_joinT (wr := [(mr 6, .inl (kI, 3002, .inl fa)), (mr 7, .inl (kI, 3002, .inl fe)), (mr 0, .inl (kI, 3000, .inl ft)), (mr 11, .inl (kM, 70, .inr (.inr (.inr (.inr fi))))), (mr 18, .inl (kT, 2000, .inr (.inr (.inr (.inr fyz0)))))]) (w1 := [(m9, .inr (23, mT mr mv vf 0 xa (nI T) (nI im) (nI tmz0) xm (nI sc) (nI vm)))]) hP hD [4] [0, 1, 2, 3, 5] rfl rfl (by decide) (by decide) hk1 hFc hP1 hD1
  generalize H1 = H at hP hS ⊢
  have hP : va_P (dC, dI) vwCl (([(mr 6, .inl (kI, 3002, .inl fa)), (mr 7, .inl (kI, 3002, .inl fe)), (mr 0, .inl (kI, 3000, .inl ft)), (mr 11, .inl (kM, 70, .inr (.inr (.inr (.inr fi))))), (mr 18, .inl (kT, 2000, .inr (.inr (.inr (.inr fyz0))))), (m9, .inr (23, mT mr mv vf 0 xa (nI T) (nI im) (nI tmz0) xm (nI sc) (nI vm)))] : va_W) ++ (sT Lz0 Fz0)) H := hP
  have hD : va_D A (([(mr 6, .inl (kI, 3002, .inl fa)), (mr 7, .inl (kI, 3002, .inl fe)), (mr 0, .inl (kI, 3000, .inl ft)), (mr 11, .inl (kM, 70, .inr (.inr (.inr (.inr fi))))), (mr 18, .inl (kT, 2000, .inr (.inr (.inr (.inr fyz0))))), (m9, .inr (23, mT mr mv vf 0 xa (nI T) (nI im) (nI tmz0) xm (nI sc) (nI vm)))] : va_W) ++ (sT Lz0 Fz0)) := hD
  have hK : va_K (dC, dI) vwCl [(kI, .int), (kM, .object RX16), (kT, .object RX20)] s := hK
  clear hz1 hk1 hPc hDc hKc hFc hP1 hD1 hK1
  obtain rfl : r_2 = 1 := hw
  refine lv_if_ne (tgt := 15) hx hb dX23_resolve_10 (by decide) (fun _ => ?_) (fun c_3 => absurd c_3 (by decide))
  refine lv_aload_n hx hb dX23_resolve_15 rfl (lv_at hl 2 rfl) ?_
  refine va_get (D := (dC, dI)) (ci := 22) (v := .int (fk pp)) (C := RX22) (T := TX22) (N := 5) hx hb hts in_c_res_X22 hown hK (va_P.st hP hwm hF8) 0 rfl rfl 0 (by decide) (hts (.fieldLink RX23 116 "OwnedPlacesModel$Written" "kind" "I") (wm_c_res 29 rfl)) (fun _ h9 => h9) hv0 dX23_resolve_16 ?_
  refine lv_bipush (v := 26) hx hb dX23_resolve_19 (by decide) ?_
  by_cases hk_4 : fk pp = 26
  · refine lv_icmp_eq (tgt := 42) hx hb dX23_resolve_21 (by decide) (fun _ => ?_) (fun c_5 => absurd hk_4 c_5)
    refine lv_aload_n hx hb dX23_resolve_42 rfl (lv_at hl 1 rfl) ?_
    refine lv_aload_n hx hb dX23_resolve_43 rfl (lv_at hl 2 rfl) ?_
    refine va_get (D := (dC, dI)) (ci := 22) (v := .int (fk pp)) (C := RX22) (T := TX22) (N := 5) hx hb hts in_c_res_X22 hown hK (va_P.st hP hwm hF8) 0 rfl rfl 0 (by decide) (hts (.fieldLink RX23 116 "OwnedPlacesModel$Written" "kind" "I") (wm_c_res 29 rfl)) (fun _ h9 => h9) hv0 dX23_resolve_44 ?_
    refine lv_bipush (v := 26) hx hb dX23_resolve_47 (by decide) ?_
    refine lv_icmp_ne (tgt := 56) hx hb dX23_resolve_49 (by decide) (fun c_6 => absurd c_6 (fun q9 => q9 hk_4)) (fun _ => ?_)
    refine lv_iconst (v := 0) hx hb dX23_resolve_52 (by decide) ?_
    refine lv_goto (tgt := 70) hx hb dX23_resolve_53 (by decide) ?_
    have hPc := hP.subT (f' := [(m9, .inr (23, mT mr mv vf 0 xa (nI T) (nI im) (nI tmz0) xm (nI sc) (nI vm))), (mr 18, .inl (kT, 2000, .inr (.inr (.inr (.inr fyz0)))))]) [5, 4] rfl
    have hDc := hD.subT (f' := [(m9, .inr (23, mT mr mv vf 0 xa (nI T) (nI im) (nI tmz0) xm (nI sc) (nI vm))), (mr 18, .inl (kT, 2000, .inr (.inr (.inr (.inr fyz0)))))]) [5, 4] (by decide) rfl
    have hKc := hK.sub (tys' := [(kT, .object RX20)]) [2] rfl
    have hFc := va_freeB (wc := [(m9, .inr (23, mT mr mv vf 0 xa (nI T) (nI im) (nI tmz0) xm (nI sc) (nI vm))), (mr 18, .inl (kT, 2000, .inr (.inr (.inr (.inr fyz0)))))]) hD hS hA [5, 4] rfl
    refine W.grow (fun hgs0 hgs1 => ?_)
    refine va_callr (va_runV (As := [.int 0]) (rest := []) ⟨hx, hb, hml, hown, hts⟩ (c_plt l dC dI m9 mr mv vf 0 xa xm T im tmz0 sc vm kI fk fa fe ft zs Lz0 Fz0 Gz0 kT fyz0 Yz0 adz0 kE kS kB kA kV kW kP kM fi xI ps ms ik qz 0 (slN H) H.size hf1_0 (by decide) (by omega)) (cwV 1 hts g_c_res_c_plt_70 rfl rfl rfl (by decide +kernel) ⟨by show 3 + 1 ≤ 4 + 1 * k; omega, by show 8 + (2 + 11) + (56) ≤ 77 + 24 * k; omega⟩) ⟨fun a U g mk q => by obtain ⟨q0, q1, qP, qK, qD, qx0, qx1⟩ := q; exact ⟨q0, q1, qP, va_K.moved (u := U) (U := U.calling g mk a) (Vm.Alike.refl U.vm) qK, qD, nsM.same (u := U) (U := U.calling g mk a) rfl qx0, qx1⟩, va_recv hKc hPc (ci := 23) (q0 := 0) rfl rfl, fun U hU hW => ⟨rfl, by rw [hU], by rw [hU]; exact hPc, va_K.moved hW.alike hKc, hDc.weaken (fun _ _ _ _ => trivial), nsM.warm hW hns, by rw [hU]⟩⟩ rfl rfl hl.1 rfl (lv_room (Nat.le_of_ble_eq_true rfl)) dX23_resolve_70 ⟨(show (tmz0 - tm) + 1 ≤ (2 * (qq - pp) + 5) by omega), (show 4 * (tmz0 - tm) + 4 ≤ (8 * (qq - pp) + 20) by omega)⟩) hS (fun q _ h => hFc q h) hFc (fun u r_7 tS H1 locs ht hvm hw hB hz1 hk1 hS => ?_)
    obtain ⟨Lz6, Fz6, Gz6, tmz6, fyz6, Yz6, adz6, tz6, hf7_0, hf7_1, hf7_2, hf7_3, hf7_4, hf7_5, hP1, hK1, hD1⟩ := hB
    rw [ht] at hP1
    have hK1 := va_K.moved hvm.symm hK1
    rw [ht] at hf7_5
    have hgz : H1.size ≤ s.heap.size + (((tmz0 - tm) + (tmz6 - tmz0))) ∧ slN H1 ≤ slN s.heap + ((4 * (tmz0 - tm) + 4 * (tmz6 - tmz0))) := ⟨by have := hf7_5.1; omega, by have := hf7_5.2; omega⟩
    obtain ⟨hP, hD⟩ := va_joinB (wr := [(mr 6, .inl (kI, 3002, .inl fa)), (mr 7, .inl (kI, 3002, .inl fe)), (mr 0, .inl (kI, 3000, .inl ft)), (mr 11, .inl (kM, 70, .inr (.inr (.inr (.inr fi)))))]) (w1 := [(m9, .inr (23, mT mr mv vf 0 xa (nI T) (nI im) (nI tmz6) xm (nI sc) (nI vm))), (mr 18, .inl (kT, 2000, .inr (.inr (.inr (.inr fyz6)))))]) hP hD [5, 4] [0, 1, 2, 3] rfl rfl (by decide) (by decide) hk1 hFc hP1 hD1
    have hK := hK.app hK1
    generalize H1 = H at hP hS hgz ⊢
    have hP : va_P (dC, dI) vwCl (([(mr 6, .inl (kI, 3002, .inl fa)), (mr 7, .inl (kI, 3002, .inl fe)), (mr 0, .inl (kI, 3000, .inl ft)), (mr 11, .inl (kM, 70, .inr (.inr (.inr (.inr fi))))), (m9, .inr (23, mT mr mv vf 0 xa (nI T) (nI im) (nI tmz6) xm (nI sc) (nI vm))), (mr 18, .inl (kT, 2000, .inr (.inr (.inr (.inr fyz6)))))] : va_W) ++ (sT Lz6 Fz6)) H := hP
    have hD : va_D A (([(mr 6, .inl (kI, 3002, .inl fa)), (mr 7, .inl (kI, 3002, .inl fe)), (mr 0, .inl (kI, 3000, .inl ft)), (mr 11, .inl (kM, 70, .inr (.inr (.inr (.inr fi))))), (m9, .inr (23, mT mr mv vf 0 xa (nI T) (nI im) (nI tmz6) xm (nI sc) (nI vm))), (mr 18, .inl (kT, 2000, .inr (.inr (.inr (.inr fyz6)))))] : va_W) ++ (sT Lz6 Fz6)) := hD
    have hK : va_K (dC, dI) vwCl [(kI, .int), (kM, .object RX16), (kT, .object RX20), (kT, .object RX20)] s := hK
    have hK := hK.sub (tys' := [(kI, .int), (kM, .object RX16), (kT, .object RX20)]) [0, 1, 2] rfl
    refine W.tight (k := ((tmz0 - tm) + (tmz6 - tmz0))) (n := (4 * (tmz0 - tm) + 4 * (tmz6 - tmz0))) hgz.1 hgz.2 ?_
    clear hz1 hk1 hPc hDc hKc hFc hP1 hD1 hK1
    have htm7 := (hf7_1).2.1
    have hpt7 := hf7_4
    obtain rfl : r_7 = adz6 tz6 := hf7_3.2.1
    refine W.grow (fun hgs0 hgs1 => ?_)
    have hP9 := hP.subT (f' := [(m9, .inr (23, mT mr mv vf 0 xa (nI T) (nI im) (nI tmz6) xm (nI sc) (nI vm))), (mr 6, .inl (kI, 3002, .inl fa)), (mr 7, .inl (kI, 3002, .inl fe)), (mr 0, .inl (kI, 3000, .inl ft)), (mr 11, .inl (kM, 70, .inr (.inr (.inr (.inr fi))))), (mr 18, .inl (kT, 2000, .inr (.inr (.inr (.inr fyz6)))))]) [4, 0, 1, 2, 3, 5] rfl
    have hD9 := hD.subT (f' := [(m9, .inr (23, mT mr mv vf 0 xa (nI T) (nI im) (nI tmz6) xm (nI sc) (nI vm))), (mr 6, .inl (kI, 3002, .inl fa)), (mr 7, .inl (kI, 3002, .inl fe)), (mr 0, .inl (kI, 3000, .inl ft)), (mr 11, .inl (kM, 70, .inr (.inr (.inr (.inr fi))))), (mr 18, .inl (kT, 2000, .inr (.inr (.inr (.inr fyz6)))))]) [4, 0, 1, 2, 3, 5] (by decide) rfl
    have hK9 := hK.sub (tys' := [(kI, .int), (kM, .object RX16), (kT, .object RX20)]) [0, 1, 2] rfl
    refine W.widen (k := (2 * (qq - pp) + 5)) (n := (8 * (qq - pp) + 20)) (by omega) (by omega) ?_
    exact W.aret hx hb hr (Or.inl ⟨_, rfl⟩) (Or.inr ⟨adz6 tz6, rfl⟩) (fun tS ht hW => ⟨⟨(), adz6 tz6, rfl, trivial, Lz6, Fz6, Gz6, tmz6, fyz6, Yz6, adz6, tz6, 0, xa, hf7_0, (hf1_1).tr hf7_1, (hf1_2).tr hf7_2, ⟨hf7_3.1, rfl⟩, ⟨by omega, by omega⟩, by rw [ht]; exact ⟨by omega, by omega⟩, by rw [ht]; exact hP9, va_K.moved hW.alike hK9, hD9⟩, hS.F ht⟩) hS.2.2 dX23_resolve_73
  · refine lv_icmp_eq (tgt := 42) hx hb dX23_resolve_21 (by decide) (fun c_5 => absurd c_5 hk_4) (fun _ => ?_)
    refine lv_aload_n hx hb dX23_resolve_24 rfl (lv_at hl 2 rfl) ?_
    refine va_get (D := (dC, dI)) (ci := 22) (v := .int (fk pp)) (C := RX22) (T := TX22) (N := 5) hx hb hts in_c_res_X22 hown hK (va_P.st hP hwm hF8) 0 rfl rfl 0 (by decide) (hts (.fieldLink RX23 116 "OwnedPlacesModel$Written" "kind" "I") (wm_c_res 29 rfl)) (fun _ h9 => h9) hv0 dX23_resolve_25 ?_
    refine lv_bipush (v := 27) hx hb dX23_resolve_28 (by decide) ?_
    by_cases hk_6 : fk pp = 27
    · refine lv_icmp_eq (tgt := 42) hx hb dX23_resolve_30 (by decide) (fun _ => ?_) (fun c_7 => absurd hk_6 c_7)
      refine lv_aload_n hx hb dX23_resolve_42 rfl (lv_at hl 1 rfl) ?_
      refine lv_aload_n hx hb dX23_resolve_43 rfl (lv_at hl 2 rfl) ?_
      refine va_get (D := (dC, dI)) (ci := 22) (v := .int (fk pp)) (C := RX22) (T := TX22) (N := 5) hx hb hts in_c_res_X22 hown hK (va_P.st hP hwm hF8) 0 rfl rfl 0 (by decide) (hts (.fieldLink RX23 116 "OwnedPlacesModel$Written" "kind" "I") (wm_c_res 29 rfl)) (fun _ h9 => h9) hv0 dX23_resolve_44 ?_
      refine lv_bipush (v := 26) hx hb dX23_resolve_47 (by decide) ?_
      refine lv_icmp_ne (tgt := 56) hx hb dX23_resolve_49 (by decide) (fun _ => ?_) (fun c_8 => absurd c_8 hk_4)
      refine lv_aload_n hx hb dX23_resolve_56 rfl (lv_at hl 2 rfl) ?_
      refine va_get (D := (dC, dI)) (ci := 22) (v := .int (fk pp)) (C := RX22) (T := TX22) (N := 5) hx hb hts in_c_res_X22 hown hK (va_P.st hP hwm hF8) 0 rfl rfl 0 (by decide) (hts (.fieldLink RX23 116 "OwnedPlacesModel$Written" "kind" "I") (wm_c_res 29 rfl)) (fun _ h9 => h9) hv0 dX23_resolve_57 ?_
      refine lv_bipush (v := 27) hx hb dX23_resolve_60 (by decide) ?_
      refine lv_icmp_ne (tgt := 69) hx hb dX23_resolve_62 (by decide) (fun c_9 => absurd c_9 (fun q9 => q9 hk_6)) (fun _ => ?_)
      refine lv_iconst (v := 1) hx hb dX23_resolve_65 (by decide) ?_
      refine lv_goto (tgt := 70) hx hb dX23_resolve_66 (by decide) ?_
      have hPc := hP.subT (f' := [(m9, .inr (23, mT mr mv vf 0 xa (nI T) (nI im) (nI tmz0) xm (nI sc) (nI vm))), (mr 18, .inl (kT, 2000, .inr (.inr (.inr (.inr fyz0)))))]) [5, 4] rfl
      have hDc := hD.subT (f' := [(m9, .inr (23, mT mr mv vf 0 xa (nI T) (nI im) (nI tmz0) xm (nI sc) (nI vm))), (mr 18, .inl (kT, 2000, .inr (.inr (.inr (.inr fyz0)))))]) [5, 4] (by decide) rfl
      have hKc := hK.sub (tys' := [(kT, .object RX20)]) [2] rfl
      have hFc := va_freeB (wc := [(m9, .inr (23, mT mr mv vf 0 xa (nI T) (nI im) (nI tmz0) xm (nI sc) (nI vm))), (mr 18, .inl (kT, 2000, .inr (.inr (.inr (.inr fyz0)))))]) hD hS hA [5, 4] rfl
      refine W.grow (fun hgs0 hgs1 => ?_)
      refine va_callr (va_runV (As := [.int 1]) (rest := []) ⟨hx, hb, hml, hown, hts⟩ (c_plt l dC dI m9 mr mv vf 0 xa xm T im tmz0 sc vm kI fk fa fe ft zs Lz0 Fz0 Gz0 kT fyz0 Yz0 adz0 kE kS kB kA kV kW kP kM fi xI ps ms ik qz 1 (slN H) H.size hf1_0 (by decide) (by omega)) (cwV 1 hts g_c_res_c_plt_70 rfl rfl rfl (by decide +kernel) ⟨by show 3 + 1 ≤ 4 + 1 * k; omega, by show 8 + (2 + 11) + (56) ≤ 77 + 24 * k; omega⟩) ⟨fun a U g mk q => by obtain ⟨q0, q1, qP, qK, qD, qx0, qx1⟩ := q; exact ⟨q0, q1, qP, va_K.moved (u := U) (U := U.calling g mk a) (Vm.Alike.refl U.vm) qK, qD, nsM.same (u := U) (U := U.calling g mk a) rfl qx0, qx1⟩, va_recv hKc hPc (ci := 23) (q0 := 0) rfl rfl, fun U hU hW => ⟨rfl, by rw [hU], by rw [hU]; exact hPc, va_K.moved hW.alike hKc, hDc.weaken (fun _ _ _ _ => trivial), nsM.warm hW hns, by rw [hU]⟩⟩ rfl rfl hl.1 rfl (lv_room (Nat.le_of_ble_eq_true rfl)) dX23_resolve_70 ⟨(show (tmz0 - tm) + 1 ≤ (2 * (qq - pp) + 5) by omega), (show 4 * (tmz0 - tm) + 4 ≤ (8 * (qq - pp) + 20) by omega)⟩) hS (fun q _ h => hFc q h) hFc (fun u r_10 tS H1 locs ht hvm hw hB hz1 hk1 hS => ?_)
      obtain ⟨Lz9, Fz9, Gz9, tmz9, fyz9, Yz9, adz9, tz9, hf10_0, hf10_1, hf10_2, hf10_3, hf10_4, hf10_5, hP1, hK1, hD1⟩ := hB
      rw [ht] at hP1
      have hK1 := va_K.moved hvm.symm hK1
      rw [ht] at hf10_5
      have hgz : H1.size ≤ s.heap.size + (((tmz0 - tm) + (tmz9 - tmz0))) ∧ slN H1 ≤ slN s.heap + ((4 * (tmz0 - tm) + 4 * (tmz9 - tmz0))) := ⟨by have := hf10_5.1; omega, by have := hf10_5.2; omega⟩
      obtain ⟨hP, hD⟩ := va_joinB (wr := [(mr 6, .inl (kI, 3002, .inl fa)), (mr 7, .inl (kI, 3002, .inl fe)), (mr 0, .inl (kI, 3000, .inl ft)), (mr 11, .inl (kM, 70, .inr (.inr (.inr (.inr fi)))))]) (w1 := [(m9, .inr (23, mT mr mv vf 0 xa (nI T) (nI im) (nI tmz9) xm (nI sc) (nI vm))), (mr 18, .inl (kT, 2000, .inr (.inr (.inr (.inr fyz9)))))]) hP hD [5, 4] [0, 1, 2, 3] rfl rfl (by decide) (by decide) hk1 hFc hP1 hD1
      have hK := hK.app hK1
      generalize H1 = H at hP hS hgz ⊢
      have hP : va_P (dC, dI) vwCl (([(mr 6, .inl (kI, 3002, .inl fa)), (mr 7, .inl (kI, 3002, .inl fe)), (mr 0, .inl (kI, 3000, .inl ft)), (mr 11, .inl (kM, 70, .inr (.inr (.inr (.inr fi))))), (m9, .inr (23, mT mr mv vf 0 xa (nI T) (nI im) (nI tmz9) xm (nI sc) (nI vm))), (mr 18, .inl (kT, 2000, .inr (.inr (.inr (.inr fyz9)))))] : va_W) ++ (sT Lz9 Fz9)) H := hP
      have hD : va_D A (([(mr 6, .inl (kI, 3002, .inl fa)), (mr 7, .inl (kI, 3002, .inl fe)), (mr 0, .inl (kI, 3000, .inl ft)), (mr 11, .inl (kM, 70, .inr (.inr (.inr (.inr fi))))), (m9, .inr (23, mT mr mv vf 0 xa (nI T) (nI im) (nI tmz9) xm (nI sc) (nI vm))), (mr 18, .inl (kT, 2000, .inr (.inr (.inr (.inr fyz9)))))] : va_W) ++ (sT Lz9 Fz9)) := hD
      have hK : va_K (dC, dI) vwCl [(kI, .int), (kM, .object RX16), (kT, .object RX20), (kT, .object RX20)] s := hK
      have hK := hK.sub (tys' := [(kI, .int), (kM, .object RX16), (kT, .object RX20)]) [0, 1, 2] rfl
      refine W.tight (k := ((tmz0 - tm) + (tmz9 - tmz0))) (n := (4 * (tmz0 - tm) + 4 * (tmz9 - tmz0))) hgz.1 hgz.2 ?_
      clear hz1 hk1 hPc hDc hKc hFc hP1 hD1 hK1
      have htm10 := (hf10_1).2.1
      have hpt10 := hf10_4
      obtain rfl : r_10 = adz9 tz9 := hf10_3.2.1
      refine W.grow (fun hgs0 hgs1 => ?_)
      have hP9 := hP.subT (f' := [(m9, .inr (23, mT mr mv vf 0 xa (nI T) (nI im) (nI tmz9) xm (nI sc) (nI vm))), (mr 6, .inl (kI, 3002, .inl fa)), (mr 7, .inl (kI, 3002, .inl fe)), (mr 0, .inl (kI, 3000, .inl ft)), (mr 11, .inl (kM, 70, .inr (.inr (.inr (.inr fi))))), (mr 18, .inl (kT, 2000, .inr (.inr (.inr (.inr fyz9)))))]) [4, 0, 1, 2, 3, 5] rfl
      have hD9 := hD.subT (f' := [(m9, .inr (23, mT mr mv vf 0 xa (nI T) (nI im) (nI tmz9) xm (nI sc) (nI vm))), (mr 6, .inl (kI, 3002, .inl fa)), (mr 7, .inl (kI, 3002, .inl fe)), (mr 0, .inl (kI, 3000, .inl ft)), (mr 11, .inl (kM, 70, .inr (.inr (.inr (.inr fi))))), (mr 18, .inl (kT, 2000, .inr (.inr (.inr (.inr fyz9)))))]) [4, 0, 1, 2, 3, 5] (by decide) rfl
      have hK9 := hK.sub (tys' := [(kI, .int), (kM, .object RX16), (kT, .object RX20)]) [0, 1, 2] rfl
      refine W.widen (k := (2 * (qq - pp) + 5)) (n := (8 * (qq - pp) + 20)) (by omega) (by omega) ?_
      exact W.aret hx hb hr (Or.inl ⟨_, rfl⟩) (Or.inr ⟨adz9 tz9, rfl⟩) (fun tS ht hW => ⟨⟨(), adz9 tz9, rfl, trivial, Lz9, Fz9, Gz9, tmz9, fyz9, Yz9, adz9, tz9, 0, xa, hf10_0, (hf1_1).tr hf10_1, (hf1_2).tr hf10_2, ⟨hf10_3.1, rfl⟩, ⟨by omega, by omega⟩, by rw [ht]; exact ⟨by omega, by omega⟩, by rw [ht]; exact hP9, va_K.moved hW.alike hK9, hD9⟩, hS.F ht⟩) hS.2.2 dX23_resolve_73
    · refine lv_icmp_eq (tgt := 42) hx hb dX23_resolve_30 (by decide) (fun c_7 => absurd c_7 hk_6) (fun _ => ?_)
      refine lv_aload_n hx hb dX23_resolve_33 rfl (lv_at hl 2 rfl) ?_
      refine va_get (D := (dC, dI)) (ci := 22) (v := .int (fk pp)) (C := RX22) (T := TX22) (N := 5) hx hb hts in_c_res_X22 hown hK (va_P.st hP hwm hF8) 0 rfl rfl 0 (by decide) (hts (.fieldLink RX23 116 "OwnedPlacesModel$Written" "kind" "I") (wm_c_res 29 rfl)) (fun _ h9 => h9) hv0 dX23_resolve_34 ?_
      refine lv_bipush (v := 25) hx hb dX23_resolve_37 (by decide) ?_
      by_cases hk_8 : fk pp = 25
      · refine lv_icmp_ne (tgt := 74) hx hb dX23_resolve_39 (by decide) (fun c_9 => absurd c_9 (fun q9 => q9 hk_8)) (fun _ => ?_)
        refine lv_aload_n hx hb dX23_resolve_42 rfl (lv_at hl 1 rfl) ?_
        refine lv_aload_n hx hb dX23_resolve_43 rfl (lv_at hl 2 rfl) ?_
        refine va_get (D := (dC, dI)) (ci := 22) (v := .int (fk pp)) (C := RX22) (T := TX22) (N := 5) hx hb hts in_c_res_X22 hown hK (va_P.st hP hwm hF8) 0 rfl rfl 0 (by decide) (hts (.fieldLink RX23 116 "OwnedPlacesModel$Written" "kind" "I") (wm_c_res 29 rfl)) (fun _ h9 => h9) hv0 dX23_resolve_44 ?_
        refine lv_bipush (v := 26) hx hb dX23_resolve_47 (by decide) ?_
        refine lv_icmp_ne (tgt := 56) hx hb dX23_resolve_49 (by decide) (fun _ => ?_) (fun c_10 => absurd c_10 hk_4)
        refine lv_aload_n hx hb dX23_resolve_56 rfl (lv_at hl 2 rfl) ?_
        refine va_get (D := (dC, dI)) (ci := 22) (v := .int (fk pp)) (C := RX22) (T := TX22) (N := 5) hx hb hts in_c_res_X22 hown hK (va_P.st hP hwm hF8) 0 rfl rfl 0 (by decide) (hts (.fieldLink RX23 116 "OwnedPlacesModel$Written" "kind" "I") (wm_c_res 29 rfl)) (fun _ h9 => h9) hv0 dX23_resolve_57 ?_
        refine lv_bipush (v := 27) hx hb dX23_resolve_60 (by decide) ?_
        refine lv_icmp_ne (tgt := 69) hx hb dX23_resolve_62 (by decide) (fun _ => ?_) (fun c_11 => absurd c_11 hk_6)
        refine lv_iconst (v := 2) hx hb dX23_resolve_69 (by decide) ?_
        have hPc := hP.subT (f' := [(m9, .inr (23, mT mr mv vf 0 xa (nI T) (nI im) (nI tmz0) xm (nI sc) (nI vm))), (mr 18, .inl (kT, 2000, .inr (.inr (.inr (.inr fyz0)))))]) [5, 4] rfl
        have hDc := hD.subT (f' := [(m9, .inr (23, mT mr mv vf 0 xa (nI T) (nI im) (nI tmz0) xm (nI sc) (nI vm))), (mr 18, .inl (kT, 2000, .inr (.inr (.inr (.inr fyz0)))))]) [5, 4] (by decide) rfl
        have hKc := hK.sub (tys' := [(kT, .object RX20)]) [2] rfl
        have hFc := va_freeB (wc := [(m9, .inr (23, mT mr mv vf 0 xa (nI T) (nI im) (nI tmz0) xm (nI sc) (nI vm))), (mr 18, .inl (kT, 2000, .inr (.inr (.inr (.inr fyz0)))))]) hD hS hA [5, 4] rfl
        refine W.grow (fun hgs0 hgs1 => ?_)
        refine va_callr (va_runV (As := [.int 2]) (rest := []) ⟨hx, hb, hml, hown, hts⟩ (c_plt l dC dI m9 mr mv vf 0 xa xm T im tmz0 sc vm kI fk fa fe ft zs Lz0 Fz0 Gz0 kT fyz0 Yz0 adz0 kE kS kB kA kV kW kP kM fi xI ps ms ik qz 2 (slN H) H.size hf1_0 (by decide) (by omega)) (cwV 1 hts g_c_res_c_plt_70 rfl rfl rfl (by decide +kernel) ⟨by show 3 + 1 ≤ 4 + 1 * k; omega, by show 8 + (2 + 11) + (56) ≤ 77 + 24 * k; omega⟩) ⟨fun a U g mk q => by obtain ⟨q0, q1, qP, qK, qD, qx0, qx1⟩ := q; exact ⟨q0, q1, qP, va_K.moved (u := U) (U := U.calling g mk a) (Vm.Alike.refl U.vm) qK, qD, nsM.same (u := U) (U := U.calling g mk a) rfl qx0, qx1⟩, va_recv hKc hPc (ci := 23) (q0 := 0) rfl rfl, fun U hU hW => ⟨rfl, by rw [hU], by rw [hU]; exact hPc, va_K.moved hW.alike hKc, hDc.weaken (fun _ _ _ _ => trivial), nsM.warm hW hns, by rw [hU]⟩⟩ rfl rfl hl.1 rfl (lv_room (Nat.le_of_ble_eq_true rfl)) dX23_resolve_70 ⟨(show (tmz0 - tm) + 1 ≤ (2 * (qq - pp) + 5) by omega), (show 4 * (tmz0 - tm) + 4 ≤ (8 * (qq - pp) + 20) by omega)⟩) hS (fun q _ h => hFc q h) hFc (fun u r_12 tS H1 locs ht hvm hw hB hz1 hk1 hS => ?_)
        obtain ⟨Lz11, Fz11, Gz11, tmz11, fyz11, Yz11, adz11, tz11, hf12_0, hf12_1, hf12_2, hf12_3, hf12_4, hf12_5, hP1, hK1, hD1⟩ := hB
        rw [ht] at hP1
        have hK1 := va_K.moved hvm.symm hK1
        rw [ht] at hf12_5
        have hgz : H1.size ≤ s.heap.size + (((tmz0 - tm) + (tmz11 - tmz0))) ∧ slN H1 ≤ slN s.heap + ((4 * (tmz0 - tm) + 4 * (tmz11 - tmz0))) := ⟨by have := hf12_5.1; omega, by have := hf12_5.2; omega⟩
        obtain ⟨hP, hD⟩ := va_joinB (wr := [(mr 6, .inl (kI, 3002, .inl fa)), (mr 7, .inl (kI, 3002, .inl fe)), (mr 0, .inl (kI, 3000, .inl ft)), (mr 11, .inl (kM, 70, .inr (.inr (.inr (.inr fi)))))]) (w1 := [(m9, .inr (23, mT mr mv vf 0 xa (nI T) (nI im) (nI tmz11) xm (nI sc) (nI vm))), (mr 18, .inl (kT, 2000, .inr (.inr (.inr (.inr fyz11)))))]) hP hD [5, 4] [0, 1, 2, 3] rfl rfl (by decide) (by decide) hk1 hFc hP1 hD1
        have hK := hK.app hK1
        generalize H1 = H at hP hS hgz ⊢
        have hP : va_P (dC, dI) vwCl (([(mr 6, .inl (kI, 3002, .inl fa)), (mr 7, .inl (kI, 3002, .inl fe)), (mr 0, .inl (kI, 3000, .inl ft)), (mr 11, .inl (kM, 70, .inr (.inr (.inr (.inr fi))))), (m9, .inr (23, mT mr mv vf 0 xa (nI T) (nI im) (nI tmz11) xm (nI sc) (nI vm))), (mr 18, .inl (kT, 2000, .inr (.inr (.inr (.inr fyz11)))))] : va_W) ++ (sT Lz11 Fz11)) H := hP
        have hD : va_D A (([(mr 6, .inl (kI, 3002, .inl fa)), (mr 7, .inl (kI, 3002, .inl fe)), (mr 0, .inl (kI, 3000, .inl ft)), (mr 11, .inl (kM, 70, .inr (.inr (.inr (.inr fi))))), (m9, .inr (23, mT mr mv vf 0 xa (nI T) (nI im) (nI tmz11) xm (nI sc) (nI vm))), (mr 18, .inl (kT, 2000, .inr (.inr (.inr (.inr fyz11)))))] : va_W) ++ (sT Lz11 Fz11)) := hD
        have hK : va_K (dC, dI) vwCl [(kI, .int), (kM, .object RX16), (kT, .object RX20), (kT, .object RX20)] s := hK
        have hK := hK.sub (tys' := [(kI, .int), (kM, .object RX16), (kT, .object RX20)]) [0, 1, 2] rfl
        refine W.tight (k := ((tmz0 - tm) + (tmz11 - tmz0))) (n := (4 * (tmz0 - tm) + 4 * (tmz11 - tmz0))) hgz.1 hgz.2 ?_
        clear hz1 hk1 hPc hDc hKc hFc hP1 hD1 hK1
        have htm12 := (hf12_1).2.1
        have hpt12 := hf12_4
        obtain rfl : r_12 = adz11 tz11 := hf12_3.2.1
        refine W.grow (fun hgs0 hgs1 => ?_)
        have hP9 := hP.subT (f' := [(m9, .inr (23, mT mr mv vf 0 xa (nI T) (nI im) (nI tmz11) xm (nI sc) (nI vm))), (mr 6, .inl (kI, 3002, .inl fa)), (mr 7, .inl (kI, 3002, .inl fe)), (mr 0, .inl (kI, 3000, .inl ft)), (mr 11, .inl (kM, 70, .inr (.inr (.inr (.inr fi))))), (mr 18, .inl (kT, 2000, .inr (.inr (.inr (.inr fyz11)))))]) [4, 0, 1, 2, 3, 5] rfl
        have hD9 := hD.subT (f' := [(m9, .inr (23, mT mr mv vf 0 xa (nI T) (nI im) (nI tmz11) xm (nI sc) (nI vm))), (mr 6, .inl (kI, 3002, .inl fa)), (mr 7, .inl (kI, 3002, .inl fe)), (mr 0, .inl (kI, 3000, .inl ft)), (mr 11, .inl (kM, 70, .inr (.inr (.inr (.inr fi))))), (mr 18, .inl (kT, 2000, .inr (.inr (.inr (.inr fyz11)))))]) [4, 0, 1, 2, 3, 5] (by decide) rfl
        have hK9 := hK.sub (tys' := [(kI, .int), (kM, .object RX16), (kT, .object RX20)]) [0, 1, 2] rfl
        refine W.widen (k := (2 * (qq - pp) + 5)) (n := (8 * (qq - pp) + 20)) (by omega) (by omega) ?_
        exact W.aret hx hb hr (Or.inl ⟨_, rfl⟩) (Or.inr ⟨adz11 tz11, rfl⟩) (fun tS ht hW => ⟨⟨(), adz11 tz11, rfl, trivial, Lz11, Fz11, Gz11, tmz11, fyz11, Yz11, adz11, tz11, 0, xa, hf12_0, (hf1_1).tr hf12_1, (hf1_2).tr hf12_2, ⟨hf12_3.1, rfl⟩, ⟨by omega, by omega⟩, by rw [ht]; exact ⟨by omega, by omega⟩, by rw [ht]; exact hP9, va_K.moved hW.alike hK9, hD9⟩, hS.F ht⟩) hS.2.2 dX23_resolve_73
      · refine lv_icmp_ne (tgt := 74) hx hb dX23_resolve_39 (by decide) (fun _ => ?_) (fun c_9 => absurd c_9 hk_8)
        refine lv_aload_n hx hb dX23_resolve_74 rfl (lv_at hl 2 rfl) ?_
        refine va_get (D := (dC, dI)) (ci := 22) (v := .int (fk pp)) (C := RX22) (T := TX22) (N := 5) hx hb hts in_c_res_X22 hown hK (va_P.st hP hwm hF8) 0 rfl rfl 0 (by decide) (hts (.fieldLink RX23 116 "OwnedPlacesModel$Written" "kind" "I") (wm_c_res 29 rfl)) (fun _ h9 => h9) hv0 dX23_resolve_75 ?_
        refine lv_bipush (v := 23) hx hb dX23_resolve_78 (by decide) ?_
        by_cases hk_10 : fk pp = 23
        · refine lv_icmp_ne (tgt := 99) hx hb dX23_resolve_80 (by decide) (fun c_11 => absurd c_11 (fun q9 => q9 hk_10)) (fun _ => ?_)
          refine lv_aload_n hx hb dX23_resolve_83 rfl (lv_at hl 1 rfl) ?_
          refine lv_iconst (v := 5) hx hb dX23_resolve_84 (by decide) ?_
          refine lv_iconst (v := 0) hx hb dX23_resolve_85 (by decide) ?_
          refine lv_aload_n hx hb dX23_resolve_86 rfl (lv_at hl 1 rfl) ?_
          refine lv_aload_n hx hb dX23_resolve_87 rfl (lv_at hl 2 rfl) ?_
          obtain ⟨o9, vs8, hO1, hO4, hO5⟩ := isT_23 hw2 hk_10
          have hO7 := rl_st hf1_0.2.1 hwm hO1 mtF_22
          refine va_get (D := (dC, dI)) (ci := 22) (v := .ref o9) (C := RX22) (T := TX22) (N := 5) hx hb hts in_c_res_X22 hown hK (va_P.st hP hwm hO7) 0 rfl rfl 4 (by decide) (hts (.fieldLink RX23 135 "OwnedPlacesModel$Written" "of" "LOwnedPlacesModel$Written;") (wm_c_res 30 rfl)) (fun _ h9 => h9) hO4 dX23_resolve_88 ?_
          refine lv_iconst (v := 0) hx hb dX23_resolve_91 (by decide) ?_
          have hlt9 := isT_lt hO5
          have hPc := hP.subT (f' := [(m9, .inr (23, mT mr mv vf 0 xa (nI T) (nI im) (nI tmz0) xm (nI sc) (nI vm))), (mr 6, .inl (kI, 3002, .inl fa)), (mr 7, .inl (kI, 3002, .inl fe)), (mr 0, .inl (kI, 3000, .inl ft)), (mr 11, .inl (kM, 70, .inr (.inr (.inr (.inr fi))))), (mr 18, .inl (kT, 2000, .inr (.inr (.inr (.inr fyz0)))))]) [5, 0, 1, 2, 3, 4] rfl
          have hDc := hD.subT (f' := [(m9, .inr (23, mT mr mv vf 0 xa (nI T) (nI im) (nI tmz0) xm (nI sc) (nI vm))), (mr 6, .inl (kI, 3002, .inl fa)), (mr 7, .inl (kI, 3002, .inl fe)), (mr 0, .inl (kI, 3000, .inl ft)), (mr 11, .inl (kM, 70, .inr (.inr (.inr (.inr fi))))), (mr 18, .inl (kT, 2000, .inr (.inr (.inr (.inr fyz0)))))]) [5, 0, 1, 2, 3, 4] (by decide) rfl
          have hKc := hK.sub (tys' := [(kI, .int), (kM, .object RX16), (kT, .object RX20)]) [0, 1, 2] rfl
          have hFc := va_freeB (wc := [(m9, .inr (23, mT mr mv vf 0 xa (nI T) (nI im) (nI tmz0) xm (nI sc) (nI vm))), (mr 6, .inl (kI, 3002, .inl fa)), (mr 7, .inl (kI, 3002, .inl fe)), (mr 0, .inl (kI, 3000, .inl ft)), (mr 11, .inl (kM, 70, .inr (.inr (.inr (.inr fi))))), (mr 18, .inl (kT, 2000, .inr (.inr (.inr (.inr fyz0)))))]) hD hS hA [5, 0, 1, 2, 3, 4] rfl
          refine W.grow (fun hgs0 hgs1 => ?_)
          refine va_callr (va_runV (As := [.ref o9, .int 0]) (rest := [.int 0, .int 5, .ref m9]) ⟨hx, hb, hml, hown, hts⟩ ((ih k1 hkL) m9 mr mv vf 0 xa xm T im tmz0 sc vm kI fk fa fe ft zs Lz0 Fz0 Gz0 kT fyz0 Yz0 adz0 kE kS kB kA kV kW kP kM fi xI ps ms ik qz o9 (pp + 1) qq 0 (slN H) H.size hf1_0 hO5 hqq (by omega)) (cwV 2 hts g_c_res_c_res_92 rfl rfl rfl (by decide +kernel) ⟨by show 4 + 1 * k1 + 1 ≤ 4 + 1 * k; omega, by show 8 + (5 + 11) + (77 + 24 * k1) ≤ 77 + 24 * k; omega⟩) ⟨fun a U g mk q => by obtain ⟨q0, q1, qP, qK, qD, qx0, qx1⟩ := q; exact ⟨q0, q1, qP, va_K.moved (u := U) (U := U.calling g mk a) (Vm.Alike.refl U.vm) qK, qD, nsM.same (u := U) (U := U.calling g mk a) rfl qx0, qx1⟩, va_recv hKc hPc (ci := 23) (q0 := 0) rfl rfl, fun U hU hW => ⟨rfl, by rw [hU], by rw [hU]; exact hPc, va_K.moved hW.alike hKc, hDc.weaken (fun _ _ _ _ => trivial), nsM.warm hW hns, by rw [hU]⟩⟩ rfl rfl hl.1 rfl (lv_room (Nat.le_of_ble_eq_true rfl)) dX23_resolve_92 ⟨(show (tmz0 - tm) + (2 * (qq - (pp + 1)) + 5) ≤ (2 * (qq - pp) + 5) by omega), (show 4 * (tmz0 - tm) + (8 * (qq - (pp + 1)) + 20) ≤ (8 * (qq - pp) + 20) by omega)⟩) hS (fun q _ h => hFc q h) hFc (fun u r_12 tS H1 locs ht hvm hw hB hz1 hk1 hS => ?_)
          obtain ⟨Lz11, Fz11, Gz11, tmz11, fyz11, Yz11, adz11, tz11, ffz11, xaz11, hf12_0, hf12_1, hf12_2, hf12_3, hf12_4, hf12_5, hP1, hK1, hD1⟩ := hB
          rw [ht] at hP1
          have hK1 := va_K.moved hvm.symm hK1
          rw [ht] at hf12_5
          have hgz : H1.size ≤ s.heap.size + (((tmz0 - tm) + (tmz11 - tmz0))) ∧ slN H1 ≤ slN s.heap + ((4 * (tmz0 - tm) + 4 * (tmz11 - tmz0))) := ⟨by have := hf12_5.1; omega, by have := hf12_5.2; omega⟩
          obtain ⟨hP, hD⟩ := va_joinB (wr := []) (w1 := [(m9, .inr (23, mT mr mv vf ffz11 xaz11 (nI T) (nI im) (nI tmz11) xm (nI sc) (nI vm))), (mr 6, .inl (kI, 3002, .inl fa)), (mr 7, .inl (kI, 3002, .inl fe)), (mr 0, .inl (kI, 3000, .inl ft)), (mr 11, .inl (kM, 70, .inr (.inr (.inr (.inr fi))))), (mr 18, .inl (kT, 2000, .inr (.inr (.inr (.inr fyz11)))))]) hP hD [5, 0, 1, 2, 3, 4] [] rfl rfl (by decide) (by decide) hk1 hFc hP1 hD1
          have hK := hK.app hK1
          generalize H1 = H at hP hS hgz ⊢
          have hP : va_P (dC, dI) vwCl (([(m9, .inr (23, mT mr mv vf ffz11 xaz11 (nI T) (nI im) (nI tmz11) xm (nI sc) (nI vm))), (mr 6, .inl (kI, 3002, .inl fa)), (mr 7, .inl (kI, 3002, .inl fe)), (mr 0, .inl (kI, 3000, .inl ft)), (mr 11, .inl (kM, 70, .inr (.inr (.inr (.inr fi))))), (mr 18, .inl (kT, 2000, .inr (.inr (.inr (.inr fyz11)))))] : va_W) ++ (sT Lz11 Fz11)) H := hP
          have hD : va_D A (([(m9, .inr (23, mT mr mv vf ffz11 xaz11 (nI T) (nI im) (nI tmz11) xm (nI sc) (nI vm))), (mr 6, .inl (kI, 3002, .inl fa)), (mr 7, .inl (kI, 3002, .inl fe)), (mr 0, .inl (kI, 3000, .inl ft)), (mr 11, .inl (kM, 70, .inr (.inr (.inr (.inr fi))))), (mr 18, .inl (kT, 2000, .inr (.inr (.inr (.inr fyz11)))))] : va_W) ++ (sT Lz11 Fz11)) := hD
          have hK : va_K (dC, dI) vwCl [(kI, .int), (kM, .object RX16), (kT, .object RX20), (kI, .int), (kM, .object RX16), (kT, .object RX20)] s := hK
          have hK := hK.sub (tys' := [(kI, .int), (kM, .object RX16), (kT, .object RX20)]) [0, 1, 2] rfl
          refine W.tight (k := ((tmz0 - tm) + (tmz11 - tmz0))) (n := (4 * (tmz0 - tm) + 4 * (tmz11 - tmz0))) hgz.1 hgz.2 ?_
          clear hz1 hk1 hPc hDc hKc hFc hP1 hD1 hK1
          have htm12 := (hf12_1).2.1
          have hpt12 := hf12_4
          obtain rfl : r_12 = adz11 tz11 := hf12_3.2
          have hPc := hP.subT (f' := [(m9, .inr (23, mT mr mv vf ffz11 xaz11 (nI T) (nI im) (nI tmz11) xm (nI sc) (nI vm))), (mr 18, .inl (kT, 2000, .inr (.inr (.inr (.inr fyz11)))))]) [0, 5] rfl
          have hDc := hD.subT (f' := [(m9, .inr (23, mT mr mv vf ffz11 xaz11 (nI T) (nI im) (nI tmz11) xm (nI sc) (nI vm))), (mr 18, .inl (kT, 2000, .inr (.inr (.inr (.inr fyz11)))))]) [0, 5] (by decide) rfl
          have hKc := hK.sub (tys' := [(kT, .object RX20)]) [2] rfl
          have hFc := va_freeB (wc := [(m9, .inr (23, mT mr mv vf ffz11 xaz11 (nI T) (nI im) (nI tmz11) xm (nI sc) (nI vm))), (mr 18, .inl (kT, 2000, .inr (.inr (.inr (.inr fyz11)))))]) hD hS hA [0, 5] rfl
          refine W.grow (fun hgs0 hgs1 => ?_)
          refine va_callr (va_runV (As := [.int 5, .int 0, .ref (adz11 tz11)]) (rest := []) ⟨hx, hb, hml, hown, hts⟩ (c_typR l dC dI m9 mr mv vf ffz11 xaz11 xm T im tmz11 sc vm kI Lz11 Fz11 kT fyz11 Yz11 adz11 5 0 (adz11 tz11) (slN H) H.size (tyW_rl hf12_0.2.1 hf12_0.2.2.2.1) (by have := ptN_ge (Y := Yz11) (tm := tmz11); omega) (⟨tz11, hf12_3.1, rfl⟩)) (cwV 3 hts g_c_res_c_typR_95 rfl rfl rfl (by decide +kernel) ⟨by show 2 + 1 ≤ 4 + 1 * k; omega, by show 8 + (5 + 11) + (32) ≤ 77 + 24 * k; omega⟩) ⟨fun a U g mk q => by obtain ⟨q0, q1, qP, qK, qD, qx0, qx1⟩ := q; exact ⟨q0, q1, qP, va_K.moved (u := U) (U := U.calling g mk a) (Vm.Alike.refl U.vm) qK, qD, nsM.same (u := U) (U := U.calling g mk a) rfl qx0, qx1⟩, va_recv hKc hPc (ci := 23) (q0 := 0) rfl rfl, fun U hU hW => ⟨rfl, by rw [hU], by rw [hU]; exact hPc, va_K.moved hW.alike hKc, hDc.weaken (fun _ _ _ _ => trivial), nsM.warm hW hns, by rw [hU]⟩⟩ rfl rfl hl.1 rfl (lv_room (Nat.le_of_ble_eq_true rfl)) dX23_resolve_95 ⟨(show ((tmz0 - tm) + (tmz11 - tmz0)) + 1 ≤ (2 * (qq - pp) + 5) by omega), (show (4 * (tmz0 - tm) + 4 * (tmz11 - tmz0)) + 4 ≤ (8 * (qq - pp) + 20) by omega)⟩) hS (fun q _ h => hFc q h) hFc (fun u r_13 tS H1 locs ht hvm hw hB hz1 hk1 hS => ?_)
          obtain ⟨Lz12, Fz12, tmz12, fyz12, Yz12, adz12, tz12, hf13_0, hf13_1, hf13_2, hf13_3, hf13_4, hf13_5, hf13_6, hP1, hK1, hD1⟩ := hB
          rw [ht] at hP1
          have hK1 := va_K.moved hvm.symm hK1
          rw [ht] at hf13_6
          have hgz : H1.size ≤ s.heap.size + ((((tmz0 - tm) + (tmz11 - tmz0)) + (tmz12 - tmz11))) ∧ slN H1 ≤ slN s.heap + (((4 * (tmz0 - tm) + 4 * (tmz11 - tmz0)) + 4 * (tmz12 - tmz11))) := ⟨by have := hf13_6.1; omega, by have := hf13_6.2; omega⟩
          obtain ⟨hP, hD⟩ := va_joinB (wr := [(mr 6, .inl (kI, 3002, .inl fa)), (mr 7, .inl (kI, 3002, .inl fe)), (mr 0, .inl (kI, 3000, .inl ft)), (mr 11, .inl (kM, 70, .inr (.inr (.inr (.inr fi)))))]) (w1 := [(m9, .inr (23, mT mr mv vf ffz11 xaz11 (nI T) (nI im) (nI tmz12) xm (nI sc) (nI vm))), (mr 18, .inl (kT, 2000, .inr (.inr (.inr (.inr fyz12)))))]) hP hD [0, 5] [1, 2, 3, 4] rfl rfl (by decide) (by decide) hk1 hFc hP1 hD1
          have hK := hK.app hK1
          generalize H1 = H at hP hS hgz ⊢
          have hP : va_P (dC, dI) vwCl (([(mr 6, .inl (kI, 3002, .inl fa)), (mr 7, .inl (kI, 3002, .inl fe)), (mr 0, .inl (kI, 3000, .inl ft)), (mr 11, .inl (kM, 70, .inr (.inr (.inr (.inr fi))))), (m9, .inr (23, mT mr mv vf ffz11 xaz11 (nI T) (nI im) (nI tmz12) xm (nI sc) (nI vm))), (mr 18, .inl (kT, 2000, .inr (.inr (.inr (.inr fyz12)))))] : va_W) ++ (sT Lz12 Fz12)) H := hP
          have hD : va_D A (([(mr 6, .inl (kI, 3002, .inl fa)), (mr 7, .inl (kI, 3002, .inl fe)), (mr 0, .inl (kI, 3000, .inl ft)), (mr 11, .inl (kM, 70, .inr (.inr (.inr (.inr fi))))), (m9, .inr (23, mT mr mv vf ffz11 xaz11 (nI T) (nI im) (nI tmz12) xm (nI sc) (nI vm))), (mr 18, .inl (kT, 2000, .inr (.inr (.inr (.inr fyz12)))))] : va_W) ++ (sT Lz12 Fz12)) := hD
          have hK : va_K (dC, dI) vwCl [(kI, .int), (kM, .object RX16), (kT, .object RX20), (kT, .object RX20)] s := hK
          have hK := hK.sub (tys' := [(kI, .int), (kM, .object RX16), (kT, .object RX20)]) [0, 1, 2] rfl
          refine W.tight (k := (((tmz0 - tm) + (tmz11 - tmz0)) + (tmz12 - tmz11))) (n := ((4 * (tmz0 - tm) + 4 * (tmz11 - tmz0)) + 4 * (tmz12 - tmz11))) hgz.1 hgz.2 ?_
          clear hz1 hk1 hPc hDc hKc hFc hP1 hD1 hK1
          have hgz12 := tgd_ty hf12_0 hf13_0 hf13_1 hf13_2 hf13_3 ⟨hf13_4.1, hf13_4.2.2⟩ (Or.inr (Or.inr (Or.inr ⟨Or.inl rfl, rfl, _, rfl⟩)))
          have htm13 := (hgz12.2).2.1
          have hpt13 := hf13_5
          obtain rfl : r_13 = adz12 tz12 := hf13_4.2.1
          refine W.grow (fun hgs0 hgs1 => ?_)
          have hP9 := hP.subT (f' := [(m9, .inr (23, mT mr mv vf ffz11 xaz11 (nI T) (nI im) (nI tmz12) xm (nI sc) (nI vm))), (mr 6, .inl (kI, 3002, .inl fa)), (mr 7, .inl (kI, 3002, .inl fe)), (mr 0, .inl (kI, 3000, .inl ft)), (mr 11, .inl (kM, 70, .inr (.inr (.inr (.inr fi))))), (mr 18, .inl (kT, 2000, .inr (.inr (.inr (.inr fyz12)))))]) [4, 0, 1, 2, 3, 5] rfl
          have hD9 := hD.subT (f' := [(m9, .inr (23, mT mr mv vf ffz11 xaz11 (nI T) (nI im) (nI tmz12) xm (nI sc) (nI vm))), (mr 6, .inl (kI, 3002, .inl fa)), (mr 7, .inl (kI, 3002, .inl fe)), (mr 0, .inl (kI, 3000, .inl ft)), (mr 11, .inl (kM, 70, .inr (.inr (.inr (.inr fi))))), (mr 18, .inl (kT, 2000, .inr (.inr (.inr (.inr fyz12)))))]) [4, 0, 1, 2, 3, 5] (by decide) rfl
          have hK9 := hK.sub (tys' := [(kI, .int), (kM, .object RX16), (kT, .object RX20)]) [0, 1, 2] rfl
          refine W.widen (k := (2 * (qq - pp) + 5)) (n := (8 * (qq - pp) + 20)) (by omega) (by omega) ?_
          exact W.aret hx hb hr (Or.inl ⟨_, rfl⟩) (Or.inr ⟨adz12 tz12, rfl⟩) (fun tS ht hW => ⟨⟨(), adz12 tz12, rfl, trivial, Lz12, Fz12, (grG Lz11 Gz11 Fz12), tmz12, fyz12, Yz12, adz12, tz12, ffz11, xaz11, hgz12.1, ((hf1_1).tr hf12_1).tr hgz12.2, ((hf1_2).tr hf12_2).tr hf13_0, ⟨hf13_4.1, rfl⟩, ⟨by omega, by omega⟩, by rw [ht]; exact ⟨by omega, by omega⟩, by rw [ht]; exact hP9, va_K.moved hW.alike hK9, hD9⟩, hS.F ht⟩) hS.2.2 dX23_resolve_98
        · refine lv_icmp_ne (tgt := 99) hx hb dX23_resolve_80 (by decide) (fun _ => ?_) (fun c_11 => absurd c_11 hk_10)
          refine lv_aload_n hx hb dX23_resolve_99 rfl (lv_at hl 2 rfl) ?_
          refine va_get (D := (dC, dI)) (ci := 22) (v := .int (fk pp)) (C := RX22) (T := TX22) (N := 5) hx hb hts in_c_res_X22 hown hK (va_P.st hP hwm hF8) 0 rfl rfl 0 (by decide) (hts (.fieldLink RX23 116 "OwnedPlacesModel$Written" "kind" "I") (wm_c_res 29 rfl)) (fun _ h9 => h9) hv0 dX23_resolve_100 ?_
          refine lv_bipush (v := 55) hx hb dX23_resolve_103 (by decide) ?_
          by_cases hk_12 : fk pp = 55
          · refine lv_icmp_ne (tgt := 153) hx hb dX23_resolve_105 (by decide) (fun c_13 => absurd c_13 (fun q9 => q9 hk_12)) (fun _ => ?_)
            refine lv_iload_n hx hb dX23_resolve_108 rfl (lv_at hl 3 rfl) ?_
            by_cases hb_14 : mb = 0
            · refine lv_if_ne (tgt := 123) hx hb dX23_resolve_109 (by decide) (fun c_15 => absurd c_15 (fun q9 => q9 hb_14)) (fun _ => ?_)
              refine lv_aload_n hx hb dX23_resolve_112 rfl (lv_at hl 1 rfl) ?_
              refine lv_iconst (v := 4) hx hb dX23_resolve_113 (by decide) ?_
              refine lv_aload_n hx hb dX23_resolve_114 rfl (lv_at hl 2 rfl) ?_
              refine va_get (D := (dC, dI)) (ci := 22) (v := .int (nI pp)) (C := RX22) (T := TX22) (N := 5) hx hb hts in_c_res_X22 hown hK (va_P.st hP hwm hF8) 0 rfl rfl 1 (by decide) (hts (.fieldLink RX23 113 "OwnedPlacesModel$Written" "token" "I") (wm_c_res 34 rfl)) (fun _ h9 => h9) hv1 dX23_resolve_115 ?_
              have hPc := hP.subF (f' := [(m9, .inr (23, mT mr mv vf 0 xa (nI T) (nI im) (nI tmz0) xm (nI sc) (nI vm))), (mr 6, .inl (kI, 3002, .inl fa))]) [5, 0] rfl
              have hDc := hD.subF (f' := [(m9, .inr (23, mT mr mv vf 0 xa (nI T) (nI im) (nI tmz0) xm (nI sc) (nI vm))), (mr 6, .inl (kI, 3002, .inl fa))]) [5, 0] (by decide) rfl
              have hKc := hK.sub (tys' := [(kI, .int)]) [0] rfl
              have hFc := va_freeT (wc := [(m9, .inr (23, mT mr mv vf 0 xa (nI T) (nI im) (nI tmz0) xm (nI sc) (nI vm))), (mr 6, .inl (kI, 3002, .inl fa))]) hD hS hA [5, 0] rfl
              refine va_callv (va_runV (As := [.int 4, .int (nI pp)]) (rest := []) ⟨hx, hb, hml, hown, hts⟩ (c_tfa0 l dC dI m9 mr mv vf xa xm T im tmz0 sc vm kI fa 4 pp H.size (by omega)) (cwV 2 hts g_c_res_c_tfa0_118 rfl rfl rfl (by decide +kernel) ⟨by show 0 + 1 ≤ 4 + 1 * k; omega, by show 8 + (3 + 11) + (0) ≤ 77 + 24 * k; omega⟩) ⟨fun a U g mk q => by obtain ⟨q0, q1, qP, qK, qD⟩ := q; exact ⟨q0, q1, qP, va_K.moved (u := U) (U := U.calling g mk a) (Vm.Alike.refl U.vm) qK, qD⟩, va_recv hKc hPc (ci := 23) (q0 := 0) rfl rfl, fun U hU hW => ⟨rfl, by rw [hU], by rw [hU]; exact hPc, va_K.moved hW.alike hKc, hDc.weaken (fun _ _ _ _ => trivial)⟩⟩ rfl rfl hl.1 rfl (lv_room (Nat.le_of_ble_eq_true rfl)) dX23_resolve_118 ⟨(show (tmz0 - tm) + 0 ≤ (2 * (qq - pp) + 5) by omega), (show 4 * (tmz0 - tm) + 0 ≤ (8 * (qq - pp) + 20) by omega)⟩) hS (fun q _ h => hFc q h) hFc (fun u tS H1 locs ht hvm hw hB hz1 hk1 hS => ?_)
              obtain ⟨hP1, hK1, hD1⟩ := hB
              rw [ht] at hP1
              have hK1 := va_K.moved hvm.symm hK1
              obtain ⟨hP, hD⟩ := va_joinT (wr := [(mr 7, .inl (kI, 3002, .inl fe)), (mr 0, .inl (kI, 3000, .inl ft)), (mr 11, .inl (kM, 70, .inr (.inr (.inr (.inr fi))))), (mr 18, .inl (kT, 2000, .inr (.inr (.inr (.inr fyz0)))))]) (w1 := [(m9, .inr (23, mT mr mv vf 4 (fa pp) (nI T) (nI im) (nI tmz0) xm (nI sc) (nI vm))), (mr 6, .inl (kI, 3002, .inl fa))]) hP hD [5, 0] [1, 2, 3, 4] rfl rfl (by decide) (by decide) hk1 hFc hP1 hD1
              have hK := hK.app hK1
              generalize H1 = H at hP hS ⊢
              have hP : va_P (dC, dI) vwCl (([(mr 7, .inl (kI, 3002, .inl fe)), (mr 0, .inl (kI, 3000, .inl ft)), (mr 11, .inl (kM, 70, .inr (.inr (.inr (.inr fi))))), (mr 18, .inl (kT, 2000, .inr (.inr (.inr (.inr fyz0))))), (m9, .inr (23, mT mr mv vf 4 (fa pp) (nI T) (nI im) (nI tmz0) xm (nI sc) (nI vm))), (mr 6, .inl (kI, 3002, .inl fa))] : va_W) ++ (sT Lz0 Fz0)) H := hP
              have hD : va_D A (([(mr 7, .inl (kI, 3002, .inl fe)), (mr 0, .inl (kI, 3000, .inl ft)), (mr 11, .inl (kM, 70, .inr (.inr (.inr (.inr fi))))), (mr 18, .inl (kT, 2000, .inr (.inr (.inr (.inr fyz0))))), (m9, .inr (23, mT mr mv vf 4 (fa pp) (nI T) (nI im) (nI tmz0) xm (nI sc) (nI vm))), (mr 6, .inl (kI, 3002, .inl fa))] : va_W) ++ (sT Lz0 Fz0)) := hD
              have hK : va_K (dC, dI) vwCl [(kI, .int), (kM, .object RX16), (kT, .object RX20), (kI, .int)] s := hK
              have hK := hK.sub (tys' := [(kI, .int), (kM, .object RX16), (kT, .object RX20)]) [0, 1, 2] rfl
              clear hz1 hk1 hPc hDc hKc hFc hP1 hD1 hK1
              obtain ⟨fq16, efq16⟩ : ∃ zZ : Int32, zZ = 4 := ⟨_, rfl⟩
              obtain ⟨fx16, efx16⟩ : ∃ zZ : Int32, zZ = fa pp := ⟨_, rfl⟩
              rw [← efx16] at hP hD
              have hhfq16 : fq16 ≠ 0 := by rw [efq16]; decide
              have hP : va_P (dC, dI) vwCl (([(mr 7, .inl (kI, 3002, .inl fe)), (mr 0, .inl (kI, 3000, .inl ft)), (mr 11, .inl (kM, 70, .inr (.inr (.inr (.inr fi))))), (mr 18, .inl (kT, 2000, .inr (.inr (.inr (.inr fyz0))))), (m9, .inr (23, mT mr mv vf fq16 fx16 (nI T) (nI im) (nI tmz0) xm (nI sc) (nI vm))), (mr 6, .inl (kI, 3002, .inl fa))] : va_W) ++ (sT Lz0 Fz0)) H := by rw [efq16]; exact hP
              have hD : va_D A (([(mr 7, .inl (kI, 3002, .inl fe)), (mr 0, .inl (kI, 3000, .inl ft)), (mr 11, .inl (kM, 70, .inr (.inr (.inr (.inr fi))))), (mr 18, .inl (kT, 2000, .inr (.inr (.inr (.inr fyz0))))), (m9, .inr (23, mT mr mv vf fq16 fx16 (nI T) (nI im) (nI tmz0) xm (nI sc) (nI vm))), (mr 6, .inl (kI, 3002, .inl fa))] : va_W) ++ (sT Lz0 Fz0)) := by rw [efq16]; exact hD
              clear efq16 efx16
              refine lv_aload_n hx hb dX23_resolve_121 rfl (lv_at hl 0 rfl) ?_
              refine W.grow (fun hgs0 hgs1 => ?_)
              have hP9 := hP.subT (f' := [(m9, .inr (23, mT mr mv vf fq16 fx16 (nI T) (nI im) (nI tmz0) xm (nI sc) (nI vm))), (mr 6, .inl (kI, 3002, .inl fa)), (mr 7, .inl (kI, 3002, .inl fe)), (mr 0, .inl (kI, 3000, .inl ft)), (mr 11, .inl (kM, 70, .inr (.inr (.inr (.inr fi))))), (mr 18, .inl (kT, 2000, .inr (.inr (.inr (.inr fyz0)))))]) [4, 5, 0, 1, 2, 3] rfl
              have hD9 := hD.subT (f' := [(m9, .inr (23, mT mr mv vf fq16 fx16 (nI T) (nI im) (nI tmz0) xm (nI sc) (nI vm))), (mr 6, .inl (kI, 3002, .inl fa)), (mr 7, .inl (kI, 3002, .inl fe)), (mr 0, .inl (kI, 3000, .inl ft)), (mr 11, .inl (kM, 70, .inr (.inr (.inr (.inr fi))))), (mr 18, .inl (kT, 2000, .inr (.inr (.inr (.inr fyz0)))))]) [4, 5, 0, 1, 2, 3] (by decide) rfl
              have hK9 := hK.sub (tys' := [(kI, .int), (kM, .object RX16), (kT, .object RX20)]) [0, 1, 2] rfl
              refine W.widen (k := (2 * (qq - pp) + 5)) (n := (8 * (qq - pp) + 20)) (by omega) (by omega) ?_
              exact W.aret hx hb hr (Or.inl ⟨_, rfl⟩) (Or.inr ⟨adz0 tz0, rfl⟩) (fun tS ht hW => ⟨⟨(), adz0 tz0, rfl, trivial, Lz0, Fz0, Gz0, tmz0, fyz0, Yz0, adz0, tz0, fq16, fx16, hf1_0, hf1_1, hf1_2, ⟨hf1_3.1, rfl⟩, ⟨by omega, by omega⟩, by rw [ht]; exact ⟨by omega, by omega⟩, by rw [ht]; exact hP9, va_K.moved hW.alike hK9, hD9⟩, hS.F ht⟩) hS.2.2 dX23_resolve_122
            · refine lv_if_ne (tgt := 123) hx hb dX23_resolve_109 (by decide) (fun _ => ?_) (fun c_15 => absurd c_15 hb_14)
              refine lv_aload_n hx hb dX23_resolve_123 rfl (lv_at hl 1 rfl) ?_
              refine lv_aload_n hx hb dX23_resolve_124 rfl (lv_at hl 2 rfl) ?_
              obtain ⟨o9, p9, mu9, lf9, vs8, hO1, hO2, hO3, hO4, hO6, hmu9, hlf9, hO5⟩ := isT_55 hw2 hk_12
              have hO7 := rl_st hf1_0.2.1 hwm hO1 mtF_22
              refine va_get (D := (dC, dI)) (ci := 22) (v := .int mu9) (C := RX22) (T := TX22) (N := 5) hx hb hts in_c_res_X22 hown hK (va_P.st hP hwm hO7) 0 rfl rfl 2 (by decide) (hts (.fieldLink RX23 128 "OwnedPlacesModel$Written" "name" "I") (wm_c_res 41 rfl)) (fun _ h9 => h9) hO2 dX23_resolve_125 ?_
              refine lv_iconst (v := 1) hx hb dX23_resolve_128 (by decide) ?_
              by_cases hm_16 : mu9 = 1
              · refine lv_icmp_ne (tgt := 137) hx hb dX23_resolve_129 (by decide) (fun c_17 => absurd c_17 (fun q9 => q9 hm_16)) (fun _ => ?_)
                refine lv_bipush (v := 7) hx hb dX23_resolve_132 (by decide) ?_
                refine lv_goto (tgt := 139) hx hb dX23_resolve_134 (by decide) ?_
                refine lv_iconst (v := 0) hx hb dX23_resolve_139 (by decide) ?_
                refine lv_aload_n hx hb dX23_resolve_140 rfl (lv_at hl 1 rfl) ?_
                refine lv_aload_n hx hb dX23_resolve_141 rfl (lv_at hl 2 rfl) ?_
                have hO7 := rl_st hf1_0.2.1 hwm hO1 mtF_22
                refine va_get (D := (dC, dI)) (ci := 22) (v := .ref o9) (C := RX22) (T := TX22) (N := 5) hx hb hts in_c_res_X22 hown hK (va_P.st hP hwm hO7) 0 rfl rfl 4 (by decide) (hts (.fieldLink RX23 135 "OwnedPlacesModel$Written" "of" "LOwnedPlacesModel$Written;") (wm_c_res 30 rfl)) (fun _ h9 => h9) hO4 dX23_resolve_142 ?_
                refine lv_iconst (v := 0) hx hb dX23_resolve_145 (by decide) ?_
                have hlt9 := isT_lt hO5
                have hPc := hP.subT (f' := [(m9, .inr (23, mT mr mv vf 0 xa (nI T) (nI im) (nI tmz0) xm (nI sc) (nI vm))), (mr 6, .inl (kI, 3002, .inl fa)), (mr 7, .inl (kI, 3002, .inl fe)), (mr 0, .inl (kI, 3000, .inl ft)), (mr 11, .inl (kM, 70, .inr (.inr (.inr (.inr fi))))), (mr 18, .inl (kT, 2000, .inr (.inr (.inr (.inr fyz0)))))]) [5, 0, 1, 2, 3, 4] rfl
                have hDc := hD.subT (f' := [(m9, .inr (23, mT mr mv vf 0 xa (nI T) (nI im) (nI tmz0) xm (nI sc) (nI vm))), (mr 6, .inl (kI, 3002, .inl fa)), (mr 7, .inl (kI, 3002, .inl fe)), (mr 0, .inl (kI, 3000, .inl ft)), (mr 11, .inl (kM, 70, .inr (.inr (.inr (.inr fi))))), (mr 18, .inl (kT, 2000, .inr (.inr (.inr (.inr fyz0)))))]) [5, 0, 1, 2, 3, 4] (by decide) rfl
                have hKc := hK.sub (tys' := [(kI, .int), (kM, .object RX16), (kT, .object RX20)]) [0, 1, 2] rfl
                have hFc := va_freeB (wc := [(m9, .inr (23, mT mr mv vf 0 xa (nI T) (nI im) (nI tmz0) xm (nI sc) (nI vm))), (mr 6, .inl (kI, 3002, .inl fa)), (mr 7, .inl (kI, 3002, .inl fe)), (mr 0, .inl (kI, 3000, .inl ft)), (mr 11, .inl (kM, 70, .inr (.inr (.inr (.inr fi))))), (mr 18, .inl (kT, 2000, .inr (.inr (.inr (.inr fyz0)))))]) hD hS hA [5, 0, 1, 2, 3, 4] rfl
                refine W.grow (fun hgs0 hgs1 => ?_)
                refine va_callr (va_runV (As := [.ref o9, .int 0]) (rest := [.int 0, .int 7, .ref m9]) ⟨hx, hb, hml, hown, hts⟩ ((ih k1 hkL) m9 mr mv vf 0 xa xm T im tmz0 sc vm kI fk fa fe ft zs Lz0 Fz0 Gz0 kT fyz0 Yz0 adz0 kE kS kB kA kV kW kP kM fi xI ps ms ik qz o9 p9 qq 0 (slN H) H.size hf1_0 hO5 hqq (by omega)) (cwV 2 hts g_c_res_c_res_146 rfl rfl rfl (by decide +kernel) ⟨by show 4 + 1 * k1 + 1 ≤ 4 + 1 * k; omega, by show 8 + (5 + 11) + (77 + 24 * k1) ≤ 77 + 24 * k; omega⟩) ⟨fun a U g mk q => by obtain ⟨q0, q1, qP, qK, qD, qx0, qx1⟩ := q; exact ⟨q0, q1, qP, va_K.moved (u := U) (U := U.calling g mk a) (Vm.Alike.refl U.vm) qK, qD, nsM.same (u := U) (U := U.calling g mk a) rfl qx0, qx1⟩, va_recv hKc hPc (ci := 23) (q0 := 0) rfl rfl, fun U hU hW => ⟨rfl, by rw [hU], by rw [hU]; exact hPc, va_K.moved hW.alike hKc, hDc.weaken (fun _ _ _ _ => trivial), nsM.warm hW hns, by rw [hU]⟩⟩ rfl rfl hl.1 rfl (lv_room (Nat.le_of_ble_eq_true rfl)) dX23_resolve_146 ⟨(show (tmz0 - tm) + (2 * (qq - p9) + 5) ≤ (2 * (qq - pp) + 5) by omega), (show 4 * (tmz0 - tm) + (8 * (qq - p9) + 20) ≤ (8 * (qq - pp) + 20) by omega)⟩) hS (fun q _ h => hFc q h) hFc (fun u r_18 tS H1 locs ht hvm hw hB hz1 hk1 hS => ?_)
                obtain ⟨Lz17, Fz17, Gz17, tmz17, fyz17, Yz17, adz17, tz17, ffz17, xaz17, hf18_0, hf18_1, hf18_2, hf18_3, hf18_4, hf18_5, hP1, hK1, hD1⟩ := hB
                rw [ht] at hP1
                have hK1 := va_K.moved hvm.symm hK1
                rw [ht] at hf18_5
                have hgz : H1.size ≤ s.heap.size + (((tmz0 - tm) + (tmz17 - tmz0))) ∧ slN H1 ≤ slN s.heap + ((4 * (tmz0 - tm) + 4 * (tmz17 - tmz0))) := ⟨by have := hf18_5.1; omega, by have := hf18_5.2; omega⟩
                obtain ⟨hP, hD⟩ := va_joinB (wr := []) (w1 := [(m9, .inr (23, mT mr mv vf ffz17 xaz17 (nI T) (nI im) (nI tmz17) xm (nI sc) (nI vm))), (mr 6, .inl (kI, 3002, .inl fa)), (mr 7, .inl (kI, 3002, .inl fe)), (mr 0, .inl (kI, 3000, .inl ft)), (mr 11, .inl (kM, 70, .inr (.inr (.inr (.inr fi))))), (mr 18, .inl (kT, 2000, .inr (.inr (.inr (.inr fyz17)))))]) hP hD [5, 0, 1, 2, 3, 4] [] rfl rfl (by decide) (by decide) hk1 hFc hP1 hD1
                have hK := hK.app hK1
                generalize H1 = H at hP hS hgz ⊢
                have hP : va_P (dC, dI) vwCl (([(m9, .inr (23, mT mr mv vf ffz17 xaz17 (nI T) (nI im) (nI tmz17) xm (nI sc) (nI vm))), (mr 6, .inl (kI, 3002, .inl fa)), (mr 7, .inl (kI, 3002, .inl fe)), (mr 0, .inl (kI, 3000, .inl ft)), (mr 11, .inl (kM, 70, .inr (.inr (.inr (.inr fi))))), (mr 18, .inl (kT, 2000, .inr (.inr (.inr (.inr fyz17)))))] : va_W) ++ (sT Lz17 Fz17)) H := hP
                have hD : va_D A (([(m9, .inr (23, mT mr mv vf ffz17 xaz17 (nI T) (nI im) (nI tmz17) xm (nI sc) (nI vm))), (mr 6, .inl (kI, 3002, .inl fa)), (mr 7, .inl (kI, 3002, .inl fe)), (mr 0, .inl (kI, 3000, .inl ft)), (mr 11, .inl (kM, 70, .inr (.inr (.inr (.inr fi))))), (mr 18, .inl (kT, 2000, .inr (.inr (.inr (.inr fyz17)))))] : va_W) ++ (sT Lz17 Fz17)) := hD
                have hK : va_K (dC, dI) vwCl [(kI, .int), (kM, .object RX16), (kT, .object RX20), (kI, .int), (kM, .object RX16), (kT, .object RX20)] s := hK
                have hK := hK.sub (tys' := [(kI, .int), (kM, .object RX16), (kT, .object RX20)]) [0, 1, 2] rfl
                refine W.tight (k := ((tmz0 - tm) + (tmz17 - tmz0))) (n := (4 * (tmz0 - tm) + 4 * (tmz17 - tmz0))) hgz.1 hgz.2 ?_
                clear hz1 hk1 hPc hDc hKc hFc hP1 hD1 hK1
                have htm18 := (hf18_1).2.1
                have hpt18 := hf18_4
                obtain rfl : r_18 = adz17 tz17 := hf18_3.2
                have hPc := hP.subT (f' := [(m9, .inr (23, mT mr mv vf ffz17 xaz17 (nI T) (nI im) (nI tmz17) xm (nI sc) (nI vm))), (mr 18, .inl (kT, 2000, .inr (.inr (.inr (.inr fyz17)))))]) [0, 5] rfl
                have hDc := hD.subT (f' := [(m9, .inr (23, mT mr mv vf ffz17 xaz17 (nI T) (nI im) (nI tmz17) xm (nI sc) (nI vm))), (mr 18, .inl (kT, 2000, .inr (.inr (.inr (.inr fyz17)))))]) [0, 5] (by decide) rfl
                have hKc := hK.sub (tys' := [(kT, .object RX20)]) [2] rfl
                have hFc := va_freeB (wc := [(m9, .inr (23, mT mr mv vf ffz17 xaz17 (nI T) (nI im) (nI tmz17) xm (nI sc) (nI vm))), (mr 18, .inl (kT, 2000, .inr (.inr (.inr (.inr fyz17)))))]) hD hS hA [0, 5] rfl
                refine W.grow (fun hgs0 hgs1 => ?_)
                refine va_callr (va_runV (As := [.int 7, .int 0, .ref (adz17 tz17)]) (rest := []) ⟨hx, hb, hml, hown, hts⟩ (c_typR l dC dI m9 mr mv vf ffz17 xaz17 xm T im tmz17 sc vm kI Lz17 Fz17 kT fyz17 Yz17 adz17 7 0 (adz17 tz17) (slN H) H.size (tyW_rl hf18_0.2.1 hf18_0.2.2.2.1) (by have := ptN_ge (Y := Yz17) (tm := tmz17); omega) (⟨tz17, hf18_3.1, rfl⟩)) (cwV 3 hts g_c_res_c_typR_149 rfl rfl rfl (by decide +kernel) ⟨by show 2 + 1 ≤ 4 + 1 * k; omega, by show 8 + (5 + 11) + (32) ≤ 77 + 24 * k; omega⟩) ⟨fun a U g mk q => by obtain ⟨q0, q1, qP, qK, qD, qx0, qx1⟩ := q; exact ⟨q0, q1, qP, va_K.moved (u := U) (U := U.calling g mk a) (Vm.Alike.refl U.vm) qK, qD, nsM.same (u := U) (U := U.calling g mk a) rfl qx0, qx1⟩, va_recv hKc hPc (ci := 23) (q0 := 0) rfl rfl, fun U hU hW => ⟨rfl, by rw [hU], by rw [hU]; exact hPc, va_K.moved hW.alike hKc, hDc.weaken (fun _ _ _ _ => trivial), nsM.warm hW hns, by rw [hU]⟩⟩ rfl rfl hl.1 rfl (lv_room (Nat.le_of_ble_eq_true rfl)) dX23_resolve_149 ⟨(show ((tmz0 - tm) + (tmz17 - tmz0)) + 1 ≤ (2 * (qq - pp) + 5) by omega), (show (4 * (tmz0 - tm) + 4 * (tmz17 - tmz0)) + 4 ≤ (8 * (qq - pp) + 20) by omega)⟩) hS (fun q _ h => hFc q h) hFc (fun u r_19 tS H1 locs ht hvm hw hB hz1 hk1 hS => ?_)
                obtain ⟨Lz18, Fz18, tmz18, fyz18, Yz18, adz18, tz18, hf19_0, hf19_1, hf19_2, hf19_3, hf19_4, hf19_5, hf19_6, hP1, hK1, hD1⟩ := hB
                rw [ht] at hP1
                have hK1 := va_K.moved hvm.symm hK1
                rw [ht] at hf19_6
                have hgz : H1.size ≤ s.heap.size + ((((tmz0 - tm) + (tmz17 - tmz0)) + (tmz18 - tmz17))) ∧ slN H1 ≤ slN s.heap + (((4 * (tmz0 - tm) + 4 * (tmz17 - tmz0)) + 4 * (tmz18 - tmz17))) := ⟨by have := hf19_6.1; omega, by have := hf19_6.2; omega⟩
                obtain ⟨hP, hD⟩ := va_joinB (wr := [(mr 6, .inl (kI, 3002, .inl fa)), (mr 7, .inl (kI, 3002, .inl fe)), (mr 0, .inl (kI, 3000, .inl ft)), (mr 11, .inl (kM, 70, .inr (.inr (.inr (.inr fi)))))]) (w1 := [(m9, .inr (23, mT mr mv vf ffz17 xaz17 (nI T) (nI im) (nI tmz18) xm (nI sc) (nI vm))), (mr 18, .inl (kT, 2000, .inr (.inr (.inr (.inr fyz18)))))]) hP hD [0, 5] [1, 2, 3, 4] rfl rfl (by decide) (by decide) hk1 hFc hP1 hD1
                have hK := hK.app hK1
                generalize H1 = H at hP hS hgz ⊢
                have hP : va_P (dC, dI) vwCl (([(mr 6, .inl (kI, 3002, .inl fa)), (mr 7, .inl (kI, 3002, .inl fe)), (mr 0, .inl (kI, 3000, .inl ft)), (mr 11, .inl (kM, 70, .inr (.inr (.inr (.inr fi))))), (m9, .inr (23, mT mr mv vf ffz17 xaz17 (nI T) (nI im) (nI tmz18) xm (nI sc) (nI vm))), (mr 18, .inl (kT, 2000, .inr (.inr (.inr (.inr fyz18)))))] : va_W) ++ (sT Lz18 Fz18)) H := hP
                have hD : va_D A (([(mr 6, .inl (kI, 3002, .inl fa)), (mr 7, .inl (kI, 3002, .inl fe)), (mr 0, .inl (kI, 3000, .inl ft)), (mr 11, .inl (kM, 70, .inr (.inr (.inr (.inr fi))))), (m9, .inr (23, mT mr mv vf ffz17 xaz17 (nI T) (nI im) (nI tmz18) xm (nI sc) (nI vm))), (mr 18, .inl (kT, 2000, .inr (.inr (.inr (.inr fyz18)))))] : va_W) ++ (sT Lz18 Fz18)) := hD
                have hK : va_K (dC, dI) vwCl [(kI, .int), (kM, .object RX16), (kT, .object RX20), (kT, .object RX20)] s := hK
                have hK := hK.sub (tys' := [(kI, .int), (kM, .object RX16), (kT, .object RX20)]) [0, 1, 2] rfl
                refine W.tight (k := (((tmz0 - tm) + (tmz17 - tmz0)) + (tmz18 - tmz17))) (n := ((4 * (tmz0 - tm) + 4 * (tmz17 - tmz0)) + 4 * (tmz18 - tmz17))) hgz.1 hgz.2 ?_
                clear hz1 hk1 hPc hDc hKc hFc hP1 hD1 hK1
                have hgz18 := tgd_ty hf18_0 hf19_0 hf19_1 hf19_2 hf19_3 ⟨hf19_4.1, hf19_4.2.2⟩ (Or.inr (Or.inr (Or.inr ⟨Or.inr (Or.inr rfl), rfl, _, rfl⟩)))
                have htm19 := (hgz18.2).2.1
                have hpt19 := hf19_5
                obtain rfl : r_19 = adz18 tz18 := hf19_4.2.1
                refine W.grow (fun hgs0 hgs1 => ?_)
                have hP9 := hP.subT (f' := [(m9, .inr (23, mT mr mv vf ffz17 xaz17 (nI T) (nI im) (nI tmz18) xm (nI sc) (nI vm))), (mr 6, .inl (kI, 3002, .inl fa)), (mr 7, .inl (kI, 3002, .inl fe)), (mr 0, .inl (kI, 3000, .inl ft)), (mr 11, .inl (kM, 70, .inr (.inr (.inr (.inr fi))))), (mr 18, .inl (kT, 2000, .inr (.inr (.inr (.inr fyz18)))))]) [4, 0, 1, 2, 3, 5] rfl
                have hD9 := hD.subT (f' := [(m9, .inr (23, mT mr mv vf ffz17 xaz17 (nI T) (nI im) (nI tmz18) xm (nI sc) (nI vm))), (mr 6, .inl (kI, 3002, .inl fa)), (mr 7, .inl (kI, 3002, .inl fe)), (mr 0, .inl (kI, 3000, .inl ft)), (mr 11, .inl (kM, 70, .inr (.inr (.inr (.inr fi))))), (mr 18, .inl (kT, 2000, .inr (.inr (.inr (.inr fyz18)))))]) [4, 0, 1, 2, 3, 5] (by decide) rfl
                have hK9 := hK.sub (tys' := [(kI, .int), (kM, .object RX16), (kT, .object RX20)]) [0, 1, 2] rfl
                refine W.widen (k := (2 * (qq - pp) + 5)) (n := (8 * (qq - pp) + 20)) (by omega) (by omega) ?_
                exact W.aret hx hb hr (Or.inl ⟨_, rfl⟩) (Or.inr ⟨adz18 tz18, rfl⟩) (fun tS ht hW => ⟨⟨(), adz18 tz18, rfl, trivial, Lz18, Fz18, (grG Lz17 Gz17 Fz18), tmz18, fyz18, Yz18, adz18, tz18, ffz17, xaz17, hgz18.1, ((hf1_1).tr hf18_1).tr hgz18.2, ((hf1_2).tr hf18_2).tr hf19_0, ⟨hf19_4.1, rfl⟩, ⟨by omega, by omega⟩, by rw [ht]; exact ⟨by omega, by omega⟩, by rw [ht]; exact hP9, va_K.moved hW.alike hK9, hD9⟩, hS.F ht⟩) hS.2.2 dX23_resolve_152
              · refine lv_icmp_ne (tgt := 137) hx hb dX23_resolve_129 (by decide) (fun _ => ?_) (fun c_17 => absurd c_17 hm_16)
                refine lv_bipush (v := 6) hx hb dX23_resolve_137 (by decide) ?_
                refine lv_iconst (v := 0) hx hb dX23_resolve_139 (by decide) ?_
                refine lv_aload_n hx hb dX23_resolve_140 rfl (lv_at hl 1 rfl) ?_
                refine lv_aload_n hx hb dX23_resolve_141 rfl (lv_at hl 2 rfl) ?_
                have hO7 := rl_st hf1_0.2.1 hwm hO1 mtF_22
                refine va_get (D := (dC, dI)) (ci := 22) (v := .ref o9) (C := RX22) (T := TX22) (N := 5) hx hb hts in_c_res_X22 hown hK (va_P.st hP hwm hO7) 0 rfl rfl 4 (by decide) (hts (.fieldLink RX23 135 "OwnedPlacesModel$Written" "of" "LOwnedPlacesModel$Written;") (wm_c_res 30 rfl)) (fun _ h9 => h9) hO4 dX23_resolve_142 ?_
                refine lv_iconst (v := 0) hx hb dX23_resolve_145 (by decide) ?_
                have hlt9 := isT_lt hO5
                have hPc := hP.subT (f' := [(m9, .inr (23, mT mr mv vf 0 xa (nI T) (nI im) (nI tmz0) xm (nI sc) (nI vm))), (mr 6, .inl (kI, 3002, .inl fa)), (mr 7, .inl (kI, 3002, .inl fe)), (mr 0, .inl (kI, 3000, .inl ft)), (mr 11, .inl (kM, 70, .inr (.inr (.inr (.inr fi))))), (mr 18, .inl (kT, 2000, .inr (.inr (.inr (.inr fyz0)))))]) [5, 0, 1, 2, 3, 4] rfl
                have hDc := hD.subT (f' := [(m9, .inr (23, mT mr mv vf 0 xa (nI T) (nI im) (nI tmz0) xm (nI sc) (nI vm))), (mr 6, .inl (kI, 3002, .inl fa)), (mr 7, .inl (kI, 3002, .inl fe)), (mr 0, .inl (kI, 3000, .inl ft)), (mr 11, .inl (kM, 70, .inr (.inr (.inr (.inr fi))))), (mr 18, .inl (kT, 2000, .inr (.inr (.inr (.inr fyz0)))))]) [5, 0, 1, 2, 3, 4] (by decide) rfl
                have hKc := hK.sub (tys' := [(kI, .int), (kM, .object RX16), (kT, .object RX20)]) [0, 1, 2] rfl
                have hFc := va_freeB (wc := [(m9, .inr (23, mT mr mv vf 0 xa (nI T) (nI im) (nI tmz0) xm (nI sc) (nI vm))), (mr 6, .inl (kI, 3002, .inl fa)), (mr 7, .inl (kI, 3002, .inl fe)), (mr 0, .inl (kI, 3000, .inl ft)), (mr 11, .inl (kM, 70, .inr (.inr (.inr (.inr fi))))), (mr 18, .inl (kT, 2000, .inr (.inr (.inr (.inr fyz0)))))]) hD hS hA [5, 0, 1, 2, 3, 4] rfl
                refine W.grow (fun hgs0 hgs1 => ?_)
                refine va_callr (va_runV (As := [.ref o9, .int 0]) (rest := [.int 0, .int 6, .ref m9]) ⟨hx, hb, hml, hown, hts⟩ ((ih k1 hkL) m9 mr mv vf 0 xa xm T im tmz0 sc vm kI fk fa fe ft zs Lz0 Fz0 Gz0 kT fyz0 Yz0 adz0 kE kS kB kA kV kW kP kM fi xI ps ms ik qz o9 p9 qq 0 (slN H) H.size hf1_0 hO5 hqq (by omega)) (cwV 2 hts g_c_res_c_res_146 rfl rfl rfl (by decide +kernel) ⟨by show 4 + 1 * k1 + 1 ≤ 4 + 1 * k; omega, by show 8 + (5 + 11) + (77 + 24 * k1) ≤ 77 + 24 * k; omega⟩) ⟨fun a U g mk q => by obtain ⟨q0, q1, qP, qK, qD, qx0, qx1⟩ := q; exact ⟨q0, q1, qP, va_K.moved (u := U) (U := U.calling g mk a) (Vm.Alike.refl U.vm) qK, qD, nsM.same (u := U) (U := U.calling g mk a) rfl qx0, qx1⟩, va_recv hKc hPc (ci := 23) (q0 := 0) rfl rfl, fun U hU hW => ⟨rfl, by rw [hU], by rw [hU]; exact hPc, va_K.moved hW.alike hKc, hDc.weaken (fun _ _ _ _ => trivial), nsM.warm hW hns, by rw [hU]⟩⟩ rfl rfl hl.1 rfl (lv_room (Nat.le_of_ble_eq_true rfl)) dX23_resolve_146 ⟨(show (tmz0 - tm) + (2 * (qq - p9) + 5) ≤ (2 * (qq - pp) + 5) by omega), (show 4 * (tmz0 - tm) + (8 * (qq - p9) + 20) ≤ (8 * (qq - pp) + 20) by omega)⟩) hS (fun q _ h => hFc q h) hFc (fun u r_18 tS H1 locs ht hvm hw hB hz1 hk1 hS => ?_)
                obtain ⟨Lz17, Fz17, Gz17, tmz17, fyz17, Yz17, adz17, tz17, ffz17, xaz17, hf18_0, hf18_1, hf18_2, hf18_3, hf18_4, hf18_5, hP1, hK1, hD1⟩ := hB
                rw [ht] at hP1
                have hK1 := va_K.moved hvm.symm hK1
                rw [ht] at hf18_5
                have hgz : H1.size ≤ s.heap.size + (((tmz0 - tm) + (tmz17 - tmz0))) ∧ slN H1 ≤ slN s.heap + ((4 * (tmz0 - tm) + 4 * (tmz17 - tmz0))) := ⟨by have := hf18_5.1; omega, by have := hf18_5.2; omega⟩
                obtain ⟨hP, hD⟩ := va_joinB (wr := []) (w1 := [(m9, .inr (23, mT mr mv vf ffz17 xaz17 (nI T) (nI im) (nI tmz17) xm (nI sc) (nI vm))), (mr 6, .inl (kI, 3002, .inl fa)), (mr 7, .inl (kI, 3002, .inl fe)), (mr 0, .inl (kI, 3000, .inl ft)), (mr 11, .inl (kM, 70, .inr (.inr (.inr (.inr fi))))), (mr 18, .inl (kT, 2000, .inr (.inr (.inr (.inr fyz17)))))]) hP hD [5, 0, 1, 2, 3, 4] [] rfl rfl (by decide) (by decide) hk1 hFc hP1 hD1
                have hK := hK.app hK1
                generalize H1 = H at hP hS hgz ⊢
                have hP : va_P (dC, dI) vwCl (([(m9, .inr (23, mT mr mv vf ffz17 xaz17 (nI T) (nI im) (nI tmz17) xm (nI sc) (nI vm))), (mr 6, .inl (kI, 3002, .inl fa)), (mr 7, .inl (kI, 3002, .inl fe)), (mr 0, .inl (kI, 3000, .inl ft)), (mr 11, .inl (kM, 70, .inr (.inr (.inr (.inr fi))))), (mr 18, .inl (kT, 2000, .inr (.inr (.inr (.inr fyz17)))))] : va_W) ++ (sT Lz17 Fz17)) H := hP
                have hD : va_D A (([(m9, .inr (23, mT mr mv vf ffz17 xaz17 (nI T) (nI im) (nI tmz17) xm (nI sc) (nI vm))), (mr 6, .inl (kI, 3002, .inl fa)), (mr 7, .inl (kI, 3002, .inl fe)), (mr 0, .inl (kI, 3000, .inl ft)), (mr 11, .inl (kM, 70, .inr (.inr (.inr (.inr fi))))), (mr 18, .inl (kT, 2000, .inr (.inr (.inr (.inr fyz17)))))] : va_W) ++ (sT Lz17 Fz17)) := hD
                have hK : va_K (dC, dI) vwCl [(kI, .int), (kM, .object RX16), (kT, .object RX20), (kI, .int), (kM, .object RX16), (kT, .object RX20)] s := hK
                have hK := hK.sub (tys' := [(kI, .int), (kM, .object RX16), (kT, .object RX20)]) [0, 1, 2] rfl
                refine W.tight (k := ((tmz0 - tm) + (tmz17 - tmz0))) (n := (4 * (tmz0 - tm) + 4 * (tmz17 - tmz0))) hgz.1 hgz.2 ?_
                clear hz1 hk1 hPc hDc hKc hFc hP1 hD1 hK1
                have htm18 := (hf18_1).2.1
                have hpt18 := hf18_4
                obtain rfl : r_18 = adz17 tz17 := hf18_3.2
                have hPc := hP.subT (f' := [(m9, .inr (23, mT mr mv vf ffz17 xaz17 (nI T) (nI im) (nI tmz17) xm (nI sc) (nI vm))), (mr 18, .inl (kT, 2000, .inr (.inr (.inr (.inr fyz17)))))]) [0, 5] rfl
                have hDc := hD.subT (f' := [(m9, .inr (23, mT mr mv vf ffz17 xaz17 (nI T) (nI im) (nI tmz17) xm (nI sc) (nI vm))), (mr 18, .inl (kT, 2000, .inr (.inr (.inr (.inr fyz17)))))]) [0, 5] (by decide) rfl
                have hKc := hK.sub (tys' := [(kT, .object RX20)]) [2] rfl
                have hFc := va_freeB (wc := [(m9, .inr (23, mT mr mv vf ffz17 xaz17 (nI T) (nI im) (nI tmz17) xm (nI sc) (nI vm))), (mr 18, .inl (kT, 2000, .inr (.inr (.inr (.inr fyz17)))))]) hD hS hA [0, 5] rfl
                refine W.grow (fun hgs0 hgs1 => ?_)
                refine va_callr (va_runV (As := [.int 6, .int 0, .ref (adz17 tz17)]) (rest := []) ⟨hx, hb, hml, hown, hts⟩ (c_typR l dC dI m9 mr mv vf ffz17 xaz17 xm T im tmz17 sc vm kI Lz17 Fz17 kT fyz17 Yz17 adz17 6 0 (adz17 tz17) (slN H) H.size (tyW_rl hf18_0.2.1 hf18_0.2.2.2.1) (by have := ptN_ge (Y := Yz17) (tm := tmz17); omega) (⟨tz17, hf18_3.1, rfl⟩)) (cwV 3 hts g_c_res_c_typR_149 rfl rfl rfl (by decide +kernel) ⟨by show 2 + 1 ≤ 4 + 1 * k; omega, by show 8 + (5 + 11) + (32) ≤ 77 + 24 * k; omega⟩) ⟨fun a U g mk q => by obtain ⟨q0, q1, qP, qK, qD, qx0, qx1⟩ := q; exact ⟨q0, q1, qP, va_K.moved (u := U) (U := U.calling g mk a) (Vm.Alike.refl U.vm) qK, qD, nsM.same (u := U) (U := U.calling g mk a) rfl qx0, qx1⟩, va_recv hKc hPc (ci := 23) (q0 := 0) rfl rfl, fun U hU hW => ⟨rfl, by rw [hU], by rw [hU]; exact hPc, va_K.moved hW.alike hKc, hDc.weaken (fun _ _ _ _ => trivial), nsM.warm hW hns, by rw [hU]⟩⟩ rfl rfl hl.1 rfl (lv_room (Nat.le_of_ble_eq_true rfl)) dX23_resolve_149 ⟨(show ((tmz0 - tm) + (tmz17 - tmz0)) + 1 ≤ (2 * (qq - pp) + 5) by omega), (show (4 * (tmz0 - tm) + 4 * (tmz17 - tmz0)) + 4 ≤ (8 * (qq - pp) + 20) by omega)⟩) hS (fun q _ h => hFc q h) hFc (fun u r_19 tS H1 locs ht hvm hw hB hz1 hk1 hS => ?_)
                obtain ⟨Lz18, Fz18, tmz18, fyz18, Yz18, adz18, tz18, hf19_0, hf19_1, hf19_2, hf19_3, hf19_4, hf19_5, hf19_6, hP1, hK1, hD1⟩ := hB
                rw [ht] at hP1
                have hK1 := va_K.moved hvm.symm hK1
                rw [ht] at hf19_6
                have hgz : H1.size ≤ s.heap.size + ((((tmz0 - tm) + (tmz17 - tmz0)) + (tmz18 - tmz17))) ∧ slN H1 ≤ slN s.heap + (((4 * (tmz0 - tm) + 4 * (tmz17 - tmz0)) + 4 * (tmz18 - tmz17))) := ⟨by have := hf19_6.1; omega, by have := hf19_6.2; omega⟩
                obtain ⟨hP, hD⟩ := va_joinB (wr := [(mr 6, .inl (kI, 3002, .inl fa)), (mr 7, .inl (kI, 3002, .inl fe)), (mr 0, .inl (kI, 3000, .inl ft)), (mr 11, .inl (kM, 70, .inr (.inr (.inr (.inr fi)))))]) (w1 := [(m9, .inr (23, mT mr mv vf ffz17 xaz17 (nI T) (nI im) (nI tmz18) xm (nI sc) (nI vm))), (mr 18, .inl (kT, 2000, .inr (.inr (.inr (.inr fyz18)))))]) hP hD [0, 5] [1, 2, 3, 4] rfl rfl (by decide) (by decide) hk1 hFc hP1 hD1
                have hK := hK.app hK1
                generalize H1 = H at hP hS hgz ⊢
                have hP : va_P (dC, dI) vwCl (([(mr 6, .inl (kI, 3002, .inl fa)), (mr 7, .inl (kI, 3002, .inl fe)), (mr 0, .inl (kI, 3000, .inl ft)), (mr 11, .inl (kM, 70, .inr (.inr (.inr (.inr fi))))), (m9, .inr (23, mT mr mv vf ffz17 xaz17 (nI T) (nI im) (nI tmz18) xm (nI sc) (nI vm))), (mr 18, .inl (kT, 2000, .inr (.inr (.inr (.inr fyz18)))))] : va_W) ++ (sT Lz18 Fz18)) H := hP
                have hD : va_D A (([(mr 6, .inl (kI, 3002, .inl fa)), (mr 7, .inl (kI, 3002, .inl fe)), (mr 0, .inl (kI, 3000, .inl ft)), (mr 11, .inl (kM, 70, .inr (.inr (.inr (.inr fi))))), (m9, .inr (23, mT mr mv vf ffz17 xaz17 (nI T) (nI im) (nI tmz18) xm (nI sc) (nI vm))), (mr 18, .inl (kT, 2000, .inr (.inr (.inr (.inr fyz18)))))] : va_W) ++ (sT Lz18 Fz18)) := hD
                have hK : va_K (dC, dI) vwCl [(kI, .int), (kM, .object RX16), (kT, .object RX20), (kT, .object RX20)] s := hK
                have hK := hK.sub (tys' := [(kI, .int), (kM, .object RX16), (kT, .object RX20)]) [0, 1, 2] rfl
                refine W.tight (k := (((tmz0 - tm) + (tmz17 - tmz0)) + (tmz18 - tmz17))) (n := ((4 * (tmz0 - tm) + 4 * (tmz17 - tmz0)) + 4 * (tmz18 - tmz17))) hgz.1 hgz.2 ?_
                clear hz1 hk1 hPc hDc hKc hFc hP1 hD1 hK1
                have hgz18 := tgd_ty hf18_0 hf19_0 hf19_1 hf19_2 hf19_3 ⟨hf19_4.1, hf19_4.2.2⟩ (Or.inr (Or.inr (Or.inr ⟨Or.inr (Or.inl rfl), rfl, _, rfl⟩)))
                have htm19 := (hgz18.2).2.1
                have hpt19 := hf19_5
                obtain rfl : r_19 = adz18 tz18 := hf19_4.2.1
                refine W.grow (fun hgs0 hgs1 => ?_)
                have hP9 := hP.subT (f' := [(m9, .inr (23, mT mr mv vf ffz17 xaz17 (nI T) (nI im) (nI tmz18) xm (nI sc) (nI vm))), (mr 6, .inl (kI, 3002, .inl fa)), (mr 7, .inl (kI, 3002, .inl fe)), (mr 0, .inl (kI, 3000, .inl ft)), (mr 11, .inl (kM, 70, .inr (.inr (.inr (.inr fi))))), (mr 18, .inl (kT, 2000, .inr (.inr (.inr (.inr fyz18)))))]) [4, 0, 1, 2, 3, 5] rfl
                have hD9 := hD.subT (f' := [(m9, .inr (23, mT mr mv vf ffz17 xaz17 (nI T) (nI im) (nI tmz18) xm (nI sc) (nI vm))), (mr 6, .inl (kI, 3002, .inl fa)), (mr 7, .inl (kI, 3002, .inl fe)), (mr 0, .inl (kI, 3000, .inl ft)), (mr 11, .inl (kM, 70, .inr (.inr (.inr (.inr fi))))), (mr 18, .inl (kT, 2000, .inr (.inr (.inr (.inr fyz18)))))]) [4, 0, 1, 2, 3, 5] (by decide) rfl
                have hK9 := hK.sub (tys' := [(kI, .int), (kM, .object RX16), (kT, .object RX20)]) [0, 1, 2] rfl
                refine W.widen (k := (2 * (qq - pp) + 5)) (n := (8 * (qq - pp) + 20)) (by omega) (by omega) ?_
                exact W.aret hx hb hr (Or.inl ⟨_, rfl⟩) (Or.inr ⟨adz18 tz18, rfl⟩) (fun tS ht hW => ⟨⟨(), adz18 tz18, rfl, trivial, Lz18, Fz18, (grG Lz17 Gz17 Fz18), tmz18, fyz18, Yz18, adz18, tz18, ffz17, xaz17, hgz18.1, ((hf1_1).tr hf18_1).tr hgz18.2, ((hf1_2).tr hf18_2).tr hf19_0, ⟨hf19_4.1, rfl⟩, ⟨by omega, by omega⟩, by rw [ht]; exact ⟨by omega, by omega⟩, by rw [ht]; exact hP9, va_K.moved hW.alike hK9, hD9⟩, hS.F ht⟩) hS.2.2 dX23_resolve_152
          · refine lv_icmp_ne (tgt := 153) hx hb dX23_resolve_105 (by decide) (fun _ => ?_) (fun c_13 => absurd c_13 hk_12)
            refine lv_aload_n hx hb dX23_resolve_153 rfl (lv_at hl 1 rfl) ?_
            refine lv_aload_n hx hb dX23_resolve_154 rfl (lv_at hl 2 rfl) ?_
            refine va_get (D := (dC, dI)) (ci := 22) (v := .int (nI pp)) (C := RX22) (T := TX22) (N := 5) hx hb hts in_c_res_X22 hown hK (va_P.st hP hwm hF8) 0 rfl rfl 1 (by decide) (hts (.fieldLink RX23 113 "OwnedPlacesModel$Written" "token" "I") (wm_c_res 34 rfl)) (fun _ h9 => h9) hv1 dX23_resolve_155 ?_
            have hPc := hP.subT (f' := [(m9, .inr (23, mT mr mv vf 0 xa (nI T) (nI im) (nI tmz0) xm (nI sc) (nI vm))), (mr 6, .inl (kI, 3002, .inl fa)), (mr 7, .inl (kI, 3002, .inl fe)), (mr 0, .inl (kI, 3000, .inl ft)), (mr 11, .inl (kM, 70, .inr (.inr (.inr (.inr fi)))))]) [5, 0, 1, 2, 3] rfl
            have hDc := hD.subT (f' := [(m9, .inr (23, mT mr mv vf 0 xa (nI T) (nI im) (nI tmz0) xm (nI sc) (nI vm))), (mr 6, .inl (kI, 3002, .inl fa)), (mr 7, .inl (kI, 3002, .inl fe)), (mr 0, .inl (kI, 3000, .inl ft)), (mr 11, .inl (kM, 70, .inr (.inr (.inr (.inr fi)))))]) [5, 0, 1, 2, 3] (by decide) rfl
            have hKc := hK.sub (tys' := [(kI, .int), (kM, .object RX16)]) [0, 1] rfl
            have hFc := va_freeB (wc := [(m9, .inr (23, mT mr mv vf 0 xa (nI T) (nI im) (nI tmz0) xm (nI sc) (nI vm))), (mr 6, .inl (kI, 3002, .inl fa)), (mr 7, .inl (kI, 3002, .inl fe)), (mr 0, .inl (kI, 3000, .inl ft)), (mr 11, .inl (kM, 70, .inr (.inr (.inr (.inr fi)))))]) hD hS hA [5, 0, 1, 2, 3] rfl
            refine va_calli (va_runV (As := [.int (nI pp)]) (rest := []) ⟨hx, hb, hml, hown, hts⟩ (c_itn l dC dI m9 mr mv vf 0 xa xm T im tmz0 sc vm kI fk fa fe ft zs Lz0 Fz0 Gz0 kT fyz0 Yz0 adz0 kE kS kB kA kV kW kP kM fi xI ps ms ik qz pp H.size hf1_0 (by omega)) (cwV 1 hts g_c_res_c_itn_158 rfl rfl rfl (by decide +kernel) ⟨by show 1 + 1 ≤ 4 + 1 * k; omega, by show 8 + (3 + 11) + (24) ≤ 77 + 24 * k; omega⟩) ⟨fun a U g mk q => by obtain ⟨q0, q1, qP, qK, qD⟩ := q; exact ⟨q0, q1, qP, va_K.moved (u := U) (U := U.calling g mk a) (Vm.Alike.refl U.vm) qK, qD⟩, va_recv hKc hPc (ci := 23) (q0 := 0) rfl rfl, fun U hU hW => ⟨rfl, by rw [hU], by rw [hU]; exact hPc, va_K.moved hW.alike hKc, hDc.weaken (fun _ _ _ _ => trivial)⟩⟩ rfl rfl hl.1 rfl (lv_room (Nat.le_of_ble_eq_true rfl)) dX23_resolve_158 ⟨(show (tmz0 - tm) + 0 ≤ (2 * (qq - pp) + 5) by omega), (show 4 * (tmz0 - tm) + 0 ≤ (8 * (qq - pp) + 20) by omega)⟩) hS (fun q _ h => hFc q h) hFc (fun r_14 u tS H1 locs ht hvm hw hB hz1 hk1 hS => ?_)
            obtain ⟨hP1, hK1, hD1⟩ := hB
            rw [ht] at hP1
            have hK1 := va_K.moved hvm.symm hK1
            obtain ⟨hP, hD⟩ := va_joinB (wr := [(mr 18, .inl (kT, 2000, .inr (.inr (.inr (.inr fyz0)))))]) (w1 := [(m9, .inr (23, mT mr mv vf 0 xa (nI T) (nI im) (nI tmz0) xm (nI sc) (nI vm))), (mr 6, .inl (kI, 3002, .inl fa)), (mr 7, .inl (kI, 3002, .inl fe)), (mr 0, .inl (kI, 3000, .inl ft)), (mr 11, .inl (kM, 70, .inr (.inr (.inr (.inr fi)))))]) hP hD [5, 0, 1, 2, 3] [4] rfl rfl (by decide) (by decide) hk1 hFc hP1 hD1
            have hK := hK.app hK1
            generalize H1 = H at hP hS ⊢
            have hP : va_P (dC, dI) vwCl (([(mr 18, .inl (kT, 2000, .inr (.inr (.inr (.inr fyz0))))), (m9, .inr (23, mT mr mv vf 0 xa (nI T) (nI im) (nI tmz0) xm (nI sc) (nI vm))), (mr 6, .inl (kI, 3002, .inl fa)), (mr 7, .inl (kI, 3002, .inl fe)), (mr 0, .inl (kI, 3000, .inl ft)), (mr 11, .inl (kM, 70, .inr (.inr (.inr (.inr fi)))))] : va_W) ++ (sT Lz0 Fz0)) H := hP
            have hD : va_D A (([(mr 18, .inl (kT, 2000, .inr (.inr (.inr (.inr fyz0))))), (m9, .inr (23, mT mr mv vf 0 xa (nI T) (nI im) (nI tmz0) xm (nI sc) (nI vm))), (mr 6, .inl (kI, 3002, .inl fa)), (mr 7, .inl (kI, 3002, .inl fe)), (mr 0, .inl (kI, 3000, .inl ft)), (mr 11, .inl (kM, 70, .inr (.inr (.inr (.inr fi)))))] : va_W) ++ (sT Lz0 Fz0)) := hD
            have hK : va_K (dC, dI) vwCl [(kI, .int), (kM, .object RX16), (kT, .object RX20), (kI, .int), (kM, .object RX16)] s := hK
            have hK := hK.sub (tys' := [(kI, .int), (kM, .object RX16), (kT, .object RX20)]) [0, 1, 2] rfl
            clear hz1 hk1 hPc hDc hKc hFc hP1 hD1 hK1
            have hin9 : r_14 = -1 ∨ ∃ i : Nat, i < im ∧ r_14 = nI i := hw
            refine lv_istore (lv' := [(4, .int r_14), (3, .ref (adz0 tz0)), (0, .ref m9), (1, .ref wr), (2, .int mb)]) hx hb dX23_resolve_161 hl (by decide) rfl (fun ls hl => ?_)
            refine lv_iload hx hb dX23_resolve_163 (lv_at hl 0 rfl) ?_
            by_cases hq_15 : r_14 < 0
            · refine lv_if_lt (tgt := 183) hx hb dX23_resolve_165 (by decide) (fun _ => ?_) (fun c_16 => absurd hq_15 c_16)
              refine lv_aload_n hx hb dX23_resolve_183 rfl (lv_at hl 2 rfl) ?_
              refine lv_iconst (v := 3) hx hb dX23_resolve_184 (by decide) ?_
              refine lv_aload_n hx hb dX23_resolve_185 rfl (lv_at hl 3 rfl) ?_
              refine va_get (D := (dC, dI)) (ci := 22) (v := .int (nI pp)) (C := RX22) (T := TX22) (N := 5) hx hb hts in_c_res_X22 hown hK (va_P.st hP hwm hF8) 0 rfl rfl 1 (by decide) (hts (.fieldLink RX23 113 "OwnedPlacesModel$Written" "token" "I") (wm_c_res 34 rfl)) (fun _ h9 => h9) hv1 dX23_resolve_186 ?_
              have hPc := hP.subF (f' := [(m9, .inr (23, mT mr mv vf 0 xa (nI T) (nI im) (nI tmz0) xm (nI sc) (nI vm))), (mr 6, .inl (kI, 3002, .inl fa))]) [1, 2] rfl
              have hDc := hD.subF (f' := [(m9, .inr (23, mT mr mv vf 0 xa (nI T) (nI im) (nI tmz0) xm (nI sc) (nI vm))), (mr 6, .inl (kI, 3002, .inl fa))]) [1, 2] (by decide) rfl
              have hKc := hK.sub (tys' := [(kI, .int)]) [0] rfl
              have hFc := va_freeT (wc := [(m9, .inr (23, mT mr mv vf 0 xa (nI T) (nI im) (nI tmz0) xm (nI sc) (nI vm))), (mr 6, .inl (kI, 3002, .inl fa))]) hD hS hA [1, 2] rfl
              refine va_callv (va_runV (As := [.int 3, .int (nI pp)]) (rest := []) ⟨hx, hb, hml, hown, hts⟩ (c_tfa0 l dC dI m9 mr mv vf xa xm T im tmz0 sc vm kI fa 3 pp H.size (by omega)) (cwV 2 hts g_c_res_c_tfa0_189 rfl rfl rfl (by decide +kernel) ⟨by show 0 + 1 ≤ 4 + 1 * k; omega, by show 8 + (3 + 11) + (0) ≤ 77 + 24 * k; omega⟩) ⟨fun a U g mk q => by obtain ⟨q0, q1, qP, qK, qD⟩ := q; exact ⟨q0, q1, qP, va_K.moved (u := U) (U := U.calling g mk a) (Vm.Alike.refl U.vm) qK, qD⟩, va_recv hKc hPc (ci := 23) (q0 := 0) rfl rfl, fun U hU hW => ⟨rfl, by rw [hU], by rw [hU]; exact hPc, va_K.moved hW.alike hKc, hDc.weaken (fun _ _ _ _ => trivial)⟩⟩ rfl rfl hl.1 rfl (lv_room (Nat.le_of_ble_eq_true rfl)) dX23_resolve_189 ⟨(show (tmz0 - tm) + 0 ≤ (2 * (qq - pp) + 5) by omega), (show 4 * (tmz0 - tm) + 0 ≤ (8 * (qq - pp) + 20) by omega)⟩) hS (fun q _ h => hFc q h) hFc (fun u tS H1 locs ht hvm hw hB hz1 hk1 hS => ?_)
              obtain ⟨hP1, hK1, hD1⟩ := hB
              rw [ht] at hP1
              have hK1 := va_K.moved hvm.symm hK1
              obtain ⟨hP, hD⟩ := va_joinT (wr := [(mr 18, .inl (kT, 2000, .inr (.inr (.inr (.inr fyz0))))), (mr 7, .inl (kI, 3002, .inl fe)), (mr 0, .inl (kI, 3000, .inl ft)), (mr 11, .inl (kM, 70, .inr (.inr (.inr (.inr fi)))))]) (w1 := [(m9, .inr (23, mT mr mv vf 3 (fa pp) (nI T) (nI im) (nI tmz0) xm (nI sc) (nI vm))), (mr 6, .inl (kI, 3002, .inl fa))]) hP hD [1, 2] [0, 3, 4, 5] rfl rfl (by decide) (by decide) hk1 hFc hP1 hD1
              have hK := hK.app hK1
              generalize H1 = H at hP hS ⊢
              have hP : va_P (dC, dI) vwCl (([(mr 18, .inl (kT, 2000, .inr (.inr (.inr (.inr fyz0))))), (mr 7, .inl (kI, 3002, .inl fe)), (mr 0, .inl (kI, 3000, .inl ft)), (mr 11, .inl (kM, 70, .inr (.inr (.inr (.inr fi))))), (m9, .inr (23, mT mr mv vf 3 (fa pp) (nI T) (nI im) (nI tmz0) xm (nI sc) (nI vm))), (mr 6, .inl (kI, 3002, .inl fa))] : va_W) ++ (sT Lz0 Fz0)) H := hP
              have hD : va_D A (([(mr 18, .inl (kT, 2000, .inr (.inr (.inr (.inr fyz0))))), (mr 7, .inl (kI, 3002, .inl fe)), (mr 0, .inl (kI, 3000, .inl ft)), (mr 11, .inl (kM, 70, .inr (.inr (.inr (.inr fi))))), (m9, .inr (23, mT mr mv vf 3 (fa pp) (nI T) (nI im) (nI tmz0) xm (nI sc) (nI vm))), (mr 6, .inl (kI, 3002, .inl fa))] : va_W) ++ (sT Lz0 Fz0)) := hD
              have hK : va_K (dC, dI) vwCl [(kI, .int), (kM, .object RX16), (kT, .object RX20), (kI, .int)] s := hK
              have hK := hK.sub (tys' := [(kI, .int), (kM, .object RX16), (kT, .object RX20)]) [0, 1, 2] rfl
              clear hz1 hk1 hPc hDc hKc hFc hP1 hD1 hK1
              obtain ⟨fq17, efq17⟩ : ∃ zZ : Int32, zZ = 3 := ⟨_, rfl⟩
              obtain ⟨fx17, efx17⟩ : ∃ zZ : Int32, zZ = fa pp := ⟨_, rfl⟩
              rw [← efx17] at hP hD
              have hhfq17 : fq17 ≠ 0 := by rw [efq17]; decide
              have hP : va_P (dC, dI) vwCl (([(mr 18, .inl (kT, 2000, .inr (.inr (.inr (.inr fyz0))))), (mr 7, .inl (kI, 3002, .inl fe)), (mr 0, .inl (kI, 3000, .inl ft)), (mr 11, .inl (kM, 70, .inr (.inr (.inr (.inr fi))))), (m9, .inr (23, mT mr mv vf fq17 fx17 (nI T) (nI im) (nI tmz0) xm (nI sc) (nI vm))), (mr 6, .inl (kI, 3002, .inl fa))] : va_W) ++ (sT Lz0 Fz0)) H := by rw [efq17]; exact hP
              have hD : va_D A (([(mr 18, .inl (kT, 2000, .inr (.inr (.inr (.inr fyz0))))), (mr 7, .inl (kI, 3002, .inl fe)), (mr 0, .inl (kI, 3000, .inl ft)), (mr 11, .inl (kM, 70, .inr (.inr (.inr (.inr fi))))), (m9, .inr (23, mT mr mv vf fq17 fx17 (nI T) (nI im) (nI tmz0) xm (nI sc) (nI vm))), (mr 6, .inl (kI, 3002, .inl fa))] : va_W) ++ (sT Lz0 Fz0)) := by rw [efq17]; exact hD
              clear efq17 efx17
              refine lv_aload_n hx hb dX23_resolve_192 rfl (lv_at hl 1 rfl) ?_
              refine W.grow (fun hgs0 hgs1 => ?_)
              have hP9 := hP.subT (f' := [(m9, .inr (23, mT mr mv vf fq17 fx17 (nI T) (nI im) (nI tmz0) xm (nI sc) (nI vm))), (mr 6, .inl (kI, 3002, .inl fa)), (mr 7, .inl (kI, 3002, .inl fe)), (mr 0, .inl (kI, 3000, .inl ft)), (mr 11, .inl (kM, 70, .inr (.inr (.inr (.inr fi))))), (mr 18, .inl (kT, 2000, .inr (.inr (.inr (.inr fyz0)))))]) [4, 5, 1, 2, 3, 0] rfl
              have hD9 := hD.subT (f' := [(m9, .inr (23, mT mr mv vf fq17 fx17 (nI T) (nI im) (nI tmz0) xm (nI sc) (nI vm))), (mr 6, .inl (kI, 3002, .inl fa)), (mr 7, .inl (kI, 3002, .inl fe)), (mr 0, .inl (kI, 3000, .inl ft)), (mr 11, .inl (kM, 70, .inr (.inr (.inr (.inr fi))))), (mr 18, .inl (kT, 2000, .inr (.inr (.inr (.inr fyz0)))))]) [4, 5, 1, 2, 3, 0] (by decide) rfl
              have hK9 := hK.sub (tys' := [(kI, .int), (kM, .object RX16), (kT, .object RX20)]) [0, 1, 2] rfl
              refine W.widen (k := (2 * (qq - pp) + 5)) (n := (8 * (qq - pp) + 20)) (by omega) (by omega) ?_
              exact W.aret hx hb hr (Or.inl ⟨_, rfl⟩) (Or.inr ⟨adz0 tz0, rfl⟩) (fun tS ht hW => ⟨⟨(), adz0 tz0, rfl, trivial, Lz0, Fz0, Gz0, tmz0, fyz0, Yz0, adz0, tz0, fq17, fx17, hf1_0, hf1_1, hf1_2, ⟨hf1_3.1, rfl⟩, ⟨by omega, by omega⟩, by rw [ht]; exact ⟨by omega, by omega⟩, by rw [ht]; exact hP9, va_K.moved hW.alike hK9, hD9⟩, hS.F ht⟩) hS.2.2 dX23_resolve_193
            · obtain ⟨ii, hii, eii⟩ : ∃ i : Nat, i < im ∧ r_14 = nI i := hin9.resolve_left (fun q9 => hq_15 (by rw [q9]; decide))
              refine lv_if_lt (tgt := 183) hx hb dX23_resolve_165 (by decide) (fun c_16 => absurd c_16 hq_15) (fun _ => ?_)
              subst eii
              have hl : lv_has ls 5 [(4, .int (nI ii)), (3, .ref (adz0 tz0)), (0, .ref m9), (1, .ref wr), (2, .int mb)] := hl
              obtain ⟨hx1, hx2, hx3, hx4, gs9, hg1, hg2, hg3⟩ := it_nm hf1_0 hii
              have him9 := hf1_0.2.2.1.1
              refine lv_aload_n hx hb dX23_resolve_168 rfl (lv_at hl 2 rfl) ?_
              refine va_get (D := (dC, dI)) (ci := 23) (v := .ref (mr 11)) (C := RX23) (T := TX23) (N := 89) hx hb hts in_c_res_X23 hown hK hP 1 rfl rfl 11 (by decide) (hts (.fieldLink RX23 232 "OwnedPlacesModel" "items" "[LOwnedPlacesModel$Item;") (wm_c_res 44 rfl)) (fun _ h9 => h9) rfl dX23_resolve_169 ?_
              refine lv_iload hx hb dX23_resolve_172 (lv_at hl 0 rfl) ?_
              refine va_aldq hx hb hK hP 5 1 rfl rfl (vp_in_nI (show ii < 70 by omega) (by decide)) dX23_resolve_174 ?_
              refine W.eq (g2 := F0 m 175 ls (.ref (xI ii) :: [])) (by show F0 m _ ls (va_rf _ :: _) = _; rw [nI_clamp (show ii < 2 ^ 31 by omega), hx3]; rfl) ?_
              refine va_get (D := (dC, dI)) (ci := 16) (v := .int (ik ii)) (C := RX16) (T := TX16) (N := 22) hx hb hts in_c_res_X16 hown hK (va_P.st hP hx1 hg1) 0 rfl rfl 2 (by decide) (hts (.fieldLink RX23 174 "OwnedPlacesModel$Item" "kind" "I") (wm_c_res 55 rfl)) (fun _ h9 => h9) hg3 dX23_resolve_175 ?_
              refine lv_bipush (v := 12) hx hb dX23_resolve_178 (by decide) ?_
              by_cases hik_17 : ik ii = 12
              · refine lv_icmp_ne (tgt := 194) hx hb dX23_resolve_180 (by decide) (fun c_18 => absurd c_18 (fun q9 => q9 hik_17)) (fun _ => ?_)
                refine lv_aload_n hx hb dX23_resolve_183 rfl (lv_at hl 2 rfl) ?_
                refine lv_iconst (v := 3) hx hb dX23_resolve_184 (by decide) ?_
                refine lv_aload_n hx hb dX23_resolve_185 rfl (lv_at hl 3 rfl) ?_
                refine va_get (D := (dC, dI)) (ci := 22) (v := .int (nI pp)) (C := RX22) (T := TX22) (N := 5) hx hb hts in_c_res_X22 hown hK (va_P.st hP hwm hF8) 0 rfl rfl 1 (by decide) (hts (.fieldLink RX23 113 "OwnedPlacesModel$Written" "token" "I") (wm_c_res 34 rfl)) (fun _ h9 => h9) hv1 dX23_resolve_186 ?_
                have hPc := hP.subF (f' := [(m9, .inr (23, mT mr mv vf 0 xa (nI T) (nI im) (nI tmz0) xm (nI sc) (nI vm))), (mr 6, .inl (kI, 3002, .inl fa))]) [1, 2] rfl
                have hDc := hD.subF (f' := [(m9, .inr (23, mT mr mv vf 0 xa (nI T) (nI im) (nI tmz0) xm (nI sc) (nI vm))), (mr 6, .inl (kI, 3002, .inl fa))]) [1, 2] (by decide) rfl
                have hKc := hK.sub (tys' := [(kI, .int)]) [0] rfl
                have hFc := va_freeT (wc := [(m9, .inr (23, mT mr mv vf 0 xa (nI T) (nI im) (nI tmz0) xm (nI sc) (nI vm))), (mr 6, .inl (kI, 3002, .inl fa))]) hD hS hA [1, 2] rfl
                refine va_callv (va_runV (As := [.int 3, .int (nI pp)]) (rest := []) ⟨hx, hb, hml, hown, hts⟩ (c_tfa0 l dC dI m9 mr mv vf xa xm T im tmz0 sc vm kI fa 3 pp H.size (by omega)) (cwV 2 hts g_c_res_c_tfa0_189 rfl rfl rfl (by decide +kernel) ⟨by show 0 + 1 ≤ 4 + 1 * k; omega, by show 8 + (3 + 11) + (0) ≤ 77 + 24 * k; omega⟩) ⟨fun a U g mk q => by obtain ⟨q0, q1, qP, qK, qD⟩ := q; exact ⟨q0, q1, qP, va_K.moved (u := U) (U := U.calling g mk a) (Vm.Alike.refl U.vm) qK, qD⟩, va_recv hKc hPc (ci := 23) (q0 := 0) rfl rfl, fun U hU hW => ⟨rfl, by rw [hU], by rw [hU]; exact hPc, va_K.moved hW.alike hKc, hDc.weaken (fun _ _ _ _ => trivial)⟩⟩ rfl rfl hl.1 rfl (lv_room (Nat.le_of_ble_eq_true rfl)) dX23_resolve_189 ⟨(show (tmz0 - tm) + 0 ≤ (2 * (qq - pp) + 5) by omega), (show 4 * (tmz0 - tm) + 0 ≤ (8 * (qq - pp) + 20) by omega)⟩) hS (fun q _ h => hFc q h) hFc (fun u tS H1 locs ht hvm hw hB hz1 hk1 hS => ?_)
                obtain ⟨hP1, hK1, hD1⟩ := hB
                rw [ht] at hP1
                have hK1 := va_K.moved hvm.symm hK1
                obtain ⟨hP, hD⟩ := va_joinT (wr := [(mr 18, .inl (kT, 2000, .inr (.inr (.inr (.inr fyz0))))), (mr 7, .inl (kI, 3002, .inl fe)), (mr 0, .inl (kI, 3000, .inl ft)), (mr 11, .inl (kM, 70, .inr (.inr (.inr (.inr fi)))))]) (w1 := [(m9, .inr (23, mT mr mv vf 3 (fa pp) (nI T) (nI im) (nI tmz0) xm (nI sc) (nI vm))), (mr 6, .inl (kI, 3002, .inl fa))]) hP hD [1, 2] [0, 3, 4, 5] rfl rfl (by decide) (by decide) hk1 hFc hP1 hD1
                have hK := hK.app hK1
                generalize H1 = H at hP hS ⊢
                have hP : va_P (dC, dI) vwCl (([(mr 18, .inl (kT, 2000, .inr (.inr (.inr (.inr fyz0))))), (mr 7, .inl (kI, 3002, .inl fe)), (mr 0, .inl (kI, 3000, .inl ft)), (mr 11, .inl (kM, 70, .inr (.inr (.inr (.inr fi))))), (m9, .inr (23, mT mr mv vf 3 (fa pp) (nI T) (nI im) (nI tmz0) xm (nI sc) (nI vm))), (mr 6, .inl (kI, 3002, .inl fa))] : va_W) ++ (sT Lz0 Fz0)) H := hP
                have hD : va_D A (([(mr 18, .inl (kT, 2000, .inr (.inr (.inr (.inr fyz0))))), (mr 7, .inl (kI, 3002, .inl fe)), (mr 0, .inl (kI, 3000, .inl ft)), (mr 11, .inl (kM, 70, .inr (.inr (.inr (.inr fi))))), (m9, .inr (23, mT mr mv vf 3 (fa pp) (nI T) (nI im) (nI tmz0) xm (nI sc) (nI vm))), (mr 6, .inl (kI, 3002, .inl fa))] : va_W) ++ (sT Lz0 Fz0)) := hD
                have hK : va_K (dC, dI) vwCl [(kI, .int), (kM, .object RX16), (kT, .object RX20), (kI, .int)] s := hK
                have hK := hK.sub (tys' := [(kI, .int), (kM, .object RX16), (kT, .object RX20)]) [0, 1, 2] rfl
                clear hz1 hk1 hPc hDc hKc hFc hP1 hD1 hK1
                obtain ⟨fq19, efq19⟩ : ∃ zZ : Int32, zZ = 3 := ⟨_, rfl⟩
                obtain ⟨fx19, efx19⟩ : ∃ zZ : Int32, zZ = fa pp := ⟨_, rfl⟩
                rw [← efx19] at hP hD
                have hhfq19 : fq19 ≠ 0 := by rw [efq19]; decide
                have hP : va_P (dC, dI) vwCl (([(mr 18, .inl (kT, 2000, .inr (.inr (.inr (.inr fyz0))))), (mr 7, .inl (kI, 3002, .inl fe)), (mr 0, .inl (kI, 3000, .inl ft)), (mr 11, .inl (kM, 70, .inr (.inr (.inr (.inr fi))))), (m9, .inr (23, mT mr mv vf fq19 fx19 (nI T) (nI im) (nI tmz0) xm (nI sc) (nI vm))), (mr 6, .inl (kI, 3002, .inl fa))] : va_W) ++ (sT Lz0 Fz0)) H := by rw [efq19]; exact hP
                have hD : va_D A (([(mr 18, .inl (kT, 2000, .inr (.inr (.inr (.inr fyz0))))), (mr 7, .inl (kI, 3002, .inl fe)), (mr 0, .inl (kI, 3000, .inl ft)), (mr 11, .inl (kM, 70, .inr (.inr (.inr (.inr fi))))), (m9, .inr (23, mT mr mv vf fq19 fx19 (nI T) (nI im) (nI tmz0) xm (nI sc) (nI vm))), (mr 6, .inl (kI, 3002, .inl fa))] : va_W) ++ (sT Lz0 Fz0)) := by rw [efq19]; exact hD
                clear efq19 efx19
                refine lv_aload_n hx hb dX23_resolve_192 rfl (lv_at hl 1 rfl) ?_
                refine W.grow (fun hgs0 hgs1 => ?_)
                have hP9 := hP.subT (f' := [(m9, .inr (23, mT mr mv vf fq19 fx19 (nI T) (nI im) (nI tmz0) xm (nI sc) (nI vm))), (mr 6, .inl (kI, 3002, .inl fa)), (mr 7, .inl (kI, 3002, .inl fe)), (mr 0, .inl (kI, 3000, .inl ft)), (mr 11, .inl (kM, 70, .inr (.inr (.inr (.inr fi))))), (mr 18, .inl (kT, 2000, .inr (.inr (.inr (.inr fyz0)))))]) [4, 5, 1, 2, 3, 0] rfl
                have hD9 := hD.subT (f' := [(m9, .inr (23, mT mr mv vf fq19 fx19 (nI T) (nI im) (nI tmz0) xm (nI sc) (nI vm))), (mr 6, .inl (kI, 3002, .inl fa)), (mr 7, .inl (kI, 3002, .inl fe)), (mr 0, .inl (kI, 3000, .inl ft)), (mr 11, .inl (kM, 70, .inr (.inr (.inr (.inr fi))))), (mr 18, .inl (kT, 2000, .inr (.inr (.inr (.inr fyz0)))))]) [4, 5, 1, 2, 3, 0] (by decide) rfl
                have hK9 := hK.sub (tys' := [(kI, .int), (kM, .object RX16), (kT, .object RX20)]) [0, 1, 2] rfl
                refine W.widen (k := (2 * (qq - pp) + 5)) (n := (8 * (qq - pp) + 20)) (by omega) (by omega) ?_
                exact W.aret hx hb hr (Or.inl ⟨_, rfl⟩) (Or.inr ⟨adz0 tz0, rfl⟩) (fun tS ht hW => ⟨⟨(), adz0 tz0, rfl, trivial, Lz0, Fz0, Gz0, tmz0, fyz0, Yz0, adz0, tz0, fq19, fx19, hf1_0, hf1_1, hf1_2, ⟨hf1_3.1, rfl⟩, ⟨by omega, by omega⟩, by rw [ht]; exact ⟨by omega, by omega⟩, by rw [ht]; exact hP9, va_K.moved hW.alike hK9, hD9⟩, hS.F ht⟩) hS.2.2 dX23_resolve_193
              · refine lv_icmp_ne (tgt := 194) hx hb dX23_resolve_180 (by decide) (fun _ => ?_) (fun c_18 => absurd c_18 hik_17)
                refine lv_aload_n hx hb dX23_resolve_194 rfl (lv_at hl 2 rfl) ?_
                refine lv_aload_n hx hb dX23_resolve_195 rfl (lv_at hl 2 rfl) ?_
                refine va_get (D := (dC, dI)) (ci := 23) (v := .ref (mr 11)) (C := RX23) (T := TX23) (N := 89) hx hb hts in_c_res_X23 hown hK hP 1 rfl rfl 11 (by decide) (hts (.fieldLink RX23 232 "OwnedPlacesModel" "items" "[LOwnedPlacesModel$Item;") (wm_c_res 44 rfl)) (fun _ h9 => h9) rfl dX23_resolve_196 ?_
                refine lv_iload hx hb dX23_resolve_199 (lv_at hl 0 rfl) ?_
                refine va_aldq hx hb hK hP 5 1 rfl rfl (vp_in_nI (show ii < 70 by omega) (by decide)) dX23_resolve_201 ?_
                refine W.eq (g2 := F0 m 202 ls (.ref (xI ii) :: [.ref m9])) (by show F0 m _ ls (va_rf _ :: _) = _; rw [nI_clamp (show ii < 2 ^ 31 by omega), hx3]; rfl) ?_
                refine va_get (D := (dC, dI)) (ci := 16) (v := .int (ik ii)) (C := RX16) (T := TX16) (N := 22) hx hb hts in_c_res_X16 hown hK (va_P.st hP hx1 hg1) 0 rfl rfl 2 (by decide) (hts (.fieldLink RX23 174 "OwnedPlacesModel$Item" "kind" "I") (wm_c_res 55 rfl)) (fun _ h9 => h9) hg3 dX23_resolve_202 ?_
                refine lv_bipush (v := 10) hx hb dX23_resolve_205 (by decide) ?_
                by_cases hik_19 : ik ii = 10
                · refine lv_icmp_ne (tgt := 214) hx hb dX23_resolve_207 (by decide) (fun c_20 => absurd c_20 (fun q9 => q9 hik_19)) (fun _ => ?_)
                  refine lv_iconst (v := 3) hx hb dX23_resolve_210 (by decide) ?_
                  refine lv_goto (tgt := 215) hx hb dX23_resolve_211 (by decide) ?_
                  refine lv_iload hx hb dX23_resolve_215 (lv_at hl 0 rfl) ?_
                  refine lv_null hx hb dX23_resolve_217 ?_
                  have hPc := hP.subT (f' := [(m9, .inr (23, mT mr mv vf 0 xa (nI T) (nI im) (nI tmz0) xm (nI sc) (nI vm))), (mr 18, .inl (kT, 2000, .inr (.inr (.inr (.inr fyz0)))))]) [1, 0] rfl
                  have hDc := hD.subT (f' := [(m9, .inr (23, mT mr mv vf 0 xa (nI T) (nI im) (nI tmz0) xm (nI sc) (nI vm))), (mr 18, .inl (kT, 2000, .inr (.inr (.inr (.inr fyz0)))))]) [1, 0] (by decide) rfl
                  have hKc := hK.sub (tys' := [(kT, .object RX20)]) [2] rfl
                  have hFc := va_freeB (wc := [(m9, .inr (23, mT mr mv vf 0 xa (nI T) (nI im) (nI tmz0) xm (nI sc) (nI vm))), (mr 18, .inl (kT, 2000, .inr (.inr (.inr (.inr fyz0)))))]) hD hS hA [1, 0] rfl
                  refine W.grow (fun hgs0 hgs1 => ?_)
                  refine va_callr (va_runV (As := [.int 3, .int (nI ii), .null]) (rest := []) ⟨hx, hb, hml, hown, hts⟩ (c_typN l dC dI m9 mr mv vf 0 xa xm T im tmz0 sc vm kI Lz0 Fz0 kT fyz0 Yz0 adz0 3 (nI ii) (slN H) H.size (tyW_rl hf1_0.2.1 hf1_0.2.2.2.1) (by have := ptN_ge (Y := Yz0) (tm := tmz0); omega)) (cwV 3 hts g_c_res_c_typN_218 rfl rfl rfl (by decide +kernel) ⟨by show 2 + 1 ≤ 4 + 1 * k; omega, by show 8 + (5 + 11) + (32) ≤ 77 + 24 * k; omega⟩) ⟨fun a U g mk q => by obtain ⟨q0, q1, qP, qK, qD, qx0, qx1⟩ := q; exact ⟨q0, q1, qP, va_K.moved (u := U) (U := U.calling g mk a) (Vm.Alike.refl U.vm) qK, qD, nsM.same (u := U) (U := U.calling g mk a) rfl qx0, qx1⟩, va_recv hKc hPc (ci := 23) (q0 := 0) rfl rfl, fun U hU hW => ⟨rfl, by rw [hU], by rw [hU]; exact hPc, va_K.moved hW.alike hKc, hDc.weaken (fun _ _ _ _ => trivial), nsM.warm hW hns, by rw [hU]⟩⟩ rfl rfl hl.1 rfl (lv_room (Nat.le_of_ble_eq_true rfl)) dX23_resolve_218 ⟨(show (tmz0 - tm) + 1 ≤ (2 * (qq - pp) + 5) by omega), (show 4 * (tmz0 - tm) + 4 ≤ (8 * (qq - pp) + 20) by omega)⟩) hS (fun q _ h => hFc q h) hFc (fun u r_21 tS H1 locs ht hvm hw hB hz1 hk1 hS => ?_)
                  obtain ⟨Lz20, Fz20, tmz20, fyz20, Yz20, adz20, tz20, hf21_0, hf21_1, hf21_2, hf21_3, hf21_4, hf21_5, hf21_6, hP1, hK1, hD1⟩ := hB
                  rw [ht] at hP1
                  have hK1 := va_K.moved hvm.symm hK1
                  rw [ht] at hf21_6
                  have hgz : H1.size ≤ s.heap.size + (((tmz0 - tm) + (tmz20 - tmz0))) ∧ slN H1 ≤ slN s.heap + ((4 * (tmz0 - tm) + 4 * (tmz20 - tmz0))) := ⟨by have := hf21_6.1; omega, by have := hf21_6.2; omega⟩
                  obtain ⟨hP, hD⟩ := va_joinB (wr := [(mr 6, .inl (kI, 3002, .inl fa)), (mr 7, .inl (kI, 3002, .inl fe)), (mr 0, .inl (kI, 3000, .inl ft)), (mr 11, .inl (kM, 70, .inr (.inr (.inr (.inr fi)))))]) (w1 := [(m9, .inr (23, mT mr mv vf 0 xa (nI T) (nI im) (nI tmz20) xm (nI sc) (nI vm))), (mr 18, .inl (kT, 2000, .inr (.inr (.inr (.inr fyz20)))))]) hP hD [1, 0] [2, 3, 4, 5] rfl rfl (by decide) (by decide) hk1 hFc hP1 hD1
                  have hK := hK.app hK1
                  generalize H1 = H at hP hS hgz ⊢
                  have hP : va_P (dC, dI) vwCl (([(mr 6, .inl (kI, 3002, .inl fa)), (mr 7, .inl (kI, 3002, .inl fe)), (mr 0, .inl (kI, 3000, .inl ft)), (mr 11, .inl (kM, 70, .inr (.inr (.inr (.inr fi))))), (m9, .inr (23, mT mr mv vf 0 xa (nI T) (nI im) (nI tmz20) xm (nI sc) (nI vm))), (mr 18, .inl (kT, 2000, .inr (.inr (.inr (.inr fyz20)))))] : va_W) ++ (sT Lz20 Fz20)) H := hP
                  have hD : va_D A (([(mr 6, .inl (kI, 3002, .inl fa)), (mr 7, .inl (kI, 3002, .inl fe)), (mr 0, .inl (kI, 3000, .inl ft)), (mr 11, .inl (kM, 70, .inr (.inr (.inr (.inr fi))))), (m9, .inr (23, mT mr mv vf 0 xa (nI T) (nI im) (nI tmz20) xm (nI sc) (nI vm))), (mr 18, .inl (kT, 2000, .inr (.inr (.inr (.inr fyz20)))))] : va_W) ++ (sT Lz20 Fz20)) := hD
                  have hK : va_K (dC, dI) vwCl [(kI, .int), (kM, .object RX16), (kT, .object RX20), (kT, .object RX20)] s := hK
                  have hK := hK.sub (tys' := [(kI, .int), (kM, .object RX16), (kT, .object RX20)]) [0, 1, 2] rfl
                  refine W.tight (k := ((tmz0 - tm) + (tmz20 - tmz0))) (n := (4 * (tmz0 - tm) + 4 * (tmz20 - tmz0))) hgz.1 hgz.2 ?_
                  clear hz1 hk1 hPc hDc hKc hFc hP1 hD1 hK1
                  have hgz20 := tgd_ty hf1_0 hf21_0 hf21_1 hf21_2 hf21_3 ⟨hf21_4.1, hf21_4.2.2⟩ (Or.inr (Or.inl ⟨rfl, ⟨ii, hii, rfl, hik_19⟩, rfl⟩))
                  have htm21 := (hgz20.2).2.1
                  have hpt21 := hf21_5.1
                  obtain rfl : r_21 = adz20 tz20 := hf21_4.2.1
                  refine W.grow (fun hgs0 hgs1 => ?_)
                  have hP9 := hP.subT (f' := [(m9, .inr (23, mT mr mv vf 0 xa (nI T) (nI im) (nI tmz20) xm (nI sc) (nI vm))), (mr 6, .inl (kI, 3002, .inl fa)), (mr 7, .inl (kI, 3002, .inl fe)), (mr 0, .inl (kI, 3000, .inl ft)), (mr 11, .inl (kM, 70, .inr (.inr (.inr (.inr fi))))), (mr 18, .inl (kT, 2000, .inr (.inr (.inr (.inr fyz20)))))]) [4, 0, 1, 2, 3, 5] rfl
                  have hD9 := hD.subT (f' := [(m9, .inr (23, mT mr mv vf 0 xa (nI T) (nI im) (nI tmz20) xm (nI sc) (nI vm))), (mr 6, .inl (kI, 3002, .inl fa)), (mr 7, .inl (kI, 3002, .inl fe)), (mr 0, .inl (kI, 3000, .inl ft)), (mr 11, .inl (kM, 70, .inr (.inr (.inr (.inr fi))))), (mr 18, .inl (kT, 2000, .inr (.inr (.inr (.inr fyz20)))))]) [4, 0, 1, 2, 3, 5] (by decide) rfl
                  have hK9 := hK.sub (tys' := [(kI, .int), (kM, .object RX16), (kT, .object RX20)]) [0, 1, 2] rfl
                  refine W.widen (k := (2 * (qq - pp) + 5)) (n := (8 * (qq - pp) + 20)) (by omega) (by omega) ?_
                  exact W.aret hx hb hr (Or.inl ⟨_, rfl⟩) (Or.inr ⟨adz20 tz20, rfl⟩) (fun tS ht hW => ⟨⟨(), adz20 tz20, rfl, trivial, Lz20, Fz20, (grG Lz0 Gz0 Fz20), tmz20, fyz20, Yz20, adz20, tz20, 0, xa, hgz20.1, (hf1_1).tr hgz20.2, (hf1_2).tr hf21_0, ⟨hf21_4.1, rfl⟩, ⟨by omega, by omega⟩, by rw [ht]; exact ⟨by omega, by omega⟩, by rw [ht]; exact hP9, va_K.moved hW.alike hK9, hD9⟩, hS.F ht⟩) hS.2.2 dX23_resolve_221
                · refine lv_icmp_ne (tgt := 214) hx hb dX23_resolve_207 (by decide) (fun _ => ?_) (fun c_20 => absurd c_20 hik_19)
                  have hik11 : ik ii = 11 := (hx4.resolve_left hik_19).resolve_right hik_17
                  refine lv_iconst (v := 4) hx hb dX23_resolve_214 (by decide) ?_
                  refine lv_iload hx hb dX23_resolve_215 (lv_at hl 0 rfl) ?_
                  refine lv_null hx hb dX23_resolve_217 ?_
                  have hPc := hP.subT (f' := [(m9, .inr (23, mT mr mv vf 0 xa (nI T) (nI im) (nI tmz0) xm (nI sc) (nI vm))), (mr 18, .inl (kT, 2000, .inr (.inr (.inr (.inr fyz0)))))]) [1, 0] rfl
                  have hDc := hD.subT (f' := [(m9, .inr (23, mT mr mv vf 0 xa (nI T) (nI im) (nI tmz0) xm (nI sc) (nI vm))), (mr 18, .inl (kT, 2000, .inr (.inr (.inr (.inr fyz0)))))]) [1, 0] (by decide) rfl
                  have hKc := hK.sub (tys' := [(kT, .object RX20)]) [2] rfl
                  have hFc := va_freeB (wc := [(m9, .inr (23, mT mr mv vf 0 xa (nI T) (nI im) (nI tmz0) xm (nI sc) (nI vm))), (mr 18, .inl (kT, 2000, .inr (.inr (.inr (.inr fyz0)))))]) hD hS hA [1, 0] rfl
                  refine W.grow (fun hgs0 hgs1 => ?_)
                  refine va_callr (va_runV (As := [.int 4, .int (nI ii), .null]) (rest := []) ⟨hx, hb, hml, hown, hts⟩ (c_typN l dC dI m9 mr mv vf 0 xa xm T im tmz0 sc vm kI Lz0 Fz0 kT fyz0 Yz0 adz0 4 (nI ii) (slN H) H.size (tyW_rl hf1_0.2.1 hf1_0.2.2.2.1) (by have := ptN_ge (Y := Yz0) (tm := tmz0); omega)) (cwV 3 hts g_c_res_c_typN_218 rfl rfl rfl (by decide +kernel) ⟨by show 2 + 1 ≤ 4 + 1 * k; omega, by show 8 + (5 + 11) + (32) ≤ 77 + 24 * k; omega⟩) ⟨fun a U g mk q => by obtain ⟨q0, q1, qP, qK, qD, qx0, qx1⟩ := q; exact ⟨q0, q1, qP, va_K.moved (u := U) (U := U.calling g mk a) (Vm.Alike.refl U.vm) qK, qD, nsM.same (u := U) (U := U.calling g mk a) rfl qx0, qx1⟩, va_recv hKc hPc (ci := 23) (q0 := 0) rfl rfl, fun U hU hW => ⟨rfl, by rw [hU], by rw [hU]; exact hPc, va_K.moved hW.alike hKc, hDc.weaken (fun _ _ _ _ => trivial), nsM.warm hW hns, by rw [hU]⟩⟩ rfl rfl hl.1 rfl (lv_room (Nat.le_of_ble_eq_true rfl)) dX23_resolve_218 ⟨(show (tmz0 - tm) + 1 ≤ (2 * (qq - pp) + 5) by omega), (show 4 * (tmz0 - tm) + 4 ≤ (8 * (qq - pp) + 20) by omega)⟩) hS (fun q _ h => hFc q h) hFc (fun u r_21 tS H1 locs ht hvm hw hB hz1 hk1 hS => ?_)
                  obtain ⟨Lz20, Fz20, tmz20, fyz20, Yz20, adz20, tz20, hf21_0, hf21_1, hf21_2, hf21_3, hf21_4, hf21_5, hf21_6, hP1, hK1, hD1⟩ := hB
                  rw [ht] at hP1
                  have hK1 := va_K.moved hvm.symm hK1
                  rw [ht] at hf21_6
                  have hgz : H1.size ≤ s.heap.size + (((tmz0 - tm) + (tmz20 - tmz0))) ∧ slN H1 ≤ slN s.heap + ((4 * (tmz0 - tm) + 4 * (tmz20 - tmz0))) := ⟨by have := hf21_6.1; omega, by have := hf21_6.2; omega⟩
                  obtain ⟨hP, hD⟩ := va_joinB (wr := [(mr 6, .inl (kI, 3002, .inl fa)), (mr 7, .inl (kI, 3002, .inl fe)), (mr 0, .inl (kI, 3000, .inl ft)), (mr 11, .inl (kM, 70, .inr (.inr (.inr (.inr fi)))))]) (w1 := [(m9, .inr (23, mT mr mv vf 0 xa (nI T) (nI im) (nI tmz20) xm (nI sc) (nI vm))), (mr 18, .inl (kT, 2000, .inr (.inr (.inr (.inr fyz20)))))]) hP hD [1, 0] [2, 3, 4, 5] rfl rfl (by decide) (by decide) hk1 hFc hP1 hD1
                  have hK := hK.app hK1
                  generalize H1 = H at hP hS hgz ⊢
                  have hP : va_P (dC, dI) vwCl (([(mr 6, .inl (kI, 3002, .inl fa)), (mr 7, .inl (kI, 3002, .inl fe)), (mr 0, .inl (kI, 3000, .inl ft)), (mr 11, .inl (kM, 70, .inr (.inr (.inr (.inr fi))))), (m9, .inr (23, mT mr mv vf 0 xa (nI T) (nI im) (nI tmz20) xm (nI sc) (nI vm))), (mr 18, .inl (kT, 2000, .inr (.inr (.inr (.inr fyz20)))))] : va_W) ++ (sT Lz20 Fz20)) H := hP
                  have hD : va_D A (([(mr 6, .inl (kI, 3002, .inl fa)), (mr 7, .inl (kI, 3002, .inl fe)), (mr 0, .inl (kI, 3000, .inl ft)), (mr 11, .inl (kM, 70, .inr (.inr (.inr (.inr fi))))), (m9, .inr (23, mT mr mv vf 0 xa (nI T) (nI im) (nI tmz20) xm (nI sc) (nI vm))), (mr 18, .inl (kT, 2000, .inr (.inr (.inr (.inr fyz20)))))] : va_W) ++ (sT Lz20 Fz20)) := hD
                  have hK : va_K (dC, dI) vwCl [(kI, .int), (kM, .object RX16), (kT, .object RX20), (kT, .object RX20)] s := hK
                  have hK := hK.sub (tys' := [(kI, .int), (kM, .object RX16), (kT, .object RX20)]) [0, 1, 2] rfl
                  refine W.tight (k := ((tmz0 - tm) + (tmz20 - tmz0))) (n := (4 * (tmz0 - tm) + 4 * (tmz20 - tmz0))) hgz.1 hgz.2 ?_
                  clear hz1 hk1 hPc hDc hKc hFc hP1 hD1 hK1
                  have hgz20 := tgd_ty hf1_0 hf21_0 hf21_1 hf21_2 hf21_3 ⟨hf21_4.1, hf21_4.2.2⟩ (Or.inr (Or.inr (Or.inl ⟨rfl, ⟨ii, hii, rfl, hik11⟩, rfl⟩)))
                  have htm21 := (hgz20.2).2.1
                  have hpt21 := hf21_5.1
                  obtain rfl : r_21 = adz20 tz20 := hf21_4.2.1
                  refine W.grow (fun hgs0 hgs1 => ?_)
                  have hP9 := hP.subT (f' := [(m9, .inr (23, mT mr mv vf 0 xa (nI T) (nI im) (nI tmz20) xm (nI sc) (nI vm))), (mr 6, .inl (kI, 3002, .inl fa)), (mr 7, .inl (kI, 3002, .inl fe)), (mr 0, .inl (kI, 3000, .inl ft)), (mr 11, .inl (kM, 70, .inr (.inr (.inr (.inr fi))))), (mr 18, .inl (kT, 2000, .inr (.inr (.inr (.inr fyz20)))))]) [4, 0, 1, 2, 3, 5] rfl
                  have hD9 := hD.subT (f' := [(m9, .inr (23, mT mr mv vf 0 xa (nI T) (nI im) (nI tmz20) xm (nI sc) (nI vm))), (mr 6, .inl (kI, 3002, .inl fa)), (mr 7, .inl (kI, 3002, .inl fe)), (mr 0, .inl (kI, 3000, .inl ft)), (mr 11, .inl (kM, 70, .inr (.inr (.inr (.inr fi))))), (mr 18, .inl (kT, 2000, .inr (.inr (.inr (.inr fyz20)))))]) [4, 0, 1, 2, 3, 5] (by decide) rfl
                  have hK9 := hK.sub (tys' := [(kI, .int), (kM, .object RX16), (kT, .object RX20)]) [0, 1, 2] rfl
                  refine W.widen (k := (2 * (qq - pp) + 5)) (n := (8 * (qq - pp) + 20)) (by omega) (by omega) ?_
                  exact W.aret hx hb hr (Or.inl ⟨_, rfl⟩) (Or.inr ⟨adz20 tz20, rfl⟩) (fun tS ht hW => ⟨⟨(), adz20 tz20, rfl, trivial, Lz20, Fz20, (grG Lz0 Gz0 Fz20), tmz20, fyz20, Yz20, adz20, tz20, 0, xa, hgz20.1, (hf1_1).tr hgz20.2, (hf1_2).tr hf21_0, ⟨hf21_4.1, rfl⟩, ⟨by omega, by omega⟩, by rw [ht]; exact ⟨by omega, by omega⟩, by rw [ht]; exact hP9, va_K.moved hW.alike hK9, hD9⟩, hS.F ht⟩) hS.2.2 dX23_resolve_221
theorem all_rs (l : Launch) (dC : Nat → ClassId) (dI : Nat → Nat → Nat) : ∀ k : Nat, IH_rs l dC dI k
  | 0 => c_res l dC dI 0 (fun _ h => absurd h (by omega))
  | k + 1 => c_res l dC dI (k + 1) (fun k1 h => by obtain rfl : k = k1 := (by omega); exact all_rs l dC dI k)
theorem c_resA (l : Launch) (dC : Nat → ClassId) (dI : Nat → Nat → Nat) (k : Nat) : st_c_res l dC dI k := c_res l dC dI k (fun k1 _ => all_rs l dC dI k1)
