def wf_c_its : List Cond := [.code yX23_itemTypes cX23_itemTypes 4 none, .fieldLink RX23 174 "OwnedPlacesModel$Item" "kind" "I", .fieldLink RX23 139 "OwnedPlacesModel$Item" "many" "I", .code yX23_ok cX23_ok 1 (some .boolean), .fieldLink RX23 80 "OwnedPlacesModel" "fault" "I", .methodLink RX23 89 yX23_ok, .instanceMethod yX23_ok, .selects RX23 yX23_ok yX23_ok, .initialized RX23, .fieldLink RX23 175 "OwnedPlacesModel$Item" "types" "[LOwnedPlacesModel$Type;", .fieldLink RX23 153 "OwnedPlacesModel$Item" "written" "[LOwnedPlacesModel$Written;", .code yX23_resolve cX23_resolve 5 (some (.object "OwnedPlacesModel$Type")), .code yX23_plainType cX23_plainType 2 (some (.object "OwnedPlacesModel$Type")), .code yX23_type cX23_type 5 (some (.object "OwnedPlacesModel$Type")), .fieldLink RX23 382 "OwnedPlacesModel" "typeMany" "I", .fieldLink RX23 385 "OwnedPlacesModel" "types" "[LOwnedPlacesModel$Type;", .fieldLink RX23 386 "OwnedPlacesModel$Type" "kind" "I", .fieldLink RX23 387 "OwnedPlacesModel$Type" "index" "I", .fieldLink RX23 390 "OwnedPlacesModel$Type" "of" "LOwnedPlacesModel$Type;", .classLink RX23 164 RX20, .instantiable RX20 4, .initialized RX20, .code yX20_init cX20_init 1 none, .methodLink RX20 1 objectInit, .instanceMethod objectInit, .code objectInit ⟨#[0xb1]⟩ 1 none, .instanceMethod yX20_init, .fieldLink RX23 394 "OwnedPlacesModel$Type" "id" "I", .methodLink RX23 397 yX23_type, .instanceMethod yX23_type, .selects RX23 yX23_type yX23_type, .methodLink RX23 405 yX23_plainType, .instanceMethod yX23_plainType, .selects RX23 yX23_plainType yX23_plainType, .fieldLink RX23 116 "OwnedPlacesModel$Written" "kind" "I", .fieldLink RX23 135 "OwnedPlacesModel$Written" "of" "LOwnedPlacesModel$Written;", .methodLink RX23 409 yX23_resolve, .instanceMethod yX23_resolve, .selects RX23 yX23_resolve yX23_resolve, .fieldLink RX23 113 "OwnedPlacesModel$Written" "token" "I", .code yX23_fail cX23_fail 3 none, .fieldLink RX23 31 "OwnedPlacesModel" "tokenAt" "[I", .fieldLink RX23 83 "OwnedPlacesModel" "faultAt" "I", .methodLink RX23 96 yX23_fail, .instanceMethod yX23_fail, .selects RX23 yX23_fail yX23_fail, .fieldLink RX23 128 "OwnedPlacesModel$Written" "name" "I", .code yX23_itemNamed cX23_itemNamed 3 (some .int), .fieldLink RX23 221 "OwnedPlacesModel" "itemMany" "I", .fieldLink RX23 232 "OwnedPlacesModel" "items" "[LOwnedPlacesModel$Item;", .fieldLink RX23 176 "OwnedPlacesModel$Item" "name" "I", .code yX23_sameName cX23_sameName 5 (some .boolean), .fieldLink RX23 34 "OwnedPlacesModel" "tokenEnd" "[I", .fieldLink RX23 7 "OwnedPlacesModel" "text" "[I", .methodLink RX23 401 yX23_sameName, .instanceMethod yX23_sameName, .selects RX23 yX23_sameName yX23_sameName, .methodLink RX23 413 yX23_itemNamed, .instanceMethod yX23_itemNamed, .selects RX23 yX23_itemNamed yX23_itemNamed, .fieldLink RX23 147 "OwnedPlacesModel$Item" "names" "[I"]
def wp_c_its : List Cond := wf_c_its ++ (wsX160 ++ (wsX230 ++ (wsX200 ++ (wsX220 ++ []))))
theorem in_c_its_X16 : ∀ w ∈ wsX160, w ∈ wp_c_its := fun w h => List.mem_append_right _ (List.mem_append_left _ h)
theorem in_c_its_X23 : ∀ w ∈ wsX230, w ∈ wp_c_its := fun w h => List.mem_append_right _ (List.mem_append_right _ (List.mem_append_left _ h))
theorem in_c_its_X20 : ∀ w ∈ wsX200, w ∈ wp_c_its := fun w h => List.mem_append_right _ (List.mem_append_right _ (List.mem_append_right _ (List.mem_append_left _ h)))
theorem in_c_its_X22 : ∀ w ∈ wsX220, w ∈ wp_c_its := fun w h => List.mem_append_right _ (List.mem_append_right _ (List.mem_append_right _ (List.mem_append_right _ (List.mem_append_left _ h))))
theorem wg_c_its : wf_c_its.all goodWord = true := by decide +kernel
theorem wm_c_its (k : Nat) {w : Cond} (h : wp_c_its[k]? = some w) : w ∈ wp_c_its := List.mem_of_getElem? h
set_option maxRecDepth 20000 in
theorem g_c_its_c_tok0_25 : GoodIn wp_c_its (wsV RX23 89 RX23 yX23_ok wp_c_tok0) := goodIn_app (goodIn_f [.methodLink RX23 89 yX23_ok, .instanceMethod yX23_ok, .selects RX23 yX23_ok yX23_ok, .initialized RX23] [5, 6, 7, 8] rfl (by decide +kernel)) (goodIn_app (goodIn_f (wf_c_tok0) [3, 4] rfl wg_c_tok0) (goodIn_app (goodIn_sub in_c_its_X23 gd_X23) (goodIn_n)))
set_option maxRecDepth 20000 in
theorem g_c_its_c_res_109 : GoodIn wp_c_its (wsV RX23 409 RX23 yX23_resolve wp_c_res) := goodIn_app (goodIn_f [.methodLink RX23 409 yX23_resolve, .instanceMethod yX23_resolve, .selects RX23 yX23_resolve yX23_resolve, .initialized RX23] [36, 37, 38, 8] rfl (by decide +kernel)) (goodIn_app (goodIn_f (wf_c_res) [11, 12, 13, 14, 15, 16, 17, 18, 19, 20, 21, 22, 23, 24, 25, 26, 27, 28, 29, 30, 8, 31, 32, 33, 3, 4, 5, 6, 7, 34, 35, 36, 37, 38, 39, 40, 41, 42, 43, 44, 45, 46, 47, 48, 49, 50, 51, 52, 53, 54, 55, 56, 57, 58, 59, 1] rfl wg_c_res) (goodIn_app (goodIn_sub in_c_its_X23 gd_X23) (goodIn_app (goodIn_sub in_c_its_X20 gd_X20) (goodIn_app (goodIn_sub in_c_its_X22 gd_X22) (goodIn_app (goodIn_sub in_c_its_X16 gd_X16) (goodIn_n))))))
set_option maxRecDepth 20000 in
theorem g_c_its_c_tokB_25 : GoodIn wp_c_its (wsV RX23 89 RX23 yX23_ok wp_c_tok0) := goodIn_app (goodIn_f [.methodLink RX23 89 yX23_ok, .instanceMethod yX23_ok, .selects RX23 yX23_ok yX23_ok, .initialized RX23] [5, 6, 7, 8] rfl (by decide +kernel)) (goodIn_app (goodIn_f (wf_c_tok0) [3, 4] rfl wg_c_tok0) (goodIn_app (goodIn_sub in_c_its_X23 gd_X23) (goodIn_n)))
set_option maxRecDepth 20000 in
theorem g_c_its_c_resB_109 : GoodIn wp_c_its (wsV RX23 409 RX23 yX23_resolve wp_c_resB) := goodIn_app (goodIn_f [.methodLink RX23 409 yX23_resolve, .instanceMethod yX23_resolve, .selects RX23 yX23_resolve yX23_resolve, .initialized RX23] [36, 37, 38, 8] rfl (by decide +kernel)) (goodIn_app (goodIn_f (wf_c_resB) [11, 12, 13, 14, 15, 16, 17, 18, 19, 20, 21, 22, 23, 24, 25, 26, 27, 28, 29, 30, 8, 31, 32, 33, 3, 4, 5, 6, 7] rfl wg_c_resB) (goodIn_app (goodIn_sub in_c_its_X23 gd_X23) (goodIn_app (goodIn_sub in_c_its_X20 gd_X20) (goodIn_n))))
set_option maxRecDepth 20000 in
theorem g_c_its_c_sam_51 : GoodIn wp_c_its (wsV RX23 401 RX23 yX23_sameName wp_c_sam) := goodIn_app (goodIn_f [.methodLink RX23 401 yX23_sameName, .instanceMethod yX23_sameName, .selects RX23 yX23_sameName yX23_sameName, .initialized RX23] [54, 55, 56, 8] rfl (by decide +kernel)) (goodIn_app (goodIn_f (wf_c_sam) [51, 52, 41, 53] rfl wg_c_sam) (goodIn_app (goodIn_sub in_c_its_X23 gd_X23) (goodIn_n)))
set_option maxRecDepth 20000 in
theorem g_c_its_c_tfa0_65 : GoodIn wp_c_its (wsV RX23 96 RX23 yX23_fail wp_c_tfa0) := goodIn_app (goodIn_f [.methodLink RX23 96 yX23_fail, .instanceMethod yX23_fail, .selects RX23 yX23_fail yX23_fail, .initialized RX23] [43, 44, 45, 8] rfl (by decide +kernel)) (goodIn_app (goodIn_f (wf_c_tfa0) [40, 4, 41, 42] rfl wg_c_tfa0) (goodIn_app (goodIn_sub in_c_its_X23 gd_X23) (goodIn_n)))
set_option maxRecDepth 20000 in
theorem g_c_its_c_tfaB_65 : GoodIn wp_c_its (wsV RX23 96 RX23 yX23_fail wp_c_tfa0) := goodIn_app (goodIn_f [.methodLink RX23 96 yX23_fail, .instanceMethod yX23_fail, .selects RX23 yX23_fail yX23_fail, .initialized RX23] [43, 44, 45, 8] rfl (by decide +kernel)) (goodIn_app (goodIn_f (wf_c_tfa0) [40, 4, 41, 42] rfl wg_c_tfa0) (goodIn_app (goodIn_sub in_c_its_X23 gd_X23) (goodIn_n)))
set_option maxHeartbeats 4000000 in
set_option maxRecDepth 100000 in
theorem c_its (l : Launch) (dC : Nat → ClassId) (dI : Nat → Nat → Nat) (m9 : Nat) (mr : Nat → Nat) (mv : Nat → Int32) (vf : Value) (ff xa xm : Int32) (T im tm sc vm : Nat) (kI : ClassId) (fk fa fe ft : Nat → Int32) (zs : Nat) (L : List Nat) (F : Nat → va_E) (G : Nat → va_E) (kT : ClassId) (fy : Nat → Option Nat) (Y : Nat → Int32 × Int32 × Option Nat) (ad : Nat → Nat) (kE kS kB kA kV kW kP kM : ClassId) (fi : Nat → Option Nat) (xI ps ms : Nat → Nat) (ik : Nat → Int32) (qz : Nat) (ii : Nat) (sl : Nat) (sz : Nat) (htg : tgd L F G fk fa fe T zs kE kI kS kB kA kV kW kT kP fi im xI ps ms ik qz fy tm Y ad) (hii : ii < im) (hk10 : ik ii = 10) (hrw : rwT F G kT xI im tm ad) (hpt : ptN Y tm + (ms ii - ps ii) ≤ 1999) : Met l yX23_itemTypes wp_c_its ({ frames := 22, cells := (2 * (ms ii - ps ii) + 8), slots := (8 * (ms ii - ps ii) + 32), locals := 509 }) (va_Pc [.ref m9, .ref (xI ii)] (fun U => U.heap.size = sz ∧ va_P (dC, dI) vwCl (([(m9, .inr (23, mT mr mv vf 0 xa (nI T) (nI im) (nI tm) xm (nI sc) (nI vm))), (mr 6, .inl (kI, 3002, .inl fa)), (mr 7, .inl (kI, 3002, .inl fe)), (mr 0, .inl (kI, 3000, .inl ft)), (mr 11, .inl (kM, 70, .inr (.inr (.inr (.inr fi))))), (mr 18, .inl (kT, 2000, .inr (.inr (.inr (.inr fy)))))] : va_W) ++ (sT L F)) U.heap ∧ va_K (dC, dI) vwCl [(kI, .int), (kM, .object RX16), (kT, .object RX20), (kW, .object RX22)] U ∧ va_D (fun _ => True) (([(m9, .inr (23, mT mr mv vf 0 xa (nI T) (nI im) (nI tm) xm (nI sc) (nI vm))), (mr 6, .inl (kI, 3002, .inl fa)), (mr 7, .inl (kI, 3002, .inl fe)), (mr 0, .inl (kI, 3000, .inl ft)), (mr 11, .inl (kM, 70, .inr (.inr (.inr (.inr fi))))), (mr 18, .inl (kT, 2000, .inr (.inr (.inr (.inr fy)))))] : va_W) ++ (sT L F)) ∧ nsM U ∧ slN U.heap = sl)) (va_Qv (fun _ : Unit => True) (fun (_ : Unit) (tS : State) => ∃ (L2 : List Nat) (F2 : Nat → va_E) (G2 : Nat → va_E) (tm2 : Nat) (fy2 : Nat → Option Nat) (Y2 : Nat → Int32 × Int32 × Option Nat) (ad2 : Nat → Nat) (ff2 : Int32) (xa2 : Int32), (tgd L2 F2 G2 fk fa fe T zs kE kI kS kB kA kV kW kT kP fi im xI ps ms ik qz fy2 tm2 Y2 ad2) ∧ (tX L G tm Y ad L2 G2 tm2 Y2 ad2) ∧ (rwT F2 G2 kT xI im tm2 ad2) ∧ (mnF L F F2 kT) ∧ (∀ j : Nat, j < im → F2 (xI j) = F (xI j)) ∧ (ptN Y2 tm2 ≤ ptN Y tm + (ms ii - ps ii) ∧ tm2 ≤ tm + 2 * (ms ii - ps ii)) ∧ (ff2 = 0 → ∃ (fs : List Value) (mn ta : Nat), G2 (xI ii) = .inr (16, fs) ∧ fs[3]? = some (.int (nI mn)) ∧ fs[10]? = some (.ref ta) ∧ ta ∈ L2 ∧ rwF F2 kT ta mn) ∧ (tS.heap.size ≤ sz + ((tm2 - tm)) ∧ slN tS.heap ≤ sl + (4 * (tm2 - tm))) ∧ va_P (dC, dI) vwCl (([(m9, .inr (23, mT mr mv vf ff2 xa2 (nI T) (nI im) (nI tm2) xm (nI sc) (nI vm))), (mr 6, .inl (kI, 3002, .inl fa)), (mr 7, .inl (kI, 3002, .inl fe)), (mr 0, .inl (kI, 3000, .inl ft)), (mr 11, .inl (kM, 70, .inr (.inr (.inr (.inr fi))))), (mr 18, .inl (kT, 2000, .inr (.inr (.inr (.inr fy2)))))] : va_W) ++ (sT L2 F2)) tS.heap ∧ va_K (dC, dI) vwCl [(kI, .int), (kM, .object RX16), (kT, .object RX20), (kW, .object RX22)] tS ∧ va_D (va_A (([(m9, .inr (23, mT mr mv vf 0 xa (nI T) (nI im) (nI tm) xm (nI sc) (nI vm))), (mr 6, .inl (kI, 3002, .inl fa)), (mr 7, .inl (kI, 3002, .inl fe)), (mr 0, .inl (kI, 3000, .inl ft)), (mr 11, .inl (kM, 70, .inr (.inr (.inr (.inr fi))))), (mr 18, .inl (kT, 2000, .inr (.inr (.inr (.inr fy)))))] : va_W) ++ (sT L F)) sz) (([(m9, .inr (23, mT mr mv vf ff2 xa2 (nI T) (nI im) (nI tm2) xm (nI sc) (nI vm))), (mr 6, .inl (kI, 3002, .inl fa)), (mr 7, .inl (kI, 3002, .inl fe)), (mr 0, .inl (kI, 3000, .inl ft)), (mr 11, .inl (kM, 70, .inr (.inr (.inr (.inr fi))))), (mr 18, .inl (kT, 2000, .inr (.inr (.inr (.inr fy2)))))] : va_W) ++ (sT L2 F2))) (va_A (([(m9, .inr (23, mT mr mv vf 0 xa (nI T) (nI im) (nI tm) xm (nI sc) (nI vm))), (mr 6, .inl (kI, 3002, .inl fa)), (mr 7, .inl (kI, 3002, .inl fe)), (mr 0, .inl (kI, 3000, .inl ft)), (mr 11, .inl (kM, 70, .inr (.inr (.inr (.inr fi))))), (mr 18, .inl (kT, 2000, .inr (.inr (.inr (.inr fy)))))] : va_W) ++ (sT L F)) sz)) (2 * (ms ii - ps ii) + 8) (8 * (ms ii - ps ii) + 32) (va_A (([(m9, .inr (23, mT mr mv vf 0 xa (nI T) (nI im) (nI tm) xm (nI sc) (nI vm))), (mr 6, .inl (kI, 3002, .inl fa)), (mr 7, .inl (kI, 3002, .inl fe)), (mr 0, .inl (kI, 3000, .inl ft)), (mr 11, .inl (kM, 70, .inr (.inr (.inr (.inr fi))))), (mr 18, .inl (kT, 2000, .inr (.inr (.inr (.inr fy)))))] : va_W) ++ (sT L F)) sz) := by
  refine Met.ofW (cc := cX23_itemTypes) (maxL := 4) (ret := none) (by decide) rfl ?_
  intro p e s m args below meth c s₁ B hml hv
  obtain ⟨rfl, hsz, hP, hK, hD0, hpre0, hpre1⟩ := hv
  have hx := B.exec
  have hb := B.bytes
  have hr := B.returns
  have hts := atoms_spec (ws := wp_c_its) B.pre
  have hown : s.vm.findClass RX23 = some m.cls := findClass_of_methodNamed B.named
  have hlocks := B.notSynchronized
  subst hsz
  have hD := hD0.self (sz := s.heap.size)
  generalize hAe : va_A (([(m9, .inr (23, mT mr mv vf 0 xa (nI T) (nI im) (nI tm) xm (nI sc) (nI vm))), (mr 6, .inl (kI, 3002, .inl fa)), (mr 7, .inl (kI, 3002, .inl fe)), (mr 0, .inl (kI, 3000, .inl ft)), (mr 11, .inl (kM, 70, .inr (.inr (.inr (.inr fi))))), (mr 18, .inl (kT, 2000, .inr (.inr (.inr (.inr fy)))))] : va_W) ++ (sT L F)) s.heap.size = A at hD ⊢
  have hA : ∀ q : Nat, s.heap.size ≤ q → A q := fun q h => by rw [← hAe]; exact Or.inr h
  have hS : va_S A s.heap s.heap [] := va_S.rf
  have hP : va_P (dC, dI) vwCl (([(m9, .inr (23, mT mr mv vf 0 xa (nI T) (nI im) (nI tm) xm (nI sc) (nI vm))), (mr 6, .inl (kI, 3002, .inl fa)), (mr 7, .inl (kI, 3002, .inl fe)), (mr 0, .inl (kI, 3000, .inl ft)), (mr 11, .inl (kM, 70, .inr (.inr (.inr (.inr fi))))), (mr 18, .inl (kT, 2000, .inr (.inr (.inr (.inr fy)))))] : va_W) ++ (sT L F)) s.heap := hP
  have hl := lv_entry ([.ref m9, .ref (xI ii)]) (n := 4) (Nat.le_of_ble_eq_true rfl)
  rw [lg_entry_eq]
  generalize (lg_sl ([.ref m9, .ref (xI ii)]) ++ List.replicate (4 - (lg_sl ([.ref m9, .ref (xI ii)])).length) Slot.unset).toArray = ls at hl ⊢
  have hl : lv_has ls 4 [(0, .ref m9), (1, .ref (xI ii))] := hl
  have hns := hpre0
  subst hpre1
  have hT9 := tgd_T htg
  obtain ⟨mn, na, wa, ta, q9, g, f, fs, hG1, hG2, hG3, hG4, hG5, hG6, hmn, hna, hwa, hta, hGn, hgs, hGw, hch, hq9, hGt, htr⟩ := it_st htg hii hk10
  obtain ⟨ps9, hps0, hps1, hps2⟩ := hch
  have hxm : xI ii ∈ L := (it_nm htg hii).1
  obtain ⟨gs, hF1, hF2, hF3⟩ := rl_ob htg.2.1 hxm hG1
  obtain ⟨hq1, hq2, hq3⟩ := tgd_q htg hii
  have hmono : ∀ d k : Nat, k + d = mn → ps9 k ≤ q9 := fun d => by
    induction d with
    | zero => intro k e; rw [show k = mn by omega, hps1]; exact Nat.le_refl _
    | succ d ih => intro k e; obtain ⟨t, p2, q2, _, e2, e3, e4⟩ := hps2 k (by omega); have := isT_lt e4; have := ih (k + 1) (by omega); omega
  refine lv_aload_n hx hb dX23_itemTypes_0 rfl (lv_at hl 1 rfl) ?_
  refine va_get (D := (dC, dI)) (ci := 16) (v := .int (ik ii)) (C := RX16) (T := TX16) (N := 22) hx hb hts in_c_its_X16 hown hK (va_P.st hP hxm hF1) 0 rfl rfl 2 (by decide) (hts (.fieldLink RX23 174 "OwnedPlacesModel$Item" "kind" "I") (wm_c_its 1 rfl)) (fun _ h9 => h9) ((hF3 2 rfl).trans hG2) dX23_itemTypes_1 ?_
  refine lv_bipush (v := 12) hx hb dX23_itemTypes_4 (by decide) ?_
  refine lv_icmp_ne (tgt := 14) hx hb dX23_itemTypes_6 (by decide) (fun _ => ?_) (fun c_1 => absurd c_1 (fun q9 => absurd (hk10.symm.trans q9) (by decide)))
  refine lv_iconst (v := 0) hx hb dX23_itemTypes_14 (by decide) ?_
  refine lv_istore_n (lv' := [(2, .int 0), (0, .ref m9), (1, .ref (xI ii))]) hx hb dX23_itemTypes_15 rfl hl (by decide) rfl (fun ls hl => ?_)
  refine W_q (fun Q1 hQ1 => ?_)
  have key1 : ∀ (n1 : Nat) (i : Nat) (xa1 : Int32) (L1 : List Nat) (F1 G1 : Nat → va_E) (tm1 : Nat) (fy1 : Nat → Option Nat) (Y1 : Nat → Int32 × Int32 × Option Nat) (ad1 : Nat → Nat) (H : Heap) (locs : List Loc) (ls : Array Slot), (i + n1 = mn + 1 ∧ i ≤ mn) → (tgd L1 F1 G1 fk fa fe T zs kE kI kS kB kA kV kW kT kP fi im xI ps ms ik qz fy1 tm1 Y1 ad1) → (tX L G tm Y ad L1 G1 tm1 Y1 ad1) → (rwT F1 G1 kT xI im tm1 ad1) → (mnF L F F1 kT) → (∀ j : Nat, j < im → F1 (xI j) = F (xI j)) → (rwF F1 kT ta i) → (ptN Y1 tm1 + (ps ii + 1) ≤ ptN Y tm + ps9 i ∧ tm1 ≤ tm + 2 * (ps9 i - (ps ii + 1)) ∧ ps ii + 1 ≤ ps9 i) → va_P (dC, dI) vwCl (([(m9, .inr (23, mT mr mv vf 0 xa1 (nI T) (nI im) (nI tm1) xm (nI sc) (nI vm))), (mr 6, .inl (kI, 3002, .inl fa)), (mr 7, .inl (kI, 3002, .inl fe)), (mr 0, .inl (kI, 3000, .inl ft)), (mr 11, .inl (kM, 70, .inr (.inr (.inr (.inr fi))))), (mr 18, .inl (kT, 2000, .inr (.inr (.inr (.inr fy1)))))] : va_W) ++ (sT L1 F1)) H → va_D A (([(m9, .inr (23, mT mr mv vf 0 xa1 (nI T) (nI im) (nI tm1) xm (nI sc) (nI vm))), (mr 6, .inl (kI, 3002, .inl fa)), (mr 7, .inl (kI, 3002, .inl fe)), (mr 0, .inl (kI, 3000, .inl ft)), (mr 11, .inl (kM, 70, .inr (.inr (.inr (.inr fi))))), (mr 18, .inl (kT, 2000, .inr (.inr (.inr (.inr fy1)))))] : va_W) ++ (sT L1 F1)) → va_S A s.heap H locs → lv_has ls 4 [(2, .int (nI i)), (0, .ref m9), (1, .ref (xI ii))] → W p l e (headSpec wp_c_its ({ frames := 22, cells := (2 * (ms ii - ps ii) + 8), slots := (8 * (ms ii - ps ii) + 32), locals := 509 })).room s m ([.ref m9, .ref (xI ii)] : List Value).toArray below meth c H locs (tm1 - tm) (4 * (tm1 - tm)) Q1 (F0 m 16 ls []) := by
    intro n1
    induction n1 with
    | zero => intro i xa1 L1 F1 G1 tm1 fy1 Y1 ad1 H locs ls hr0 hr1 hr2 hr3 hr4 hr5 hr6 hr7; exact absurd hr0 (by omega)
    | succ n1 ih1 =>
      intro i xa1 L1 F1 G1 tm1 fy1 Y1 ad1 H locs ls hr0 hr1 hr2 hr3 hr4 hr5 hr6 hr7 hP hD hS hl
      have hmi9 := hmono (mn - i) i (by omega)
      have htm9 := hr2.2.1
      refine lv_iload_n hx hb dX23_itemTypes_16 rfl (lv_at hl 0 rfl) ?_
      refine lv_aload_n hx hb dX23_itemTypes_17 rfl (lv_at hl 2 rfl) ?_
      refine va_get (D := (dC, dI)) (ci := 16) (v := .int (nI mn)) (C := RX16) (T := TX16) (N := 22) hx hb hts in_c_its_X16 hown hK (va_P.st hP (hr2.1 _ hxm).1 ((hr5 ii hii).trans hF1)) 0 rfl rfl 3 (by decide) (hts (.fieldLink RX23 139 "OwnedPlacesModel$Item" "many" "I") (wm_c_its 2 rfl)) (fun _ h9 => h9) ((hF3 3 rfl).trans hG3) dX23_itemTypes_18 ?_
      refine lv_icmp_ge (tgt := 203) hx hb dX23_itemTypes_21 (by decide) (fun hk => ?_) (fun hk => ?_)
      · refine lv_aload_n hx hb dX23_itemTypes_203 rfl (lv_at hl 2 rfl) ?_
        refine va_get (D := (dC, dI)) (ci := 16) (v := .int (ik ii)) (C := RX16) (T := TX16) (N := 22) hx hb hts in_c_its_X16 hown hK (va_P.st hP (hr2.1 _ hxm).1 ((hr5 ii hii).trans hF1)) 0 rfl rfl 2 (by decide) (hts (.fieldLink RX23 174 "OwnedPlacesModel$Item" "kind" "I") (wm_c_its 1 rfl)) (fun _ h9 => h9) ((hF3 2 rfl).trans hG2) dX23_itemTypes_204 ?_
        refine lv_bipush (v := 12) hx hb dX23_itemTypes_207 (by decide) ?_
        refine lv_icmp_ne (tgt := 219) hx hb dX23_itemTypes_209 (by decide) (fun _ => ?_) (fun c_2 => absurd c_2 (fun q9 => absurd (hk10.symm.trans q9) (by decide)))
        have hend9 : i = mn := by have := (nI_leI (a := mn) (b := i) (by omega) (by omega)).mp hk; omega
        have hmn9 := hmono (mn - i) i (by omega)
        refine W.grow (fun hgs0 hgs1 => ?_)
        have hP9 := hP.subT (f' := [(m9, .inr (23, mT mr mv vf 0 xa1 (nI T) (nI im) (nI tm1) xm (nI sc) (nI vm))), (mr 6, .inl (kI, 3002, .inl fa)), (mr 7, .inl (kI, 3002, .inl fe)), (mr 0, .inl (kI, 3000, .inl ft)), (mr 11, .inl (kM, 70, .inr (.inr (.inr (.inr fi))))), (mr 18, .inl (kT, 2000, .inr (.inr (.inr (.inr fy1)))))]) [0, 1, 2, 3, 4, 5] rfl
        have hD9 := hD.subT (f' := [(m9, .inr (23, mT mr mv vf 0 xa1 (nI T) (nI im) (nI tm1) xm (nI sc) (nI vm))), (mr 6, .inl (kI, 3002, .inl fa)), (mr 7, .inl (kI, 3002, .inl fe)), (mr 0, .inl (kI, 3000, .inl ft)), (mr 11, .inl (kM, 70, .inr (.inr (.inr (.inr fi))))), (mr 18, .inl (kT, 2000, .inr (.inr (.inr (.inr fy1)))))]) [0, 1, 2, 3, 4, 5] (by decide) rfl
        have hK9 := hK.sub (tys' := [(kI, .int), (kM, .object RX16), (kT, .object RX20), (kW, .object RX22)]) [0, 1, 2, 3] rfl
        refine W.widen (k := (2 * (ms ii - ps ii) + 8)) (n := (8 * (ms ii - ps ii) + 32)) (by omega) (by omega) ?_
        subst hQ1
        exact W.vret hx hb hr (fun tS ht hW => ⟨⟨(), rfl, trivial, L1, F1, G1, tm1, fy1, Y1, ad1, 0, xa1, hr1, hr2, hr3, hr4, hr5, ⟨by omega, by omega⟩, (fun _ => ⟨fs, mn, ta, (hr2.1 _ hxm).2.trans hG1, hG3, hG6, (hr2.1 _ hta).1, by rw [← hend9]; exact hr6⟩), by rw [ht]; exact ⟨by omega, by omega⟩, by rw [ht]; exact hP9, va_K.moved hW.alike hK9, hD9⟩, hS.F ht⟩) hS.2.2 dX23_itemTypes_219
      · have hin_i : i < mn := by rcases Nat.lt_or_ge i (mn) with z9 | z9; exact z9; exact absurd (nI_le z9 (by omega)) hk
        refine lv_aload_n hx hb dX23_itemTypes_24 rfl (lv_at hl 1 rfl) ?_
        have hPc := hP.subF (f' := [(m9, .inr (23, mT mr mv vf 0 xa1 (nI T) (nI im) (nI tm1) xm (nI sc) (nI vm)))]) [0] rfl
        have hDc := hD.subF (f' := [(m9, .inr (23, mT mr mv vf 0 xa1 (nI T) (nI im) (nI tm1) xm (nI sc) (nI vm)))]) [0] (by decide) rfl
        have hKc := hK.sub (tys' := []) [] rfl
        have hFc := va_freeT (wc := [(m9, .inr (23, mT mr mv vf 0 xa1 (nI T) (nI im) (nI tm1) xm (nI sc) (nI vm)))]) hD hS hA [0] rfl
        refine va_calli (va_runV (As := []) (rest := []) ⟨hx, hb, hml, hown, hts⟩ (c_tok0 l dC dI m9 mr mv vf xa1 xm T im tm1 sc vm kI H.size) (cwV 0 hts g_c_its_c_tok0_25 rfl rfl rfl (by decide +kernel) ⟨Nat.le_of_ble_eq_true rfl, Nat.le_of_ble_eq_true rfl⟩) ⟨fun a U g mk q => by obtain ⟨q0, q1, qP, qK, qD⟩ := q; exact ⟨q0, q1, qP, va_K.moved (u := U) (U := U.calling g mk a) (Vm.Alike.refl U.vm) qK, qD⟩, va_recv hKc hPc (ci := 23) (q0 := 0) rfl rfl, fun U hU hW => ⟨rfl, by rw [hU], by rw [hU]; exact hPc, va_K.moved hW.alike hKc, hDc.weaken (fun _ _ _ _ => trivial)⟩⟩ rfl rfl hl.1 rfl (lv_room (Nat.le_of_ble_eq_true rfl)) dX23_itemTypes_25 ⟨(show (tm1 - tm) + 0 ≤ (2 * (ms ii - ps ii) + 8) by omega), (show (4 * (tm1 - tm)) + 0 ≤ (8 * (ms ii - ps ii) + 32) by omega)⟩) hS (fun q _ h => hFc q h) hFc (fun r_2 u tS H1 locs ht hvm hw hB hz1 hk1 hS => ?_)
        obtain ⟨hP1, hK1, hD1⟩ := hB
        rw [ht] at hP1
        have hK1 := va_K.moved hvm.symm hK1
        obtain ⟨hP, hD⟩ := va_joinT (wr := [(mr 6, .inl (kI, 3002, .inl fa)), (mr 7, .inl (kI, 3002, .inl fe)), (mr 0, .inl (kI, 3000, .inl ft)), (mr 11, .inl (kM, 70, .inr (.inr (.inr (.inr fi))))), (mr 18, .inl (kT, 2000, .inr (.inr (.inr (.inr fy1)))))]) (w1 := [(m9, .inr (23, mT mr mv vf 0 xa1 (nI T) (nI im) (nI tm1) xm (nI sc) (nI vm)))]) hP hD [0] [1, 2, 3, 4, 5] rfl rfl (by decide) (by decide) hk1 hFc hP1 hD1
        generalize H1 = H at hP hS ⊢
        have hP : va_P (dC, dI) vwCl (([(mr 6, .inl (kI, 3002, .inl fa)), (mr 7, .inl (kI, 3002, .inl fe)), (mr 0, .inl (kI, 3000, .inl ft)), (mr 11, .inl (kM, 70, .inr (.inr (.inr (.inr fi))))), (mr 18, .inl (kT, 2000, .inr (.inr (.inr (.inr fy1))))), (m9, .inr (23, mT mr mv vf 0 xa1 (nI T) (nI im) (nI tm1) xm (nI sc) (nI vm)))] : va_W) ++ (sT L1 F1)) H := hP
        have hD : va_D A (([(mr 6, .inl (kI, 3002, .inl fa)), (mr 7, .inl (kI, 3002, .inl fe)), (mr 0, .inl (kI, 3000, .inl ft)), (mr 11, .inl (kM, 70, .inr (.inr (.inr (.inr fi))))), (mr 18, .inl (kT, 2000, .inr (.inr (.inr (.inr fy1))))), (m9, .inr (23, mT mr mv vf 0 xa1 (nI T) (nI im) (nI tm1) xm (nI sc) (nI vm)))] : va_W) ++ (sT L1 F1)) := hD
        have hK : va_K (dC, dI) vwCl [(kI, .int), (kM, .object RX16), (kT, .object RX20), (kW, .object RX22)] s := hK
        clear hz1 hk1 hPc hDc hKc hFc hP1 hD1 hK1
        obtain rfl : r_2 = 1 := hw
        refine lv_if_eq (tgt := 203) hx hb dX23_itemTypes_28 (by decide) (fun c_3 => absurd c_3 (by decide)) (fun _ => ?_)
        refine lv_iconst (v := 0) hx hb dX23_itemTypes_31 (by decide) ?_
        refine lv_istore_n (lv' := [(3, .int 0), (2, .int (nI i)), (0, .ref m9), (1, .ref (xI ii))]) hx hb dX23_itemTypes_32 rfl hl (by decide) rfl (fun ls hl => ?_)
        have hFn : F1 na = .inl (kI, 13, .inl g) := by
          obtain ⟨s9, e1, e2, e3⟩ := hgs i hin_i
          exact rl_ri hr1.2.1 (hr2.1 _ hna).1 ((hr2.1 _ hna).2.trans hGn) e3
        have hnaL := (hr2.1 _ hna).1
        obtain ⟨s1, hs1, hs2, hs0⟩ := hgs i hin_i
        refine W_q (fun Q2 hQ2 => ?_)
        have key2 : ∀ (n2 : Nat) (j : Nat) (ff3 xa3 : Int32) (H : Heap) (locs : List Loc) (ls : Array Slot), (j + n2 = i + 1 ∧ j ≤ i) → va_P (dC, dI) vwCl (([(m9, .inr (23, mT mr mv vf ff3 xa3 (nI T) (nI im) (nI tm1) xm (nI sc) (nI vm))), (mr 6, .inl (kI, 3002, .inl fa)), (mr 7, .inl (kI, 3002, .inl fe)), (mr 0, .inl (kI, 3000, .inl ft)), (mr 11, .inl (kM, 70, .inr (.inr (.inr (.inr fi))))), (mr 18, .inl (kT, 2000, .inr (.inr (.inr (.inr fy1)))))] : va_W) ++ (sT L1 F1)) H → va_D A (([(m9, .inr (23, mT mr mv vf ff3 xa3 (nI T) (nI im) (nI tm1) xm (nI sc) (nI vm))), (mr 6, .inl (kI, 3002, .inl fa)), (mr 7, .inl (kI, 3002, .inl fe)), (mr 0, .inl (kI, 3000, .inl ft)), (mr 11, .inl (kM, 70, .inr (.inr (.inr (.inr fi))))), (mr 18, .inl (kT, 2000, .inr (.inr (.inr (.inr fy1)))))] : va_W) ++ (sT L1 F1)) → va_S A s.heap H locs → lv_has ls 4 [(3, .int (nI j)), (2, .int (nI i)), (0, .ref m9), (1, .ref (xI ii))] → W p l e (headSpec wp_c_its ({ frames := 22, cells := (2 * (ms ii - ps ii) + 8), slots := (8 * (ms ii - ps ii) + 32), locals := 509 })).room s m ([.ref m9, .ref (xI ii)] : List Value).toArray below meth c H locs (tm1 - tm) (4 * (tm1 - tm)) Q2 (F0 m 33 ls []) := by
          intro n2
          induction n2 with
          | zero => intro j ff3 xa3 H locs ls hs0; exact absurd hs0 (by omega)
          | succ n2 ih2 =>
            intro j ff3 xa3 H locs ls hs0 hP hD hS hl
            refine lv_iload_n hx hb dX23_itemTypes_33 rfl (lv_at hl 0 rfl) ?_
            refine lv_iload_n hx hb dX23_itemTypes_34 rfl (lv_at hl 1 rfl) ?_
            refine lv_icmp_ge (tgt := 74) hx hb dX23_itemTypes_35 (by decide) (fun hk2 => ?_) (fun hk2 => ?_)
            · refine lv_aload_n hx hb dX23_itemTypes_74 rfl (lv_at hl 3 rfl) ?_
              refine va_get (D := (dC, dI)) (ci := 16) (v := .int (ik ii)) (C := RX16) (T := TX16) (N := 22) hx hb hts in_c_its_X16 hown hK (va_P.st hP (hr2.1 _ hxm).1 ((hr5 ii hii).trans hF1)) 0 rfl rfl 2 (by decide) (hts (.fieldLink RX23 174 "OwnedPlacesModel$Item" "kind" "I") (wm_c_its 1 rfl)) (fun _ h9 => h9) ((hF3 2 rfl).trans hG2) dX23_itemTypes_75 ?_
              refine lv_bipush (v := 11) hx hb dX23_itemTypes_78 (by decide) ?_
              refine lv_icmp_eq (tgt := 142) hx hb dX23_itemTypes_80 (by decide) (fun c_4 => absurd c_4 (fun q9 => absurd (hk10.symm.trans q9) (by decide))) (fun _ => ?_)
              refine lv_aload_n hx hb dX23_itemTypes_83 rfl (lv_at hl 3 rfl) ?_
              refine va_get (D := (dC, dI)) (ci := 16) (v := .ref ta) (C := RX16) (T := TX16) (N := 22) hx hb hts in_c_its_X16 hown hK (va_P.st hP (hr2.1 _ hxm).1 ((hr5 ii hii).trans hF1)) 0 rfl rfl 10 (by decide) (hts (.fieldLink RX23 175 "OwnedPlacesModel$Item" "types" "[LOwnedPlacesModel$Type;") (wm_c_its 9 rfl)) (fun _ h9 => h9) ((hF3 10 rfl).trans hG6) dX23_itemTypes_84 ?_
              refine lv_iload_n hx hb dX23_itemTypes_87 rfl (lv_at hl 1 rfl) ?_
              refine lv_aload_n hx hb dX23_itemTypes_88 rfl (lv_at hl 2 rfl) ?_
              refine lv_aload_n hx hb dX23_itemTypes_89 rfl (lv_at hl 3 rfl) ?_
              refine va_get (D := (dC, dI)) (ci := 16) (v := .ref wa) (C := RX16) (T := TX16) (N := 22) hx hb hts in_c_its_X16 hown hK (va_P.st hP (hr2.1 _ hxm).1 ((hr5 ii hii).trans hF1)) 0 rfl rfl 9 (by decide) (hts (.fieldLink RX23 153 "OwnedPlacesModel$Item" "written" "[LOwnedPlacesModel$Written;") (wm_c_its 10 rfl)) (fun _ h9 => h9) ((hF3 9 rfl).trans hG5) dX23_itemTypes_90 ?_
              obtain ⟨tw, p2, q2, hw1, hw2, hw3, hw4⟩ := hps2 i hin_i
              refine lv_iload_n hx hb dX23_itemTypes_93 rfl (lv_at hl 1 rfl) ?_
              have hFw : F1 wa = .inl (kW, 13, .inr (.inr (.inr (.inr f)))) := rl_rr hr1.2.1 (hr2.1 _ hwa).1 ((hr2.1 _ hwa).2.trans hGw) hw1
              refine va_aldq hx hb hK (va_P.st hP (hr2.1 _ hwa).1 hFw) 0 3 rfl rfl (vp_in_nI (show i < 13 by omega) (by decide)) dX23_itemTypes_94 ?_
              refine W.eq (g2 := F0 m 95 ls (.ref tw :: [.ref m9, .int (nI i), .ref ta])) (by show F0 m _ ls (va_rf _ :: _) = _; rw [nI_clamp (show i < 2 ^ 31 by omega), hw1]; rfl) ?_
              refine lv_aload_n hx hb dX23_itemTypes_95 rfl (lv_at hl 3 rfl) ?_
              refine va_get (D := (dC, dI)) (ci := 16) (v := .int (ik ii)) (C := RX16) (T := TX16) (N := 22) hx hb hts in_c_its_X16 hown hK (va_P.st hP (hr2.1 _ hxm).1 ((hr5 ii hii).trans hF1)) 0 rfl rfl 2 (by decide) (hts (.fieldLink RX23 174 "OwnedPlacesModel$Item" "kind" "I") (wm_c_its 1 rfl)) (fun _ h9 => h9) ((hF3 2 rfl).trans hG2) dX23_itemTypes_96 ?_
              refine lv_bipush (v := 12) hx hb dX23_itemTypes_99 (by decide) ?_
              refine lv_icmp_ne (tgt := 108) hx hb dX23_itemTypes_101 (by decide) (fun _ => ?_) (fun c_5 => absurd c_5 (fun q9 => absurd (hk10.symm.trans q9) (by decide)))
              refine lv_iconst (v := 0) hx hb dX23_itemTypes_108 (by decide) ?_
              by_cases hz_6 : ff3 = 0
              · subst hz_6
                have hwl9 := isT_lt hw4
                have hmn9 := hmono (mn - (i + 1)) (i + 1) (by omega)
                have hPc := hP.subT (f' := [(m9, .inr (23, mT mr mv vf 0 xa3 (nI T) (nI im) (nI tm1) xm (nI sc) (nI vm))), (mr 6, .inl (kI, 3002, .inl fa)), (mr 7, .inl (kI, 3002, .inl fe)), (mr 0, .inl (kI, 3000, .inl ft)), (mr 11, .inl (kM, 70, .inr (.inr (.inr (.inr fi))))), (mr 18, .inl (kT, 2000, .inr (.inr (.inr (.inr fy1)))))]) [0, 1, 2, 3, 4, 5] rfl
                have hDc := hD.subT (f' := [(m9, .inr (23, mT mr mv vf 0 xa3 (nI T) (nI im) (nI tm1) xm (nI sc) (nI vm))), (mr 6, .inl (kI, 3002, .inl fa)), (mr 7, .inl (kI, 3002, .inl fe)), (mr 0, .inl (kI, 3000, .inl ft)), (mr 11, .inl (kM, 70, .inr (.inr (.inr (.inr fi))))), (mr 18, .inl (kT, 2000, .inr (.inr (.inr (.inr fy1)))))]) [0, 1, 2, 3, 4, 5] (by decide) rfl
                have hKc := hK.sub (tys' := [(kI, .int), (kM, .object RX16), (kT, .object RX20)]) [0, 1, 2] rfl
                have hFc := va_freeB (wc := [(m9, .inr (23, mT mr mv vf 0 xa3 (nI T) (nI im) (nI tm1) xm (nI sc) (nI vm))), (mr 6, .inl (kI, 3002, .inl fa)), (mr 7, .inl (kI, 3002, .inl fe)), (mr 0, .inl (kI, 3000, .inl ft)), (mr 11, .inl (kM, 70, .inr (.inr (.inr (.inr fi))))), (mr 18, .inl (kT, 2000, .inr (.inr (.inr (.inr fy1)))))]) hD hS hA [0, 1, 2, 3, 4, 5] rfl
                refine W.grow (fun hgs0 hgs1 => ?_)
                refine va_callr (va_runV (As := [.ref tw, .int 0]) (rest := [.int (nI i), .ref ta]) ⟨hx, hb, hml, hown, hts⟩ (c_resA l dC dI 17 m9 mr mv vf 0 xa3 xm T im tm1 sc vm kI fk fa fe ft zs L1 F1 G1 kT fy1 Y1 ad1 kE kS kB kA kV kW kP kM fi xI ps ms ik qz tw p2 q2 0 (slN H) H.size hr1 (isT_ex hr2.1 hw4) (by omega) (by omega)) (cwV 2 hts g_c_its_c_res_109 rfl rfl rfl (by decide +kernel) ⟨by show 4 + 1 * 17 + 1 ≤ 22; omega, by show 8 + (5 + 11) + (77 + 24 * 17) ≤ 509; omega⟩) ⟨fun a U g mk q => by obtain ⟨q0, q1, qP, qK, qD, qx0, qx1⟩ := q; exact ⟨q0, q1, qP, va_K.moved (u := U) (U := U.calling g mk a) (Vm.Alike.refl U.vm) qK, qD, nsM.same (u := U) (U := U.calling g mk a) rfl qx0, qx1⟩, va_recv hKc hPc (ci := 23) (q0 := 0) rfl rfl, fun U hU hW => ⟨rfl, by rw [hU], by rw [hU]; exact hPc, va_K.moved hW.alike hKc, hDc.weaken (fun _ _ _ _ => trivial), nsM.warm hW hns, by rw [hU]⟩⟩ rfl rfl hl.1 rfl (lv_room (Nat.le_of_ble_eq_true rfl)) dX23_itemTypes_109 ⟨(show (tm1 - tm) + (2 * (q2 - p2) + 5) ≤ (2 * (ms ii - ps ii) + 8) by omega), (show (4 * (tm1 - tm)) + (8 * (q2 - p2) + 20) ≤ (8 * (ms ii - ps ii) + 32) by omega)⟩) hS (fun q _ h => hFc q h) hFc (fun u r_7 tS H1 locs ht hvm hw hB hz1 hk1 hS => ?_)
                obtain ⟨Lz6, Fz6, Gz6, tmz6, fyz6, Yz6, adz6, tz6, ffz6, xaz6, hf7_0, hf7_1, hf7_2, hf7_3, hf7_4, hf7_5, hP1, hK1, hD1⟩ := hB
                rw [ht] at hP1
                have hK1 := va_K.moved hvm.symm hK1
                rw [ht] at hf7_5
                have hgz : H1.size ≤ s.heap.size + (((tm1 - tm) + (tmz6 - tm1))) ∧ slN H1 ≤ slN s.heap + (((4 * (tm1 - tm)) + 4 * (tmz6 - tm1))) := ⟨by have := hf7_5.1; omega, by have := hf7_5.2; omega⟩
                obtain ⟨hP, hD⟩ := va_joinB (wr := []) (w1 := [(m9, .inr (23, mT mr mv vf ffz6 xaz6 (nI T) (nI im) (nI tmz6) xm (nI sc) (nI vm))), (mr 6, .inl (kI, 3002, .inl fa)), (mr 7, .inl (kI, 3002, .inl fe)), (mr 0, .inl (kI, 3000, .inl ft)), (mr 11, .inl (kM, 70, .inr (.inr (.inr (.inr fi))))), (mr 18, .inl (kT, 2000, .inr (.inr (.inr (.inr fyz6)))))]) hP hD [0, 1, 2, 3, 4, 5] [] rfl rfl (by decide) (by decide) hk1 hFc hP1 hD1
                have hK := hK.app hK1
                generalize H1 = H at hP hS hgz ⊢
                have hP : va_P (dC, dI) vwCl (([(m9, .inr (23, mT mr mv vf ffz6 xaz6 (nI T) (nI im) (nI tmz6) xm (nI sc) (nI vm))), (mr 6, .inl (kI, 3002, .inl fa)), (mr 7, .inl (kI, 3002, .inl fe)), (mr 0, .inl (kI, 3000, .inl ft)), (mr 11, .inl (kM, 70, .inr (.inr (.inr (.inr fi))))), (mr 18, .inl (kT, 2000, .inr (.inr (.inr (.inr fyz6)))))] : va_W) ++ (sT Lz6 Fz6)) H := hP
                have hD : va_D A (([(m9, .inr (23, mT mr mv vf ffz6 xaz6 (nI T) (nI im) (nI tmz6) xm (nI sc) (nI vm))), (mr 6, .inl (kI, 3002, .inl fa)), (mr 7, .inl (kI, 3002, .inl fe)), (mr 0, .inl (kI, 3000, .inl ft)), (mr 11, .inl (kM, 70, .inr (.inr (.inr (.inr fi))))), (mr 18, .inl (kT, 2000, .inr (.inr (.inr (.inr fyz6)))))] : va_W) ++ (sT Lz6 Fz6)) := hD
                have hK : va_K (dC, dI) vwCl [(kI, .int), (kM, .object RX16), (kT, .object RX20), (kW, .object RX22), (kI, .int), (kM, .object RX16), (kT, .object RX20)] s := hK
                have hK := hK.sub (tys' := [(kI, .int), (kM, .object RX16), (kT, .object RX20), (kW, .object RX22)]) [0, 1, 2, 3] rfl
                refine W.tight (k := ((tm1 - tm) + (tmz6 - tm1))) (n := ((4 * (tm1 - tm)) + 4 * (tmz6 - tm1))) hgz.1 hgz.2 ?_
                clear hz1 hk1 hPc hDc hKc hFc hP1 hD1 hK1
                have htm7 := (hf7_1).2.1
                have hpt7 := hf7_4
                obtain rfl : r_7 = adz6 tz6 := hf7_3.2
                obtain ⟨f8, hFt⟩ := rl_rb hf7_0.2.1 (hf7_1.1 _ (hr2.1 _ hta).1).1 ((hf7_1.1 _ (hr2.1 _ hta).1).2.trans ((hr2.1 _ hta).2.trans hGt))
                have htL := (hf7_1.1 _ (hr2.1 _ hta).1).1
                obtain ⟨hy1, hy2, hy3, hy4⟩ := hf7_0.2.2.2.1.1 tz6 hf7_3.1
                have hyF := rl_st hf7_0.2.1 hy2 hy3 mtF_20
                have hmv : adz6 tz6 ∈ Lz6.erase ta := mem_er (F := Fz6) hy2 (by rw [hyF, hFt]; exact fun q => by cases q)
                have hP := va_P.fo hP htL hFt
                have hD := va_D.fo hD htL hFt
                have hP : va_P (dC, dI) vwCl (([(m9, .inr (23, mT mr mv vf ffz6 xaz6 (nI T) (nI im) (nI tmz6) xm (nI sc) (nI vm))), (mr 6, .inl (kI, 3002, .inl fa)), (mr 7, .inl (kI, 3002, .inl fe)), (mr 0, .inl (kI, 3000, .inl ft)), (mr 11, .inl (kM, 70, .inr (.inr (.inr (.inr fi))))), (mr 18, .inl (kT, 2000, .inr (.inr (.inr (.inr fyz6))))), (ta, .inl (kT, 13, .inr (.inr (.inr (.inr f8)))))] : va_W) ++ (sT (Lz6.erase ta) Fz6)) H := hP
                have hD : va_D A (([(m9, .inr (23, mT mr mv vf ffz6 xaz6 (nI T) (nI im) (nI tmz6) xm (nI sc) (nI vm))), (mr 6, .inl (kI, 3002, .inl fa)), (mr 7, .inl (kI, 3002, .inl fe)), (mr 0, .inl (kI, 3000, .inl ft)), (mr 11, .inl (kM, 70, .inr (.inr (.inr (.inr fi))))), (mr 18, .inl (kT, 2000, .inr (.inr (.inr (.inr fyz6))))), (ta, .inl (kT, 13, .inr (.inr (.inr (.inr f8)))))] : va_W) ++ (sT (Lz6.erase ta) Fz6)) := hD
                have hob9 : oN 20 (Lz6.erase ta) Fz6 (adz6 tz6) := ⟨hmv, _, hyF⟩
                obtain ⟨vs9, hvs9⟩ := (hob9).2
                obtain ⟨qk9, hqk9⟩ := List.mem_iff_getElem?.mp (List.mem_append_right ([(m9, .inr (23, mT mr mv vf ffz6 xaz6 (nI T) (nI im) (nI tmz6) xm (nI sc) (nI vm))), (mr 6, .inl (kI, 3002, .inl fa)), (mr 7, .inl (kI, 3002, .inl fe)), (mr 0, .inl (kI, 3000, .inl ft)), (mr 11, .inl (kM, 70, .inr (.inr (.inr (.inr fi))))), (mr 18, .inl (kT, 2000, .inr (.inr (.inr (.inr fyz6))))), (ta, .inl (kT, 13, .inr (.inr (.inr (.inr f8)))))]) (sT_mem (F := Fz6) (hob9).1))
                rw [hvs9] at hqk9
                refine va_astq (r := (RX20, TX20, 4)) hx hb hK hP hD hS 6 2 qk9 20 rfl rfl hqk9 rfl (vp_in_nI (show i < 13 by omega) (by decide)) dX23_itemTypes_112 (fun H locs hP hD hS => ?_)
                have hP : va_P (dC, dI) vwCl (([(m9, .inr (23, mT mr mv vf ffz6 xaz6 (nI T) (nI im) (nI tmz6) xm (nI sc) (nI vm))), (mr 6, .inl (kI, 3002, .inl fa)), (mr 7, .inl (kI, 3002, .inl fe)), (mr 0, .inl (kI, 3000, .inl ft)), (mr 11, .inl (kM, 70, .inr (.inr (.inr (.inr fi))))), (mr 18, .inl (kT, 2000, .inr (.inr (.inr (.inr fyz6))))), (ta, .inl (kT, 13, .inr (.inr (.inr (.inr (va_up f8 (nI i : Int32).toNatClampNeg (some (adz6 tz6))))))))] : va_W) ++ (sT (Lz6.erase ta) Fz6)) H := hP
                have hD : va_D A (([(m9, .inr (23, mT mr mv vf ffz6 xaz6 (nI T) (nI im) (nI tmz6) xm (nI sc) (nI vm))), (mr 6, .inl (kI, 3002, .inl fa)), (mr 7, .inl (kI, 3002, .inl fe)), (mr 0, .inl (kI, 3000, .inl ft)), (mr 11, .inl (kM, 70, .inr (.inr (.inr (.inr fi))))), (mr 18, .inl (kT, 2000, .inr (.inr (.inr (.inr fyz6))))), (ta, .inl (kT, 13, .inr (.inr (.inr (.inr (va_up f8 (nI i : Int32).toNatClampNeg (some (adz6 tz6))))))))] : va_W) ++ (sT (Lz6.erase ta) Fz6)) := hD
                obtain ⟨fZ, efZ⟩ : ∃ zZ : Nat → Option Nat, zZ = va_up f8 (nI i : Int32).toNatClampNeg (some (adz6 tz6)) := ⟨_, rfl⟩
                rw [← efZ] at hP hD
                have hfZ : fZ = va_up f8 i (some (adz6 tz6)) := by rw [efZ, nI_clamp (by omega)]
                rw [hfZ] at hP hD
                have hP : va_P (dC, dI) vwCl (([(m9, .inr (23, mT mr mv vf ffz6 xaz6 (nI T) (nI im) (nI tmz6) xm (nI sc) (nI vm))), (mr 6, .inl (kI, 3002, .inl fa)), (mr 7, .inl (kI, 3002, .inl fe)), (mr 0, .inl (kI, 3000, .inl ft)), (mr 11, .inl (kM, 70, .inr (.inr (.inr (.inr fi))))), (mr 18, .inl (kT, 2000, .inr (.inr (.inr (.inr fyz6)))))] : va_W) ++ (sT Lz6 (updE Fz6 ta (.inl (kT, 13, .inr (.inr (.inr (.inr (va_up f8 i (some (adz6 tz6))))))))))) H := va_P.bk htL hP
                have hD : va_D A (([(m9, .inr (23, mT mr mv vf ffz6 xaz6 (nI T) (nI im) (nI tmz6) xm (nI sc) (nI vm))), (mr 6, .inl (kI, 3002, .inl fa)), (mr 7, .inl (kI, 3002, .inl fe)), (mr 0, .inl (kI, 3000, .inl ft)), (mr 11, .inl (kM, 70, .inr (.inr (.inr (.inr fi))))), (mr 18, .inl (kT, 2000, .inr (.inr (.inr (.inr fyz6)))))] : va_W) ++ (sT Lz6 (updE Fz6 ta (.inl (kT, 13, .inr (.inr (.inr (.inr (va_up f8 i (some (adz6 tz6))))))))))) := va_D.bk htL hD
                obtain ⟨Fz7, eFz7⟩ : ∃ zZ : Nat → va_E, zZ = updE Fz6 ta (.inl (kT, 13, .inr (.inr (.inr (.inr (va_up f8 i (some (adz6 tz6)))))))) := ⟨_, rfl⟩
                rw [← eFz7] at hP hD
                have hP : va_P (dC, dI) vwCl (([(m9, .inr (23, mT mr mv vf ffz6 xaz6 (nI T) (nI im) (nI tmz6) xm (nI sc) (nI vm))), (mr 6, .inl (kI, 3002, .inl fa)), (mr 7, .inl (kI, 3002, .inl fe)), (mr 0, .inl (kI, 3000, .inl ft)), (mr 11, .inl (kM, 70, .inr (.inr (.inr (.inr fi))))), (mr 18, .inl (kT, 2000, .inr (.inr (.inr (.inr fyz6)))))] : va_W) ++ (sT Lz6 Fz7)) H := hP
                have hD : va_D A (([(m9, .inr (23, mT mr mv vf ffz6 xaz6 (nI T) (nI im) (nI tmz6) xm (nI sc) (nI vm))), (mr 6, .inl (kI, 3002, .inl fa)), (mr 7, .inl (kI, 3002, .inl fe)), (mr 0, .inl (kI, 3000, .inl ft)), (mr 11, .inl (kM, 70, .inr (.inr (.inr (.inr fi))))), (mr 18, .inl (kT, 2000, .inr (.inr (.inr (.inr fyz6)))))] : va_W) ++ (sT Lz6 Fz7)) := hD
                have htgN : tgd Lz6 Fz7 Gz6 fk fa fe T zs kE kI kS kB kA kV kW kT kP fi im xI ps ms ik qz fyz6 tmz6 Yz6 adz6 := by rw [eFz7]; exact tgd_up hf7_0 (cs_ro ((hf7_1.1 _ (hr2.1 _ hta).1).2.trans ((hr2.1 _ hta).2.trans hGt)) (fun _ => rfl))
                have hrwN : rwT Fz7 Gz6 kT xI im tmz6 adz6 := by rw [eFz7]; exact rwT_up (rwT_gr hr3 (trow_gr hr1.2.2.1 hf7_1.1) hf7_2 hf7_1) hFt (trow_ex hr1.2.2.1 hf7_1.1 (trow_ex htg.2.2.1 hr2.1 htr)) hf7_3.1
                have hmnN : mnF L F Fz7 kT := by rw [eFz7]; exact (hr4.tr (fun a h => (hr2.1 a h).1) (mnF_ex hf7_2)).tr (fun a h => (hf7_1.1 a (hr2.1 a h).1).1) (fun a _ n q => rwF_up q hFt)
                have hitN : ∀ j : Nat, j < im → Fz7 (xI j) = F (xI j) := fun j hj => by
                  have h7 := (hr5 j hj)
                  have h8 : xI j ∈ L1 := (it_nm hr1 hj).1
                  rw [eFz7, updE_n (fun e9 => by obtain ⟨_, _, _, _, gs7, h9, _⟩ := it_nm hf7_0 hj; rw [e9, hFt] at h9; cases h9), (hf7_2 _ h8).2, h7]
                have hrfN : rwF Fz7 kT ta (i + 1) := by rw [eFz7]; exact rwF_one (rwF_ex hf7_2 (hr2.1 _ hta).1 hr6) hFt (by omega)
                refine lv_aload_n hx hb dX23_itemTypes_113 rfl (lv_at hl 3 rfl) ?_
                refine va_get (D := (dC, dI)) (ci := 16) (v := .int (ik ii)) (C := RX16) (T := TX16) (N := 22) hx hb hts in_c_its_X16 hown hK (va_P.st hP (hf7_1.1 _ (hr2.1 _ hxm).1).1 ((hitN ii hii).trans hF1)) 0 rfl rfl 2 (by decide) (hts (.fieldLink RX23 174 "OwnedPlacesModel$Item" "kind" "I") (wm_c_its 1 rfl)) (fun _ h9 => h9) ((hF3 2 rfl).trans hG2) dX23_itemTypes_114 ?_
                refine lv_bipush (v := 12) hx hb dX23_itemTypes_117 (by decide) ?_
                refine lv_icmp_ne (tgt := 197) hx hb dX23_itemTypes_119 (by decide) (fun _ => ?_) (fun c_8 => absurd c_8 (fun q9 => absurd (hk10.symm.trans q9) (by decide)))
                by_cases hz_9 : ffz6 = 0
                · subst hz_9
                  obtain ⟨x_10, ex_10⟩ : ∃ yY : Int32, yY = (nI i) + 1 := ⟨_, rfl⟩
                  refine lv_iinc (v := x_10) (lv' := [(2, .int x_10), (3, .int (nI j)), (0, .ref m9), (1, .ref (xI ii))]) hx hb dX23_itemTypes_197 hl (k := 1) rfl (by rw [ex_10]; rfl) (by decide) rfl (fun ls hl => ?_)
                  obtain rfl : x_10 = nI (i + 1) := by rw [ex_10]; exact nI_1 i
                  have hl : lv_has ls 4 [(2, .int (nI (i + 1))), (3, .int (nI j)), (0, .ref m9), (1, .ref (xI ii))] := hl
                  refine lv_goto (tgt := 16) hx hb dX23_itemTypes_200 (by decide) ?_
                  subst hQ2
                  refine W.widen (k := (tmz6 - tm)) (n := (4 * (tmz6 - tm))) (by omega) (by omega) ?_
                  exact ih1 (i + 1) xaz6 Lz6 Fz7 Gz6 tmz6 fyz6 Yz6 adz6 _ _ _ (by omega) htgN (hr2.tr hf7_1) hrwN hmnN hitN hrfN (⟨by omega, by omega, by omega⟩) (hP.subT [0, 1, 2, 3, 4, 5] rfl) (hD.subT [0, 1, 2, 3, 4, 5] (by decide) rfl) hS (lv_sub hl [0, 2, 3] rfl)
                · obtain ⟨x_10, ex_10⟩ : ∃ yY : Int32, yY = (nI i) + 1 := ⟨_, rfl⟩
                  refine lv_iinc (v := x_10) (lv' := [(2, .int x_10), (3, .int (nI j)), (0, .ref m9), (1, .ref (xI ii))]) hx hb dX23_itemTypes_197 hl (k := 1) rfl (by rw [ex_10]; rfl) (by decide) rfl (fun ls hl => ?_)
                  obtain rfl : x_10 = nI (i + 1) := by rw [ex_10]; exact nI_1 i
                  have hl : lv_has ls 4 [(2, .int (nI (i + 1))), (3, .int (nI j)), (0, .ref m9), (1, .ref (xI ii))] := hl
                  refine lv_goto (tgt := 16) hx hb dX23_itemTypes_200 (by decide) ?_
                  refine lv_iload_n hx hb dX23_itemTypes_16 rfl (lv_at hl 0 rfl) ?_
                  refine lv_aload_n hx hb dX23_itemTypes_17 rfl (lv_at hl 3 rfl) ?_
                  refine va_get (D := (dC, dI)) (ci := 16) (v := .int (nI mn)) (C := RX16) (T := TX16) (N := 22) hx hb hts in_c_its_X16 hown hK (va_P.st hP (hf7_1.1 _ (hr2.1 _ hxm).1).1 ((hitN ii hii).trans hF1)) 0 rfl rfl 3 (by decide) (hts (.fieldLink RX23 139 "OwnedPlacesModel$Item" "many" "I") (wm_c_its 2 rfl)) (fun _ h9 => h9) ((hF3 3 rfl).trans hG3) dX23_itemTypes_18 ?_
                  refine lv_icmp_ge (tgt := 203) hx hb dX23_itemTypes_21 (by decide) (fun hko => ?_) (fun hko => ?_)
                  · refine lv_aload_n hx hb dX23_itemTypes_203 rfl (lv_at hl 3 rfl) ?_
                    refine va_get (D := (dC, dI)) (ci := 16) (v := .int (ik ii)) (C := RX16) (T := TX16) (N := 22) hx hb hts in_c_its_X16 hown hK (va_P.st hP (hf7_1.1 _ (hr2.1 _ hxm).1).1 ((hitN ii hii).trans hF1)) 0 rfl rfl 2 (by decide) (hts (.fieldLink RX23 174 "OwnedPlacesModel$Item" "kind" "I") (wm_c_its 1 rfl)) (fun _ h9 => h9) ((hF3 2 rfl).trans hG2) dX23_itemTypes_204 ?_
                    refine lv_bipush (v := 12) hx hb dX23_itemTypes_207 (by decide) ?_
                    refine lv_icmp_ne (tgt := 219) hx hb dX23_itemTypes_209 (by decide) (fun _ => ?_) (fun c_11 => absurd c_11 (fun q9 => absurd (hk10.symm.trans q9) (by decide)))
                    refine W.grow (fun hgs0 hgs1 => ?_)
                    have hP9 := hP.subT (f' := [(m9, .inr (23, mT mr mv vf ffz6 xaz6 (nI T) (nI im) (nI tmz6) xm (nI sc) (nI vm))), (mr 6, .inl (kI, 3002, .inl fa)), (mr 7, .inl (kI, 3002, .inl fe)), (mr 0, .inl (kI, 3000, .inl ft)), (mr 11, .inl (kM, 70, .inr (.inr (.inr (.inr fi))))), (mr 18, .inl (kT, 2000, .inr (.inr (.inr (.inr fyz6)))))]) [0, 1, 2, 3, 4, 5] rfl
                    have hD9 := hD.subT (f' := [(m9, .inr (23, mT mr mv vf ffz6 xaz6 (nI T) (nI im) (nI tmz6) xm (nI sc) (nI vm))), (mr 6, .inl (kI, 3002, .inl fa)), (mr 7, .inl (kI, 3002, .inl fe)), (mr 0, .inl (kI, 3000, .inl ft)), (mr 11, .inl (kM, 70, .inr (.inr (.inr (.inr fi))))), (mr 18, .inl (kT, 2000, .inr (.inr (.inr (.inr fyz6)))))]) [0, 1, 2, 3, 4, 5] (by decide) rfl
                    have hK9 := hK.sub (tys' := [(kI, .int), (kM, .object RX16), (kT, .object RX20), (kW, .object RX22)]) [0, 1, 2, 3] rfl
                    refine W.widen (k := (2 * (ms ii - ps ii) + 8)) (n := (8 * (ms ii - ps ii) + 32)) (by omega) (by omega) ?_
                    subst hQ2
                    subst hQ1
                    exact W.vret hx hb hr (fun tS ht hW => ⟨⟨(), rfl, trivial, Lz6, Fz7, Gz6, tmz6, fyz6, Yz6, adz6, ffz6, xaz6, htgN, hr2.tr hf7_1, hrwN, hmnN, hitN, ⟨by omega, by omega⟩, (fun q9 => absurd q9 hz_9), by rw [ht]; exact ⟨by omega, by omega⟩, by rw [ht]; exact hP9, va_K.moved hW.alike hK9, hD9⟩, hS.F ht⟩) hS.2.2 dX23_itemTypes_219
                  · refine lv_aload_n hx hb dX23_itemTypes_24 rfl (lv_at hl 2 rfl) ?_
                    have hPc := hP.subF (f' := [(m9, .inr (23, mT mr mv vf ffz6 xaz6 (nI T) (nI im) (nI tmz6) xm (nI sc) (nI vm)))]) [0] rfl
                    have hDc := hD.subF (f' := [(m9, .inr (23, mT mr mv vf ffz6 xaz6 (nI T) (nI im) (nI tmz6) xm (nI sc) (nI vm)))]) [0] (by decide) rfl
                    have hKc := hK.sub (tys' := []) [] rfl
                    have hFc := va_freeT (wc := [(m9, .inr (23, mT mr mv vf ffz6 xaz6 (nI T) (nI im) (nI tmz6) xm (nI sc) (nI vm)))]) hD hS hA [0] rfl
                    refine va_calli (va_runV (As := []) (rest := []) ⟨hx, hb, hml, hown, hts⟩ (c_tokB l dC dI m9 mr mv vf ffz6 xaz6 xm T im tmz6 sc vm kI H.size hz_9) (cwV 0 hts g_c_its_c_tokB_25 rfl rfl rfl (by decide +kernel) ⟨Nat.le_of_ble_eq_true rfl, Nat.le_of_ble_eq_true rfl⟩) ⟨fun a U g mk q => by obtain ⟨q0, q1, qP, qK, qD⟩ := q; exact ⟨q0, q1, qP, va_K.moved (u := U) (U := U.calling g mk a) (Vm.Alike.refl U.vm) qK, qD⟩, va_recv hKc hPc (ci := 23) (q0 := 0) rfl rfl, fun U hU hW => ⟨rfl, by rw [hU], by rw [hU]; exact hPc, va_K.moved hW.alike hKc, hDc.weaken (fun _ _ _ _ => trivial)⟩⟩ rfl rfl hl.1 rfl (lv_room (Nat.le_of_ble_eq_true rfl)) dX23_itemTypes_25 ⟨(show ((tm1 - tm) + (tmz6 - tm1)) + 0 ≤ (2 * (ms ii - ps ii) + 8) by omega), (show ((4 * (tm1 - tm)) + 4 * (tmz6 - tm1)) + 0 ≤ (8 * (ms ii - ps ii) + 32) by omega)⟩) hS (fun q _ h => hFc q h) hFc (fun r_11 u tS H1 locs ht hvm hw hB hz1 hk1 hS => ?_)
                    obtain ⟨hP1, hK1, hD1⟩ := hB
                    rw [ht] at hP1
                    have hK1 := va_K.moved hvm.symm hK1
                    obtain ⟨hP, hD⟩ := va_joinT (wr := [(mr 6, .inl (kI, 3002, .inl fa)), (mr 7, .inl (kI, 3002, .inl fe)), (mr 0, .inl (kI, 3000, .inl ft)), (mr 11, .inl (kM, 70, .inr (.inr (.inr (.inr fi))))), (mr 18, .inl (kT, 2000, .inr (.inr (.inr (.inr fyz6)))))]) (w1 := [(m9, .inr (23, mT mr mv vf ffz6 xaz6 (nI T) (nI im) (nI tmz6) xm (nI sc) (nI vm)))]) hP hD [0] [1, 2, 3, 4, 5] rfl rfl (by decide) (by decide) hk1 hFc hP1 hD1
                    generalize H1 = H at hP hS ⊢
                    have hP : va_P (dC, dI) vwCl (([(mr 6, .inl (kI, 3002, .inl fa)), (mr 7, .inl (kI, 3002, .inl fe)), (mr 0, .inl (kI, 3000, .inl ft)), (mr 11, .inl (kM, 70, .inr (.inr (.inr (.inr fi))))), (mr 18, .inl (kT, 2000, .inr (.inr (.inr (.inr fyz6))))), (m9, .inr (23, mT mr mv vf ffz6 xaz6 (nI T) (nI im) (nI tmz6) xm (nI sc) (nI vm)))] : va_W) ++ (sT Lz6 Fz7)) H := hP
                    have hD : va_D A (([(mr 6, .inl (kI, 3002, .inl fa)), (mr 7, .inl (kI, 3002, .inl fe)), (mr 0, .inl (kI, 3000, .inl ft)), (mr 11, .inl (kM, 70, .inr (.inr (.inr (.inr fi))))), (mr 18, .inl (kT, 2000, .inr (.inr (.inr (.inr fyz6))))), (m9, .inr (23, mT mr mv vf ffz6 xaz6 (nI T) (nI im) (nI tmz6) xm (nI sc) (nI vm)))] : va_W) ++ (sT Lz6 Fz7)) := hD
                    have hK : va_K (dC, dI) vwCl [(kI, .int), (kM, .object RX16), (kT, .object RX20), (kW, .object RX22)] s := hK
                    clear hz1 hk1 hPc hDc hKc hFc hP1 hD1 hK1
                    obtain rfl : r_11 = 0 := hw
                    refine lv_if_eq (tgt := 203) hx hb dX23_itemTypes_28 (by decide) (fun _ => ?_) (fun c_12 => absurd (by decide) c_12)
                    refine lv_aload_n hx hb dX23_itemTypes_203 rfl (lv_at hl 3 rfl) ?_
                    refine va_get (D := (dC, dI)) (ci := 16) (v := .int (ik ii)) (C := RX16) (T := TX16) (N := 22) hx hb hts in_c_its_X16 hown hK (va_P.st hP (hf7_1.1 _ (hr2.1 _ hxm).1).1 ((hitN ii hii).trans hF1)) 0 rfl rfl 2 (by decide) (hts (.fieldLink RX23 174 "OwnedPlacesModel$Item" "kind" "I") (wm_c_its 1 rfl)) (fun _ h9 => h9) ((hF3 2 rfl).trans hG2) dX23_itemTypes_204 ?_
                    refine lv_bipush (v := 12) hx hb dX23_itemTypes_207 (by decide) ?_
                    refine lv_icmp_ne (tgt := 219) hx hb dX23_itemTypes_209 (by decide) (fun _ => ?_) (fun c_13 => absurd c_13 (fun q9 => absurd (hk10.symm.trans q9) (by decide)))
                    refine W.grow (fun hgs0 hgs1 => ?_)
                    have hP9 := hP.subT (f' := [(m9, .inr (23, mT mr mv vf ffz6 xaz6 (nI T) (nI im) (nI tmz6) xm (nI sc) (nI vm))), (mr 6, .inl (kI, 3002, .inl fa)), (mr 7, .inl (kI, 3002, .inl fe)), (mr 0, .inl (kI, 3000, .inl ft)), (mr 11, .inl (kM, 70, .inr (.inr (.inr (.inr fi))))), (mr 18, .inl (kT, 2000, .inr (.inr (.inr (.inr fyz6)))))]) [5, 0, 1, 2, 3, 4] rfl
                    have hD9 := hD.subT (f' := [(m9, .inr (23, mT mr mv vf ffz6 xaz6 (nI T) (nI im) (nI tmz6) xm (nI sc) (nI vm))), (mr 6, .inl (kI, 3002, .inl fa)), (mr 7, .inl (kI, 3002, .inl fe)), (mr 0, .inl (kI, 3000, .inl ft)), (mr 11, .inl (kM, 70, .inr (.inr (.inr (.inr fi))))), (mr 18, .inl (kT, 2000, .inr (.inr (.inr (.inr fyz6)))))]) [5, 0, 1, 2, 3, 4] (by decide) rfl
                    have hK9 := hK.sub (tys' := [(kI, .int), (kM, .object RX16), (kT, .object RX20), (kW, .object RX22)]) [0, 1, 2, 3] rfl
                    refine W.widen (k := (2 * (ms ii - ps ii) + 8)) (n := (8 * (ms ii - ps ii) + 32)) (by omega) (by omega) ?_
                    subst hQ2
                    subst hQ1
                    exact W.vret hx hb hr (fun tS ht hW => ⟨⟨(), rfl, trivial, Lz6, Fz7, Gz6, tmz6, fyz6, Yz6, adz6, ffz6, xaz6, htgN, hr2.tr hf7_1, hrwN, hmnN, hitN, ⟨by omega, by omega⟩, (fun q9 => absurd q9 hz_9), by rw [ht]; exact ⟨by omega, by omega⟩, by rw [ht]; exact hP9, va_K.moved hW.alike hK9, hD9⟩, hS.F ht⟩) hS.2.2 dX23_itemTypes_219
              · have hwl9 := isT_lt hw4
                have hmn9 := hmono (mn - (i + 1)) (i + 1) (by omega)
                have hPc := hP.subT (f' := [(m9, .inr (23, mT mr mv vf ff3 xa3 (nI T) (nI im) (nI tm1) xm (nI sc) (nI vm))), (mr 6, .inl (kI, 3002, .inl fa)), (mr 7, .inl (kI, 3002, .inl fe)), (mr 0, .inl (kI, 3000, .inl ft)), (mr 11, .inl (kM, 70, .inr (.inr (.inr (.inr fi))))), (mr 18, .inl (kT, 2000, .inr (.inr (.inr (.inr fy1)))))]) [0, 1, 2, 3, 4, 5] rfl
                have hDc := hD.subT (f' := [(m9, .inr (23, mT mr mv vf ff3 xa3 (nI T) (nI im) (nI tm1) xm (nI sc) (nI vm))), (mr 6, .inl (kI, 3002, .inl fa)), (mr 7, .inl (kI, 3002, .inl fe)), (mr 0, .inl (kI, 3000, .inl ft)), (mr 11, .inl (kM, 70, .inr (.inr (.inr (.inr fi))))), (mr 18, .inl (kT, 2000, .inr (.inr (.inr (.inr fy1)))))]) [0, 1, 2, 3, 4, 5] (by decide) rfl
                have hKc := hK.sub (tys' := [(kI, .int), (kM, .object RX16), (kT, .object RX20)]) [0, 1, 2] rfl
                have hFc := va_freeB (wc := [(m9, .inr (23, mT mr mv vf ff3 xa3 (nI T) (nI im) (nI tm1) xm (nI sc) (nI vm))), (mr 6, .inl (kI, 3002, .inl fa)), (mr 7, .inl (kI, 3002, .inl fe)), (mr 0, .inl (kI, 3000, .inl ft)), (mr 11, .inl (kM, 70, .inr (.inr (.inr (.inr fi))))), (mr 18, .inl (kT, 2000, .inr (.inr (.inr (.inr fy1)))))]) hD hS hA [0, 1, 2, 3, 4, 5] rfl
                refine W.grow (fun hgs0 hgs1 => ?_)
                refine va_callr (va_runV (As := [.ref tw, .int 0]) (rest := [.int (nI i), .ref ta]) ⟨hx, hb, hml, hown, hts⟩ (c_resB l dC dI m9 mr mv vf ff3 xa3 xm T im tm1 sc vm kI fk fa fe ft zs L1 F1 G1 kT fy1 Y1 ad1 kE kS kB kA kV kW kP kM fi xI ps ms ik qz tw 0 (slN H) H.size hr1 hz_6 (by omega)) (cwV 2 hts g_c_its_c_resB_109 rfl rfl rfl (by decide +kernel) ⟨Nat.le_of_ble_eq_true rfl, Nat.le_of_ble_eq_true rfl⟩) ⟨fun a U g mk q => by obtain ⟨q0, q1, qP, qK, qD, qx0, qx1⟩ := q; exact ⟨q0, q1, qP, va_K.moved (u := U) (U := U.calling g mk a) (Vm.Alike.refl U.vm) qK, qD, nsM.same (u := U) (U := U.calling g mk a) rfl qx0, qx1⟩, va_recv hKc hPc (ci := 23) (q0 := 0) rfl rfl, fun U hU hW => ⟨rfl, by rw [hU], by rw [hU]; exact hPc, va_K.moved hW.alike hKc, hDc.weaken (fun _ _ _ _ => trivial), nsM.warm hW hns, by rw [hU]⟩⟩ rfl rfl hl.1 rfl (lv_room (Nat.le_of_ble_eq_true rfl)) dX23_itemTypes_109 ⟨(show (tm1 - tm) + 1 ≤ (2 * (ms ii - ps ii) + 8) by omega), (show (4 * (tm1 - tm)) + 4 ≤ (8 * (ms ii - ps ii) + 32) by omega)⟩) hS (fun q _ h => hFc q h) hFc (fun u r_7 tS H1 locs ht hvm hw hB hz1 hk1 hS => ?_)
                obtain ⟨Lz6, Fz6, Gz6, tmz6, fyz6, Yz6, adz6, tz6, hf7_0, hf7_1, hf7_2, hf7_3, hf7_4, hf7_5, hP1, hK1, hD1⟩ := hB
                rw [ht] at hP1
                have hK1 := va_K.moved hvm.symm hK1
                rw [ht] at hf7_5
                have hgz : H1.size ≤ s.heap.size + (((tm1 - tm) + (tmz6 - tm1))) ∧ slN H1 ≤ slN s.heap + (((4 * (tm1 - tm)) + 4 * (tmz6 - tm1))) := ⟨by have := hf7_5.1; omega, by have := hf7_5.2; omega⟩
                obtain ⟨hP, hD⟩ := va_joinB (wr := []) (w1 := [(m9, .inr (23, mT mr mv vf ff3 xa3 (nI T) (nI im) (nI tmz6) xm (nI sc) (nI vm))), (mr 6, .inl (kI, 3002, .inl fa)), (mr 7, .inl (kI, 3002, .inl fe)), (mr 0, .inl (kI, 3000, .inl ft)), (mr 11, .inl (kM, 70, .inr (.inr (.inr (.inr fi))))), (mr 18, .inl (kT, 2000, .inr (.inr (.inr (.inr fyz6)))))]) hP hD [0, 1, 2, 3, 4, 5] [] rfl rfl (by decide) (by decide) hk1 hFc hP1 hD1
                have hK := hK.app hK1
                generalize H1 = H at hP hS hgz ⊢
                have hP : va_P (dC, dI) vwCl (([(m9, .inr (23, mT mr mv vf ff3 xa3 (nI T) (nI im) (nI tmz6) xm (nI sc) (nI vm))), (mr 6, .inl (kI, 3002, .inl fa)), (mr 7, .inl (kI, 3002, .inl fe)), (mr 0, .inl (kI, 3000, .inl ft)), (mr 11, .inl (kM, 70, .inr (.inr (.inr (.inr fi))))), (mr 18, .inl (kT, 2000, .inr (.inr (.inr (.inr fyz6)))))] : va_W) ++ (sT Lz6 Fz6)) H := hP
                have hD : va_D A (([(m9, .inr (23, mT mr mv vf ff3 xa3 (nI T) (nI im) (nI tmz6) xm (nI sc) (nI vm))), (mr 6, .inl (kI, 3002, .inl fa)), (mr 7, .inl (kI, 3002, .inl fe)), (mr 0, .inl (kI, 3000, .inl ft)), (mr 11, .inl (kM, 70, .inr (.inr (.inr (.inr fi))))), (mr 18, .inl (kT, 2000, .inr (.inr (.inr (.inr fyz6)))))] : va_W) ++ (sT Lz6 Fz6)) := hD
                have hK : va_K (dC, dI) vwCl [(kI, .int), (kM, .object RX16), (kT, .object RX20), (kW, .object RX22), (kI, .int), (kM, .object RX16), (kT, .object RX20)] s := hK
                have hK := hK.sub (tys' := [(kI, .int), (kM, .object RX16), (kT, .object RX20), (kW, .object RX22)]) [0, 1, 2, 3] rfl
                refine W.tight (k := ((tm1 - tm) + (tmz6 - tm1))) (n := ((4 * (tm1 - tm)) + 4 * (tmz6 - tm1))) hgz.1 hgz.2 ?_
                clear hz1 hk1 hPc hDc hKc hFc hP1 hD1 hK1
                have htm7 := (hf7_1).2.1
                have hpt7 := hf7_4
                obtain rfl : r_7 = adz6 tz6 := hf7_3.2
                obtain ⟨f8, hFt⟩ := rl_rb hf7_0.2.1 (hf7_1.1 _ (hr2.1 _ hta).1).1 ((hf7_1.1 _ (hr2.1 _ hta).1).2.trans ((hr2.1 _ hta).2.trans hGt))
                have htL := (hf7_1.1 _ (hr2.1 _ hta).1).1
                obtain ⟨hy1, hy2, hy3, hy4⟩ := hf7_0.2.2.2.1.1 tz6 hf7_3.1
                have hyF := rl_st hf7_0.2.1 hy2 hy3 mtF_20
                have hmv : adz6 tz6 ∈ Lz6.erase ta := mem_er (F := Fz6) hy2 (by rw [hyF, hFt]; exact fun q => by cases q)
                have hP := va_P.fo hP htL hFt
                have hD := va_D.fo hD htL hFt
                have hP : va_P (dC, dI) vwCl (([(m9, .inr (23, mT mr mv vf ff3 xa3 (nI T) (nI im) (nI tmz6) xm (nI sc) (nI vm))), (mr 6, .inl (kI, 3002, .inl fa)), (mr 7, .inl (kI, 3002, .inl fe)), (mr 0, .inl (kI, 3000, .inl ft)), (mr 11, .inl (kM, 70, .inr (.inr (.inr (.inr fi))))), (mr 18, .inl (kT, 2000, .inr (.inr (.inr (.inr fyz6))))), (ta, .inl (kT, 13, .inr (.inr (.inr (.inr f8)))))] : va_W) ++ (sT (Lz6.erase ta) Fz6)) H := hP
                have hD : va_D A (([(m9, .inr (23, mT mr mv vf ff3 xa3 (nI T) (nI im) (nI tmz6) xm (nI sc) (nI vm))), (mr 6, .inl (kI, 3002, .inl fa)), (mr 7, .inl (kI, 3002, .inl fe)), (mr 0, .inl (kI, 3000, .inl ft)), (mr 11, .inl (kM, 70, .inr (.inr (.inr (.inr fi))))), (mr 18, .inl (kT, 2000, .inr (.inr (.inr (.inr fyz6))))), (ta, .inl (kT, 13, .inr (.inr (.inr (.inr f8)))))] : va_W) ++ (sT (Lz6.erase ta) Fz6)) := hD
                have hob9 : oN 20 (Lz6.erase ta) Fz6 (adz6 tz6) := ⟨hmv, _, hyF⟩
                obtain ⟨vs9, hvs9⟩ := (hob9).2
                obtain ⟨qk9, hqk9⟩ := List.mem_iff_getElem?.mp (List.mem_append_right ([(m9, .inr (23, mT mr mv vf ff3 xa3 (nI T) (nI im) (nI tmz6) xm (nI sc) (nI vm))), (mr 6, .inl (kI, 3002, .inl fa)), (mr 7, .inl (kI, 3002, .inl fe)), (mr 0, .inl (kI, 3000, .inl ft)), (mr 11, .inl (kM, 70, .inr (.inr (.inr (.inr fi))))), (mr 18, .inl (kT, 2000, .inr (.inr (.inr (.inr fyz6))))), (ta, .inl (kT, 13, .inr (.inr (.inr (.inr f8)))))]) (sT_mem (F := Fz6) (hob9).1))
                rw [hvs9] at hqk9
                refine va_astq (r := (RX20, TX20, 4)) hx hb hK hP hD hS 6 2 qk9 20 rfl rfl hqk9 rfl (vp_in_nI (show i < 13 by omega) (by decide)) dX23_itemTypes_112 (fun H locs hP hD hS => ?_)
                have hP : va_P (dC, dI) vwCl (([(m9, .inr (23, mT mr mv vf ff3 xa3 (nI T) (nI im) (nI tmz6) xm (nI sc) (nI vm))), (mr 6, .inl (kI, 3002, .inl fa)), (mr 7, .inl (kI, 3002, .inl fe)), (mr 0, .inl (kI, 3000, .inl ft)), (mr 11, .inl (kM, 70, .inr (.inr (.inr (.inr fi))))), (mr 18, .inl (kT, 2000, .inr (.inr (.inr (.inr fyz6))))), (ta, .inl (kT, 13, .inr (.inr (.inr (.inr (va_up f8 (nI i : Int32).toNatClampNeg (some (adz6 tz6))))))))] : va_W) ++ (sT (Lz6.erase ta) Fz6)) H := hP
                have hD : va_D A (([(m9, .inr (23, mT mr mv vf ff3 xa3 (nI T) (nI im) (nI tmz6) xm (nI sc) (nI vm))), (mr 6, .inl (kI, 3002, .inl fa)), (mr 7, .inl (kI, 3002, .inl fe)), (mr 0, .inl (kI, 3000, .inl ft)), (mr 11, .inl (kM, 70, .inr (.inr (.inr (.inr fi))))), (mr 18, .inl (kT, 2000, .inr (.inr (.inr (.inr fyz6))))), (ta, .inl (kT, 13, .inr (.inr (.inr (.inr (va_up f8 (nI i : Int32).toNatClampNeg (some (adz6 tz6))))))))] : va_W) ++ (sT (Lz6.erase ta) Fz6)) := hD
                obtain ⟨fZ, efZ⟩ : ∃ zZ : Nat → Option Nat, zZ = va_up f8 (nI i : Int32).toNatClampNeg (some (adz6 tz6)) := ⟨_, rfl⟩
                rw [← efZ] at hP hD
                have hfZ : fZ = va_up f8 i (some (adz6 tz6)) := by rw [efZ, nI_clamp (by omega)]
                rw [hfZ] at hP hD
                have hP : va_P (dC, dI) vwCl (([(m9, .inr (23, mT mr mv vf ff3 xa3 (nI T) (nI im) (nI tmz6) xm (nI sc) (nI vm))), (mr 6, .inl (kI, 3002, .inl fa)), (mr 7, .inl (kI, 3002, .inl fe)), (mr 0, .inl (kI, 3000, .inl ft)), (mr 11, .inl (kM, 70, .inr (.inr (.inr (.inr fi))))), (mr 18, .inl (kT, 2000, .inr (.inr (.inr (.inr fyz6)))))] : va_W) ++ (sT Lz6 (updE Fz6 ta (.inl (kT, 13, .inr (.inr (.inr (.inr (va_up f8 i (some (adz6 tz6))))))))))) H := va_P.bk htL hP
                have hD : va_D A (([(m9, .inr (23, mT mr mv vf ff3 xa3 (nI T) (nI im) (nI tmz6) xm (nI sc) (nI vm))), (mr 6, .inl (kI, 3002, .inl fa)), (mr 7, .inl (kI, 3002, .inl fe)), (mr 0, .inl (kI, 3000, .inl ft)), (mr 11, .inl (kM, 70, .inr (.inr (.inr (.inr fi))))), (mr 18, .inl (kT, 2000, .inr (.inr (.inr (.inr fyz6)))))] : va_W) ++ (sT Lz6 (updE Fz6 ta (.inl (kT, 13, .inr (.inr (.inr (.inr (va_up f8 i (some (adz6 tz6))))))))))) := va_D.bk htL hD
                obtain ⟨Fz7, eFz7⟩ : ∃ zZ : Nat → va_E, zZ = updE Fz6 ta (.inl (kT, 13, .inr (.inr (.inr (.inr (va_up f8 i (some (adz6 tz6)))))))) := ⟨_, rfl⟩
                rw [← eFz7] at hP hD
                have hP : va_P (dC, dI) vwCl (([(m9, .inr (23, mT mr mv vf ff3 xa3 (nI T) (nI im) (nI tmz6) xm (nI sc) (nI vm))), (mr 6, .inl (kI, 3002, .inl fa)), (mr 7, .inl (kI, 3002, .inl fe)), (mr 0, .inl (kI, 3000, .inl ft)), (mr 11, .inl (kM, 70, .inr (.inr (.inr (.inr fi))))), (mr 18, .inl (kT, 2000, .inr (.inr (.inr (.inr fyz6)))))] : va_W) ++ (sT Lz6 Fz7)) H := hP
                have hD : va_D A (([(m9, .inr (23, mT mr mv vf ff3 xa3 (nI T) (nI im) (nI tmz6) xm (nI sc) (nI vm))), (mr 6, .inl (kI, 3002, .inl fa)), (mr 7, .inl (kI, 3002, .inl fe)), (mr 0, .inl (kI, 3000, .inl ft)), (mr 11, .inl (kM, 70, .inr (.inr (.inr (.inr fi))))), (mr 18, .inl (kT, 2000, .inr (.inr (.inr (.inr fyz6)))))] : va_W) ++ (sT Lz6 Fz7)) := hD
                have htgN : tgd Lz6 Fz7 Gz6 fk fa fe T zs kE kI kS kB kA kV kW kT kP fi im xI ps ms ik qz fyz6 tmz6 Yz6 adz6 := by rw [eFz7]; exact tgd_up hf7_0 (cs_ro ((hf7_1.1 _ (hr2.1 _ hta).1).2.trans ((hr2.1 _ hta).2.trans hGt)) (fun _ => rfl))
                have hrwN : rwT Fz7 Gz6 kT xI im tmz6 adz6 := by rw [eFz7]; exact rwT_up (rwT_gr hr3 (trow_gr hr1.2.2.1 hf7_1.1) hf7_2 hf7_1) hFt (trow_ex hr1.2.2.1 hf7_1.1 (trow_ex htg.2.2.1 hr2.1 htr)) hf7_3.1
                have hmnN : mnF L F Fz7 kT := by rw [eFz7]; exact (hr4.tr (fun a h => (hr2.1 a h).1) (mnF_ex hf7_2)).tr (fun a h => (hf7_1.1 a (hr2.1 a h).1).1) (fun a _ n q => rwF_up q hFt)
                have hitN : ∀ j : Nat, j < im → Fz7 (xI j) = F (xI j) := fun j hj => by
                  have h7 := (hr5 j hj)
                  have h8 : xI j ∈ L1 := (it_nm hr1 hj).1
                  rw [eFz7, updE_n (fun e9 => by obtain ⟨_, _, _, _, gs7, h9, _⟩ := it_nm hf7_0 hj; rw [e9, hFt] at h9; cases h9), (hf7_2 _ h8).2, h7]
                have hrfN : rwF Fz7 kT ta (i + 1) := by rw [eFz7]; exact rwF_one (rwF_ex hf7_2 (hr2.1 _ hta).1 hr6) hFt (by omega)
                refine lv_aload_n hx hb dX23_itemTypes_113 rfl (lv_at hl 3 rfl) ?_
                refine va_get (D := (dC, dI)) (ci := 16) (v := .int (ik ii)) (C := RX16) (T := TX16) (N := 22) hx hb hts in_c_its_X16 hown hK (va_P.st hP (hf7_1.1 _ (hr2.1 _ hxm).1).1 ((hitN ii hii).trans hF1)) 0 rfl rfl 2 (by decide) (hts (.fieldLink RX23 174 "OwnedPlacesModel$Item" "kind" "I") (wm_c_its 1 rfl)) (fun _ h9 => h9) ((hF3 2 rfl).trans hG2) dX23_itemTypes_114 ?_
                refine lv_bipush (v := 12) hx hb dX23_itemTypes_117 (by decide) ?_
                refine lv_icmp_ne (tgt := 197) hx hb dX23_itemTypes_119 (by decide) (fun _ => ?_) (fun c_8 => absurd c_8 (fun q9 => absurd (hk10.symm.trans q9) (by decide)))
                obtain ⟨x_9, ex_9⟩ : ∃ yY : Int32, yY = (nI i) + 1 := ⟨_, rfl⟩
                refine lv_iinc (v := x_9) (lv' := [(2, .int x_9), (3, .int (nI j)), (0, .ref m9), (1, .ref (xI ii))]) hx hb dX23_itemTypes_197 hl (k := 1) rfl (by rw [ex_9]; rfl) (by decide) rfl (fun ls hl => ?_)
                obtain rfl : x_9 = nI (i + 1) := by rw [ex_9]; exact nI_1 i
                have hl : lv_has ls 4 [(2, .int (nI (i + 1))), (3, .int (nI j)), (0, .ref m9), (1, .ref (xI ii))] := hl
                refine lv_goto (tgt := 16) hx hb dX23_itemTypes_200 (by decide) ?_
                refine lv_iload_n hx hb dX23_itemTypes_16 rfl (lv_at hl 0 rfl) ?_
                refine lv_aload_n hx hb dX23_itemTypes_17 rfl (lv_at hl 3 rfl) ?_
                refine va_get (D := (dC, dI)) (ci := 16) (v := .int (nI mn)) (C := RX16) (T := TX16) (N := 22) hx hb hts in_c_its_X16 hown hK (va_P.st hP (hf7_1.1 _ (hr2.1 _ hxm).1).1 ((hitN ii hii).trans hF1)) 0 rfl rfl 3 (by decide) (hts (.fieldLink RX23 139 "OwnedPlacesModel$Item" "many" "I") (wm_c_its 2 rfl)) (fun _ h9 => h9) ((hF3 3 rfl).trans hG3) dX23_itemTypes_18 ?_
                refine lv_icmp_ge (tgt := 203) hx hb dX23_itemTypes_21 (by decide) (fun hko => ?_) (fun hko => ?_)
                · refine lv_aload_n hx hb dX23_itemTypes_203 rfl (lv_at hl 3 rfl) ?_
                  refine va_get (D := (dC, dI)) (ci := 16) (v := .int (ik ii)) (C := RX16) (T := TX16) (N := 22) hx hb hts in_c_its_X16 hown hK (va_P.st hP (hf7_1.1 _ (hr2.1 _ hxm).1).1 ((hitN ii hii).trans hF1)) 0 rfl rfl 2 (by decide) (hts (.fieldLink RX23 174 "OwnedPlacesModel$Item" "kind" "I") (wm_c_its 1 rfl)) (fun _ h9 => h9) ((hF3 2 rfl).trans hG2) dX23_itemTypes_204 ?_
                  refine lv_bipush (v := 12) hx hb dX23_itemTypes_207 (by decide) ?_
                  refine lv_icmp_ne (tgt := 219) hx hb dX23_itemTypes_209 (by decide) (fun _ => ?_) (fun c_10 => absurd c_10 (fun q9 => absurd (hk10.symm.trans q9) (by decide)))
                  refine W.grow (fun hgs0 hgs1 => ?_)
                  have hP9 := hP.subT (f' := [(m9, .inr (23, mT mr mv vf ff3 xa3 (nI T) (nI im) (nI tmz6) xm (nI sc) (nI vm))), (mr 6, .inl (kI, 3002, .inl fa)), (mr 7, .inl (kI, 3002, .inl fe)), (mr 0, .inl (kI, 3000, .inl ft)), (mr 11, .inl (kM, 70, .inr (.inr (.inr (.inr fi))))), (mr 18, .inl (kT, 2000, .inr (.inr (.inr (.inr fyz6)))))]) [0, 1, 2, 3, 4, 5] rfl
                  have hD9 := hD.subT (f' := [(m9, .inr (23, mT mr mv vf ff3 xa3 (nI T) (nI im) (nI tmz6) xm (nI sc) (nI vm))), (mr 6, .inl (kI, 3002, .inl fa)), (mr 7, .inl (kI, 3002, .inl fe)), (mr 0, .inl (kI, 3000, .inl ft)), (mr 11, .inl (kM, 70, .inr (.inr (.inr (.inr fi))))), (mr 18, .inl (kT, 2000, .inr (.inr (.inr (.inr fyz6)))))]) [0, 1, 2, 3, 4, 5] (by decide) rfl
                  have hK9 := hK.sub (tys' := [(kI, .int), (kM, .object RX16), (kT, .object RX20), (kW, .object RX22)]) [0, 1, 2, 3] rfl
                  refine W.widen (k := (2 * (ms ii - ps ii) + 8)) (n := (8 * (ms ii - ps ii) + 32)) (by omega) (by omega) ?_
                  subst hQ2
                  subst hQ1
                  exact W.vret hx hb hr (fun tS ht hW => ⟨⟨(), rfl, trivial, Lz6, Fz7, Gz6, tmz6, fyz6, Yz6, adz6, ff3, xa3, htgN, hr2.tr hf7_1, hrwN, hmnN, hitN, ⟨by omega, by omega⟩, (fun q9 => absurd q9 hz_6), by rw [ht]; exact ⟨by omega, by omega⟩, by rw [ht]; exact hP9, va_K.moved hW.alike hK9, hD9⟩, hS.F ht⟩) hS.2.2 dX23_itemTypes_219
                · refine lv_aload_n hx hb dX23_itemTypes_24 rfl (lv_at hl 2 rfl) ?_
                  have hPc := hP.subF (f' := [(m9, .inr (23, mT mr mv vf ff3 xa3 (nI T) (nI im) (nI tmz6) xm (nI sc) (nI vm)))]) [0] rfl
                  have hDc := hD.subF (f' := [(m9, .inr (23, mT mr mv vf ff3 xa3 (nI T) (nI im) (nI tmz6) xm (nI sc) (nI vm)))]) [0] (by decide) rfl
                  have hKc := hK.sub (tys' := []) [] rfl
                  have hFc := va_freeT (wc := [(m9, .inr (23, mT mr mv vf ff3 xa3 (nI T) (nI im) (nI tmz6) xm (nI sc) (nI vm)))]) hD hS hA [0] rfl
                  refine va_calli (va_runV (As := []) (rest := []) ⟨hx, hb, hml, hown, hts⟩ (c_tokB l dC dI m9 mr mv vf ff3 xa3 xm T im tmz6 sc vm kI H.size hz_6) (cwV 0 hts g_c_its_c_tokB_25 rfl rfl rfl (by decide +kernel) ⟨Nat.le_of_ble_eq_true rfl, Nat.le_of_ble_eq_true rfl⟩) ⟨fun a U g mk q => by obtain ⟨q0, q1, qP, qK, qD⟩ := q; exact ⟨q0, q1, qP, va_K.moved (u := U) (U := U.calling g mk a) (Vm.Alike.refl U.vm) qK, qD⟩, va_recv hKc hPc (ci := 23) (q0 := 0) rfl rfl, fun U hU hW => ⟨rfl, by rw [hU], by rw [hU]; exact hPc, va_K.moved hW.alike hKc, hDc.weaken (fun _ _ _ _ => trivial)⟩⟩ rfl rfl hl.1 rfl (lv_room (Nat.le_of_ble_eq_true rfl)) dX23_itemTypes_25 ⟨(show ((tm1 - tm) + (tmz6 - tm1)) + 0 ≤ (2 * (ms ii - ps ii) + 8) by omega), (show ((4 * (tm1 - tm)) + 4 * (tmz6 - tm1)) + 0 ≤ (8 * (ms ii - ps ii) + 32) by omega)⟩) hS (fun q _ h => hFc q h) hFc (fun r_10 u tS H1 locs ht hvm hw hB hz1 hk1 hS => ?_)
                  obtain ⟨hP1, hK1, hD1⟩ := hB
                  rw [ht] at hP1
                  have hK1 := va_K.moved hvm.symm hK1
                  obtain ⟨hP, hD⟩ := va_joinT (wr := [(mr 6, .inl (kI, 3002, .inl fa)), (mr 7, .inl (kI, 3002, .inl fe)), (mr 0, .inl (kI, 3000, .inl ft)), (mr 11, .inl (kM, 70, .inr (.inr (.inr (.inr fi))))), (mr 18, .inl (kT, 2000, .inr (.inr (.inr (.inr fyz6)))))]) (w1 := [(m9, .inr (23, mT mr mv vf ff3 xa3 (nI T) (nI im) (nI tmz6) xm (nI sc) (nI vm)))]) hP hD [0] [1, 2, 3, 4, 5] rfl rfl (by decide) (by decide) hk1 hFc hP1 hD1
                  generalize H1 = H at hP hS ⊢
                  have hP : va_P (dC, dI) vwCl (([(mr 6, .inl (kI, 3002, .inl fa)), (mr 7, .inl (kI, 3002, .inl fe)), (mr 0, .inl (kI, 3000, .inl ft)), (mr 11, .inl (kM, 70, .inr (.inr (.inr (.inr fi))))), (mr 18, .inl (kT, 2000, .inr (.inr (.inr (.inr fyz6))))), (m9, .inr (23, mT mr mv vf ff3 xa3 (nI T) (nI im) (nI tmz6) xm (nI sc) (nI vm)))] : va_W) ++ (sT Lz6 Fz7)) H := hP
                  have hD : va_D A (([(mr 6, .inl (kI, 3002, .inl fa)), (mr 7, .inl (kI, 3002, .inl fe)), (mr 0, .inl (kI, 3000, .inl ft)), (mr 11, .inl (kM, 70, .inr (.inr (.inr (.inr fi))))), (mr 18, .inl (kT, 2000, .inr (.inr (.inr (.inr fyz6))))), (m9, .inr (23, mT mr mv vf ff3 xa3 (nI T) (nI im) (nI tmz6) xm (nI sc) (nI vm)))] : va_W) ++ (sT Lz6 Fz7)) := hD
                  have hK : va_K (dC, dI) vwCl [(kI, .int), (kM, .object RX16), (kT, .object RX20), (kW, .object RX22)] s := hK
                  clear hz1 hk1 hPc hDc hKc hFc hP1 hD1 hK1
                  obtain rfl : r_10 = 0 := hw
                  refine lv_if_eq (tgt := 203) hx hb dX23_itemTypes_28 (by decide) (fun _ => ?_) (fun c_11 => absurd (by decide) c_11)
                  refine lv_aload_n hx hb dX23_itemTypes_203 rfl (lv_at hl 3 rfl) ?_
                  refine va_get (D := (dC, dI)) (ci := 16) (v := .int (ik ii)) (C := RX16) (T := TX16) (N := 22) hx hb hts in_c_its_X16 hown hK (va_P.st hP (hf7_1.1 _ (hr2.1 _ hxm).1).1 ((hitN ii hii).trans hF1)) 0 rfl rfl 2 (by decide) (hts (.fieldLink RX23 174 "OwnedPlacesModel$Item" "kind" "I") (wm_c_its 1 rfl)) (fun _ h9 => h9) ((hF3 2 rfl).trans hG2) dX23_itemTypes_204 ?_
                  refine lv_bipush (v := 12) hx hb dX23_itemTypes_207 (by decide) ?_
                  refine lv_icmp_ne (tgt := 219) hx hb dX23_itemTypes_209 (by decide) (fun _ => ?_) (fun c_12 => absurd c_12 (fun q9 => absurd (hk10.symm.trans q9) (by decide)))
                  refine W.grow (fun hgs0 hgs1 => ?_)
                  have hP9 := hP.subT (f' := [(m9, .inr (23, mT mr mv vf ff3 xa3 (nI T) (nI im) (nI tmz6) xm (nI sc) (nI vm))), (mr 6, .inl (kI, 3002, .inl fa)), (mr 7, .inl (kI, 3002, .inl fe)), (mr 0, .inl (kI, 3000, .inl ft)), (mr 11, .inl (kM, 70, .inr (.inr (.inr (.inr fi))))), (mr 18, .inl (kT, 2000, .inr (.inr (.inr (.inr fyz6)))))]) [5, 0, 1, 2, 3, 4] rfl
                  have hD9 := hD.subT (f' := [(m9, .inr (23, mT mr mv vf ff3 xa3 (nI T) (nI im) (nI tmz6) xm (nI sc) (nI vm))), (mr 6, .inl (kI, 3002, .inl fa)), (mr 7, .inl (kI, 3002, .inl fe)), (mr 0, .inl (kI, 3000, .inl ft)), (mr 11, .inl (kM, 70, .inr (.inr (.inr (.inr fi))))), (mr 18, .inl (kT, 2000, .inr (.inr (.inr (.inr fyz6)))))]) [5, 0, 1, 2, 3, 4] (by decide) rfl
                  have hK9 := hK.sub (tys' := [(kI, .int), (kM, .object RX16), (kT, .object RX20), (kW, .object RX22)]) [0, 1, 2, 3] rfl
                  refine W.widen (k := (2 * (ms ii - ps ii) + 8)) (n := (8 * (ms ii - ps ii) + 32)) (by omega) (by omega) ?_
                  subst hQ2
                  subst hQ1
                  exact W.vret hx hb hr (fun tS ht hW => ⟨⟨(), rfl, trivial, Lz6, Fz7, Gz6, tmz6, fyz6, Yz6, adz6, ff3, xa3, htgN, hr2.tr hf7_1, hrwN, hmnN, hitN, ⟨by omega, by omega⟩, (fun q9 => absurd q9 hz_6), by rw [ht]; exact ⟨by omega, by omega⟩, by rw [ht]; exact hP9, va_K.moved hW.alike hK9, hD9⟩, hS.F ht⟩) hS.2.2 dX23_itemTypes_219
            · have hin_j : j < i := by rcases Nat.lt_or_ge j (i) with z9 | z9; exact z9; exact absurd (nI_le z9 (by omega)) hk2
              refine lv_aload_n hx hb dX23_itemTypes_38 rfl (lv_at hl 2 rfl) ?_
              refine lv_aload_n hx hb dX23_itemTypes_39 rfl (lv_at hl 3 rfl) ?_
              refine va_get (D := (dC, dI)) (ci := 16) (v := .ref na) (C := RX16) (T := TX16) (N := 22) hx hb hts in_c_its_X16 hown hK (va_P.st hP (hr2.1 _ hxm).1 ((hr5 ii hii).trans hF1)) 0 rfl rfl 8 (by decide) (hts (.fieldLink RX23 147 "OwnedPlacesModel$Item" "names" "[I") (wm_c_its 60 rfl)) (fun _ h9 => h9) ((hF3 8 rfl).trans hG4) dX23_itemTypes_40 ?_
              refine lv_iload_n hx hb dX23_itemTypes_43 rfl (lv_at hl 0 rfl) ?_
              obtain ⟨s3, hs3, hs4, hs5⟩ := hgs j (by omega)
              refine va_iald hx hb hK (va_P.st hP hnaL hFn) 0 0 rfl rfl (vp_in_nI (show j < 13 by omega) (by decide)) dX23_itemTypes_44 ?_
              refine lv_topi (fun v_4 ev_4 => ?_)
              obtain rfl : v_4 = nI s3 := ev_4.trans (by rw [nI_clamp (by omega)]; exact hs3)
              refine lv_aload_n hx hb dX23_itemTypes_45 rfl (lv_at hl 3 rfl) ?_
              refine va_get (D := (dC, dI)) (ci := 16) (v := .ref na) (C := RX16) (T := TX16) (N := 22) hx hb hts in_c_its_X16 hown hK (va_P.st hP (hr2.1 _ hxm).1 ((hr5 ii hii).trans hF1)) 0 rfl rfl 8 (by decide) (hts (.fieldLink RX23 147 "OwnedPlacesModel$Item" "names" "[I") (wm_c_its 60 rfl)) (fun _ h9 => h9) ((hF3 8 rfl).trans hG4) dX23_itemTypes_46 ?_
              refine lv_iload_n hx hb dX23_itemTypes_49 rfl (lv_at hl 1 rfl) ?_
              refine va_iald hx hb hK (va_P.st hP hnaL hFn) 0 0 rfl rfl (vp_in_nI (show i < 13 by omega) (by decide)) dX23_itemTypes_50 ?_
              refine lv_topi (fun v_5 ev_5 => ?_)
              obtain rfl : v_5 = nI s1 := ev_5.trans (by rw [nI_clamp (by omega)]; exact hs1)
              have hPc := hP.subF (f' := [(m9, .inr (23, mT mr mv vf ff3 xa3 (nI T) (nI im) (nI tm1) xm (nI sc) (nI vm))), (mr 6, .inl (kI, 3002, .inl fa)), (mr 7, .inl (kI, 3002, .inl fe)), (mr 0, .inl (kI, 3000, .inl ft))]) [0, 1, 2, 3] rfl
              have hDc := hD.subF (f' := [(m9, .inr (23, mT mr mv vf ff3 xa3 (nI T) (nI im) (nI tm1) xm (nI sc) (nI vm))), (mr 6, .inl (kI, 3002, .inl fa)), (mr 7, .inl (kI, 3002, .inl fe)), (mr 0, .inl (kI, 3000, .inl ft))]) [0, 1, 2, 3] (by decide) rfl
              have hKc := hK.sub (tys' := [(kI, .int)]) [0] rfl
              have hFc := va_freeT (wc := [(m9, .inr (23, mT mr mv vf ff3 xa3 (nI T) (nI im) (nI tm1) xm (nI sc) (nI vm))), (mr 6, .inl (kI, 3002, .inl fa)), (mr 7, .inl (kI, 3002, .inl fe)), (mr 0, .inl (kI, 3000, .inl ft))]) hD hS hA [0, 1, 2, 3] rfl
              refine va_calli (va_runV (As := [.int (nI s3), .int (nI s1)]) (rest := []) ⟨hx, hb, hml, hown, hts⟩ (c_sam l dC dI m9 mr mv vf ff3 xa3 xm T im tm1 sc vm kI fk fa fe ft zs s3 s1 H.size htg.1.1 htg.1.2.1 hs4 hs2) (cwV 2 hts g_c_its_c_sam_51 rfl rfl rfl (by decide +kernel) ⟨Nat.le_of_ble_eq_true rfl, Nat.le_of_ble_eq_true rfl⟩) ⟨fun a U g mk q => by obtain ⟨q0, q1, qP, qK, qD⟩ := q; exact ⟨q0, q1, qP, va_K.moved (u := U) (U := U.calling g mk a) (Vm.Alike.refl U.vm) qK, qD⟩, va_recv hKc hPc (ci := 23) (q0 := 0) rfl rfl, fun U hU hW => ⟨rfl, by rw [hU], by rw [hU]; exact hPc, va_K.moved hW.alike hKc, hDc.weaken (fun _ _ _ _ => trivial)⟩⟩ rfl rfl hl.1 rfl (lv_room (Nat.le_of_ble_eq_true rfl)) dX23_itemTypes_51 ⟨(show (tm1 - tm) + 0 ≤ (2 * (ms ii - ps ii) + 8) by omega), (show (4 * (tm1 - tm)) + 0 ≤ (8 * (ms ii - ps ii) + 32) by omega)⟩) hS (fun q _ h => hFc q h) hFc (fun r_6 u tS H1 locs ht hvm hw hB hz1 hk1 hS => ?_)
              obtain ⟨hP1, hK1, hD1⟩ := hB
              rw [ht] at hP1
              have hK1 := va_K.moved hvm.symm hK1
              obtain ⟨hP, hD⟩ := va_joinT (wr := [(mr 11, .inl (kM, 70, .inr (.inr (.inr (.inr fi))))), (mr 18, .inl (kT, 2000, .inr (.inr (.inr (.inr fy1)))))]) (w1 := [(m9, .inr (23, mT mr mv vf ff3 xa3 (nI T) (nI im) (nI tm1) xm (nI sc) (nI vm))), (mr 6, .inl (kI, 3002, .inl fa)), (mr 7, .inl (kI, 3002, .inl fe)), (mr 0, .inl (kI, 3000, .inl ft))]) hP hD [0, 1, 2, 3] [4, 5] rfl rfl (by decide) (by decide) hk1 hFc hP1 hD1
              have hK := hK.app hK1
              generalize H1 = H at hP hS ⊢
              have hP : va_P (dC, dI) vwCl (([(mr 11, .inl (kM, 70, .inr (.inr (.inr (.inr fi))))), (mr 18, .inl (kT, 2000, .inr (.inr (.inr (.inr fy1))))), (m9, .inr (23, mT mr mv vf ff3 xa3 (nI T) (nI im) (nI tm1) xm (nI sc) (nI vm))), (mr 6, .inl (kI, 3002, .inl fa)), (mr 7, .inl (kI, 3002, .inl fe)), (mr 0, .inl (kI, 3000, .inl ft))] : va_W) ++ (sT L1 F1)) H := hP
              have hD : va_D A (([(mr 11, .inl (kM, 70, .inr (.inr (.inr (.inr fi))))), (mr 18, .inl (kT, 2000, .inr (.inr (.inr (.inr fy1))))), (m9, .inr (23, mT mr mv vf ff3 xa3 (nI T) (nI im) (nI tm1) xm (nI sc) (nI vm))), (mr 6, .inl (kI, 3002, .inl fa)), (mr 7, .inl (kI, 3002, .inl fe)), (mr 0, .inl (kI, 3000, .inl ft))] : va_W) ++ (sT L1 F1)) := hD
              have hK : va_K (dC, dI) vwCl [(kI, .int), (kM, .object RX16), (kT, .object RX20), (kW, .object RX22), (kI, .int)] s := hK
              have hK := hK.sub (tys' := [(kI, .int), (kM, .object RX16), (kT, .object RX20), (kW, .object RX22)]) [0, 1, 2, 3] rfl
              clear hz1 hk1 hPc hDc hKc hFc hP1 hD1 hK1
              refine lv_if_eq (tgt := 68) hx hb dX23_itemTypes_54 (by decide) (fun hb_7 => ?_) (fun hb_7 => ?_)
              · obtain ⟨x_8, ex_8⟩ : ∃ yY : Int32, yY = (nI j) + 1 := ⟨_, rfl⟩
                refine lv_iinc (v := x_8) (lv' := [(3, .int x_8), (2, .int (nI i)), (0, .ref m9), (1, .ref (xI ii))]) hx hb dX23_itemTypes_68 hl (k := 0) rfl (by rw [ex_8]; rfl) (by decide) rfl (fun ls hl => ?_)
                obtain rfl : x_8 = nI (j + 1) := by rw [ex_8]; exact nI_1 j
                have hl : lv_has ls 4 [(3, .int (nI (j + 1))), (2, .int (nI i)), (0, .ref m9), (1, .ref (xI ii))] := hl
                refine lv_goto (tgt := 33) hx hb dX23_itemTypes_71 (by decide) ?_
                exact ih2 (j + 1) ff3 xa3 _ _ _ (by omega) (hP.subT [2, 3, 4, 5, 0, 1] rfl) (hD.subT [2, 3, 4, 5, 0, 1] (by decide) rfl) hS (lv_sub hl [0, 1, 2, 3] rfl)
              · refine lv_aload_n hx hb dX23_itemTypes_57 rfl (lv_at hl 2 rfl) ?_
                refine lv_iconst (v := 3) hx hb dX23_itemTypes_58 (by decide) ?_
                refine lv_aload_n hx hb dX23_itemTypes_59 rfl (lv_at hl 3 rfl) ?_
                refine va_get (D := (dC, dI)) (ci := 16) (v := .ref na) (C := RX16) (T := TX16) (N := 22) hx hb hts in_c_its_X16 hown hK (va_P.st hP (hr2.1 _ hxm).1 ((hr5 ii hii).trans hF1)) 0 rfl rfl 8 (by decide) (hts (.fieldLink RX23 147 "OwnedPlacesModel$Item" "names" "[I") (wm_c_its 60 rfl)) (fun _ h9 => h9) ((hF3 8 rfl).trans hG4) dX23_itemTypes_60 ?_
                refine lv_iload_n hx hb dX23_itemTypes_63 rfl (lv_at hl 1 rfl) ?_
                refine va_iald hx hb hK (va_P.st hP hnaL hFn) 0 0 rfl rfl (vp_in_nI (show i < 13 by omega) (by decide)) dX23_itemTypes_64 ?_
                refine lv_topi (fun v_8 ev_8 => ?_)
                obtain rfl : v_8 = nI s1 := ev_8.trans (by rw [nI_clamp (by omega)]; exact hs1)
                by_cases hz_9 : ff3 = 0
                · subst hz_9
                  have hPc := hP.subF (f' := [(m9, .inr (23, mT mr mv vf 0 xa3 (nI T) (nI im) (nI tm1) xm (nI sc) (nI vm))), (mr 6, .inl (kI, 3002, .inl fa))]) [2, 3] rfl
                  have hDc := hD.subF (f' := [(m9, .inr (23, mT mr mv vf 0 xa3 (nI T) (nI im) (nI tm1) xm (nI sc) (nI vm))), (mr 6, .inl (kI, 3002, .inl fa))]) [2, 3] (by decide) rfl
                  have hKc := hK.sub (tys' := [(kI, .int)]) [0] rfl
                  have hFc := va_freeT (wc := [(m9, .inr (23, mT mr mv vf 0 xa3 (nI T) (nI im) (nI tm1) xm (nI sc) (nI vm))), (mr 6, .inl (kI, 3002, .inl fa))]) hD hS hA [2, 3] rfl
                  refine va_callv (va_runV (As := [.int 3, .int (nI s1)]) (rest := []) ⟨hx, hb, hml, hown, hts⟩ (c_tfa0 l dC dI m9 mr mv vf xa3 xm T im tm1 sc vm kI fa 3 s1 H.size (by omega)) (cwV 2 hts g_c_its_c_tfa0_65 rfl rfl rfl (by decide +kernel) ⟨Nat.le_of_ble_eq_true rfl, Nat.le_of_ble_eq_true rfl⟩) ⟨fun a U g mk q => by obtain ⟨q0, q1, qP, qK, qD⟩ := q; exact ⟨q0, q1, qP, va_K.moved (u := U) (U := U.calling g mk a) (Vm.Alike.refl U.vm) qK, qD⟩, va_recv hKc hPc (ci := 23) (q0 := 0) rfl rfl, fun U hU hW => ⟨rfl, by rw [hU], by rw [hU]; exact hPc, va_K.moved hW.alike hKc, hDc.weaken (fun _ _ _ _ => trivial)⟩⟩ rfl rfl hl.1 rfl (lv_room (Nat.le_of_ble_eq_true rfl)) dX23_itemTypes_65 ⟨(show (tm1 - tm) + 0 ≤ (2 * (ms ii - ps ii) + 8) by omega), (show (4 * (tm1 - tm)) + 0 ≤ (8 * (ms ii - ps ii) + 32) by omega)⟩) hS (fun q _ h => hFc q h) hFc (fun u tS H1 locs ht hvm hw hB hz1 hk1 hS => ?_)
                  obtain ⟨hP1, hK1, hD1⟩ := hB
                  rw [ht] at hP1
                  have hK1 := va_K.moved hvm.symm hK1
                  obtain ⟨hP, hD⟩ := va_joinT (wr := [(mr 11, .inl (kM, 70, .inr (.inr (.inr (.inr fi))))), (mr 18, .inl (kT, 2000, .inr (.inr (.inr (.inr fy1))))), (mr 7, .inl (kI, 3002, .inl fe)), (mr 0, .inl (kI, 3000, .inl ft))]) (w1 := [(m9, .inr (23, mT mr mv vf 3 (fa s1) (nI T) (nI im) (nI tm1) xm (nI sc) (nI vm))), (mr 6, .inl (kI, 3002, .inl fa))]) hP hD [2, 3] [0, 1, 4, 5] rfl rfl (by decide) (by decide) hk1 hFc hP1 hD1
                  have hK := hK.app hK1
                  generalize H1 = H at hP hS ⊢
                  have hP : va_P (dC, dI) vwCl (([(mr 11, .inl (kM, 70, .inr (.inr (.inr (.inr fi))))), (mr 18, .inl (kT, 2000, .inr (.inr (.inr (.inr fy1))))), (mr 7, .inl (kI, 3002, .inl fe)), (mr 0, .inl (kI, 3000, .inl ft)), (m9, .inr (23, mT mr mv vf 3 (fa s1) (nI T) (nI im) (nI tm1) xm (nI sc) (nI vm))), (mr 6, .inl (kI, 3002, .inl fa))] : va_W) ++ (sT L1 F1)) H := hP
                  have hD : va_D A (([(mr 11, .inl (kM, 70, .inr (.inr (.inr (.inr fi))))), (mr 18, .inl (kT, 2000, .inr (.inr (.inr (.inr fy1))))), (mr 7, .inl (kI, 3002, .inl fe)), (mr 0, .inl (kI, 3000, .inl ft)), (m9, .inr (23, mT mr mv vf 3 (fa s1) (nI T) (nI im) (nI tm1) xm (nI sc) (nI vm))), (mr 6, .inl (kI, 3002, .inl fa))] : va_W) ++ (sT L1 F1)) := hD
                  have hK : va_K (dC, dI) vwCl [(kI, .int), (kM, .object RX16), (kT, .object RX20), (kW, .object RX22), (kI, .int)] s := hK
                  have hK := hK.sub (tys' := [(kI, .int), (kM, .object RX16), (kT, .object RX20), (kW, .object RX22)]) [0, 1, 2, 3] rfl
                  clear hz1 hk1 hPc hDc hKc hFc hP1 hD1 hK1
                  obtain ⟨fq10, efq10⟩ : ∃ zZ : Int32, zZ = 3 := ⟨_, rfl⟩
                  obtain ⟨fx10, efx10⟩ : ∃ zZ : Int32, zZ = fa s1 := ⟨_, rfl⟩
                  rw [← efx10] at hP hD
                  have hhfq10 : fq10 ≠ 0 := by rw [efq10]; decide
                  have hP : va_P (dC, dI) vwCl (([(mr 11, .inl (kM, 70, .inr (.inr (.inr (.inr fi))))), (mr 18, .inl (kT, 2000, .inr (.inr (.inr (.inr fy1))))), (mr 7, .inl (kI, 3002, .inl fe)), (mr 0, .inl (kI, 3000, .inl ft)), (m9, .inr (23, mT mr mv vf fq10 fx10 (nI T) (nI im) (nI tm1) xm (nI sc) (nI vm))), (mr 6, .inl (kI, 3002, .inl fa))] : va_W) ++ (sT L1 F1)) H := by rw [efq10]; exact hP
                  have hD : va_D A (([(mr 11, .inl (kM, 70, .inr (.inr (.inr (.inr fi))))), (mr 18, .inl (kT, 2000, .inr (.inr (.inr (.inr fy1))))), (mr 7, .inl (kI, 3002, .inl fe)), (mr 0, .inl (kI, 3000, .inl ft)), (m9, .inr (23, mT mr mv vf fq10 fx10 (nI T) (nI im) (nI tm1) xm (nI sc) (nI vm))), (mr 6, .inl (kI, 3002, .inl fa))] : va_W) ++ (sT L1 F1)) := by rw [efq10]; exact hD
                  clear efq10 efx10
                  obtain ⟨x_11, ex_11⟩ : ∃ yY : Int32, yY = (nI j) + 1 := ⟨_, rfl⟩
                  refine lv_iinc (v := x_11) (lv' := [(3, .int x_11), (2, .int (nI i)), (0, .ref m9), (1, .ref (xI ii))]) hx hb dX23_itemTypes_68 hl (k := 0) rfl (by rw [ex_11]; rfl) (by decide) rfl (fun ls hl => ?_)
                  obtain rfl : x_11 = nI (j + 1) := by rw [ex_11]; exact nI_1 j
                  have hl : lv_has ls 4 [(3, .int (nI (j + 1))), (2, .int (nI i)), (0, .ref m9), (1, .ref (xI ii))] := hl
                  refine lv_goto (tgt := 33) hx hb dX23_itemTypes_71 (by decide) ?_
                  exact ih2 (j + 1) fq10 fx10 _ _ _ (by omega) (hP.subT [4, 5, 2, 3, 0, 1] rfl) (hD.subT [4, 5, 2, 3, 0, 1] (by decide) rfl) hS (lv_sub hl [0, 1, 2, 3] rfl)
                · have hPc := hP.subF (f' := [(m9, .inr (23, mT mr mv vf ff3 xa3 (nI T) (nI im) (nI tm1) xm (nI sc) (nI vm))), (mr 6, .inl (kI, 3002, .inl fa))]) [2, 3] rfl
                  have hDc := hD.subF (f' := [(m9, .inr (23, mT mr mv vf ff3 xa3 (nI T) (nI im) (nI tm1) xm (nI sc) (nI vm))), (mr 6, .inl (kI, 3002, .inl fa))]) [2, 3] (by decide) rfl
                  have hKc := hK.sub (tys' := [(kI, .int)]) [0] rfl
                  have hFc := va_freeT (wc := [(m9, .inr (23, mT mr mv vf ff3 xa3 (nI T) (nI im) (nI tm1) xm (nI sc) (nI vm))), (mr 6, .inl (kI, 3002, .inl fa))]) hD hS hA [2, 3] rfl
                  refine va_callv (va_runV (As := [.int 3, .int (nI s1)]) (rest := []) ⟨hx, hb, hml, hown, hts⟩ (c_tfaB l dC dI m9 mr mv vf ff3 xa3 xm T im tm1 sc vm kI fa 3 (nI s1) H.size hz_9) (cwV 2 hts g_c_its_c_tfaB_65 rfl rfl rfl (by decide +kernel) ⟨Nat.le_of_ble_eq_true rfl, Nat.le_of_ble_eq_true rfl⟩) ⟨fun a U g mk q => by obtain ⟨q0, q1, qP, qK, qD⟩ := q; exact ⟨q0, q1, qP, va_K.moved (u := U) (U := U.calling g mk a) (Vm.Alike.refl U.vm) qK, qD⟩, va_recv hKc hPc (ci := 23) (q0 := 0) rfl rfl, fun U hU hW => ⟨rfl, by rw [hU], by rw [hU]; exact hPc, va_K.moved hW.alike hKc, hDc.weaken (fun _ _ _ _ => trivial)⟩⟩ rfl rfl hl.1 rfl (lv_room (Nat.le_of_ble_eq_true rfl)) dX23_itemTypes_65 ⟨(show (tm1 - tm) + 0 ≤ (2 * (ms ii - ps ii) + 8) by omega), (show (4 * (tm1 - tm)) + 0 ≤ (8 * (ms ii - ps ii) + 32) by omega)⟩) hS (fun q _ h => hFc q h) hFc (fun u tS H1 locs ht hvm hw hB hz1 hk1 hS => ?_)
                  obtain ⟨hP1, hK1, hD1⟩ := hB
                  rw [ht] at hP1
                  have hK1 := va_K.moved hvm.symm hK1
                  obtain ⟨hP, hD⟩ := va_joinT (wr := [(mr 11, .inl (kM, 70, .inr (.inr (.inr (.inr fi))))), (mr 18, .inl (kT, 2000, .inr (.inr (.inr (.inr fy1))))), (mr 7, .inl (kI, 3002, .inl fe)), (mr 0, .inl (kI, 3000, .inl ft))]) (w1 := [(m9, .inr (23, mT mr mv vf ff3 xa3 (nI T) (nI im) (nI tm1) xm (nI sc) (nI vm))), (mr 6, .inl (kI, 3002, .inl fa))]) hP hD [2, 3] [0, 1, 4, 5] rfl rfl (by decide) (by decide) hk1 hFc hP1 hD1
                  have hK := hK.app hK1
                  generalize H1 = H at hP hS ⊢
                  have hP : va_P (dC, dI) vwCl (([(mr 11, .inl (kM, 70, .inr (.inr (.inr (.inr fi))))), (mr 18, .inl (kT, 2000, .inr (.inr (.inr (.inr fy1))))), (mr 7, .inl (kI, 3002, .inl fe)), (mr 0, .inl (kI, 3000, .inl ft)), (m9, .inr (23, mT mr mv vf ff3 xa3 (nI T) (nI im) (nI tm1) xm (nI sc) (nI vm))), (mr 6, .inl (kI, 3002, .inl fa))] : va_W) ++ (sT L1 F1)) H := hP
                  have hD : va_D A (([(mr 11, .inl (kM, 70, .inr (.inr (.inr (.inr fi))))), (mr 18, .inl (kT, 2000, .inr (.inr (.inr (.inr fy1))))), (mr 7, .inl (kI, 3002, .inl fe)), (mr 0, .inl (kI, 3000, .inl ft)), (m9, .inr (23, mT mr mv vf ff3 xa3 (nI T) (nI im) (nI tm1) xm (nI sc) (nI vm))), (mr 6, .inl (kI, 3002, .inl fa))] : va_W) ++ (sT L1 F1)) := hD
                  have hK : va_K (dC, dI) vwCl [(kI, .int), (kM, .object RX16), (kT, .object RX20), (kW, .object RX22), (kI, .int)] s := hK
                  have hK := hK.sub (tys' := [(kI, .int), (kM, .object RX16), (kT, .object RX20), (kW, .object RX22)]) [0, 1, 2, 3] rfl
                  clear hz1 hk1 hPc hDc hKc hFc hP1 hD1 hK1
                  obtain ⟨x_11, ex_11⟩ : ∃ yY : Int32, yY = (nI j) + 1 := ⟨_, rfl⟩
                  refine lv_iinc (v := x_11) (lv' := [(3, .int x_11), (2, .int (nI i)), (0, .ref m9), (1, .ref (xI ii))]) hx hb dX23_itemTypes_68 hl (k := 0) rfl (by rw [ex_11]; rfl) (by decide) rfl (fun ls hl => ?_)
                  obtain rfl : x_11 = nI (j + 1) := by rw [ex_11]; exact nI_1 j
                  have hl : lv_has ls 4 [(3, .int (nI (j + 1))), (2, .int (nI i)), (0, .ref m9), (1, .ref (xI ii))] := hl
                  refine lv_goto (tgt := 33) hx hb dX23_itemTypes_71 (by decide) ?_
                  exact ih2 (j + 1) ff3 xa3 _ _ _ (by omega) (hP.subT [4, 5, 2, 3, 0, 1] rfl) (hD.subT [4, 5, 2, 3, 0, 1] (by decide) rfl) hS (lv_sub hl [0, 1, 2, 3] rfl)
        exact key2 (i + 1) 0 0 xa1 _ _ _ (by omega) (hP.subT [5, 0, 1, 2, 3, 4] rfl) (hD.subT [5, 0, 1, 2, 3, 4] (by decide) rfl) hS (lv_sub hl [0, 1, 2, 3] rfl)
  refine W.widen (k := (tm - tm)) (n := (4 * (tm - tm))) (by omega) (by omega) ?_
  exact key1 (mn + 1) 0 xa L F G tm fy Y ad _ _ _ (by omega) htg tX.rf hrw (fun _ _ _ q => q) (fun _ _ => rfl) ((rl_rb htg.2.1 hta hGt).elim (fun g2 hg2 => ⟨13, g2, hg2, by omega, fun k hk => absurd hk (by omega)⟩)) (⟨by omega, by omega, by omega⟩) (hP.subT [0, 1, 2, 3, 4, 5] rfl) (hD.subT [0, 1, 2, 3, 4, 5] (by decide) rfl) hS (lv_sub hl [0, 1, 2] rfl)
