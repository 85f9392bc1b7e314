def wf_c_vblB : List Cond := [.code yX23_block cX23_block 5 (some (.object "OwnedPlacesModel$Block")), .classLink RX23 236 RX14, .instantiable RX14 4, .initialized RX14, .code yX14_init cX14_init 1 none, .methodLink RX14 1 objectInit, .instanceMethod objectInit, .code objectInit ⟨#[0xb1]⟩ 1 none, .classLink RX14 7 RX19, .fieldLink RX14 9 "OwnedPlacesModel$Block" "list" "[LOwnedPlacesModel$Statement;", .instanceMethod yX14_init, .code yX23_ok cX23_ok 1 (some .boolean), .fieldLink RX23 80 "OwnedPlacesModel" "fault" "I", .methodLink RX23 89 yX23_ok, .instanceMethod yX23_ok, .selects RX23 yX23_ok yX23_ok, .initialized RX23]
def wp_c_vblB : List Cond := wf_c_vblB ++ (wsX140 ++ (wsX230 ++ []))
theorem in_c_vblB_X14 : ∀ w ∈ wsX140, w ∈ wp_c_vblB := fun w h => List.mem_append_right _ (List.mem_append_left _ h)
theorem in_c_vblB_X23 : ∀ w ∈ wsX230, w ∈ wp_c_vblB := fun w h => List.mem_append_right _ (List.mem_append_right _ (List.mem_append_left _ h))
theorem wg_c_vblB : wf_c_vblB.all goodWord = true := by decide +kernel
theorem wm_c_vblB (k : Nat) {w : Cond} (h : wp_c_vblB[k]? = some w) : w ∈ wp_c_vblB := List.mem_of_getElem? h
set_option maxRecDepth 20000 in
theorem g_c_vblB_c_nB_4 : GoodIn wp_c_vblB wp_c_nB := goodIn_app (goodIn_f (wf_c_nB) [4, 5, 6, 7, 8, 9] rfl wg_c_nB) (goodIn_app (goodIn_sub in_c_vblB_X14 gd_X14) (goodIn_n))
set_option maxRecDepth 20000 in
theorem g_c_vblB_c_rokB_9 : GoodIn wp_c_vblB (wsV RX23 89 RX23 yX23_ok wp_c_rok0) := goodIn_app (goodIn_f [.methodLink RX23 89 yX23_ok, .instanceMethod yX23_ok, .selects RX23 yX23_ok yX23_ok, .initialized RX23] [13, 14, 15, 16] rfl (by decide +kernel)) (goodIn_app (goodIn_f (wf_c_rok0) [11, 12] rfl wg_c_rok0) (goodIn_app (goodIn_sub in_c_vblB_X23 gd_X23) (goodIn_n)))
set_option maxHeartbeats 4000000 in
set_option maxRecDepth 100000 in
theorem c_vblB (l : Launch) (dC : Nat → ClassId) (dI : Nat → Nat → Nat) (m9 : Nat) (mr : Nat → Nat) (mv : Nat → Int32) (vf : Value) (xl xa xi xt xn : Int32) (zs T pp ns vv bb : Nat) (kI : ClassId) (fk fa : Nat → Int32) (ff : Int32) (kS : ClassId) (L : List Nat) (F : Nat → va_E) (sl : Nat) (sz : Nat) (hff : ff ≠ 0) : Met l yX23_block wp_c_vblB ({ frames := 2, cells := 2, slots := 8, locals := 32 }) (va_Pc [.ref m9] (fun U => U.heap.size = sz ∧ va_P (dC, dI) vwCl (([(m9, .inr (23, mA mr mv vf xl (nI zs) ff xa (nI T) (nI pp) xi xt xn (nI ns) (nI vv) (nI bb))), (mr 5, .inl (kI, 3002, .inl fk)), (mr 6, .inl (kI, 3002, .inl fa))] : va_W) ++ (sT L F)) U.heap ∧ va_K (dC, dI) vwCl [(kI, .int), (kS, .object RX19)] U ∧ va_D (fun _ => True) (([(m9, .inr (23, mA mr mv vf xl (nI zs) ff xa (nI T) (nI pp) xi xt xn (nI ns) (nI vv) (nI bb))), (mr 5, .inl (kI, 3002, .inl fk)), (mr 6, .inl (kI, 3002, .inl fa))] : va_W) ++ (sT L F)) ∧ nsM U ∧ slN U.heap = sl)) (va_Qr (fun _ : Unit => True) (fun (_ : Unit) (rA : Nat) (tS : State) => ∃ (L2 : List Nat) (F2 : Nat → va_E), (exS L F L2 F2 ∧ oN 14 L2 F2 rA) ∧ (tS.heap.size ≤ sz + (2) ∧ slN tS.heap ≤ sl + (8)) ∧ va_P (dC, dI) vwCl (([(m9, .inr (23, mA mr mv vf xl (nI zs) ff xa (nI T) (nI pp) xi xt xn (nI ns) (nI vv) (nI bb))), (mr 5, .inl (kI, 3002, .inl fk)), (mr 6, .inl (kI, 3002, .inl fa))] : va_W) ++ (sT L2 F2)) tS.heap ∧ va_K (dC, dI) vwCl [(kI, .int), (kS, .object RX19)] tS ∧ va_D (va_A (([(m9, .inr (23, mA mr mv vf xl (nI zs) ff xa (nI T) (nI pp) xi xt xn (nI ns) (nI vv) (nI bb))), (mr 5, .inl (kI, 3002, .inl fk)), (mr 6, .inl (kI, 3002, .inl fa))] : va_W) ++ (sT L F)) sz) (([(m9, .inr (23, mA mr mv vf xl (nI zs) ff xa (nI T) (nI pp) xi xt xn (nI ns) (nI vv) (nI bb))), (mr 5, .inl (kI, 3002, .inl fk)), (mr 6, .inl (kI, 3002, .inl fa))] : va_W) ++ (sT L2 F2))) (va_A (([(m9, .inr (23, mA mr mv vf xl (nI zs) ff xa (nI T) (nI pp) xi xt xn (nI ns) (nI vv) (nI bb))), (mr 5, .inl (kI, 3002, .inl fk)), (mr 6, .inl (kI, 3002, .inl fa))] : va_W) ++ (sT L F)) sz)) 2 8 (va_A (([(m9, .inr (23, mA mr mv vf xl (nI zs) ff xa (nI T) (nI pp) xi xt xn (nI ns) (nI vv) (nI bb))), (mr 5, .inl (kI, 3002, .inl fk)), (mr 6, .inl (kI, 3002, .inl fa))] : va_W) ++ (sT L F)) sz) := by
  refine Met.ofW (cc := cX23_block) (maxL := 5) (ret := (some (.object "OwnedPlacesModel$Block"))) (by decide) rfl ?_
  intro p e s m args below meth c s₁ B hml hv
  obtain ⟨rfl, hsz, hP, hK, hD0, hpre0, hpre1⟩ := hv
  have hx := B.exec
  have hb := B.bytes
  have hr := B.returns
  have hts := atoms_spec (ws := wp_c_vblB) B.pre
  have hown : s.vm.findClass RX23 = some m.cls := findClass_of_methodNamed B.named
  have hlocks := B.notSynchronized
  subst hsz
  have hD := hD0.self (sz := s.heap.size)
  generalize hAe : va_A (([(m9, .inr (23, mA mr mv vf xl (nI zs) ff xa (nI T) (nI pp) xi xt xn (nI ns) (nI vv) (nI bb))), (mr 5, .inl (kI, 3002, .inl fk)), (mr 6, .inl (kI, 3002, .inl fa))] : va_W) ++ (sT L F)) s.heap.size = A at hD ⊢
  have hA : ∀ q : Nat, s.heap.size ≤ q → A q := fun q h => by rw [← hAe]; exact Or.inr h
  have hS : va_S A s.heap s.heap [] := va_S.rf
  have hP : va_P (dC, dI) vwCl (([(m9, .inr (23, mA mr mv vf xl (nI zs) ff xa (nI T) (nI pp) xi xt xn (nI ns) (nI vv) (nI bb))), (mr 5, .inl (kI, 3002, .inl fk)), (mr 6, .inl (kI, 3002, .inl fa))] : va_W) ++ (sT L F)) s.heap := hP
  have hl := lv_entry ([.ref m9]) (n := 5) (Nat.le_of_ble_eq_true rfl)
  rw [lg_entry_eq]
  generalize (lg_sl ([.ref m9]) ++ List.replicate (5 - (lg_sl ([.ref m9])).length) Slot.unset).toArray = ls at hl ⊢
  have hl : lv_has ls 5 [(0, .ref m9)] := hl
  have hns := hpre0
  subst hpre1
  refine va_new (ci := 14) (fs := [.int 0, .int 0, .null, .int 0]) (C := RX14) (T := TX14) (N := 4) hx hb hts in_c_vblB_X14 tyX14 tyX14_ok hown (hts (.classLink RX23 236 RX14) (wm_c_vblB 1 rfl)) (hts (.instantiable RX14 4) (wm_c_vblB 2 rfl)) (hts (.initialized RX14) (wm_c_vblB 3 rfl)) hK hP hD hS hA rfl dv_X14 (show 0 + 1 ≤ 2 by omega) (show 0 + 4 ≤ 8 by omega) dX23_block_0 (fun q_1 H hP hD hS => ?_)
  have hP := va_P.nt hP
  have hD := va_D.nt hD
  have hP : va_P (dC, dI) vwCl (([(m9, .inr (23, mA mr mv vf xl (nI zs) ff xa (nI T) (nI pp) xi xt xn (nI ns) (nI vv) (nI bb))), (mr 5, .inl (kI, 3002, .inl fk)), (mr 6, .inl (kI, 3002, .inl fa)), (q_1, .inr (14, [.int 0, .int 0, .null, .int 0]))] : va_W) ++ (sT L F)) H := hP
  have hD : va_D A (([(m9, .inr (23, mA mr mv vf xl (nI zs) ff xa (nI T) (nI pp) xi xt xn (nI ns) (nI vv) (nI bb))), (mr 5, .inl (kI, 3002, .inl fk)), (mr 6, .inl (kI, 3002, .inl fa)), (q_1, .inr (14, [.int 0, .int 0, .null, .int 0]))] : va_W) ++ (sT L F)) := hD
  refine W.widen (k := 1) (n := 4) (by omega) (by omega) ?_
  refine lv_dup hx hb dX23_block_3 rfl ?_
  have hPc := hP.subF (f' := [(q_1, .inr (14, [.int 0, .int 0, .null, .int 0]))]) [3] rfl
  have hDc := hD.subF (f' := [(q_1, .inr (14, [.int 0, .int 0, .null, .int 0]))]) [3] (by decide) rfl
  have hKc := hK.sub (tys' := [(kS, .object RX19)]) [1] rfl
  have hFc := va_freeT (wc := [(q_1, .inr (14, [.int 0, .int 0, .null, .int 0]))]) hD hS hA [3] rfl
  refine W.grow (fun hgs0 hgs1 => ?_)
  refine va_callv (va_runIN (As := []) (rest := [.ref q_1]) ⟨hx, hb, hml, hown, hts⟩ (c_nB l dC dI q_1 kS (slN H) H.size) ⟨va_cnB 0 hts g_c_vblB_c_nB_4 rfl rfl rfl hns.1.2.2.2.1 (hts (.initialized RX14) (wm_c_vblB 3 rfl)) (by decide +kernel) ⟨Nat.le_of_ble_eq_true rfl, Nat.le_of_ble_eq_true rfl⟩, rfl, (hts (.instanceMethod yX14_init) (wm_c_vblB 10 rfl))⟩ ⟨fun a U g mk q => by obtain ⟨q0, q1, qP, qK, qD, qx0, qx1⟩ := q; exact ⟨q0, q1, qP, va_K.moved (u := U) (U := U.calling g mk a) (Vm.Alike.refl U.vm) qK, qD, nsM.same (u := U) (U := U.calling g mk a) rfl qx0, qx1⟩, fun U hU hW => ⟨rfl, by rw [hU], by rw [hU]; exact hPc, va_K.moved hW.alike hKc, hDc.weaken (fun _ _ _ _ => trivial), nsM.warm hW hns, by rw [hU]⟩⟩ rfl rfl hl.1 rfl (lv_room (Nat.le_of_ble_eq_true rfl)) dX23_block_4 ⟨(show 1 + 1 ≤ 2 by omega), (show 4 + 4 ≤ 8 by omega)⟩) hS (fun q _ h => hFc q h) hFc (fun u tS H1 locs ht hvm hw hB hz1 hk1 hS => ?_)
  obtain ⟨la0, hf2_0, hP1, hK1, hD1⟩ := hB
  rw [ht] at hP1
  have hK1 := va_K.moved hvm.symm hK1
  rw [ht] at hf2_0
  have hgz : H1.size ≤ s.heap.size + ((1 + 1)) ∧ slN H1 ≤ slN s.heap + ((4 + 4)) := ⟨by have := hf2_0.1; omega, by have := hf2_0.2; omega⟩
  obtain ⟨hP, hD⟩ := va_joinT (wr := [(m9, .inr (23, mA mr mv vf xl (nI zs) ff xa (nI T) (nI pp) xi xt xn (nI ns) (nI vv) (nI bb))), (mr 5, .inl (kI, 3002, .inl fk)), (mr 6, .inl (kI, 3002, .inl fa))]) (w1 := [(q_1, .inr (14, [.int 0, .int 0, .ref la0, .int 0])), (la0, .inl (kS, 4, .inr (.inr (.inr (.inr (fun _ => none))))))]) hP hD [3] [0, 1, 2] rfl rfl (by decide) (by decide) hk1 hFc hP1 hD1
  have hK := hK.app hK1
  generalize H1 = H at hP hS hgz ⊢
  have hP : va_P (dC, dI) vwCl (([(m9, .inr (23, mA mr mv vf xl (nI zs) ff xa (nI T) (nI pp) xi xt xn (nI ns) (nI vv) (nI bb))), (mr 5, .inl (kI, 3002, .inl fk)), (mr 6, .inl (kI, 3002, .inl fa)), (q_1, .inr (14, [.int 0, .int 0, .ref la0, .int 0])), (la0, .inl (kS, 4, .inr (.inr (.inr (.inr (fun _ => none))))))] : va_W) ++ (sT L F)) H := hP
  have hD : va_D A (([(m9, .inr (23, mA mr mv vf xl (nI zs) ff xa (nI T) (nI pp) xi xt xn (nI ns) (nI vv) (nI bb))), (mr 5, .inl (kI, 3002, .inl fk)), (mr 6, .inl (kI, 3002, .inl fa)), (q_1, .inr (14, [.int 0, .int 0, .ref la0, .int 0])), (la0, .inl (kS, 4, .inr (.inr (.inr (.inr (fun _ => none))))))] : va_W) ++ (sT L F)) := hD
  have hK : va_K (dC, dI) vwCl [(kI, .int), (kS, .object RX19), (kS, .object RX19)] s := hK
  have hK := hK.sub (tys' := [(kI, .int), (kS, .object RX19)]) [0, 1] rfl
  refine W.tight (k := (1 + 1)) (n := (4 + 4)) hgz.1 hgz.2 ?_
  clear hz1 hk1 hPc hDc hKc hFc hP1 hD1 hK1
  refine lv_astore_n (lv' := [(1, .ref q_1), (0, .ref m9)]) hx hb dX23_block_7 rfl hl (by decide) rfl (fun ls hl => ?_)
  refine lv_aload_n hx hb dX23_block_8 rfl (lv_at hl 1 rfl) ?_
  have hPc := hP.subF (f' := [(m9, .inr (23, mA mr mv vf xl (nI zs) ff xa (nI T) (nI pp) xi xt xn (nI ns) (nI vv) (nI bb)))]) [0] rfl
  have hDc := hD.subF (f' := [(m9, .inr (23, mA mr mv vf xl (nI zs) ff xa (nI T) (nI pp) xi xt xn (nI ns) (nI vv) (nI bb)))]) [0] (by decide) rfl
  have hKc := hK.sub (tys' := []) [] rfl
  have hFc := va_freeT (wc := [(m9, .inr (23, mA mr mv vf xl (nI zs) ff xa (nI T) (nI pp) xi xt xn (nI ns) (nI vv) (nI bb)))]) hD hS hA [0] rfl
  refine va_calli (va_runV (As := []) (rest := []) ⟨hx, hb, hml, hown, hts⟩ (c_rokB l dC dI m9 mr mv vf xl xa xi xt xn zs T pp ns vv bb kI fk fa ff H.size hff) (cwV 0 hts g_c_vblB_c_rokB_9 rfl rfl rfl (by decide +kernel) ⟨Nat.le_of_ble_eq_true rfl, Nat.le_of_ble_eq_true rfl⟩) ⟨fun a U g mk q => by obtain ⟨q0, q1, qP, qK, qD⟩ := q; exact ⟨q0, q1, qP, va_K.moved (u := U) (U := U.calling g mk a) (Vm.Alike.refl U.vm) qK, qD⟩, va_recv hKc hPc (ci := 23) (q0 := 0) rfl rfl, fun U hU hW => ⟨rfl, by rw [hU], by rw [hU]; exact hPc, va_K.moved hW.alike hKc, hDc.weaken (fun _ _ _ _ => trivial)⟩⟩ rfl rfl hl.1 rfl (lv_room (Nat.le_of_ble_eq_true rfl)) dX23_block_9 ⟨(show (1 + 1) + 0 ≤ 2 by omega), (show (4 + 4) + 0 ≤ 8 by omega)⟩) hS (fun q _ h => hFc q h) hFc (fun r_3 u tS H1 locs ht hvm hw hB hz1 hk1 hS => ?_)
  obtain ⟨hP1, hK1, hD1⟩ := hB
  rw [ht] at hP1
  have hK1 := va_K.moved hvm.symm hK1
  obtain ⟨hP, hD⟩ := va_joinT (wr := [(mr 5, .inl (kI, 3002, .inl fk)), (mr 6, .inl (kI, 3002, .inl fa)), (q_1, .inr (14, [.int 0, .int 0, .ref la0, .int 0])), (la0, .inl (kS, 4, .inr (.inr (.inr (.inr (fun _ => none))))))]) (w1 := [(m9, .inr (23, mA mr mv vf xl (nI zs) ff xa (nI T) (nI pp) xi xt xn (nI ns) (nI vv) (nI bb)))]) hP hD [0] [1, 2, 3, 4] rfl rfl (by decide) (by decide) hk1 hFc hP1 hD1
  generalize H1 = H at hP hS ⊢
  have hP : va_P (dC, dI) vwCl (([(mr 5, .inl (kI, 3002, .inl fk)), (mr 6, .inl (kI, 3002, .inl fa)), (q_1, .inr (14, [.int 0, .int 0, .ref la0, .int 0])), (la0, .inl (kS, 4, .inr (.inr (.inr (.inr (fun _ => none)))))), (m9, .inr (23, mA mr mv vf xl (nI zs) ff xa (nI T) (nI pp) xi xt xn (nI ns) (nI vv) (nI bb)))] : va_W) ++ (sT L F)) H := hP
  have hD : va_D A (([(mr 5, .inl (kI, 3002, .inl fk)), (mr 6, .inl (kI, 3002, .inl fa)), (q_1, .inr (14, [.int 0, .int 0, .ref la0, .int 0])), (la0, .inl (kS, 4, .inr (.inr (.inr (.inr (fun _ => none)))))), (m9, .inr (23, mA mr mv vf xl (nI zs) ff xa (nI T) (nI pp) xi xt xn (nI ns) (nI vv) (nI bb)))] : va_W) ++ (sT L F)) := hD
  have hK : va_K (dC, dI) vwCl [(kI, .int), (kS, .object RX19)] s := hK
  clear hz1 hk1 hPc hDc hKc hFc hP1 hD1 hK1
  obtain rfl : r_3 = 0 := hw
  refine lv_if_ne (tgt := 17) hx hb dX23_block_12 (by decide) (fun c_4 => absurd c_4 (by decide)) (fun _ => ?_)
  refine lv_aload_n hx hb dX23_block_15 rfl (lv_at hl 0 rfl) ?_
  have hP : va_P (dC, dI) vwCl ((([(mr 5, .inl (kI, 3002, .inl fk)), (mr 6, .inl (kI, 3002, .inl fa)), (m9, .inr (23, mA mr mv vf xl (nI zs) ff xa (nI T) (nI pp) xi xt xn (nI ns) (nI vv) (nI bb)))] : va_W) ++ ([(q_1, .inr (14, [.int 0, .int 0, .ref la0, .int 0])), (la0, .inl (kS, 4, .inr (.inr (.inr (.inr (fun _ => none))))))] : va_W)) ++ sT L F) H := hP.subT (f' := [(mr 5, .inl (kI, 3002, .inl fk)), (mr 6, .inl (kI, 3002, .inl fa)), (m9, .inr (23, mA mr mv vf xl (nI zs) ff xa (nI T) (nI pp) xi xt xn (nI ns) (nI vv) (nI bb))), (q_1, .inr (14, [.int 0, .int 0, .ref la0, .int 0])), (la0, .inl (kS, 4, .inr (.inr (.inr (.inr (fun _ => none))))))]) [0, 1, 4, 2, 3] rfl
  have hD : va_D A ((([(mr 5, .inl (kI, 3002, .inl fk)), (mr 6, .inl (kI, 3002, .inl fa)), (m9, .inr (23, mA mr mv vf xl (nI zs) ff xa (nI T) (nI pp) xi xt xn (nI ns) (nI vv) (nI bb)))] : va_W) ++ ([(q_1, .inr (14, [.int 0, .int 0, .ref la0, .int 0])), (la0, .inl (kS, 4, .inr (.inr (.inr (.inr (fun _ => none))))))] : va_W)) ++ sT L F) := hD.subT (f' := [(mr 5, .inl (kI, 3002, .inl fk)), (mr 6, .inl (kI, 3002, .inl fa)), (m9, .inr (23, mA mr mv vf xl (nI zs) ff xa (nI T) (nI pp) xi xt xn (nI ns) (nI vv) (nI bb))), (q_1, .inr (14, [.int 0, .int 0, .ref la0, .int 0])), (la0, .inl (kS, 4, .inr (.inr (.inr (.inr (fun _ => none))))))]) [0, 1, 4, 2, 3] (by decide) rfl
  obtain ⟨L9, F9, hx9, hm9, hP, hD⟩ := st_fileL [(q_1, .inr (14, [.int 0, .int 0, .ref la0, .int 0])), (la0, .inl (kS, 4, .inr (.inr (.inr (.inr (fun _ => none))))))] hP hD
  have hm9_0 := hm9 _ (List.mem_of_getElem? (i := 0) rfl)
  have hm9_1 := hm9 _ (List.mem_of_getElem? (i := 1) rfl)
  refine W.grow (fun hgs0 hgs1 => ?_)
  have hP9 := hP.subT (f' := [(m9, .inr (23, mA mr mv vf xl (nI zs) ff xa (nI T) (nI pp) xi xt xn (nI ns) (nI vv) (nI bb))), (mr 5, .inl (kI, 3002, .inl fk)), (mr 6, .inl (kI, 3002, .inl fa))]) [2, 0, 1] rfl
  have hD9 := hD.subT (f' := [(m9, .inr (23, mA mr mv vf xl (nI zs) ff xa (nI T) (nI pp) xi xt xn (nI ns) (nI vv) (nI bb))), (mr 5, .inl (kI, 3002, .inl fk)), (mr 6, .inl (kI, 3002, .inl fa))]) [2, 0, 1] (by decide) rfl
  have hK9 := hK.sub (tys' := [(kI, .int), (kS, .object RX19)]) [0, 1] rfl
  refine W.widen (k := 2) (n := 8) (by omega) (by omega) ?_
  exact W.aret hx hb hr (Or.inl ⟨_, rfl⟩) (Or.inr ⟨q_1, rfl⟩) (fun tS ht hW => ⟨⟨(), q_1, rfl, trivial, L9, F9, ⟨hx9, hm9_0.1, _, hm9_0.2⟩, by rw [ht]; exact ⟨by omega, by omega⟩, by rw [ht]; exact hP9, va_K.moved hW.alike hK9, hD9⟩, hS.F ht⟩) hS.2.2 dX23_block_16
def wf_c_xc1B : List Cond := [.code yX23_chain cX23_chain 6 (some (.object "OwnedPlacesModel$Exp")), .code yX23_unary cX23_unary 3 (some (.object "OwnedPlacesModel$Exp")), .classLink RX23 295 RX15, .instantiable RX15 14, .initialized RX15, .code yX15_init cX15_init 1 none, .methodLink RX15 1 objectInit, .instanceMethod objectInit, .code objectInit ⟨#[0xb1]⟩ 1 none, .instanceMethod yX15_init, .code yX23_ok cX23_ok 1 (some .boolean), .fieldLink RX23 80 "OwnedPlacesModel" "fault" "I", .methodLink RX23 89 yX23_ok, .instanceMethod yX23_ok, .selects RX23 yX23_ok yX23_ok, .initialized RX23, .methodLink RX23 343 yX23_unary, .instanceMethod yX23_unary, .selects RX23 yX23_unary yX23_unary, .methodLink RX23 333 yX23_chain, .instanceMethod yX23_chain, .selects RX23 yX23_chain yX23_chain]
def wp_c_xc1B : List Cond := wf_c_xc1B ++ (wsX150 ++ (wsX230 ++ []))
theorem in_c_xc1B_X15 : ∀ w ∈ wsX150, w ∈ wp_c_xc1B := fun w h => List.mem_append_right _ (List.mem_append_left _ h)
theorem in_c_xc1B_X23 : ∀ w ∈ wsX230, w ∈ wp_c_xc1B := fun w h => List.mem_append_right _ (List.mem_append_right _ (List.mem_append_left _ h))
theorem wg_c_xc1B : wf_c_xc1B.all goodWord = true := by decide +kernel
theorem wm_c_xc1B (k : Nat) {w : Cond} (h : wp_c_xc1B[k]? = some w) : w ∈ wp_c_xc1B := List.mem_of_getElem? h
set_option maxRecDepth 20000 in
theorem g_c_xc1B_c_xc2B_16 : GoodIn wp_c_xc1B (wsV RX23 333 RX23 yX23_chain wp_c_xc2B) := goodIn_app (goodIn_f [.methodLink RX23 333 yX23_chain, .instanceMethod yX23_chain, .selects RX23 yX23_chain yX23_chain, .initialized RX23] [19, 20, 21, 15] rfl (by decide +kernel)) (goodIn_app (goodIn_f (wf_c_xc2B) [0, 1, 2, 3, 4, 5, 6, 7, 8, 9, 10, 11, 12, 13, 14, 15, 16, 17, 18, 19, 20, 21] rfl wg_c_xc2B) (goodIn_app (goodIn_sub in_c_xc1B_X15 gd_X15) (goodIn_app (goodIn_sub in_c_xc1B_X23 gd_X23) (goodIn_n))))
set_option maxRecDepth 20000 in
theorem g_c_xc1B_c_rokB_30 : GoodIn wp_c_xc1B (wsV RX23 89 RX23 yX23_ok wp_c_rok0) := goodIn_app (goodIn_f [.methodLink RX23 89 yX23_ok, .instanceMethod yX23_ok, .selects RX23 yX23_ok yX23_ok, .initialized RX23] [12, 13, 14, 15] rfl (by decide +kernel)) (goodIn_app (goodIn_f (wf_c_rok0) [10, 11] rfl wg_c_rok0) (goodIn_app (goodIn_sub in_c_xc1B_X23 gd_X23) (goodIn_n)))
set_option maxHeartbeats 4000000 in
set_option maxRecDepth 100000 in
theorem c_xc1B (l : Launch) (dC : Nat → ClassId) (dI : Nat → Nat → Nat) (m9 : Nat) (mr : Nat → Nat) (mv : Nat → Int32) (vf : Value) (xl xa xi xt xn : Int32) (zs T pp ns vv bb : Nat) (kI : ClassId) (fk fa : Nat → Int32) (ff : Int32) (L : List Nat) (F : Nat → va_E) (sl : Nat) (sz : Nat) (hff : ff ≠ 0) : Met l yX23_chain wp_c_xc1B ({ frames := 8, cells := 1, slots := 14, locals := 179 }) (va_Pc [.ref m9, .int 1] (fun U => U.heap.size = sz ∧ va_P (dC, dI) vwCl (([(m9, .inr (23, mA mr mv vf xl (nI zs) ff xa (nI T) (nI pp) xi xt xn (nI ns) (nI vv) (nI bb))), (mr 5, .inl (kI, 3002, .inl fk)), (mr 6, .inl (kI, 3002, .inl fa))] : va_W) ++ (sT L F)) U.heap ∧ va_K (dC, dI) vwCl [(kI, .int)] U ∧ va_D (fun _ => True) (([(m9, .inr (23, mA mr mv vf xl (nI zs) ff xa (nI T) (nI pp) xi xt xn (nI ns) (nI vv) (nI bb))), (mr 5, .inl (kI, 3002, .inl fk)), (mr 6, .inl (kI, 3002, .inl fa))] : va_W) ++ (sT L F)) ∧ nsM U ∧ slN U.heap = sl)) (va_Qr (fun _ : Unit => True) (fun (_ : Unit) (rA : Nat) (tS : State) => ∃ (L2 : List Nat) (F2 : Nat → va_E), (exS L F L2 F2 ∧ xO L2 F2 rA) ∧ (tS.heap.size ≤ sz + (1) ∧ slN tS.heap ≤ sl + (14)) ∧ va_P (dC, dI) vwCl (([(m9, .inr (23, mA mr mv vf xl (nI zs) ff xa (nI T) (nI pp) xi xt xn (nI ns) (nI vv) (nI bb))), (mr 5, .inl (kI, 3002, .inl fk)), (mr 6, .inl (kI, 3002, .inl fa))] : va_W) ++ (sT L2 F2)) tS.heap ∧ va_K (dC, dI) vwCl [(kI, .int)] tS ∧ va_D (va_A (([(m9, .inr (23, mA mr mv vf xl (nI zs) ff xa (nI T) (nI pp) xi xt xn (nI ns) (nI vv) (nI bb))), (mr 5, .inl (kI, 3002, .inl fk)), (mr 6, .inl (kI, 3002, .inl fa))] : va_W) ++ (sT L F)) sz) (([(m9, .inr (23, mA mr mv vf xl (nI zs) ff xa (nI T) (nI pp) xi xt xn (nI ns) (nI vv) (nI bb))), (mr 5, .inl (kI, 3002, .inl fk)), (mr 6, .inl (kI, 3002, .inl fa))] : va_W) ++ (sT L2 F2))) (va_A (([(m9, .inr (23, mA mr mv vf xl (nI zs) ff xa (nI T) (nI pp) xi xt xn (nI ns) (nI vv) (nI bb))), (mr 5, .inl (kI, 3002, .inl fk)), (mr 6, .inl (kI, 3002, .inl fa))] : va_W) ++ (sT L F)) sz)) 1 14 (va_A (([(m9, .inr (23, mA mr mv vf xl (nI zs) ff xa (nI T) (nI pp) xi xt xn (nI ns) (nI vv) (nI bb))), (mr 5, .inl (kI, 3002, .inl fk)), (mr 6, .inl (kI, 3002, .inl fa))] : va_W) ++ (sT L F)) sz) := by
  refine Met.ofW (cc := cX23_chain) (maxL := 6) (ret := (some (.object "OwnedPlacesModel$Exp"))) (by decide) rfl ?_
  intro p e s m args below meth c s₁ B hml hv
  obtain ⟨rfl, hsz, hP, hK, hD0, hpre0, hpre1⟩ := hv
  have hx := B.exec
  have hb := B.bytes
  have hr := B.returns
  have hts := atoms_spec (ws := wp_c_xc1B) B.pre
  have hown : s.vm.findClass RX23 = some m.cls := findClass_of_methodNamed B.named
  have hlocks := B.notSynchronized
  subst hsz
  have hD := hD0.self (sz := s.heap.size)
  generalize hAe : va_A (([(m9, .inr (23, mA mr mv vf xl (nI zs) ff xa (nI T) (nI pp) xi xt xn (nI ns) (nI vv) (nI bb))), (mr 5, .inl (kI, 3002, .inl fk)), (mr 6, .inl (kI, 3002, .inl fa))] : va_W) ++ (sT L F)) s.heap.size = A at hD ⊢
  have hA : ∀ q : Nat, s.heap.size ≤ q → A q := fun q h => by rw [← hAe]; exact Or.inr h
  have hS : va_S A s.heap s.heap [] := va_S.rf
  have hP : va_P (dC, dI) vwCl (([(m9, .inr (23, mA mr mv vf xl (nI zs) ff xa (nI T) (nI pp) xi xt xn (nI ns) (nI vv) (nI bb))), (mr 5, .inl (kI, 3002, .inl fk)), (mr 6, .inl (kI, 3002, .inl fa))] : va_W) ++ (sT L F)) s.heap := hP
  have hl := lv_entry ([.ref m9, .int 1]) (n := 6) (Nat.le_of_ble_eq_true rfl)
  rw [lg_entry_eq]
  generalize (lg_sl ([.ref m9, .int 1]) ++ List.replicate (6 - (lg_sl ([.ref m9, .int 1])).length) Slot.unset).toArray = ls at hl ⊢
  have hl : lv_has ls 6 [(0, .ref m9), (1, .int 1)] := hl
  have hns := hpre0
  subst hpre1
  refine lv_iload_n hx hb dX23_chain_0 rfl (lv_at hl 1 rfl) ?_
  refine lv_iconst (v := 5) hx hb dX23_chain_1 (by decide) ?_
  refine lv_icmp_le (tgt := 12) hx hb dX23_chain_2 (by decide) (fun _ => ?_) (fun c_1 => absurd (by decide) c_1)
  refine lv_aload_n hx hb dX23_chain_12 rfl (lv_at hl 0 rfl) ?_
  refine lv_iload_n hx hb dX23_chain_13 rfl (lv_at hl 1 rfl) ?_
  refine lv_iconst (v := 1) hx hb dX23_chain_14 (by decide) ?_
  refine lv_iadd hx hb dX23_chain_15 ?_
  refine lv_topi (fun f_2 ef_2 => ?_)
  obtain rfl : f_2 = 2 := ef_2.trans (by decide)
  have hPc := hP.subT (f' := [(m9, .inr (23, mA mr mv vf xl (nI zs) ff xa (nI T) (nI pp) xi xt xn (nI ns) (nI vv) (nI bb))), (mr 5, .inl (kI, 3002, .inl fk)), (mr 6, .inl (kI, 3002, .inl fa))]) [0, 1, 2] rfl
  have hDc := hD.subT (f' := [(m9, .inr (23, mA mr mv vf xl (nI zs) ff xa (nI T) (nI pp) xi xt xn (nI ns) (nI vv) (nI bb))), (mr 5, .inl (kI, 3002, .inl fk)), (mr 6, .inl (kI, 3002, .inl fa))]) [0, 1, 2] (by decide) rfl
  have hKc := hK.sub (tys' := [(kI, .int)]) [0] rfl
  have hFc := va_freeB (wc := [(m9, .inr (23, mA mr mv vf xl (nI zs) ff xa (nI T) (nI pp) xi xt xn (nI ns) (nI vv) (nI bb))), (mr 5, .inl (kI, 3002, .inl fk)), (mr 6, .inl (kI, 3002, .inl fa))]) hD hS hA [0, 1, 2] rfl
  refine W.grow (fun hgs0 hgs1 => ?_)
  refine va_callr (va_runV (As := [.int 2]) (rest := []) ⟨hx, hb, hml, hown, hts⟩ (c_xc2B l dC dI m9 mr mv vf xl xa xi xt xn zs T pp ns vv bb kI fk fa ff L F (slN s.heap) s.heap.size hff) (cwV 1 hts g_c_xc1B_c_xc2B_16 rfl rfl rfl (by decide +kernel) ⟨Nat.le_of_ble_eq_true rfl, Nat.le_of_ble_eq_true rfl⟩) ⟨fun a U g mk q => by obtain ⟨q0, q1, qP, qK, qD, qx0, qx1⟩ := q; exact ⟨q0, q1, qP, va_K.moved (u := U) (U := U.calling g mk a) (Vm.Alike.refl U.vm) qK, qD, nsM.same (u := U) (U := U.calling g mk a) rfl qx0, qx1⟩, va_recv hKc hPc (ci := 23) (q0 := 0) rfl rfl, fun U hU hW => ⟨rfl, by rw [hU], by rw [hU]; exact hPc, va_K.moved hW.alike hKc, hDc.weaken (fun _ _ _ _ => trivial), nsM.warm hW hns, by rw [hU]⟩⟩ rfl rfl hl.1 rfl (lv_room (Nat.le_of_ble_eq_true rfl)) dX23_chain_16 ⟨(show 0 + 1 ≤ 1 by omega), (show 0 + 14 ≤ 14 by omega)⟩) hS (fun q _ h => hFc q h) hFc (fun u r_3 tS H1 locs ht hvm hw hB hz1 hk1 hS => ?_)
  obtain ⟨L8, F8, hf3_0, hf3_1, hP1, hK1, hD1⟩ := hB
  rw [ht] at hP1
  have hK1 := va_K.moved hvm.symm hK1
  rw [ht] at hf3_1
  have hgz : H1.size ≤ s.heap.size + (1) ∧ slN H1 ≤ slN s.heap + (14) := ⟨by have := hf3_1.1; omega, by have := hf3_1.2; omega⟩
  obtain ⟨hP, hD⟩ := va_joinB (wr := []) (w1 := [(m9, .inr (23, mA mr mv vf xl (nI zs) ff xa (nI T) (nI pp) xi xt xn (nI ns) (nI vv) (nI bb))), (mr 5, .inl (kI, 3002, .inl fk)), (mr 6, .inl (kI, 3002, .inl fa))]) hP hD [0, 1, 2] [] rfl rfl (by decide) (by decide) hk1 hFc hP1 hD1
  have hK := hK.app hK1
  generalize H1 = H at hP hS hgz ⊢
  have hP : va_P (dC, dI) vwCl (([(m9, .inr (23, mA mr mv vf xl (nI zs) ff xa (nI T) (nI pp) xi xt xn (nI ns) (nI vv) (nI bb))), (mr 5, .inl (kI, 3002, .inl fk)), (mr 6, .inl (kI, 3002, .inl fa))] : va_W) ++ (sT L8 F8)) H := hP
  have hD : va_D A (([(m9, .inr (23, mA mr mv vf xl (nI zs) ff xa (nI T) (nI pp) xi xt xn (nI ns) (nI vv) (nI bb))), (mr 5, .inl (kI, 3002, .inl fk)), (mr 6, .inl (kI, 3002, .inl fa))] : va_W) ++ (sT L8 F8)) := hD
  have hK : va_K (dC, dI) vwCl [(kI, .int), (kI, .int)] s := hK
  have hK := hK.sub (tys' := [(kI, .int)]) [0] rfl
  refine W.tight (k := 1) (n := 14) hgz.1 hgz.2 ?_
  clear hz1 hk1 hPc hDc hKc hFc hP1 hD1 hK1
  refine lv_astore_n (lv' := [(2, .ref r_3), (0, .ref m9), (1, .int 1)]) hx hb dX23_chain_19 rfl hl (by decide) rfl (fun ls hl => ?_)
  refine lv_iload_n hx hb dX23_chain_20 rfl (lv_at hl 2 rfl) ?_
  refine lv_iconst (v := 5) hx hb dX23_chain_21 (by decide) ?_
  refine lv_icmp_le (tgt := 27) hx hb dX23_chain_22 (by decide) (fun _ => ?_) (fun c_4 => absurd (by decide) c_4)
  refine lv_null hx hb dX23_chain_27 ?_
  refine lv_astore_nN (lv' := [(3, .null), (2, .ref r_3), (0, .ref m9), (1, .int 1)]) hx hb dX23_chain_28 rfl hl (by decide) rfl (fun ls hl => ?_)
  refine lv_aload_n hx hb dX23_chain_29 rfl (lv_at hl 2 rfl) ?_
  have hPc := hP.subF (f' := [(m9, .inr (23, mA mr mv vf xl (nI zs) ff xa (nI T) (nI pp) xi xt xn (nI ns) (nI vv) (nI bb)))]) [0] rfl
  have hDc := hD.subF (f' := [(m9, .inr (23, mA mr mv vf xl (nI zs) ff xa (nI T) (nI pp) xi xt xn (nI ns) (nI vv) (nI bb)))]) [0] (by decide) rfl
  have hKc := hK.sub (tys' := []) [] rfl
  have hFc := va_freeT (wc := [(m9, .inr (23, mA mr mv vf xl (nI zs) ff xa (nI T) (nI pp) xi xt xn (nI ns) (nI vv) (nI bb)))]) hD hS hA [0] rfl
  refine va_calli (va_runV (As := []) (rest := []) ⟨hx, hb, hml, hown, hts⟩ (c_rokB l dC dI m9 mr mv vf xl xa xi xt xn zs T pp ns vv bb kI fk fa ff H.size hff) (cwV 0 hts g_c_xc1B_c_rokB_30 rfl rfl rfl (by decide +kernel) ⟨Nat.le_of_ble_eq_true rfl, Nat.le_of_ble_eq_true rfl⟩) ⟨fun a U g mk q => by obtain ⟨q0, q1, qP, qK, qD⟩ := q; exact ⟨q0, q1, qP, va_K.moved (u := U) (U := U.calling g mk a) (Vm.Alike.refl U.vm) qK, qD⟩, va_recv hKc hPc (ci := 23) (q0 := 0) rfl rfl, fun U hU hW => ⟨rfl, by rw [hU], by rw [hU]; exact hPc, va_K.moved hW.alike hKc, hDc.weaken (fun _ _ _ _ => trivial)⟩⟩ rfl rfl hl.1 rfl (lv_room (Nat.le_of_ble_eq_true rfl)) dX23_chain_30 ⟨(show 1 + 0 ≤ 1 by omega), (show 14 + 0 ≤ 14 by omega)⟩) hS (fun q _ h => hFc q h) hFc (fun r_5 u tS H1 locs ht hvm hw hB hz1 hk1 hS => ?_)
  obtain ⟨hP1, hK1, hD1⟩ := hB
  rw [ht] at hP1
  have hK1 := va_K.moved hvm.symm hK1
  obtain ⟨hP, hD⟩ := va_joinT (wr := [(mr 5, .inl (kI, 3002, .inl fk)), (mr 6, .inl (kI, 3002, .inl fa))]) (w1 := [(m9, .inr (23, mA mr mv vf xl (nI zs) ff xa (nI T) (nI pp) xi xt xn (nI ns) (nI vv) (nI bb)))]) hP hD [0] [1, 2] rfl rfl (by decide) (by decide) hk1 hFc hP1 hD1
  generalize H1 = H at hP hS ⊢
  have hP : va_P (dC, dI) vwCl (([(mr 5, .inl (kI, 3002, .inl fk)), (mr 6, .inl (kI, 3002, .inl fa)), (m9, .inr (23, mA mr mv vf xl (nI zs) ff xa (nI T) (nI pp) xi xt xn (nI ns) (nI vv) (nI bb)))] : va_W) ++ (sT L8 F8)) H := hP
  have hD : va_D A (([(mr 5, .inl (kI, 3002, .inl fk)), (mr 6, .inl (kI, 3002, .inl fa)), (m9, .inr (23, mA mr mv vf xl (nI zs) ff xa (nI T) (nI pp) xi xt xn (nI ns) (nI vv) (nI bb)))] : va_W) ++ (sT L8 F8)) := hD
  have hK : va_K (dC, dI) vwCl [(kI, .int)] s := hK
  clear hz1 hk1 hPc hDc hKc hFc hP1 hD1 hK1
  obtain rfl : r_5 = 0 := hw
  refine lv_if_eq (tgt := 135) hx hb dX23_chain_33 (by decide) (fun _ => ?_) (fun c_6 => absurd (by decide) c_6)
  refine lv_aload_nN hx hb dX23_chain_135 rfl (lv_at hl 0 rfl) ?_
  refine lv_ifnonnullN hx hb dX23_chain_136 ?_
  refine lv_aload_n hx hb dX23_chain_139 rfl (lv_at hl 1 rfl) ?_
  refine lv_goto (tgt := 144) hx hb dX23_chain_140 (by decide) ?_
  refine W.grow (fun hgs0 hgs1 => ?_)
  have hP9 := hP.subT (f' := [(m9, .inr (23, mA mr mv vf xl (nI zs) ff xa (nI T) (nI pp) xi xt xn (nI ns) (nI vv) (nI bb))), (mr 5, .inl (kI, 3002, .inl fk)), (mr 6, .inl (kI, 3002, .inl fa))]) [2, 0, 1] rfl
  have hD9 := hD.subT (f' := [(m9, .inr (23, mA mr mv vf xl (nI zs) ff xa (nI T) (nI pp) xi xt xn (nI ns) (nI vv) (nI bb))), (mr 5, .inl (kI, 3002, .inl fk)), (mr 6, .inl (kI, 3002, .inl fa))]) [2, 0, 1] (by decide) rfl
  have hK9 := hK.sub (tys' := [(kI, .int)]) [0] rfl
  refine W.widen (k := 1) (n := 14) (by omega) (by omega) ?_
  exact W.aret hx hb hr (Or.inl ⟨_, rfl⟩) (Or.inr ⟨r_3, rfl⟩) (fun tS ht hW => ⟨⟨(), r_3, rfl, trivial, L8, F8, hf3_0, by rw [ht]; exact ⟨by omega, by omega⟩, by rw [ht]; exact hP9, va_K.moved hW.alike hK9, hD9⟩, hS.F ht⟩) hS.2.2 dX23_chain_144
def wf_c_xexB : List Cond := [.code yX23_exp cX23_exp 1 (some (.object "OwnedPlacesModel$Exp")), .code yX23_chain cX23_chain 6 (some (.object "OwnedPlacesModel$Exp")), .code yX23_unary cX23_unary 3 (some (.object "OwnedPlacesModel$Exp")), .classLink RX23 295 RX15, .instantiable RX15 14, .initialized RX15, .code yX15_init cX15_init 1 none, .methodLink RX15 1 objectInit, .instanceMethod objectInit, .code objectInit ⟨#[0xb1]⟩ 1 none, .instanceMethod yX15_init, .code yX23_ok cX23_ok 1 (some .boolean), .fieldLink RX23 80 "OwnedPlacesModel" "fault" "I", .methodLink RX23 89 yX23_ok, .instanceMethod yX23_ok, .selects RX23 yX23_ok yX23_ok, .initialized RX23, .methodLink RX23 343 yX23_unary, .instanceMethod yX23_unary, .selects RX23 yX23_unary yX23_unary, .methodLink RX23 333 yX23_chain, .instanceMethod yX23_chain, .selects RX23 yX23_chain yX23_chain]
def wp_c_xexB : List Cond := wf_c_xexB ++ (wsX150 ++ (wsX230 ++ []))
theorem in_c_xexB_X15 : ∀ w ∈ wsX150, w ∈ wp_c_xexB := fun w h => List.mem_append_right _ (List.mem_append_left _ h)
theorem in_c_xexB_X23 : ∀ w ∈ wsX230, w ∈ wp_c_xexB := fun w h => List.mem_append_right _ (List.mem_append_right _ (List.mem_append_left _ h))
theorem wg_c_xexB : wf_c_xexB.all goodWord = true := by decide +kernel
theorem wm_c_xexB (k : Nat) {w : Cond} (h : wp_c_xexB[k]? = some w) : w ∈ wp_c_xexB := List.mem_of_getElem? h
set_option maxRecDepth 20000 in
theorem g_c_xexB_c_xc1B_2 : GoodIn wp_c_xexB (wsV RX23 333 RX23 yX23_chain wp_c_xc1B) := goodIn_app (goodIn_f [.methodLink RX23 333 yX23_chain, .instanceMethod yX23_chain, .selects RX23 yX23_chain yX23_chain, .initialized RX23] [20, 21, 22, 16] rfl (by decide +kernel)) (goodIn_app (goodIn_f (wf_c_xc1B) [1, 2, 3, 4, 5, 6, 7, 8, 9, 10, 11, 12, 13, 14, 15, 16, 17, 18, 19, 20, 21, 22] rfl wg_c_xc1B) (goodIn_app (goodIn_sub in_c_xexB_X15 gd_X15) (goodIn_app (goodIn_sub in_c_xexB_X23 gd_X23) (goodIn_n))))
set_option maxHeartbeats 4000000 in
set_option maxRecDepth 100000 in
theorem c_xexB (l : Launch) (dC : Nat → ClassId) (dI : Nat → Nat → Nat) (m9 : Nat) (mr : Nat → Nat) (mv : Nat → Int32) (vf : Value) (xl xa xi xt xn : Int32) (zs T pp ns vv bb : Nat) (kI : ClassId) (fk fa : Nat → Int32) (ff : Int32) (L : List Nat) (F : Nat → va_E) (sl : Nat) (sz : Nat) (hff : ff ≠ 0) : Met l yX23_exp wp_c_xexB ({ frames := 9, cells := 1, slots := 14, locals := 204 }) (va_Pc [.ref m9] (fun U => U.heap.size = sz ∧ va_P (dC, dI) vwCl (([(m9, .inr (23, mA mr mv vf xl (nI zs) ff xa (nI T) (nI pp) xi xt xn (nI ns) (nI vv) (nI bb))), (mr 5, .inl (kI, 3002, .inl fk)), (mr 6, .inl (kI, 3002, .inl fa))] : va_W) ++ (sT L F)) U.heap ∧ va_K (dC, dI) vwCl [(kI, .int)] U ∧ va_D (fun _ => True) (([(m9, .inr (23, mA mr mv vf xl (nI zs) ff xa (nI T) (nI pp) xi xt xn (nI ns) (nI vv) (nI bb))), (mr 5, .inl (kI, 3002, .inl fk)), (mr 6, .inl (kI, 3002, .inl fa))] : va_W) ++ (sT L F)) ∧ nsM U ∧ slN U.heap = sl)) (va_Qr (fun _ : Unit => True) (fun (_ : Unit) (rA : Nat) (tS : State) => ∃ (L2 : List Nat) (F2 : Nat → va_E), (exS L F L2 F2 ∧ xO L2 F2 rA) ∧ (tS.heap.size ≤ sz + (1) ∧ slN tS.heap ≤ sl + (14)) ∧ va_P (dC, dI) vwCl (([(m9, .inr (23, mA mr mv vf xl (nI zs) ff xa (nI T) (nI pp) xi xt xn (nI ns) (nI vv) (nI bb))), (mr 5, .inl (kI, 3002, .inl fk)), (mr 6, .inl (kI, 3002, .inl fa))] : va_W) ++ (sT L2 F2)) tS.heap ∧ va_K (dC, dI) vwCl [(kI, .int)] tS ∧ va_D (va_A (([(m9, .inr (23, mA mr mv vf xl (nI zs) ff xa (nI T) (nI pp) xi xt xn (nI ns) (nI vv) (nI bb))), (mr 5, .inl (kI, 3002, .inl fk)), (mr 6, .inl (kI, 3002, .inl fa))] : va_W) ++ (sT L F)) sz) (([(m9, .inr (23, mA mr mv vf xl (nI zs) ff xa (nI T) (nI pp) xi xt xn (nI ns) (nI vv) (nI bb))), (mr 5, .inl (kI, 3002, .inl fk)), (mr 6, .inl (kI, 3002, .inl fa))] : va_W) ++ (sT L2 F2))) (va_A (([(m9, .inr (23, mA mr mv vf xl (nI zs) ff xa (nI T) (nI pp) xi xt xn (nI ns) (nI vv) (nI bb))), (mr 5, .inl (kI, 3002, .inl fk)), (mr 6, .inl (kI, 3002, .inl fa))] : va_W) ++ (sT L F)) sz)) 1 14 (va_A (([(m9, .inr (23, mA mr mv vf xl (nI zs) ff xa (nI T) (nI pp) xi xt xn (nI ns) (nI vv) (nI bb))), (mr 5, .inl (kI, 3002, .inl fk)), (mr 6, .inl (kI, 3002, .inl fa))] : va_W) ++ (sT L F)) sz) := by
  refine Met.ofW (cc := cX23_exp) (maxL := 1) (ret := (some (.object "OwnedPlacesModel$Exp"))) (by decide) rfl ?_
  intro p e s m args below meth c s₁ B hml hv
  obtain ⟨rfl, hsz, hP, hK, hD0, hpre0, hpre1⟩ := hv
  have hx := B.exec
  have hb := B.bytes
  have hr := B.returns
  have hts := atoms_spec (ws := wp_c_xexB) B.pre
  have hown : s.vm.findClass RX23 = some m.cls := findClass_of_methodNamed B.named
  have hlocks := B.notSynchronized
  subst hsz
  have hD := hD0.self (sz := s.heap.size)
  generalize hAe : va_A (([(m9, .inr (23, mA mr mv vf xl (nI zs) ff xa (nI T) (nI pp) xi xt xn (nI ns) (nI vv) (nI bb))), (mr 5, .inl (kI, 3002, .inl fk)), (mr 6, .inl (kI, 3002, .inl fa))] : va_W) ++ (sT L F)) s.heap.size = A at hD ⊢
  have hA : ∀ q : Nat, s.heap.size ≤ q → A q := fun q h => by rw [← hAe]; exact Or.inr h
  have hS : va_S A s.heap s.heap [] := va_S.rf
  have hP : va_P (dC, dI) vwCl (([(m9, .inr (23, mA mr mv vf xl (nI zs) ff xa (nI T) (nI pp) xi xt xn (nI ns) (nI vv) (nI bb))), (mr 5, .inl (kI, 3002, .inl fk)), (mr 6, .inl (kI, 3002, .inl fa))] : va_W) ++ (sT L F)) s.heap := hP
  have hl := lv_entry ([.ref m9]) (n := 1) (Nat.le_of_ble_eq_true rfl)
  rw [lg_entry_eq]
  generalize (lg_sl ([.ref m9]) ++ List.replicate (1 - (lg_sl ([.ref m9])).length) Slot.unset).toArray = ls at hl ⊢
  have hl : lv_has ls 1 [(0, .ref m9)] := hl
  have hns := hpre0
  subst hpre1
  refine lv_aload_n hx hb dX23_exp_0 rfl (lv_at hl 0 rfl) ?_
  refine lv_iconst (v := 1) hx hb dX23_exp_1 (by decide) ?_
  have hPc := hP.subT (f' := [(m9, .inr (23, mA mr mv vf xl (nI zs) ff xa (nI T) (nI pp) xi xt xn (nI ns) (nI vv) (nI bb))), (mr 5, .inl (kI, 3002, .inl fk)), (mr 6, .inl (kI, 3002, .inl fa))]) [0, 1, 2] rfl
  have hDc := hD.subT (f' := [(m9, .inr (23, mA mr mv vf xl (nI zs) ff xa (nI T) (nI pp) xi xt xn (nI ns) (nI vv) (nI bb))), (mr 5, .inl (kI, 3002, .inl fk)), (mr 6, .inl (kI, 3002, .inl fa))]) [0, 1, 2] (by decide) rfl
  have hKc := hK.sub (tys' := [(kI, .int)]) [0] rfl
  have hFc := va_freeB (wc := [(m9, .inr (23, mA mr mv vf xl (nI zs) ff xa (nI T) (nI pp) xi xt xn (nI ns) (nI vv) (nI bb))), (mr 5, .inl (kI, 3002, .inl fk)), (mr 6, .inl (kI, 3002, .inl fa))]) hD hS hA [0, 1, 2] rfl
  refine W.grow (fun hgs0 hgs1 => ?_)
  refine va_callr (va_runV (As := [.int 1]) (rest := []) ⟨hx, hb, hml, hown, hts⟩ (c_xc1B l dC dI m9 mr mv vf xl xa xi xt xn zs T pp ns vv bb kI fk fa ff L F (slN s.heap) s.heap.size hff) (cwV 1 hts g_c_xexB_c_xc1B_2 rfl rfl rfl (by decide +kernel) ⟨Nat.le_of_ble_eq_true rfl, Nat.le_of_ble_eq_true rfl⟩) ⟨fun a U g mk q => by obtain ⟨q0, q1, qP, qK, qD, qx0, qx1⟩ := q; exact ⟨q0, q1, qP, va_K.moved (u := U) (U := U.calling g mk a) (Vm.Alike.refl U.vm) qK, qD, nsM.same (u := U) (U := U.calling g mk a) rfl qx0, qx1⟩, va_recv hKc hPc (ci := 23) (q0 := 0) rfl rfl, fun U hU hW => ⟨rfl, by rw [hU], by rw [hU]; exact hPc, va_K.moved hW.alike hKc, hDc.weaken (fun _ _ _ _ => trivial), nsM.warm hW hns, by rw [hU]⟩⟩ rfl rfl hl.1 rfl (lv_room (Nat.le_of_ble_eq_true rfl)) dX23_exp_2 ⟨(show 0 + 1 ≤ 1 by omega), (show 0 + 14 ≤ 14 by omega)⟩) hS (fun q _ h => hFc q h) hFc (fun u r_1 tS H1 locs ht hvm hw hB hz1 hk1 hS => ?_)
  obtain ⟨L8, F8, hf1_0, hf1_1, hP1, hK1, hD1⟩ := hB
  rw [ht] at hP1
  have hK1 := va_K.moved hvm.symm hK1
  rw [ht] at hf1_1
  have hgz : H1.size ≤ s.heap.size + (1) ∧ slN H1 ≤ slN s.heap + (14) := ⟨by have := hf1_1.1; omega, by have := hf1_1.2; omega⟩
  obtain ⟨hP, hD⟩ := va_joinB (wr := []) (w1 := [(m9, .inr (23, mA mr mv vf xl (nI zs) ff xa (nI T) (nI pp) xi xt xn (nI ns) (nI vv) (nI bb))), (mr 5, .inl (kI, 3002, .inl fk)), (mr 6, .inl (kI, 3002, .inl fa))]) hP hD [0, 1, 2] [] rfl rfl (by decide) (by decide) hk1 hFc hP1 hD1
  have hK := hK.app hK1
  generalize H1 = H at hP hS hgz ⊢
  have hP : va_P (dC, dI) vwCl (([(m9, .inr (23, mA mr mv vf xl (nI zs) ff xa (nI T) (nI pp) xi xt xn (nI ns) (nI vv) (nI bb))), (mr 5, .inl (kI, 3002, .inl fk)), (mr 6, .inl (kI, 3002, .inl fa))] : va_W) ++ (sT L8 F8)) H := hP
  have hD : va_D A (([(m9, .inr (23, mA mr mv vf xl (nI zs) ff xa (nI T) (nI pp) xi xt xn (nI ns) (nI vv) (nI bb))), (mr 5, .inl (kI, 3002, .inl fk)), (mr 6, .inl (kI, 3002, .inl fa))] : va_W) ++ (sT L8 F8)) := hD
  have hK : va_K (dC, dI) vwCl [(kI, .int), (kI, .int)] s := hK
  have hK := hK.sub (tys' := [(kI, .int)]) [0] rfl
  refine W.tight (k := 1) (n := 14) hgz.1 hgz.2 ?_
  clear hz1 hk1 hPc hDc hKc hFc hP1 hD1 hK1
  refine W.grow (fun hgs0 hgs1 => ?_)
  have hP9 := hP.subT (f' := [(m9, .inr (23, mA mr mv vf xl (nI zs) ff xa (nI T) (nI pp) xi xt xn (nI ns) (nI vv) (nI bb))), (mr 5, .inl (kI, 3002, .inl fk)), (mr 6, .inl (kI, 3002, .inl fa))]) [0, 1, 2] rfl
  have hD9 := hD.subT (f' := [(m9, .inr (23, mA mr mv vf xl (nI zs) ff xa (nI T) (nI pp) xi xt xn (nI ns) (nI vv) (nI bb))), (mr 5, .inl (kI, 3002, .inl fk)), (mr 6, .inl (kI, 3002, .inl fa))]) [0, 1, 2] (by decide) rfl
  have hK9 := hK.sub (tys' := [(kI, .int)]) [0] rfl
  refine W.widen (k := 1) (n := 14) (by omega) (by omega) ?_
  exact W.aret hx hb hr (Or.inl ⟨_, rfl⟩) (Or.inr ⟨r_1, rfl⟩) (fun tS ht hW => ⟨⟨(), r_1, rfl, trivial, L8, F8, hf1_0, by rw [ht]; exact ⟨by omega, by omega⟩, by rw [ht]; exact hP9, va_K.moved hW.alike hK9, hD9⟩, hS.F ht⟩) hS.2.2 dX23_exp_5
