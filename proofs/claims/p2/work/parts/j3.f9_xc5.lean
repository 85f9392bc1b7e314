set_option maxRecDepth 20000 in
theorem g_c_xc5_c_xc6_16 : GoodIn wp_c_xc5 (wsV RX23 333 RX23 yX23_chain wp_c_xc6) := goodIn_app (goodIn_f [.methodLink RX23 333 yX23_chain, .instanceMethod yX23_chain, .selects RX23 yX23_chain yX23_chain, .initialized RX23] [5, 6, 7, 4] rfl (by decide +kernel)) (goodIn_app (goodIn_f (wf_c_xc6) [0, 1, 2, 3, 4, 48, 30, 31, 32, 33, 34, 35, 36, 37, 14, 39, 13, 49, 50, 51, 52, 53, 54, 38, 55, 8, 9, 10, 11, 12, 18, 19, 20, 21, 22, 23, 24, 25, 26, 27, 28, 56, 57, 58, 59, 60, 5, 6, 7, 61, 62, 63, 41, 42, 43, 44, 45, 46, 47, 64, 65, 66, 67, 68, 69, 70, 71, 72, 73, 74, 75, 76, 77, 78, 79, 80, 81, 82, 83, 84, 85, 40, 86, 87, 88, 89, 90, 91, 92, 29, 93, 94, 95, 96, 97, 98, 99, 100, 101, 15, 16, 17] rfl wg_c_xc6) (goodIn_app (goodIn_sub in_c_xc5_X15 gd_X15) (goodIn_app (goodIn_sub in_c_xc5_X23 gd_X23) (goodIn_n))))
set_option maxRecDepth 20000 in
theorem g_c_xc5_c_rok0_30 : GoodIn wp_c_xc5 (wsV RX23 89 RX23 yX23_ok wp_c_rok0) := goodIn_app (goodIn_f [.methodLink RX23 89 yX23_ok, .instanceMethod yX23_ok, .selects RX23 yX23_ok yX23_ok, .initialized RX23] [10, 11, 12, 4] rfl (by decide +kernel)) (goodIn_app (goodIn_f (wf_c_rok0) [8, 9] rfl wg_c_rok0) (goodIn_app (goodIn_sub in_c_xc5_X23 gd_X23) (goodIn_n)))
set_option maxRecDepth 20000 in
theorem g_c_xc5_c_rlv_45 : GoodIn wp_c_xc5 (va_wsS RX23 346 yX23_levelOf wp_c_rlv) := goodIn_app (goodIn_f [.methodLink RX23 346 yX23_levelOf, .static yX23_levelOf, .initialized RX23] [16, 17, 4] rfl (by decide +kernel)) (goodIn_app (goodIn_f (wf_c_rlv) [15] rfl wg_c_rlv) (goodIn_n))
set_option maxRecDepth 20000 in
theorem g_c_xc5_c_renN_71 : GoodIn wp_c_xc5 (wsV RX23 119 RX23 yX23_enter wp_c_renY) := goodIn_app (goodIn_f [.methodLink RX23 119 yX23_enter, .instanceMethod yX23_enter, .selects RX23 yX23_enter yX23_enter, .initialized RX23] [26, 27, 28, 4] rfl (by decide +kernel)) (goodIn_app (goodIn_f (wf_c_renY) [18, 8, 9, 10, 11, 12, 4, 19, 20, 21, 22, 23, 24, 25] rfl wg_c_renY) (goodIn_app (goodIn_sub in_c_xc5_X23 gd_X23) (goodIn_n)))
set_option maxRecDepth 20000 in
theorem g_c_xc5_c_renY_71 : GoodIn wp_c_xc5 (wsV RX23 119 RX23 yX23_enter wp_c_renY) := goodIn_app (goodIn_f [.methodLink RX23 119 yX23_enter, .instanceMethod yX23_enter, .selects RX23 yX23_enter yX23_enter, .initialized RX23] [26, 27, 28, 4] rfl (by decide +kernel)) (goodIn_app (goodIn_f (wf_c_renY) [18, 8, 9, 10, 11, 12, 4, 19, 20, 21, 22, 23, 24, 25] rfl wg_c_renY) (goodIn_app (goodIn_sub in_c_xc5_X23 gd_X23) (goodIn_n)))
set_option maxRecDepth 20000 in
theorem g_c_xc5_c_xc6B_78 : GoodIn wp_c_xc5 (wsV RX23 333 RX23 yX23_chain wp_c_xc6B) := goodIn_app (goodIn_f [.methodLink RX23 333 yX23_chain, .instanceMethod yX23_chain, .selects RX23 yX23_chain yX23_chain, .initialized RX23] [5, 6, 7, 4] rfl (by decide +kernel)) (goodIn_app (goodIn_f (wf_c_xc6B) [0, 29, 30, 31, 32, 33, 34, 35, 36, 37, 8, 9, 10, 11, 12, 4, 1, 2, 3] rfl wg_c_xc6B) (goodIn_app (goodIn_sub in_c_xc5_X15 gd_X15) (goodIn_app (goodIn_sub in_c_xc5_X23 gd_X23) (goodIn_n))))
set_option maxRecDepth 20000 in
theorem g_c_xc5_c_nX_101 : GoodIn wp_c_xc5 wp_c_nX := goodIn_app (goodIn_f (wf_c_nX) [33, 34, 35, 36] rfl wg_c_nX) (goodIn_n)
set_option maxRecDepth 20000 in
theorem g_c_xc5_c_xaN_129 : GoodIn wp_c_xc5 (va_wsS RX23 351 yX23_add wp_c_xaN) := goodIn_app (goodIn_f [.methodLink RX23 351 yX23_add, .static yX23_add, .initialized RX23] [46, 47, 4] rfl (by decide +kernel)) (goodIn_app (goodIn_f (wf_c_xaN) [41, 42, 30, 43, 44, 45] rfl wg_c_xaN) (goodIn_app (goodIn_sub in_c_xc5_X15 gd_X15) (goodIn_n)))
set_option maxRecDepth 20000 in
theorem g_c_xc5_c_xaA_129 : GoodIn wp_c_xc5 (va_wsS RX23 351 yX23_add wp_c_xaN) := goodIn_app (goodIn_f [.methodLink RX23 351 yX23_add, .static yX23_add, .initialized RX23] [46, 47, 4] rfl (by decide +kernel)) (goodIn_app (goodIn_f (wf_c_xaN) [41, 42, 30, 43, 44, 45] rfl wg_c_xaN) (goodIn_app (goodIn_sub in_c_xc5_X15 gd_X15) (goodIn_n)))
set_option maxRecDepth 20000 in
theorem g_c_xc5_c_xc6_78 : GoodIn wp_c_xc5 (wsV RX23 333 RX23 yX23_chain wp_c_xc6) := goodIn_app (goodIn_f [.methodLink RX23 333 yX23_chain, .instanceMethod yX23_chain, .selects RX23 yX23_chain yX23_chain, .initialized RX23] [5, 6, 7, 4] rfl (by decide +kernel)) (goodIn_app (goodIn_f (wf_c_xc6) [0, 1, 2, 3, 4, 48, 30, 31, 32, 33, 34, 35, 36, 37, 14, 39, 13, 49, 50, 51, 52, 53, 54, 38, 55, 8, 9, 10, 11, 12, 18, 19, 20, 21, 22, 23, 24, 25, 26, 27, 28, 56, 57, 58, 59, 60, 5, 6, 7, 61, 62, 63, 41, 42, 43, 44, 45, 46, 47, 64, 65, 66, 67, 68, 69, 70, 71, 72, 73, 74, 75, 76, 77, 78, 79, 80, 81, 82, 83, 84, 85, 40, 86, 87, 88, 89, 90, 91, 92, 29, 93, 94, 95, 96, 97, 98, 99, 100, 101, 15, 16, 17] rfl wg_c_xc6) (goodIn_app (goodIn_sub in_c_xc5_X15 gd_X15) (goodIn_app (goodIn_sub in_c_xc5_X23 gd_X23) (goodIn_n))))
set_option maxRecDepth 20000 in
theorem g_c_xc5_c_rokB_30 : GoodIn wp_c_xc5 (wsV RX23 89 RX23 yX23_ok wp_c_rok0) := goodIn_app (goodIn_f [.methodLink RX23 89 yX23_ok, .instanceMethod yX23_ok, .selects RX23 yX23_ok yX23_ok, .initialized RX23] [10, 11, 12, 4] rfl (by decide +kernel)) (goodIn_app (goodIn_f (wf_c_rok0) [8, 9] rfl wg_c_rok0) (goodIn_app (goodIn_sub in_c_xc5_X23 gd_X23) (goodIn_n)))
set_option maxHeartbeats 4000000 in
set_option maxRecDepth 100000 in
theorem c_xc5 (l : Launch) (dC : Nat → ClassId) (dI : Nat → Nat → Nat) (k : Nat) (ih : ∀ k1 : Nat, k = k1 + 1 → IH_gx l dC dI k1) : st_c_xc5 l dC dI k := by
  intro m9 mr mv vf xl xa xi xt xn zs T pp ns vv bb kI fk fa kL kE fn L F sl sz hT hp hk0 hbb hnk
  refine Met.ofW (cc := cX23_chain) (maxL := 6) (ret := (some (.object "OwnedPlacesModel$Exp"))) (by decide) rfl ?_
  intro p e s m args below meth c s₁ B hml hv
  obtain ⟨rfl, hsz, hP, hK, hD0, hpre0, hpre1⟩ := hv
  have hx := B.exec
  have hb := B.bytes
  have hr := B.returns
  have hts := atoms_spec (ws := wp_c_xc5) B.pre
  have hown : s.vm.findClass RX23 = some m.cls := findClass_of_methodNamed B.named
  have hlocks := B.notSynchronized
  subst hsz
  replace hD := hD0.self (sz := s.heap.size)
  generalize hAe : va_A (([(m9, .inr (23, mA mr mv vf xl (nI zs) 0 xa (nI T) (nI pp) xi xt xn (nI ns) (nI vv) (nI bb))), (mr 5, .inl (kI, 3002, .inl fk)), (mr 6, .inl (kI, 3002, .inl fa)), (mr 8, .inl (kL, 3002, .inr (.inl fn)))] : va_W) ++ (sT L F)) s.heap.size = A at hD ⊢
  have hA : ∀ q : Nat, s.heap.size ≤ q → A q := fun q h => by rw [← hAe]; exact Or.inr h
  have hS : va_S A s.heap s.heap [] := va_S.rf
  replace hP : va_P (dC, dI) vwCl (([(m9, .inr (23, mA mr mv vf xl (nI zs) 0 xa (nI T) (nI pp) xi xt xn (nI ns) (nI vv) (nI bb))), (mr 5, .inl (kI, 3002, .inl fk)), (mr 6, .inl (kI, 3002, .inl fa)), (mr 8, .inl (kL, 3002, .inr (.inl fn)))] : va_W) ++ (sT L F)) s.heap := hP
  replace hl := lv_entry ([.ref m9, .int 5]) (n := 6) (Nat.le_of_ble_eq_true rfl)
  rw [lg_entry_eq]
  generalize (lg_sl ([.ref m9, .int 5]) ++ List.replicate (6 - (lg_sl ([.ref m9, .int 5])).length) Slot.unset).toArray = ls at hl ⊢
  replace hl : lv_has ls 6 [(0, .ref m9), (1, .int 5)] := hl
  have hns := hpre0
  subst hpre1
  refine lv_iload_n hx hb dX23_chain_0 rfl (lv_at hl 1 rfl) ?_
  refine lv_iconst (v := 5) hx hb dX23_chain_1 (by decide) ?_
  refine lv_icmp_le (tgt := 12) hx hb dX23_chain_2 (by decide) (fun _ => ?_) (fun c_1 => absurd (by decide) c_1)
  refine lv_aload_n hx hb dX23_chain_12 rfl (lv_at hl 0 rfl) ?_
  refine lv_iload_n hx hb dX23_chain_13 rfl (lv_at hl 1 rfl) ?_
  refine lv_iconst (v := 1) hx hb dX23_chain_14 (by decide) ?_
  refine lv_iadd hx hb dX23_chain_15 ?_
  refine lv_topi (fun f_2 ef_2 => ?_)
  obtain rfl : f_2 = 6 := ef_2.trans (by decide)
  replace hPc := hP.subT (f' := [(m9, .inr (23, mA mr mv vf xl (nI zs) 0 xa (nI T) (nI pp) xi xt xn (nI ns) (nI vv) (nI bb))), (mr 5, .inl (kI, 3002, .inl fk)), (mr 6, .inl (kI, 3002, .inl fa)), (mr 8, .inl (kL, 3002, .inr (.inl fn)))]) [0, 1, 2, 3] rfl
  replace hDc := hD.subT (f' := [(m9, .inr (23, mA mr mv vf xl (nI zs) 0 xa (nI T) (nI pp) xi xt xn (nI ns) (nI vv) (nI bb))), (mr 5, .inl (kI, 3002, .inl fk)), (mr 6, .inl (kI, 3002, .inl fa)), (mr 8, .inl (kL, 3002, .inr (.inl fn)))]) [0, 1, 2, 3] (by decide) rfl
  replace hKc := hK.sub (tys' := [(kI, .int), (kL, .long), (kE, .object RX15)]) [0, 1, 2] rfl
  replace hFc := va_freeB (wc := [(m9, .inr (23, mA mr mv vf xl (nI zs) 0 xa (nI T) (nI pp) xi xt xn (nI ns) (nI vv) (nI bb))), (mr 5, .inl (kI, 3002, .inl fk)), (mr 6, .inl (kI, 3002, .inl fa)), (mr 8, .inl (kL, 3002, .inr (.inl fn)))]) hD hS hA [0, 1, 2, 3] rfl
  refine W.grow (fun hgs0 hgs1 => ?_)
  refine va_callr (va_runV (As := [.int 6]) (rest := []) ⟨hx, hb, hml, hown, hts⟩ (c_xc6 l dC dI k ih m9 mr mv vf xl xa xi xt xn zs T pp ns vv bb kI fk fa kL kE fn L F (slN s.heap) s.heap.size hT hp hk0 hbb (by omega)) (cwV 1 hts g_c_xc5_c_xc6_16 rfl rfl rfl (by decide +kernel) ⟨by show 7 + 12 * k + 1 ≤ 8 + 12 * k; omega, by show 8 + (6 + 11) + (152 + 279 * k) ≤ 177 + 279 * k; omega⟩) ⟨fun a U g mk q => by obtain ⟨q0, q1, qP, qK, qD, qx0, qx1⟩ := q; exact ⟨q0, q1, qP, va_K.moved (u := U) (U := U.calling g mk a) (Vm.Alike.refl U.vm) qK, qD, nsM.same (u := U) (U := U.calling g mk a) rfl qx0, qx1⟩, va_recv hKc hPc (ci := 23) (q0 := 0) rfl rfl, fun U hU hW => ⟨rfl, by rw [hU], by rw [hU]; exact hPc, va_K.moved hW.alike hKc, hDc.weaken (fun _ _ _ _ => trivial), nsM.warm hW hns, by rw [hU]⟩⟩ rfl rfl hl.1 rfl (lv_room (Nat.le_of_ble_eq_true rfl)) dX23_chain_16 ⟨(show 0 + (8 * (T - pp) + 8) ≤ (8 * (T - pp) + 8) by omega), (show 0 + (120 * (T - pp) + 360) ≤ (120 * (T - pp) + 360) by omega)⟩) hS (fun q _ h => hFc q h) hFc (fun u r_3 tS H1 locs ht hvm hw hB hz1 hk1 hS => ?_)
  obtain ⟨LA, FA, ffA, xaA, ppA, bbA, hf3_0, hf3_1, hf3_2, hf3_3, hP1, hK1, hD1⟩ := hB
  rw [ht] at hP1
  replace hK1 := va_K.moved hvm.symm hK1
  rw [ht] at hf3_3
  have hgz : H1.size ≤ s.heap.size + (8 * (ppA - pp) + 3) ∧ slN H1 ≤ slN s.heap + (120 * (ppA - pp) + 48) := ⟨by have := hf3_3.1; omega, by have := hf3_3.2; omega⟩
  obtain ⟨hPj, hDj⟩ := va_joinB (wr := []) (w1 := [(m9, .inr (23, mA mr mv vf xl (nI zs) ffA xaA (nI T) (nI ppA) xi xt xn (nI ns) (nI vv) (nI bbA))), (mr 5, .inl (kI, 3002, .inl fk)), (mr 6, .inl (kI, 3002, .inl fa)), (mr 8, .inl (kL, 3002, .inr (.inl fn)))]) hP hD [0, 1, 2, 3] [] rfl rfl (by decide) (by decide) hk1 hFc hP1 hD1
  replace hP := hPj
  replace hD := hDj
  clear hPj hDj
  replace hK := hK.app hK1
  generalize H1 = H at hP hS hgz ⊢
  replace hP : va_P (dC, dI) vwCl (([(m9, .inr (23, mA mr mv vf xl (nI zs) ffA xaA (nI T) (nI ppA) xi xt xn (nI ns) (nI vv) (nI bbA))), (mr 5, .inl (kI, 3002, .inl fk)), (mr 6, .inl (kI, 3002, .inl fa)), (mr 8, .inl (kL, 3002, .inr (.inl fn)))] : va_W) ++ (sT LA FA)) H := hP
  replace hD : va_D A (([(m9, .inr (23, mA mr mv vf xl (nI zs) ffA xaA (nI T) (nI ppA) xi xt xn (nI ns) (nI vv) (nI bbA))), (mr 5, .inl (kI, 3002, .inl fk)), (mr 6, .inl (kI, 3002, .inl fa)), (mr 8, .inl (kL, 3002, .inr (.inl fn)))] : va_W) ++ (sT LA FA)) := hD
  replace hK : va_K (dC, dI) vwCl [(kI, .int), (kL, .long), (kE, .object RX15), (kI, .int), (kL, .long), (kE, .object RX15)] s := hK
  replace hK := hK.sub (tys' := [(kI, .int), (kL, .long), (kE, .object RX15)]) [0, 1, 2] rfl
  refine W.tight (k := 8 * (ppA - pp) + 3) (n := 120 * (ppA - pp) + 48) hgz.1 hgz.2 ?_
  clear hz1 hk1 hPc hDc hKc hFc hP1 hD1 hK1
  refine lv_astore_n (lv' := [(2, .ref r_3), (0, .ref m9), (1, .int 5)]) hx hb dX23_chain_19 rfl hl (by decide) rfl (fun ls hl => ?_)
  refine lv_iload_n hx hb dX23_chain_20 rfl (lv_at hl 2 rfl) ?_
  refine lv_iconst (v := 5) hx hb dX23_chain_21 (by decide) ?_
  refine lv_icmp_le (tgt := 27) hx hb dX23_chain_22 (by decide) (fun _ => ?_) (fun c_4 => absurd (by decide) c_4)
  refine lv_null hx hb dX23_chain_27 ?_
  refine lv_astore_nN (lv' := [(3, .null), (2, .ref r_3), (0, .ref m9), (1, .int 5)]) hx hb dX23_chain_28 rfl hl (by decide) rfl (fun ls hl => ?_)
  refine lv_aload_n hx hb dX23_chain_29 rfl (lv_at hl 2 rfl) ?_
  by_cases hz_5 : ffA = 0
  · subst hz_5
    have hgA := hf3_2 rfl
    have hlthgA := (isE_mem hgA.2).2
    replace hPc := hP.subF (f' := [(m9, .inr (23, mA mr mv vf xl (nI zs) 0 xaA (nI T) (nI ppA) xi xt xn (nI ns) (nI vv) (nI bbA)))]) [0] rfl
    replace hDc := hD.subF (f' := [(m9, .inr (23, mA mr mv vf xl (nI zs) 0 xaA (nI T) (nI ppA) xi xt xn (nI ns) (nI vv) (nI bbA)))]) [0] (by decide) rfl
    replace hKc := hK.sub (tys' := []) [] rfl
    replace hFc := va_freeT (wc := [(m9, .inr (23, mA mr mv vf xl (nI zs) 0 xaA (nI T) (nI ppA) xi xt xn (nI ns) (nI vv) (nI bbA)))]) hD hS hA [0] rfl
    refine va_calli (va_runV (As := []) (rest := []) ⟨hx, hb, hml, hown, hts⟩ (c_rok0 l dC dI m9 mr mv vf xl xaA xi xt xn zs T ppA ns vv bbA kI fk fa H.size) (cwV 0 hts g_c_xc5_c_rok0_30 rfl rfl rfl (by decide +kernel) ⟨by show 0 + 1 ≤ 8 + 12 * k; omega, by show 8 + (1 + 11) + (0) ≤ 177 + 279 * k; omega⟩) ⟨fun a U g mk q => by obtain ⟨q0, q1, qP, qK, qD⟩ := q; exact ⟨q0, q1, qP, va_K.moved (u := U) (U := U.calling g mk a) (Vm.Alike.refl U.vm) qK, qD⟩, va_recv hKc hPc (ci := 23) (q0 := 0) rfl rfl, fun U hU hW => ⟨rfl, by rw [hU], by rw [hU]; exact hPc, va_K.moved hW.alike hKc, hDc.weaken (fun _ _ _ _ => trivial)⟩⟩ rfl rfl hl.1 rfl (lv_room (Nat.le_of_ble_eq_true rfl)) dX23_chain_30 ⟨(show 8 * (ppA - pp) + 3 + 0 ≤ (8 * (T - pp) + 8) by omega), (show 120 * (ppA - pp) + 48 + 0 ≤ (120 * (T - pp) + 360) by omega)⟩) hS (fun q _ h => hFc q h) hFc (fun r_6 u tS H1 locs ht hvm hw hB hz1 hk1 hS => ?_)
    obtain ⟨hP1, hK1, hD1⟩ := hB
    rw [ht] at hP1
    replace hK1 := va_K.moved hvm.symm hK1
    obtain ⟨hPj, hDj⟩ := va_joinT (wr := [(mr 5, .inl (kI, 3002, .inl fk)), (mr 6, .inl (kI, 3002, .inl fa)), (mr 8, .inl (kL, 3002, .inr (.inl fn)))]) (w1 := [(m9, .inr (23, mA mr mv vf xl (nI zs) 0 xaA (nI T) (nI ppA) xi xt xn (nI ns) (nI vv) (nI bbA)))]) hP hD [0] [1, 2, 3] rfl rfl (by decide) (by decide) hk1 hFc hP1 hD1
    replace hP := hPj
    replace hD := hDj
    clear hPj hDj
    generalize H1 = H at hP hS ⊢
    replace hP : va_P (dC, dI) vwCl (([(mr 5, .inl (kI, 3002, .inl fk)), (mr 6, .inl (kI, 3002, .inl fa)), (mr 8, .inl (kL, 3002, .inr (.inl fn))), (m9, .inr (23, mA mr mv vf xl (nI zs) 0 xaA (nI T) (nI ppA) xi xt xn (nI ns) (nI vv) (nI bbA)))] : va_W) ++ (sT LA FA)) H := hP
    replace hD : va_D A (([(mr 5, .inl (kI, 3002, .inl fk)), (mr 6, .inl (kI, 3002, .inl fa)), (mr 8, .inl (kL, 3002, .inr (.inl fn))), (m9, .inr (23, mA mr mv vf xl (nI zs) 0 xaA (nI T) (nI ppA) xi xt xn (nI ns) (nI vv) (nI bbA)))] : va_W) ++ (sT LA FA)) := hD
    replace hK : va_K (dC, dI) vwCl [(kI, .int), (kL, .long), (kE, .object RX15)] s := hK
    clear hz1 hk1 hPc hDc hKc hFc hP1 hD1 hK1
    obtain rfl : r_6 = 1 := hw
    refine lv_if_eq (tgt := 135) hx hb dX23_chain_33 (by decide) (fun c_7 => absurd c_7 (by decide)) (fun _ => ?_)
    refine lv_aload_n hx hb dX23_chain_36 rfl (lv_at hl 2 rfl) ?_
    refine va_get (D := (dC, dI)) (ci := 23) (v := .ref (mr 5)) (C := RX23) (T := TX23) (N := 89) hx hb hts in_c_xc5_X23 hown hK hP 3 rfl rfl 5 (by decide) (hts (.fieldLink RX23 25 "OwnedPlacesModel" "tokenKind" "[I") (wm_c_xc5 13 rfl)) (fun _ h9 => h9) rfl dX23_chain_37 ?_
    refine lv_aload_n hx hb dX23_chain_40 rfl (lv_at hl 2 rfl) ?_
    refine va_get (D := (dC, dI)) (ci := 23) (v := .int (nI ppA)) (C := RX23) (T := TX23) (N := 89) hx hb hts in_c_xc5_X23 hown hK hP 3 rfl rfl 10 (by decide) (hts (.fieldLink RX23 86 "OwnedPlacesModel" "p" "I") (wm_c_xc5 14 rfl)) (fun _ h9 => h9) rfl dX23_chain_41 ?_
    refine va_iald hx hb hK hP 0 0 rfl rfl (vp_in_nI (show ppA < 3002 by omega) (by decide)) dX23_chain_44 ?_
    refine lv_topi (fun v_8 ev_8 => ?_)
    obtain rfl : v_8 = fk ppA := ev_8.trans (by rw [nI_clamp (by omega)])
    replace hPc := hP.subF (f' := []) [] rfl
    replace hDc := hD.subF (f' := []) [] (by decide) rfl
    replace hKc := hK.sub (tys' := []) [] rfl
    replace hFc := va_freeT (wc := []) hD hS hA [] rfl
    refine va_calli (va_runS (As := [.int (fk ppA)]) (rest := []) ⟨hx, hb, hml, hown, hts⟩ (c_rlv l dC dI (fk ppA) H.size) (va_cwS 1 hts g_c_xc5_c_rlv_45 rfl rfl rfl (by decide +kernel) ⟨by show 0 + 1 ≤ 8 + 12 * k; omega, by show 8 + (1 + 11) + (0) ≤ 177 + 279 * k; omega⟩) ⟨fun a U g mk q => by obtain ⟨q0, q1, qP, qK, qD⟩ := q; exact ⟨q0, q1, qP, va_K.moved (u := U) (U := U.calling g mk a) (Vm.Alike.refl U.vm) qK, qD⟩, fun U hU hW => ⟨rfl, by rw [hU], by rw [hU]; exact hPc, va_K.moved hW.alike hKc, hDc.weaken (fun _ _ _ _ => trivial)⟩⟩ rfl rfl hl.1 rfl (lv_room (Nat.le_of_ble_eq_true rfl)) dX23_chain_45 ⟨(show 8 * (ppA - pp) + 3 + 0 ≤ (8 * (T - pp) + 8) by omega), (show 120 * (ppA - pp) + 48 + 0 ≤ (120 * (T - pp) + 360) by omega)⟩) hS (fun q _ h => hFc q h) hFc (fun r_9 u tS H1 locs ht hvm hw hB hz1 hk1 hS => ?_)
    obtain ⟨hP1, hK1, hD1⟩ := hB
    rw [ht] at hP1
    replace hK1 := va_K.moved hvm.symm hK1
    obtain ⟨hPj, hDj⟩ := va_joinT (wr := [(mr 5, .inl (kI, 3002, .inl fk)), (mr 6, .inl (kI, 3002, .inl fa)), (mr 8, .inl (kL, 3002, .inr (.inl fn))), (m9, .inr (23, mA mr mv vf xl (nI zs) 0 xaA (nI T) (nI ppA) xi xt xn (nI ns) (nI vv) (nI bbA)))]) (w1 := []) hP hD [] [0, 1, 2, 3] rfl rfl (by decide) (by decide) hk1 hFc hP1 hD1
    replace hP := hPj
    replace hD := hDj
    clear hPj hDj
    generalize H1 = H at hP hS ⊢
    replace hP : va_P (dC, dI) vwCl (([(mr 5, .inl (kI, 3002, .inl fk)), (mr 6, .inl (kI, 3002, .inl fa)), (mr 8, .inl (kL, 3002, .inr (.inl fn))), (m9, .inr (23, mA mr mv vf xl (nI zs) 0 xaA (nI T) (nI ppA) xi xt xn (nI ns) (nI vv) (nI bbA)))] : va_W) ++ (sT LA FA)) H := hP
    replace hD : va_D A (([(mr 5, .inl (kI, 3002, .inl fk)), (mr 6, .inl (kI, 3002, .inl fa)), (mr 8, .inl (kL, 3002, .inr (.inl fn))), (m9, .inr (23, mA mr mv vf xl (nI zs) 0 xaA (nI T) (nI ppA) xi xt xn (nI ns) (nI vv) (nI bbA)))] : va_W) ++ (sT LA FA)) := hD
    replace hK : va_K (dC, dI) vwCl [(kI, .int), (kL, .long), (kE, .object RX15)] s := hK
    clear hz1 hk1 hPc hDc hKc hFc hP1 hD1 hK1
    have hlv : r_9 = lvR (fk ppA) := hw
    refine lv_iload_n hx hb dX23_chain_48 rfl (lv_at hl 3 rfl) ?_
    refine lv_icmp_ne (tgt := 135) hx hb dX23_chain_49 (by decide) (fun hc_10 => ?_) (fun hc_10 => ?_)
    · refine lv_aload_nN hx hb dX23_chain_135 rfl (lv_at hl 0 rfl) ?_
      refine lv_ifnonnullN hx hb dX23_chain_136 ?_
      refine lv_aload_n hx hb dX23_chain_139 rfl (lv_at hl 1 rfl) ?_
      refine lv_goto (tgt := 144) hx hb dX23_chain_140 (by decide) ?_
      refine W.grow (fun hgs0 hgs1 => ?_)
      have hP9 := hP.subT (f' := [(m9, .inr (23, mA mr mv vf xl (nI zs) 0 xaA (nI T) (nI ppA) xi xt xn (nI ns) (nI vv) (nI bbA))), (mr 5, .inl (kI, 3002, .inl fk)), (mr 6, .inl (kI, 3002, .inl fa)), (mr 8, .inl (kL, 3002, .inr (.inl fn)))]) [3, 0, 1, 2] rfl
      have hD9 := hD.subT (f' := [(m9, .inr (23, mA mr mv vf xl (nI zs) 0 xaA (nI T) (nI ppA) xi xt xn (nI ns) (nI vv) (nI bbA))), (mr 5, .inl (kI, 3002, .inl fk)), (mr 6, .inl (kI, 3002, .inl fa)), (mr 8, .inl (kL, 3002, .inr (.inl fn)))]) [3, 0, 1, 2] (by decide) rfl
      have hK9 := hK.sub (tys' := [(kI, .int), (kL, .long), (kE, .object RX15)]) [0, 1, 2] rfl
      refine W.widen (k := (8 * (T - pp) + 8)) (n := (120 * (T - pp) + 360)) (by omega) (by omega) ?_
      exact W.aret hx hb hr (Or.inl ⟨_, rfl⟩) (Or.inr ⟨r_3, rfl⟩) (fun tS ht hW => ⟨⟨(), r_3, rfl, trivial, LA, FA, 0, xaA, ppA, bbA, hf3_0, hf3_1, (fun _ => ⟨hgA.1, isE_im exS.rf _ (by omega) hgA.2⟩), by rw [ht]; exact ⟨by omega, by omega⟩, by rw [ht]; exact hP9, va_K.moved hW.alike hK9, hD9⟩, hS.F ht⟩) hS.2.2 dX23_chain_144
    · refine lv_aload_n hx hb dX23_chain_52 rfl (lv_at hl 2 rfl) ?_
      refine va_get (D := (dC, dI)) (ci := 23) (v := .int (nI ppA)) (C := RX23) (T := TX23) (N := 89) hx hb hts in_c_xc5_X23 hown hK hP 3 rfl rfl 10 (by decide) (hts (.fieldLink RX23 86 "OwnedPlacesModel" "p" "I") (wm_c_xc5 14 rfl)) (fun _ h9 => h9) rfl dX23_chain_53 ?_
      refine lv_istore (lv' := [(4, .int (nI ppA)), (3, .null), (2, .ref r_3), (0, .ref m9), (1, .int 5)]) hx hb dX23_chain_56 hl (by decide) rfl (fun ls hl => ?_)
      refine lv_aload_n hx hb dX23_chain_58 rfl (lv_at hl 3 rfl) ?_
      refine lv_dup hx hb dX23_chain_59 rfl ?_
      refine va_get (D := (dC, dI)) (ci := 23) (v := .int (nI ppA)) (C := RX23) (T := TX23) (N := 89) hx hb hts in_c_xc5_X23 hown hK hP 3 rfl rfl 10 (by decide) (hts (.fieldLink RX23 86 "OwnedPlacesModel" "p" "I") (wm_c_xc5 14 rfl)) (fun _ h9 => h9) rfl dX23_chain_60 ?_
      refine lv_iconst (v := 1) hx hb dX23_chain_63 (by decide) ?_
      have hp_11 : ppA + 1 < T := kne3 (K := fk ppA) hk0 hf3_1.2.1 rfl (lvR_0 (hlv.symm.trans hc_10) (by decide))
      refine lv_iadd hx hb dX23_chain_64 ?_
      refine lv_topi (fun f_12 ef_12 => ?_)
      obtain rfl : f_12 = nI (ppA + 1) := ef_12.trans (nI_1 _)
      refine va_put (D := (dC, dI)) (ci := 23) (v := .int (nI (ppA + 1))) (ty := .int) (C := RX23) (T := TX23) (N := 89) hx hb hts in_c_xc5_X23 tyX23 tyX23_ok nmX23 hown hK hP hD hS 3 rfl rfl 10 (by decide) (hts (.fieldLink RX23 86 "OwnedPlacesModel" "p" "I") (wm_c_xc5 14 rfl)) (fun _ h9 => h9) rfl (by decide +kernel) rfl rfl (Nat.le_of_ble_eq_true rfl) dX23_chain_65 (fun H locs hP hD hS => ?_)
      replace hP : va_P (dC, dI) vwCl (([(mr 5, .inl (kI, 3002, .inl fk)), (mr 6, .inl (kI, 3002, .inl fa)), (mr 8, .inl (kL, 3002, .inr (.inl fn))), (m9, .inr (23, mA mr mv vf xl (nI zs) 0 xaA (nI T) (nI (ppA + 1)) xi xt xn (nI ns) (nI vv) (nI bbA)))] : va_W) ++ (sT LA FA)) H := hP
      replace hD : va_D A (([(mr 5, .inl (kI, 3002, .inl fk)), (mr 6, .inl (kI, 3002, .inl fa)), (mr 8, .inl (kL, 3002, .inr (.inl fn))), (m9, .inr (23, mA mr mv vf xl (nI zs) 0 xaA (nI T) (nI (ppA + 1)) xi xt xn (nI ns) (nI vv) (nI bbA)))] : va_W) ++ (sT LA FA)) := hD
      refine lv_aload_n hx hb dX23_chain_68 rfl (lv_at hl 3 rfl) ?_
      refine lv_iload hx hb dX23_chain_69 (lv_at hl 0 rfl) ?_
      by_cases hn_13 : ns = 16
      · replace hPc := hP.subF (f' := [(m9, .inr (23, mA mr mv vf xl (nI zs) 0 xaA (nI T) (nI (ppA + 1)) xi xt xn (nI ns) (nI vv) (nI bbA))), (mr 6, .inl (kI, 3002, .inl fa))]) [3, 1] rfl
        replace hDc := hD.subF (f' := [(m9, .inr (23, mA mr mv vf xl (nI zs) 0 xaA (nI T) (nI (ppA + 1)) xi xt xn (nI ns) (nI vv) (nI bbA))), (mr 6, .inl (kI, 3002, .inl fa))]) [3, 1] (by decide) rfl
        replace hKc := hK.sub (tys' := [(kI, .int)]) [0] rfl
        replace hFc := va_freeT (wc := [(m9, .inr (23, mA mr mv vf xl (nI zs) 0 xaA (nI T) (nI (ppA + 1)) xi xt xn (nI ns) (nI vv) (nI bbA))), (mr 6, .inl (kI, 3002, .inl fa))]) hD hS hA [3, 1] rfl
        refine va_callv (va_runV (As := [.int (nI ppA)]) (rest := []) ⟨hx, hb, hml, hown, hts⟩ (c_renN l dC dI m9 mr mv vf xl xaA xi xt xn zs T (ppA + 1) ns vv bbA kI fk fa ppA H.size (by omega) hn_13) (cwV 1 hts g_c_xc5_c_renN_71 rfl rfl rfl (by decide +kernel) ⟨by show 1 + 1 ≤ 8 + 12 * k; omega, by show 8 + (2 + 11) + (22) ≤ 177 + 279 * k; omega⟩) ⟨fun a U g mk q => by obtain ⟨q0, q1, qP, qK, qD⟩ := q; exact ⟨q0, q1, qP, va_K.moved (u := U) (U := U.calling g mk a) (Vm.Alike.refl U.vm) qK, qD⟩, va_recv hKc hPc (ci := 23) (q0 := 0) rfl rfl, fun U hU hW => ⟨rfl, by rw [hU], by rw [hU]; exact hPc, va_K.moved hW.alike hKc, hDc.weaken (fun _ _ _ _ => trivial)⟩⟩ rfl rfl hl.1 rfl (lv_room (Nat.le_of_ble_eq_true rfl)) dX23_chain_71 ⟨(show 8 * (ppA - pp) + 3 + 0 ≤ (8 * (T - pp) + 8) by omega), (show 120 * (ppA - pp) + 48 + 0 ≤ (120 * (T - pp) + 360) by omega)⟩) hS (fun q _ h => hFc q h) hFc (fun u tS H1 locs ht hvm hw hB hz1 hk1 hS => ?_)
        obtain ⟨ff_14, xa_15, hf16_0, hP1, hK1, hD1⟩ := hB
        rw [ht] at hP1
        replace hK1 := va_K.moved hvm.symm hK1
        obtain ⟨hPj, hDj⟩ := va_joinT (wr := [(mr 5, .inl (kI, 3002, .inl fk)), (mr 8, .inl (kL, 3002, .inr (.inl fn)))]) (w1 := [(m9, .inr (23, mA mr mv vf xl (nI zs) ff_14 xa_15 (nI T) (nI (ppA + 1)) xi xt xn (nI (ns + 1)) (nI vv) (nI bbA))), (mr 6, .inl (kI, 3002, .inl fa))]) hP hD [3, 1] [0, 2] rfl rfl (by decide) (by decide) hk1 hFc hP1 hD1
        replace hP := hPj
        replace hD := hDj
        clear hPj hDj
        replace hK := hK.app hK1
        generalize H1 = H at hP hS ⊢
        replace hP : va_P (dC, dI) vwCl (([(mr 5, .inl (kI, 3002, .inl fk)), (mr 8, .inl (kL, 3002, .inr (.inl fn))), (m9, .inr (23, mA mr mv vf xl (nI zs) ff_14 xa_15 (nI T) (nI (ppA + 1)) xi xt xn (nI (ns + 1)) (nI vv) (nI bbA))), (mr 6, .inl (kI, 3002, .inl fa))] : va_W) ++ (sT LA FA)) H := hP
        replace hD : va_D A (([(mr 5, .inl (kI, 3002, .inl fk)), (mr 8, .inl (kL, 3002, .inr (.inl fn))), (m9, .inr (23, mA mr mv vf xl (nI zs) ff_14 xa_15 (nI T) (nI (ppA + 1)) xi xt xn (nI (ns + 1)) (nI vv) (nI bbA))), (mr 6, .inl (kI, 3002, .inl fa))] : va_W) ++ (sT LA FA)) := hD
        replace hK : va_K (dC, dI) vwCl [(kI, .int), (kL, .long), (kE, .object RX15), (kI, .int)] s := hK
        replace hK := hK.sub (tys' := [(kI, .int), (kL, .long), (kE, .object RX15)]) [0, 1, 2] rfl
        clear hz1 hk1 hPc hDc hKc hFc hP1 hD1 hK1
        refine lv_aload_n hx hb dX23_chain_74 rfl (lv_at hl 3 rfl) ?_
        refine lv_iload_n hx hb dX23_chain_75 rfl (lv_at hl 4 rfl) ?_
        refine lv_iconst (v := 1) hx hb dX23_chain_76 (by decide) ?_
        refine lv_iadd hx hb dX23_chain_77 ?_
        refine lv_topi (fun f_17 ef_17 => ?_)
        obtain rfl : f_17 = 6 := ef_17.trans (by decide)
        replace hPc := hP.subT (f' := [(m9, .inr (23, mA mr mv vf xl (nI zs) ff_14 xa_15 (nI T) (nI (ppA + 1)) xi xt xn (nI (ns + 1)) (nI vv) (nI bbA))), (mr 5, .inl (kI, 3002, .inl fk)), (mr 6, .inl (kI, 3002, .inl fa))]) [2, 0, 3] rfl
        replace hDc := hD.subT (f' := [(m9, .inr (23, mA mr mv vf xl (nI zs) ff_14 xa_15 (nI T) (nI (ppA + 1)) xi xt xn (nI (ns + 1)) (nI vv) (nI bbA))), (mr 5, .inl (kI, 3002, .inl fk)), (mr 6, .inl (kI, 3002, .inl fa))]) [2, 0, 3] (by decide) rfl
        replace hKc := hK.sub (tys' := [(kI, .int)]) [0] rfl
        replace hFc := va_freeB (wc := [(m9, .inr (23, mA mr mv vf xl (nI zs) ff_14 xa_15 (nI T) (nI (ppA + 1)) xi xt xn (nI (ns + 1)) (nI vv) (nI bbA))), (mr 5, .inl (kI, 3002, .inl fk)), (mr 6, .inl (kI, 3002, .inl fa))]) hD hS hA [2, 0, 3] rfl
        refine W.grow (fun hgs0 hgs1 => ?_)
        refine va_callr (va_runV (As := [.int 6]) (rest := []) ⟨hx, hb, hml, hown, hts⟩ (c_xc6B l dC dI m9 mr mv vf xl xa_15 xi xt xn zs T (ppA + 1) (ns + 1) vv bbA kI fk fa ff_14 LA FA (slN H) H.size hf16_0) (cwV 1 hts g_c_xc5_c_xc6B_78 rfl rfl rfl (by decide +kernel) ⟨by show 3 + 1 ≤ 8 + 12 * k; omega, by show 8 + (6 + 11) + (54) ≤ 177 + 279 * k; omega⟩) ⟨fun a U g mk q => by obtain ⟨q0, q1, qP, qK, qD, qx0, qx1⟩ := q; exact ⟨q0, q1, qP, va_K.moved (u := U) (U := U.calling g mk a) (Vm.Alike.refl U.vm) qK, qD, nsM.same (u := U) (U := U.calling g mk a) rfl qx0, qx1⟩, va_recv hKc hPc (ci := 23) (q0 := 0) rfl rfl, fun U hU hW => ⟨rfl, by rw [hU], by rw [hU]; exact hPc, va_K.moved hW.alike hKc, hDc.weaken (fun _ _ _ _ => trivial), nsM.warm hW hns, by rw [hU]⟩⟩ rfl rfl hl.1 rfl (lv_room (Nat.le_of_ble_eq_true rfl)) dX23_chain_78 ⟨(show 8 * (ppA - pp) + 3 + 1 ≤ (8 * (T - pp) + 8) by omega), (show 120 * (ppA - pp) + 48 + 14 ≤ (120 * (T - pp) + 360) by omega)⟩) hS (fun q _ h => hFc q h) hFc (fun u r_18 tS H1 locs ht hvm hw hB hz1 hk1 hS => ?_)
        obtain ⟨L17, F17, hf18_0, hf18_1, hP1, hK1, hD1⟩ := hB
        rw [ht] at hP1
        replace hK1 := va_K.moved hvm.symm hK1
        rw [ht] at hf18_1
        have hgz : H1.size ≤ s.heap.size + ((8 * (ppA - pp) + 3 + 1)) ∧ slN H1 ≤ slN s.heap + ((120 * (ppA - pp) + 48 + 14)) := ⟨by have := hf18_1.1; omega, by have := hf18_1.2; omega⟩
        obtain ⟨hPj, hDj⟩ := va_joinB (wr := [(mr 8, .inl (kL, 3002, .inr (.inl fn)))]) (w1 := [(m9, .inr (23, mA mr mv vf xl (nI zs) ff_14 xa_15 (nI T) (nI (ppA + 1)) xi xt xn (nI (ns + 1)) (nI vv) (nI bbA))), (mr 5, .inl (kI, 3002, .inl fk)), (mr 6, .inl (kI, 3002, .inl fa))]) hP hD [2, 0, 3] [1] rfl rfl (by decide) (by decide) hk1 hFc hP1 hD1
        replace hP := hPj
        replace hD := hDj
        clear hPj hDj
        replace hK := hK.app hK1
        generalize H1 = H at hP hS hgz ⊢
        replace hP : va_P (dC, dI) vwCl (([(mr 8, .inl (kL, 3002, .inr (.inl fn))), (m9, .inr (23, mA mr mv vf xl (nI zs) ff_14 xa_15 (nI T) (nI (ppA + 1)) xi xt xn (nI (ns + 1)) (nI vv) (nI bbA))), (mr 5, .inl (kI, 3002, .inl fk)), (mr 6, .inl (kI, 3002, .inl fa))] : va_W) ++ (sT L17 F17)) H := hP
        replace hD : va_D A (([(mr 8, .inl (kL, 3002, .inr (.inl fn))), (m9, .inr (23, mA mr mv vf xl (nI zs) ff_14 xa_15 (nI T) (nI (ppA + 1)) xi xt xn (nI (ns + 1)) (nI vv) (nI bbA))), (mr 5, .inl (kI, 3002, .inl fk)), (mr 6, .inl (kI, 3002, .inl fa))] : va_W) ++ (sT L17 F17)) := hD
        replace hK : va_K (dC, dI) vwCl [(kI, .int), (kL, .long), (kE, .object RX15), (kI, .int)] s := hK
        replace hK := hK.sub (tys' := [(kI, .int), (kL, .long), (kE, .object RX15)]) [0, 1, 2] rfl
        refine W.tight (k := (8 * (ppA - pp) + 3 + 1)) (n := (120 * (ppA - pp) + 48 + 14)) hgz.1 hgz.2 ?_
        clear hz1 hk1 hPc hDc hKc hFc hP1 hD1 hK1
        refine lv_astore (lv' := [(5, .ref r_18), (4, .int (nI ppA)), (3, .null), (2, .ref r_3), (0, .ref m9), (1, .int 5)]) hx hb dX23_chain_81 hl (by decide) rfl (fun ls hl => ?_)
        refine lv_aload_n hx hb dX23_chain_83 rfl (lv_at hl 4 rfl) ?_
        refine lv_dup hx hb dX23_chain_84 rfl ?_
        refine va_get (D := (dC, dI)) (ci := 23) (v := .int (nI (ns + 1))) (C := RX23) (T := TX23) (N := 89) hx hb hts in_c_xc5_X23 hown hK hP 1 rfl rfl 15 (by decide) (hts (.fieldLink RX23 104 "OwnedPlacesModel" "nest" "I") (wm_c_xc5 19 rfl)) (fun _ h9 => h9) rfl dX23_chain_85 ?_
        refine lv_iconst (v := 1) hx hb dX23_chain_88 (by decide) ?_
        refine lv_isub hx hb dX23_chain_89 ?_
        refine lv_topi (fun f_19 ef_19 => ?_)
        obtain rfl : f_19 = nI ns := ef_19.trans (nI_pred _)
        refine va_put (D := (dC, dI)) (ci := 23) (v := .int (nI ns)) (ty := .int) (C := RX23) (T := TX23) (N := 89) hx hb hts in_c_xc5_X23 tyX23 tyX23_ok nmX23 hown hK hP hD hS 1 rfl rfl 15 (by decide) (hts (.fieldLink RX23 104 "OwnedPlacesModel" "nest" "I") (wm_c_xc5 19 rfl)) (fun _ h9 => h9) rfl (by decide +kernel) rfl rfl (Nat.le_of_ble_eq_true rfl) dX23_chain_90 (fun H locs hP hD hS => ?_)
        replace hP : va_P (dC, dI) vwCl (([(mr 8, .inl (kL, 3002, .inr (.inl fn))), (m9, .inr (23, mA mr mv vf xl (nI zs) ff_14 xa_15 (nI T) (nI (ppA + 1)) xi xt xn (nI ns) (nI vv) (nI bbA))), (mr 5, .inl (kI, 3002, .inl fk)), (mr 6, .inl (kI, 3002, .inl fa))] : va_W) ++ (sT L17 F17)) H := hP
        replace hD : va_D A (([(mr 8, .inl (kL, 3002, .inr (.inl fn))), (m9, .inr (23, mA mr mv vf xl (nI zs) ff_14 xa_15 (nI T) (nI (ppA + 1)) xi xt xn (nI ns) (nI vv) (nI bbA))), (mr 5, .inl (kI, 3002, .inl fk)), (mr 6, .inl (kI, 3002, .inl fa))] : va_W) ++ (sT L17 F17)) := hD
        refine lv_aload_nN hx hb dX23_chain_93 rfl (lv_at hl 2 rfl) ?_
        refine lv_ifnonnullN hx hb dX23_chain_94 ?_
        refine va_new (ci := 15) (fs := [.int 0, .int 0, .int 0, .int 0, .int 0, .int 0, .long 0, .int 0, .null, .null, .null, .int 0, .null, .null]) (C := RX15) (T := TX15) (N := 14) hx hb hts in_c_xc5_X15 tyX15 tyX15_ok hown (hts (.classLink RX23 295 RX15) (wm_c_xc5 30 rfl)) (hts (.instantiable RX15 14) (wm_c_xc5 31 rfl)) (hts (.initialized RX15) (wm_c_xc5 32 rfl)) hK hP hD hS hA rfl dv_X15 (show (8 * (ppA - pp) + 3 + 1) + 1 ≤ (8 * (T - pp) + 8) by omega) (show (120 * (ppA - pp) + 48 + 14) + 14 ≤ (120 * (T - pp) + 360) by omega) dX23_chain_97 (fun q_20 H hP hD hS => ?_)
        replace hP := va_P.nt hP
        replace hD := va_D.nt hD
        replace hP : va_P (dC, dI) vwCl (([(mr 8, .inl (kL, 3002, .inr (.inl fn))), (m9, .inr (23, mA mr mv vf xl (nI zs) ff_14 xa_15 (nI T) (nI (ppA + 1)) xi xt xn (nI ns) (nI vv) (nI bbA))), (mr 5, .inl (kI, 3002, .inl fk)), (mr 6, .inl (kI, 3002, .inl fa)), (q_20, .inr (15, [.int 0, .int 0, .int 0, .int 0, .int 0, .int 0, .long 0, .int 0, .null, .null, .null, .int 0, .null, .null]))] : va_W) ++ (sT L17 F17)) H := hP
        replace hD : va_D A (([(mr 8, .inl (kL, 3002, .inr (.inl fn))), (m9, .inr (23, mA mr mv vf xl (nI zs) ff_14 xa_15 (nI T) (nI (ppA + 1)) xi xt xn (nI ns) (nI vv) (nI bbA))), (mr 5, .inl (kI, 3002, .inl fk)), (mr 6, .inl (kI, 3002, .inl fa)), (q_20, .inr (15, [.int 0, .int 0, .int 0, .int 0, .int 0, .int 0, .long 0, .int 0, .null, .null, .null, .int 0, .null, .null]))] : va_W) ++ (sT L17 F17)) := hD
        refine W.widen (k := ((8 * (ppA - pp) + 3 + 1) + 1)) (n := ((120 * (ppA - pp) + 48 + 14) + 14)) (by omega) (by omega) ?_
        refine lv_dup hx hb dX23_chain_100 rfl ?_
        replace hPc := hP.subF (f' := [(q_20, .inr (15, [.int 0, .int 0, .int 0, .int 0, .int 0, .int 0, .long 0, .int 0, .null, .null, .null, .int 0, .null, .null]))]) [4] rfl
        replace hDc := hD.subF (f' := [(q_20, .inr (15, [.int 0, .int 0, .int 0, .int 0, .int 0, .int 0, .long 0, .int 0, .null, .null, .null, .int 0, .null, .null]))]) [4] (by decide) rfl
        replace hKc := hK.sub (tys' := []) [] rfl
        replace hFc := va_freeT (wc := [(q_20, .inr (15, [.int 0, .int 0, .int 0, .int 0, .int 0, .int 0, .long 0, .int 0, .null, .null, .null, .int 0, .null, .null]))]) hD hS hA [4] rfl
        refine va_callv (va_runIN (As := []) (rest := [.ref q_20]) ⟨hx, hb, hml, hown, hts⟩ (c_nX l dC dI q_20 H.size) ⟨va_cnB 0 hts g_c_xc5_c_nX_101 rfl rfl rfl hns.1.2.2.2.2.2.2.1 (hts (.initialized RX15) (wm_c_xc5 32 rfl)) (by decide +kernel) ⟨by show 1 + 1 ≤ 8 + 12 * k; omega, by show 8 + (1 + 11) + (12) ≤ 177 + 279 * k; omega⟩, rfl, (hts (.instanceMethod yX15_init) (wm_c_xc5 37 rfl))⟩ ⟨fun a U g mk q => by obtain ⟨q0, q1, qP, qK, qD⟩ := q; exact ⟨q0, q1, qP, va_K.moved (u := U) (U := U.calling g mk a) (Vm.Alike.refl U.vm) qK, qD⟩, fun U hU hW => ⟨rfl, by rw [hU], by rw [hU]; exact hPc, va_K.moved hW.alike hKc, hDc.weaken (fun _ _ _ _ => trivial)⟩⟩ rfl rfl hl.1 rfl (lv_room (Nat.le_of_ble_eq_true rfl)) dX23_chain_101 ⟨(show ((8 * (ppA - pp) + 3 + 1) + 1) + 0 ≤ (8 * (T - pp) + 8) by omega), (show ((120 * (ppA - pp) + 48 + 14) + 14) + 0 ≤ (120 * (T - pp) + 360) by omega)⟩) hS (fun q _ h => hFc q h) hFc (fun u tS H1 locs ht hvm hw hB hz1 hk1 hS => ?_)
        obtain ⟨hP1, hK1, hD1⟩ := hB
        rw [ht] at hP1
        replace hK1 := va_K.moved hvm.symm hK1
        obtain ⟨hPj, hDj⟩ := va_joinT (wr := [(mr 8, .inl (kL, 3002, .inr (.inl fn))), (m9, .inr (23, mA mr mv vf xl (nI zs) ff_14 xa_15 (nI T) (nI (ppA + 1)) xi xt xn (nI ns) (nI vv) (nI bbA))), (mr 5, .inl (kI, 3002, .inl fk)), (mr 6, .inl (kI, 3002, .inl fa))]) (w1 := [(q_20, .inr (15, [.int 0, .int 0, .int 0, .int 0, .int 0, .int 0, .long 0, .int 0, .null, .null, .null, .int 0, .null, .null]))]) hP hD [4] [0, 1, 2, 3] rfl rfl (by decide) (by decide) hk1 hFc hP1 hD1
        replace hP := hPj
        replace hD := hDj
        clear hPj hDj
        generalize H1 = H at hP hS ⊢
        replace hP : va_P (dC, dI) vwCl (([(mr 8, .inl (kL, 3002, .inr (.inl fn))), (m9, .inr (23, mA mr mv vf xl (nI zs) ff_14 xa_15 (nI T) (nI (ppA + 1)) xi xt xn (nI ns) (nI vv) (nI bbA))), (mr 5, .inl (kI, 3002, .inl fk)), (mr 6, .inl (kI, 3002, .inl fa)), (q_20, .inr (15, [.int 0, .int 0, .int 0, .int 0, .int 0, .int 0, .long 0, .int 0, .null, .null, .null, .int 0, .null, .null]))] : va_W) ++ (sT L17 F17)) H := hP
        replace hD : va_D A (([(mr 8, .inl (kL, 3002, .inr (.inl fn))), (m9, .inr (23, mA mr mv vf xl (nI zs) ff_14 xa_15 (nI T) (nI (ppA + 1)) xi xt xn (nI ns) (nI vv) (nI bbA))), (mr 5, .inl (kI, 3002, .inl fk)), (mr 6, .inl (kI, 3002, .inl fa)), (q_20, .inr (15, [.int 0, .int 0, .int 0, .int 0, .int 0, .int 0, .long 0, .int 0, .null, .null, .null, .int 0, .null, .null]))] : va_W) ++ (sT L17 F17)) := hD
        replace hK : va_K (dC, dI) vwCl [(kI, .int), (kL, .long), (kE, .object RX15)] s := hK
        clear hz1 hk1 hPc hDc hKc hFc hP1 hD1 hK1
        refine lv_astore_n (lv' := [(3, .ref q_20), (5, .ref r_18), (4, .int (nI ppA)), (2, .ref r_3), (0, .ref m9), (1, .int 5)]) hx hb dX23_chain_104 rfl hl (by decide) rfl (fun ls hl => ?_)
        refine lv_aload_n hx hb dX23_chain_105 rfl (lv_at hl 0 rfl) ?_
        refine lv_bipush (v := 8) hx hb dX23_chain_106 (by decide) ?_
        refine va_put (D := (dC, dI)) (ci := 15) (v := .int 8) (ty := .int) (C := RX15) (T := TX15) (N := 14) hx hb hts in_c_xc5_X15 tyX15 tyX15_ok nmX15 hown hK hP hD hS 4 rfl rfl 0 (by decide) (hts (.fieldLink RX23 330 "OwnedPlacesModel$Exp" "kind" "I") (wm_c_xc5 38 rfl)) (fun _ h9 => h9) rfl (by decide +kernel) rfl rfl (Nat.le_of_ble_eq_true rfl) dX23_chain_108 (fun H locs hP hD hS => ?_)
        replace hP : va_P (dC, dI) vwCl (([(mr 8, .inl (kL, 3002, .inr (.inl fn))), (m9, .inr (23, mA mr mv vf xl (nI zs) ff_14 xa_15 (nI T) (nI (ppA + 1)) xi xt xn (nI ns) (nI vv) (nI bbA))), (mr 5, .inl (kI, 3002, .inl fk)), (mr 6, .inl (kI, 3002, .inl fa)), (q_20, .inr (15, [.int 8, .int 0, .int 0, .int 0, .int 0, .int 0, .long 0, .int 0, .null, .null, .null, .int 0, .null, .null]))] : va_W) ++ (sT L17 F17)) H := hP
        replace hD : va_D A (([(mr 8, .inl (kL, 3002, .inr (.inl fn))), (m9, .inr (23, mA mr mv vf xl (nI zs) ff_14 xa_15 (nI T) (nI (ppA + 1)) xi xt xn (nI ns) (nI vv) (nI bbA))), (mr 5, .inl (kI, 3002, .inl fk)), (mr 6, .inl (kI, 3002, .inl fa)), (q_20, .inr (15, [.int 8, .int 0, .int 0, .int 0, .int 0, .int 0, .long 0, .int 0, .null, .null, .null, .int 0, .null, .null]))] : va_W) ++ (sT L17 F17)) := hD
        refine lv_aload_n hx hb dX23_chain_111 rfl (lv_at hl 0 rfl) ?_
        refine lv_aload_n hx hb dX23_chain_112 rfl (lv_at hl 3 rfl) ?_
        have hfi := isE_im hf18_0.1 _ (Nat.le_refl _) hgA.2
        obtain ⟨vs9, hF9, ht9⟩ := isE_tok hfi
        refine va_get (D := (dC, dI)) (ci := 15) (v := .int (nI pp)) (C := RX15) (T := TX15) (N := 14) hx hb hts in_c_xc5_X15 hown hK (va_P.st hP (isE_mem hfi).1 hF9) 0 rfl rfl 1 (by decide) (hts (.fieldLink RX23 350 "OwnedPlacesModel$Exp" "token" "I") (wm_c_xc5 39 rfl)) (fun _ h9 => h9) ht9 dX23_chain_113 ?_
        refine va_put (D := (dC, dI)) (ci := 15) (v := .int (nI pp)) (ty := .int) (C := RX15) (T := TX15) (N := 14) hx hb hts in_c_xc5_X15 tyX15 tyX15_ok nmX15 hown hK hP hD hS 4 rfl rfl 1 (by decide) (hts (.fieldLink RX23 350 "OwnedPlacesModel$Exp" "token" "I") (wm_c_xc5 39 rfl)) (fun _ h9 => h9) rfl (by decide +kernel) rfl rfl (Nat.le_of_ble_eq_true rfl) dX23_chain_116 (fun H locs hP hD hS => ?_)
        replace hP : va_P (dC, dI) vwCl (([(mr 8, .inl (kL, 3002, .inr (.inl fn))), (m9, .inr (23, mA mr mv vf xl (nI zs) ff_14 xa_15 (nI T) (nI (ppA + 1)) xi xt xn (nI ns) (nI vv) (nI bbA))), (mr 5, .inl (kI, 3002, .inl fk)), (mr 6, .inl (kI, 3002, .inl fa)), (q_20, .inr (15, [.int 8, .int (nI pp), .int 0, .int 0, .int 0, .int 0, .long 0, .int 0, .null, .null, .null, .int 0, .null, .null]))] : va_W) ++ (sT L17 F17)) H := hP
        replace hD : va_D A (([(mr 8, .inl (kL, 3002, .inr (.inl fn))), (m9, .inr (23, mA mr mv vf xl (nI zs) ff_14 xa_15 (nI T) (nI (ppA + 1)) xi xt xn (nI ns) (nI vv) (nI bbA))), (mr 5, .inl (kI, 3002, .inl fk)), (mr 6, .inl (kI, 3002, .inl fa)), (q_20, .inr (15, [.int 8, .int (nI pp), .int 0, .int 0, .int 0, .int 0, .long 0, .int 0, .null, .null, .null, .int 0, .null, .null]))] : va_W) ++ (sT L17 F17)) := hD
        refine lv_aload_n hx hb dX23_chain_119 rfl (lv_at hl 0 rfl) ?_
        refine lv_aload_n hx hb dX23_chain_120 rfl (lv_at hl 3 rfl) ?_
        refine va_put (D := (dC, dI)) (ci := 15) (v := .ref r_3) (ty := (.object "OwnedPlacesModel$Exp")) (C := RX15) (T := TX15) (N := 14) hx hb hts in_c_xc5_X15 tyX15 tyX15_ok nmX15 hown hK hP hD hS 4 rfl rfl 8 (by decide) (hts (.fieldLink RX23 331 "OwnedPlacesModel$Exp" "of" "LOwnedPlacesModel$Exp;") (wm_c_xc5 40 rfl)) (fun _ h9 => h9) rfl (by decide +kernel) rfl rfl (Nat.le_of_ble_eq_true rfl) dX23_chain_121 (fun H locs hP hD hS => ?_)
        replace hP : va_P (dC, dI) vwCl (([(mr 8, .inl (kL, 3002, .inr (.inl fn))), (m9, .inr (23, mA mr mv vf xl (nI zs) ff_14 xa_15 (nI T) (nI (ppA + 1)) xi xt xn (nI ns) (nI vv) (nI bbA))), (mr 5, .inl (kI, 3002, .inl fk)), (mr 6, .inl (kI, 3002, .inl fa)), (q_20, .inr (15, [.int 8, .int (nI pp), .int 0, .int 0, .int 0, .int 0, .long 0, .int 0, .ref r_3, .null, .null, .int 0, .null, .null]))] : va_W) ++ (sT L17 F17)) H := hP
        replace hD : va_D A (([(mr 8, .inl (kL, 3002, .inr (.inl fn))), (m9, .inr (23, mA mr mv vf xl (nI zs) ff_14 xa_15 (nI T) (nI (ppA + 1)) xi xt xn (nI ns) (nI vv) (nI bbA))), (mr 5, .inl (kI, 3002, .inl fk)), (mr 6, .inl (kI, 3002, .inl fa)), (q_20, .inr (15, [.int 8, .int (nI pp), .int 0, .int 0, .int 0, .int 0, .long 0, .int 0, .ref r_3, .null, .null, .int 0, .null, .null]))] : va_W) ++ (sT L17 F17)) := hD
        refine lv_aload_n hx hb dX23_chain_124 rfl (lv_at hl 0 rfl) ?_
        refine lv_aload hx hb dX23_chain_125 (lv_at hl 1 rfl) ?_
        refine lv_iload hx hb dX23_chain_127 (lv_at hl 2 rfl) ?_
        replace hPc := hP.subT (f' := [(q_20, .inr (15, [.int 8, .int (nI pp), .int 0, .int 0, .int 0, .int 0, .long 0, .int 0, (.ref r_3), .null, .null, .int 0, .null, .null]))]) [4] rfl
        replace hDc := hD.subT (f' := [(q_20, .inr (15, [.int 8, .int (nI pp), .int 0, .int 0, .int 0, .int 0, .long 0, .int 0, (.ref r_3), .null, .null, .int 0, .null, .null]))]) [4] (by decide) rfl
        replace hKc := hK.sub (tys' := [(kI, .int), (kE, .object RX15)]) [0, 2] rfl
        replace hFc := va_freeB (wc := [(q_20, .inr (15, [.int 8, .int (nI pp), .int 0, .int 0, .int 0, .int 0, .long 0, .int 0, (.ref r_3), .null, .null, .int 0, .null, .null]))]) hD hS hA [4] rfl
        refine W.grow (fun hgs0 hgs1 => ?_)
        refine va_callv (va_runS (As := [.ref q_20, .ref r_18, .int (nI ppA)]) (rest := []) ⟨hx, hb, hml, hown, hts⟩ (c_xaN l dC dI q_20 r_18 8 (nI pp) 0 0 0 0 (nI ppA) (.ref r_3) kI kE L17 F17 (slN H) H.size hf18_0.2) (va_cwS 3 hts g_c_xc5_c_xaN_129 rfl rfl rfl (by decide +kernel) ⟨by show 0 + 1 ≤ 8 + 12 * k; omega, by show 8 + (6 + 11) + (0) ≤ 177 + 279 * k; omega⟩) ⟨fun a U g mk q => by obtain ⟨q0, q1, qP, qK, qD, qx0, qx1⟩ := q; exact ⟨q0, q1, qP, va_K.moved (u := U) (U := U.calling g mk a) (Vm.Alike.refl U.vm) qK, qD, nsM.same (u := U) (U := U.calling g mk a) rfl qx0, qx1⟩, fun U hU hW => ⟨rfl, by rw [hU], by rw [hU]; exact hPc, va_K.moved hW.alike hKc, hDc.weaken (fun _ _ _ _ => trivial), nsM.warm hW hns, by rw [hU]⟩⟩ rfl rfl hl.1 rfl (lv_room (Nat.le_of_ble_eq_true rfl)) dX23_chain_129 ⟨(show ((8 * (ppA - pp) + 3 + 1) + 1) + 2 ≤ (8 * (T - pp) + 8) by omega), (show ((120 * (ppA - pp) + 48 + 14) + 14) + 8 ≤ (120 * (T - pp) + 360) by omega)⟩) hS (fun q _ h => hFc q h) hFc (fun u tS H1 locs ht hvm hw hB hz1 hk1 hS => ?_)
        obtain ⟨la21, sa21, cp21, f21, g21, hf22_0, hf22_1, hf22_2, hP1, hK1, hD1⟩ := hB
        rw [ht] at hP1
        replace hK1 := va_K.moved hvm.symm hK1
        rw [ht] at hf22_2
        have hgz : H1.size ≤ s.heap.size + ((((8 * (ppA - pp) + 3 + 1) + 1) + 2)) ∧ slN H1 ≤ slN s.heap + ((((120 * (ppA - pp) + 48 + 14) + 14) + 8)) := ⟨by have := hf22_2.1; omega, by have := hf22_2.2; omega⟩
        obtain ⟨hPj, hDj⟩ := va_joinB (wr := [(mr 8, .inl (kL, 3002, .inr (.inl fn))), (m9, .inr (23, mA mr mv vf xl (nI zs) ff_14 xa_15 (nI T) (nI (ppA + 1)) xi xt xn (nI ns) (nI vv) (nI bbA))), (mr 5, .inl (kI, 3002, .inl fk)), (mr 6, .inl (kI, 3002, .inl fa))]) (w1 := [(q_20, .inr (15, [.int 8, .int (nI pp), .int 0, .int 0, .int 0, .int 0, .long 0, .int 0, (.ref r_3), .ref la21, .ref sa21, .int 1, .null, .null])), (la21, .inl (kE, cp21, .inr (.inr (.inr (.inr f21))))), (sa21, .inl (kI, cp21, .inl g21))]) hP hD [4] [0, 1, 2, 3] rfl rfl (by decide) (by decide) hk1 hFc hP1 hD1
        replace hP := hPj
        replace hD := hDj
        clear hPj hDj
        replace hK := hK.app hK1
        generalize H1 = H at hP hS hgz ⊢
        replace hP : va_P (dC, dI) vwCl (([(mr 8, .inl (kL, 3002, .inr (.inl fn))), (m9, .inr (23, mA mr mv vf xl (nI zs) ff_14 xa_15 (nI T) (nI (ppA + 1)) xi xt xn (nI ns) (nI vv) (nI bbA))), (mr 5, .inl (kI, 3002, .inl fk)), (mr 6, .inl (kI, 3002, .inl fa)), (q_20, .inr (15, [.int 8, .int (nI pp), .int 0, .int 0, .int 0, .int 0, .long 0, .int 0, (.ref r_3), .ref la21, .ref sa21, .int 1, .null, .null])), (la21, .inl (kE, cp21, .inr (.inr (.inr (.inr f21))))), (sa21, .inl (kI, cp21, .inl g21))] : va_W) ++ (sT L17 F17)) H := hP
        replace hD : va_D A (([(mr 8, .inl (kL, 3002, .inr (.inl fn))), (m9, .inr (23, mA mr mv vf xl (nI zs) ff_14 xa_15 (nI T) (nI (ppA + 1)) xi xt xn (nI ns) (nI vv) (nI bbA))), (mr 5, .inl (kI, 3002, .inl fk)), (mr 6, .inl (kI, 3002, .inl fa)), (q_20, .inr (15, [.int 8, .int (nI pp), .int 0, .int 0, .int 0, .int 0, .long 0, .int 0, (.ref r_3), .ref la21, .ref sa21, .int 1, .null, .null])), (la21, .inl (kE, cp21, .inr (.inr (.inr (.inr f21))))), (sa21, .inl (kI, cp21, .inl g21))] : va_W) ++ (sT L17 F17)) := hD
        replace hK : va_K (dC, dI) vwCl [(kI, .int), (kL, .long), (kE, .object RX15), (kI, .int), (kE, .object RX15)] s := hK
        replace hK := hK.sub (tys' := [(kI, .int), (kL, .long), (kE, .object RX15)]) [0, 1, 2] rfl
        refine W.tight (k := (((8 * (ppA - pp) + 3 + 1) + 1) + 2)) (n := (((120 * (ppA - pp) + 48 + 14) + 14) + 8)) hgz.1 hgz.2 ?_
        clear hz1 hk1 hPc hDc hKc hFc hP1 hD1 hK1
        subst hf22_0
        refine lv_goto (tgt := 29) hx hb dX23_chain_132 (by decide) ?_
        refine W_q (fun Q1 hQ1 => ?_)
        have key1 : ∀ (n1 : Nat) (pp1 bb1 la sa cp n : Nat) (ff1 xa1 : Int32) (L1 : List Nat) (F1 : Nat → va_E) (f : Nat → Option Nat) (g : Nat → Int32) (H : Heap) (locs : List Loc) (ls : Array Slot), (1 ≤ n1 ∧ ppA < pp1 ∧ pp1 < T ∧ bb ≤ bb1 ∧ bb1 ≤ bb + (pp1 - pp) ∧ 1 ≤ n ∧ n ≤ cp ∧ 4 ≤ cp ∧ cp ≤ 4 + 2 * n ∧ pp + n ≤ pp1 ∧ T ≤ 3001) → (ff1 ≠ 0 ∨ T + 1 ≤ pp1 + n1) → (exS L F L1 F1) → (∀ i : Nat, i < n → ∃ x : Nat, f i = some x ∧ xO L1 F1 x) → (ff1 = 0 → bb1 ≤ 54 ∧ isE L1 F1 kE kI (24 * k + 18) r_3 pp ppA bb bbA ∧ chP 1 (isE L1 F1 kE kI (24 * k + 18)) f g n ppA pp1 bbA bb1) → va_P (dC, dI) vwCl (([(q_20, .inr (15, [.int 8, .int (nI pp), .int 0, .int 0, .int 0, .int 0, .long 0, .int 0, .ref r_3, .ref la, .ref sa, .int (nI n), .null, .null])), (la, .inl (kE, cp, .inr (.inr (.inr (.inr f))))), (sa, .inl (kI, cp, .inl g)), (m9, .inr (23, mA mr mv vf xl (nI zs) ff1 xa1 (nI T) (nI pp1) xi xt xn (nI ns) (nI vv) (nI bb1))), (mr 5, .inl (kI, 3002, .inl fk)), (mr 6, .inl (kI, 3002, .inl fa)), (mr 8, .inl (kL, 3002, .inr (.inl fn)))] : va_W) ++ (sT L1 F1)) H → va_D A (([(q_20, .inr (15, [.int 8, .int (nI pp), .int 0, .int 0, .int 0, .int 0, .long 0, .int 0, .ref r_3, .ref la, .ref sa, .int (nI n), .null, .null])), (la, .inl (kE, cp, .inr (.inr (.inr (.inr f))))), (sa, .inl (kI, cp, .inl g)), (m9, .inr (23, mA mr mv vf xl (nI zs) ff1 xa1 (nI T) (nI pp1) xi xt xn (nI ns) (nI vv) (nI bb1))), (mr 5, .inl (kI, 3002, .inl fk)), (mr 6, .inl (kI, 3002, .inl fa)), (mr 8, .inl (kL, 3002, .inr (.inl fn)))] : va_W) ++ (sT L1 F1)) → va_S A s.heap H locs → lv_has ls 6 [(3, .ref q_20), (2, .ref r_3), (0, .ref m9), (1, .int 5)] → W p l e (headSpec wp_c_xc5 ({ frames := 8 + 12 * k, cells := (8 * (T - pp) + 8), slots := (120 * (T - pp) + 360), locals := 177 + 279 * k })).room s m ([.ref m9, .int 5] : List Value).toArray below meth c H locs (8 * (pp1 - pp) + 4 - 3 * n) (120 * (pp1 - pp) + 62 + 4 * cp - 72 * n) Q1 (F0 m 29 ls []) := by
          intro n1
          induction n1 with
          | zero => intro pp1 bb1 la sa cp n ff1 xa1 L1 F1 f g H locs ls hr0 hr1 hr2 hr3 hr4; exact absurd hr0 (by omega)
          | succ n1 ih1 =>
            intro pp1 bb1 la sa cp n ff1 xa1 L1 F1 f g H locs ls hr0 hr1 hr2 hr3 hr4 hP hD hS hl
            refine lv_aload_n hx hb dX23_chain_29 rfl (lv_at hl 2 rfl) ?_
            by_cases hz_23 : ff1 = 0
            · subst hz_23
              have hr9 := hr4 rfl
              replace hPc := hP.subF (f' := [(m9, .inr (23, mA mr mv vf xl (nI zs) 0 xa1 (nI T) (nI pp1) xi xt xn (nI ns) (nI vv) (nI bb1)))]) [3] rfl
              replace hDc := hD.subF (f' := [(m9, .inr (23, mA mr mv vf xl (nI zs) 0 xa1 (nI T) (nI pp1) xi xt xn (nI ns) (nI vv) (nI bb1)))]) [3] (by decide) rfl
              replace hKc := hK.sub (tys' := []) [] rfl
              replace hFc := va_freeT (wc := [(m9, .inr (23, mA mr mv vf xl (nI zs) 0 xa1 (nI T) (nI pp1) xi xt xn (nI ns) (nI vv) (nI bb1)))]) hD hS hA [3] rfl
              refine va_calli (va_runV (As := []) (rest := []) ⟨hx, hb, hml, hown, hts⟩ (c_rok0 l dC dI m9 mr mv vf xl xa1 xi xt xn zs T pp1 ns vv bb1 kI fk fa H.size) (cwV 0 hts g_c_xc5_c_rok0_30 rfl rfl rfl (by decide +kernel) ⟨by show 0 + 1 ≤ 8 + 12 * k; omega, by show 8 + (1 + 11) + (0) ≤ 177 + 279 * k; omega⟩) ⟨fun a U g mk q => by obtain ⟨q0, q1, qP, qK, qD⟩ := q; exact ⟨q0, q1, qP, va_K.moved (u := U) (U := U.calling g mk a) (Vm.Alike.refl U.vm) qK, qD⟩, va_recv hKc hPc (ci := 23) (q0 := 0) rfl rfl, fun U hU hW => ⟨rfl, by rw [hU], by rw [hU]; exact hPc, va_K.moved hW.alike hKc, hDc.weaken (fun _ _ _ _ => trivial)⟩⟩ rfl rfl hl.1 rfl (lv_room (Nat.le_of_ble_eq_true rfl)) dX23_chain_30 ⟨(show (8 * (pp1 - pp) + 4 - 3 * n) + 0 ≤ (8 * (T - pp) + 8) by omega), (show (120 * (pp1 - pp) + 62 + 4 * cp - 72 * n) + 0 ≤ (120 * (T - pp) + 360) by omega)⟩) hS (fun q _ h => hFc q h) hFc (fun r_24 u tS H1 locs ht hvm hw hB hz1 hk1 hS => ?_)
              obtain ⟨hP1, hK1, hD1⟩ := hB
              rw [ht] at hP1
              replace hK1 := va_K.moved hvm.symm hK1
              obtain ⟨hPj, hDj⟩ := va_joinT (wr := [(q_20, .inr (15, [.int 8, .int (nI pp), .int 0, .int 0, .int 0, .int 0, .long 0, .int 0, .ref r_3, .ref la, .ref sa, .int (nI n), .null, .null])), (la, .inl (kE, cp, .inr (.inr (.inr (.inr f))))), (sa, .inl (kI, cp, .inl g)), (mr 5, .inl (kI, 3002, .inl fk)), (mr 6, .inl (kI, 3002, .inl fa)), (mr 8, .inl (kL, 3002, .inr (.inl fn)))]) (w1 := [(m9, .inr (23, mA mr mv vf xl (nI zs) 0 xa1 (nI T) (nI pp1) xi xt xn (nI ns) (nI vv) (nI bb1)))]) hP hD [3] [0, 1, 2, 4, 5, 6] rfl rfl (by decide) (by decide) hk1 hFc hP1 hD1
              replace hP := hPj
              replace hD := hDj
              clear hPj hDj
              generalize H1 = H at hP hS ⊢
              replace hP : va_P (dC, dI) vwCl (([(q_20, .inr (15, [.int 8, .int (nI pp), .int 0, .int 0, .int 0, .int 0, .long 0, .int 0, .ref r_3, .ref la, .ref sa, .int (nI n), .null, .null])), (la, .inl (kE, cp, .inr (.inr (.inr (.inr f))))), (sa, .inl (kI, cp, .inl g)), (mr 5, .inl (kI, 3002, .inl fk)), (mr 6, .inl (kI, 3002, .inl fa)), (mr 8, .inl (kL, 3002, .inr (.inl fn))), (m9, .inr (23, mA mr mv vf xl (nI zs) 0 xa1 (nI T) (nI pp1) xi xt xn (nI ns) (nI vv) (nI bb1)))] : va_W) ++ (sT L1 F1)) H := hP
              replace hD : va_D A (([(q_20, .inr (15, [.int 8, .int (nI pp), .int 0, .int 0, .int 0, .int 0, .long 0, .int 0, .ref r_3, .ref la, .ref sa, .int (nI n), .null, .null])), (la, .inl (kE, cp, .inr (.inr (.inr (.inr f))))), (sa, .inl (kI, cp, .inl g)), (mr 5, .inl (kI, 3002, .inl fk)), (mr 6, .inl (kI, 3002, .inl fa)), (mr 8, .inl (kL, 3002, .inr (.inl fn))), (m9, .inr (23, mA mr mv vf xl (nI zs) 0 xa1 (nI T) (nI pp1) xi xt xn (nI ns) (nI vv) (nI bb1)))] : va_W) ++ (sT L1 F1)) := hD
              replace hK : va_K (dC, dI) vwCl [(kI, .int), (kL, .long), (kE, .object RX15)] s := hK
              clear hz1 hk1 hPc hDc hKc hFc hP1 hD1 hK1
              obtain rfl : r_24 = 1 := hw
              refine lv_if_eq (tgt := 135) hx hb dX23_chain_33 (by decide) (fun c_25 => absurd c_25 (by decide)) (fun _ => ?_)
              refine lv_aload_n hx hb dX23_chain_36 rfl (lv_at hl 2 rfl) ?_
              refine va_get (D := (dC, dI)) (ci := 23) (v := .ref (mr 5)) (C := RX23) (T := TX23) (N := 89) hx hb hts in_c_xc5_X23 hown hK hP 6 rfl rfl 5 (by decide) (hts (.fieldLink RX23 25 "OwnedPlacesModel" "tokenKind" "[I") (wm_c_xc5 13 rfl)) (fun _ h9 => h9) rfl dX23_chain_37 ?_
              refine lv_aload_n hx hb dX23_chain_40 rfl (lv_at hl 2 rfl) ?_
              refine va_get (D := (dC, dI)) (ci := 23) (v := .int (nI pp1)) (C := RX23) (T := TX23) (N := 89) hx hb hts in_c_xc5_X23 hown hK hP 6 rfl rfl 10 (by decide) (hts (.fieldLink RX23 86 "OwnedPlacesModel" "p" "I") (wm_c_xc5 14 rfl)) (fun _ h9 => h9) rfl dX23_chain_41 ?_
              refine va_iald hx hb hK hP 3 0 rfl rfl (vp_in_nI (show pp1 < 3002 by omega) (by decide)) dX23_chain_44 ?_
              refine lv_topi (fun v_26 ev_26 => ?_)
              obtain rfl : v_26 = fk pp1 := ev_26.trans (by rw [nI_clamp (by omega)])
              replace hr1 := hr1.resolve_left (fun q => q rfl)
              replace hPc := hP.subF (f' := []) [] rfl
              replace hDc := hD.subF (f' := []) [] (by decide) rfl
              replace hKc := hK.sub (tys' := []) [] rfl
              replace hFc := va_freeT (wc := []) hD hS hA [] rfl
              refine va_calli (va_runS (As := [.int (fk pp1)]) (rest := []) ⟨hx, hb, hml, hown, hts⟩ (c_rlv l dC dI (fk pp1) H.size) (va_cwS 1 hts g_c_xc5_c_rlv_45 rfl rfl rfl (by decide +kernel) ⟨by show 0 + 1 ≤ 8 + 12 * k; omega, by show 8 + (1 + 11) + (0) ≤ 177 + 279 * k; omega⟩) ⟨fun a U g mk q => by obtain ⟨q0, q1, qP, qK, qD⟩ := q; exact ⟨q0, q1, qP, va_K.moved (u := U) (U := U.calling g mk a) (Vm.Alike.refl U.vm) qK, qD⟩, fun U hU hW => ⟨rfl, by rw [hU], by rw [hU]; exact hPc, va_K.moved hW.alike hKc, hDc.weaken (fun _ _ _ _ => trivial)⟩⟩ rfl rfl hl.1 rfl (lv_room (Nat.le_of_ble_eq_true rfl)) dX23_chain_45 ⟨(show (8 * (pp1 - pp) + 4 - 3 * n) + 0 ≤ (8 * (T - pp) + 8) by omega), (show (120 * (pp1 - pp) + 62 + 4 * cp - 72 * n) + 0 ≤ (120 * (T - pp) + 360) by omega)⟩) hS (fun q _ h => hFc q h) hFc (fun r_27 u tS H1 locs ht hvm hw hB hz1 hk1 hS => ?_)
              obtain ⟨hP1, hK1, hD1⟩ := hB
              rw [ht] at hP1
              replace hK1 := va_K.moved hvm.symm hK1
              obtain ⟨hPj, hDj⟩ := va_joinT (wr := [(q_20, .inr (15, [.int 8, .int (nI pp), .int 0, .int 0, .int 0, .int 0, .long 0, .int 0, .ref r_3, .ref la, .ref sa, .int (nI n), .null, .null])), (la, .inl (kE, cp, .inr (.inr (.inr (.inr f))))), (sa, .inl (kI, cp, .inl g)), (mr 5, .inl (kI, 3002, .inl fk)), (mr 6, .inl (kI, 3002, .inl fa)), (mr 8, .inl (kL, 3002, .inr (.inl fn))), (m9, .inr (23, mA mr mv vf xl (nI zs) 0 xa1 (nI T) (nI pp1) xi xt xn (nI ns) (nI vv) (nI bb1)))]) (w1 := []) hP hD [] [0, 1, 2, 3, 4, 5, 6] rfl rfl (by decide) (by decide) hk1 hFc hP1 hD1
              replace hP := hPj
              replace hD := hDj
              clear hPj hDj
              generalize H1 = H at hP hS ⊢
              replace hP : va_P (dC, dI) vwCl (([(q_20, .inr (15, [.int 8, .int (nI pp), .int 0, .int 0, .int 0, .int 0, .long 0, .int 0, .ref r_3, .ref la, .ref sa, .int (nI n), .null, .null])), (la, .inl (kE, cp, .inr (.inr (.inr (.inr f))))), (sa, .inl (kI, cp, .inl g)), (mr 5, .inl (kI, 3002, .inl fk)), (mr 6, .inl (kI, 3002, .inl fa)), (mr 8, .inl (kL, 3002, .inr (.inl fn))), (m9, .inr (23, mA mr mv vf xl (nI zs) 0 xa1 (nI T) (nI pp1) xi xt xn (nI ns) (nI vv) (nI bb1)))] : va_W) ++ (sT L1 F1)) H := hP
              replace hD : va_D A (([(q_20, .inr (15, [.int 8, .int (nI pp), .int 0, .int 0, .int 0, .int 0, .long 0, .int 0, .ref r_3, .ref la, .ref sa, .int (nI n), .null, .null])), (la, .inl (kE, cp, .inr (.inr (.inr (.inr f))))), (sa, .inl (kI, cp, .inl g)), (mr 5, .inl (kI, 3002, .inl fk)), (mr 6, .inl (kI, 3002, .inl fa)), (mr 8, .inl (kL, 3002, .inr (.inl fn))), (m9, .inr (23, mA mr mv vf xl (nI zs) 0 xa1 (nI T) (nI pp1) xi xt xn (nI ns) (nI vv) (nI bb1)))] : va_W) ++ (sT L1 F1)) := hD
              replace hK : va_K (dC, dI) vwCl [(kI, .int), (kL, .long), (kE, .object RX15)] s := hK
              clear hz1 hk1 hPc hDc hKc hFc hP1 hD1 hK1
              have hlv : r_27 = lvR (fk pp1) := hw
              refine lv_iload_n hx hb dX23_chain_48 rfl (lv_at hl 3 rfl) ?_
              refine lv_icmp_ne (tgt := 135) hx hb dX23_chain_49 (by decide) (fun hc_28 => ?_) (fun hc_28 => ?_)
              · refine lv_aload_n hx hb dX23_chain_135 rfl (lv_at hl 0 rfl) ?_
                refine lv_ifnonnull (tgt := 143) hx hb dX23_chain_136 (by decide) ?_
                refine lv_aload_n hx hb dX23_chain_143 rfl (lv_at hl 0 rfl) ?_
                replace hP : va_P (dC, dI) vwCl ((([(mr 5, .inl (kI, 3002, .inl fk)), (mr 6, .inl (kI, 3002, .inl fa)), (mr 8, .inl (kL, 3002, .inr (.inl fn))), (m9, .inr (23, mA mr mv vf xl (nI zs) 0 xa1 (nI T) (nI pp1) xi xt xn (nI ns) (nI vv) (nI bb1)))] : va_W) ++ ([(q_20, .inr (15, [.int 8, .int (nI pp), .int 0, .int 0, .int 0, .int 0, .long 0, .int 0, .ref r_3, .ref la, .ref sa, .int (nI n), .null, .null])), (la, .inl (kE, cp, .inr (.inr (.inr (.inr f))))), (sa, .inl (kI, cp, .inl g))] : va_W)) ++ sT L1 F1) H := hP.subT (f' := [(mr 5, .inl (kI, 3002, .inl fk)), (mr 6, .inl (kI, 3002, .inl fa)), (mr 8, .inl (kL, 3002, .inr (.inl fn))), (m9, .inr (23, mA mr mv vf xl (nI zs) 0 xa1 (nI T) (nI pp1) xi xt xn (nI ns) (nI vv) (nI bb1))), (q_20, .inr (15, [.int 8, .int (nI pp), .int 0, .int 0, .int 0, .int 0, .long 0, .int 0, .ref r_3, .ref la, .ref sa, .int (nI n), .null, .null])), (la, .inl (kE, cp, .inr (.inr (.inr (.inr f))))), (sa, .inl (kI, cp, .inl g))]) [3, 4, 5, 6, 0, 1, 2] rfl
                replace hD : va_D A ((([(mr 5, .inl (kI, 3002, .inl fk)), (mr 6, .inl (kI, 3002, .inl fa)), (mr 8, .inl (kL, 3002, .inr (.inl fn))), (m9, .inr (23, mA mr mv vf xl (nI zs) 0 xa1 (nI T) (nI pp1) xi xt xn (nI ns) (nI vv) (nI bb1)))] : va_W) ++ ([(q_20, .inr (15, [.int 8, .int (nI pp), .int 0, .int 0, .int 0, .int 0, .long 0, .int 0, .ref r_3, .ref la, .ref sa, .int (nI n), .null, .null])), (la, .inl (kE, cp, .inr (.inr (.inr (.inr f))))), (sa, .inl (kI, cp, .inl g))] : va_W)) ++ sT L1 F1) := hD.subT (f' := [(mr 5, .inl (kI, 3002, .inl fk)), (mr 6, .inl (kI, 3002, .inl fa)), (mr 8, .inl (kL, 3002, .inr (.inl fn))), (m9, .inr (23, mA mr mv vf xl (nI zs) 0 xa1 (nI T) (nI pp1) xi xt xn (nI ns) (nI vv) (nI bb1))), (q_20, .inr (15, [.int 8, .int (nI pp), .int 0, .int 0, .int 0, .int 0, .long 0, .int 0, .ref r_3, .ref la, .ref sa, .int (nI n), .null, .null])), (la, .inl (kE, cp, .inr (.inr (.inr (.inr f))))), (sa, .inl (kI, cp, .inl g))]) [3, 4, 5, 6, 0, 1, 2] (by decide) rfl
                obtain ⟨L9, F9, hx9, hm9, hP, hD⟩ := st_fileL [(q_20, .inr (15, [.int 8, .int (nI pp), .int 0, .int 0, .int 0, .int 0, .long 0, .int 0, .ref r_3, .ref la, .ref sa, .int (nI n), .null, .null])), (la, .inl (kE, cp, .inr (.inr (.inr (.inr f))))), (sa, .inl (kI, cp, .inl g))] hP hD
                have hm9_0 := hm9 _ (List.mem_of_getElem? (i := 0) rfl)
                have hm9_1 := hm9 _ (List.mem_of_getElem? (i := 1) rfl)
                have hm9_2 := hm9 _ (List.mem_of_getElem? (i := 2) rfl)
                refine W.grow (fun hgs0 hgs1 => ?_)
                have hP9 := hP.subT (f' := [(m9, .inr (23, mA mr mv vf xl (nI zs) 0 xa1 (nI T) (nI pp1) xi xt xn (nI ns) (nI vv) (nI bb1))), (mr 5, .inl (kI, 3002, .inl fk)), (mr 6, .inl (kI, 3002, .inl fa)), (mr 8, .inl (kL, 3002, .inr (.inl fn)))]) [3, 0, 1, 2] rfl
                have hD9 := hD.subT (f' := [(m9, .inr (23, mA mr mv vf xl (nI zs) 0 xa1 (nI T) (nI pp1) xi xt xn (nI ns) (nI vv) (nI bb1))), (mr 5, .inl (kI, 3002, .inl fk)), (mr 6, .inl (kI, 3002, .inl fa)), (mr 8, .inl (kL, 3002, .inr (.inl fn)))]) [3, 0, 1, 2] (by decide) rfl
                have hK9 := hK.sub (tys' := [(kI, .int), (kL, .long), (kE, .object RX15)]) [0, 1, 2] rfl
                refine W.widen (k := (8 * (T - pp) + 8)) (n := (120 * (T - pp) + 360)) (by omega) (by omega) ?_
                subst hQ1
                exact W.aret hx hb hr (Or.inl ⟨_, rfl⟩) (Or.inr ⟨q_20, rfl⟩) (fun tS ht hW => ⟨⟨(), q_20, rfl, trivial, L9, F9, 0, xa1, pp1, bb1, ⟨hr2.tr hx9, hm9_0.1, _, hm9_0.2⟩, ⟨by omega, by omega, by omega, by omega⟩, (fun _ => ⟨hr9.1, isE_6 hm9_0.1 (by omega) hm9_0.2 (by omega) (isE_im hx9 _ (Nat.le_refl _) hr9.2.1) (Or.inr ⟨la, sa, cp, _, f, g, rfl, rfl, hm9_1.1, hm9_2.1, hm9_1.2, hm9_2.2, by omega, Nat.le_refl _, chP_im (fun x p q b c z => isE_im hx9 _ (Nat.le_refl _) z) hr9.2.2⟩)⟩), by rw [ht]; exact ⟨by omega, by omega⟩, by rw [ht]; exact hP9, va_K.moved hW.alike hK9, hD9⟩, hS.F ht⟩) hS.2.2 dX23_chain_144
              · refine lv_aload_n hx hb dX23_chain_52 rfl (lv_at hl 2 rfl) ?_
                refine va_get (D := (dC, dI)) (ci := 23) (v := .int (nI pp1)) (C := RX23) (T := TX23) (N := 89) hx hb hts in_c_xc5_X23 hown hK hP 6 rfl rfl 10 (by decide) (hts (.fieldLink RX23 86 "OwnedPlacesModel" "p" "I") (wm_c_xc5 14 rfl)) (fun _ h9 => h9) rfl dX23_chain_53 ?_
                refine lv_istore (lv' := [(4, .int (nI pp1)), (3, .ref q_20), (2, .ref r_3), (0, .ref m9), (1, .int 5)]) hx hb dX23_chain_56 hl (by decide) rfl (fun ls hl => ?_)
                refine lv_aload_n hx hb dX23_chain_58 rfl (lv_at hl 3 rfl) ?_
                refine lv_dup hx hb dX23_chain_59 rfl ?_
                refine va_get (D := (dC, dI)) (ci := 23) (v := .int (nI pp1)) (C := RX23) (T := TX23) (N := 89) hx hb hts in_c_xc5_X23 hown hK hP 6 rfl rfl 10 (by decide) (hts (.fieldLink RX23 86 "OwnedPlacesModel" "p" "I") (wm_c_xc5 14 rfl)) (fun _ h9 => h9) rfl dX23_chain_60 ?_
                refine lv_iconst (v := 1) hx hb dX23_chain_63 (by decide) ?_
                have hp_29 : pp1 + 1 < T := kne3 (K := fk pp1) hk0 hr0.2.2.1 rfl (lvR_0 (hlv.symm.trans hc_28) (by decide))
                refine lv_iadd hx hb dX23_chain_64 ?_
                refine lv_topi (fun f_30 ef_30 => ?_)
                obtain rfl : f_30 = nI (pp1 + 1) := ef_30.trans (nI_1 _)
                refine va_put (D := (dC, dI)) (ci := 23) (v := .int (nI (pp1 + 1))) (ty := .int) (C := RX23) (T := TX23) (N := 89) hx hb hts in_c_xc5_X23 tyX23 tyX23_ok nmX23 hown hK hP hD hS 6 rfl rfl 10 (by decide) (hts (.fieldLink RX23 86 "OwnedPlacesModel" "p" "I") (wm_c_xc5 14 rfl)) (fun _ h9 => h9) rfl (by decide +kernel) rfl rfl (Nat.le_of_ble_eq_true rfl) dX23_chain_65 (fun H locs hP hD hS => ?_)
                replace hP : va_P (dC, dI) vwCl (([(q_20, .inr (15, [.int 8, .int (nI pp), .int 0, .int 0, .int 0, .int 0, .long 0, .int 0, .ref r_3, .ref la, .ref sa, .int (nI n), .null, .null])), (la, .inl (kE, cp, .inr (.inr (.inr (.inr f))))), (sa, .inl (kI, cp, .inl g)), (mr 5, .inl (kI, 3002, .inl fk)), (mr 6, .inl (kI, 3002, .inl fa)), (mr 8, .inl (kL, 3002, .inr (.inl fn))), (m9, .inr (23, mA mr mv vf xl (nI zs) 0 xa1 (nI T) (nI (pp1 + 1)) xi xt xn (nI ns) (nI vv) (nI bb1)))] : va_W) ++ (sT L1 F1)) H := hP
                replace hD : va_D A (([(q_20, .inr (15, [.int 8, .int (nI pp), .int 0, .int 0, .int 0, .int 0, .long 0, .int 0, .ref r_3, .ref la, .ref sa, .int (nI n), .null, .null])), (la, .inl (kE, cp, .inr (.inr (.inr (.inr f))))), (sa, .inl (kI, cp, .inl g)), (mr 5, .inl (kI, 3002, .inl fk)), (mr 6, .inl (kI, 3002, .inl fa)), (mr 8, .inl (kL, 3002, .inr (.inl fn))), (m9, .inr (23, mA mr mv vf xl (nI zs) 0 xa1 (nI T) (nI (pp1 + 1)) xi xt xn (nI ns) (nI vv) (nI bb1)))] : va_W) ++ (sT L1 F1)) := hD
                refine lv_aload_n hx hb dX23_chain_68 rfl (lv_at hl 3 rfl) ?_
                refine lv_iload hx hb dX23_chain_69 (lv_at hl 0 rfl) ?_
                by_cases hn_31 : ns = 16
                · replace hPc := hP.subF (f' := [(m9, .inr (23, mA mr mv vf xl (nI zs) 0 xa1 (nI T) (nI (pp1 + 1)) xi xt xn (nI ns) (nI vv) (nI bb1))), (mr 6, .inl (kI, 3002, .inl fa))]) [6, 4] rfl
                  replace hDc := hD.subF (f' := [(m9, .inr (23, mA mr mv vf xl (nI zs) 0 xa1 (nI T) (nI (pp1 + 1)) xi xt xn (nI ns) (nI vv) (nI bb1))), (mr 6, .inl (kI, 3002, .inl fa))]) [6, 4] (by decide) rfl
                  replace hKc := hK.sub (tys' := [(kI, .int)]) [0] rfl
                  replace hFc := va_freeT (wc := [(m9, .inr (23, mA mr mv vf xl (nI zs) 0 xa1 (nI T) (nI (pp1 + 1)) xi xt xn (nI ns) (nI vv) (nI bb1))), (mr 6, .inl (kI, 3002, .inl fa))]) hD hS hA [6, 4] rfl
                  refine va_callv (va_runV (As := [.int (nI pp1)]) (rest := []) ⟨hx, hb, hml, hown, hts⟩ (c_renN l dC dI m9 mr mv vf xl xa1 xi xt xn zs T (pp1 + 1) ns vv bb1 kI fk fa pp1 H.size (by omega) hn_31) (cwV 1 hts g_c_xc5_c_renN_71 rfl rfl rfl (by decide +kernel) ⟨by show 1 + 1 ≤ 8 + 12 * k; omega, by show 8 + (2 + 11) + (22) ≤ 177 + 279 * k; omega⟩) ⟨fun a U g mk q => by obtain ⟨q0, q1, qP, qK, qD⟩ := q; exact ⟨q0, q1, qP, va_K.moved (u := U) (U := U.calling g mk a) (Vm.Alike.refl U.vm) qK, qD⟩, va_recv hKc hPc (ci := 23) (q0 := 0) rfl rfl, fun U hU hW => ⟨rfl, by rw [hU], by rw [hU]; exact hPc, va_K.moved hW.alike hKc, hDc.weaken (fun _ _ _ _ => trivial)⟩⟩ rfl rfl hl.1 rfl (lv_room (Nat.le_of_ble_eq_true rfl)) dX23_chain_71 ⟨(show (8 * (pp1 - pp) + 4 - 3 * n) + 0 ≤ (8 * (T - pp) + 8) by omega), (show (120 * (pp1 - pp) + 62 + 4 * cp - 72 * n) + 0 ≤ (120 * (T - pp) + 360) by omega)⟩) hS (fun q _ h => hFc q h) hFc (fun u tS H1 locs ht hvm hw hB hz1 hk1 hS => ?_)
                  obtain ⟨ff_32, xa_33, hf34_0, hP1, hK1, hD1⟩ := hB
                  rw [ht] at hP1
                  replace hK1 := va_K.moved hvm.symm hK1
                  obtain ⟨hPj, hDj⟩ := va_joinT (wr := [(q_20, .inr (15, [.int 8, .int (nI pp), .int 0, .int 0, .int 0, .int 0, .long 0, .int 0, .ref r_3, .ref la, .ref sa, .int (nI n), .null, .null])), (la, .inl (kE, cp, .inr (.inr (.inr (.inr f))))), (sa, .inl (kI, cp, .inl g)), (mr 5, .inl (kI, 3002, .inl fk)), (mr 8, .inl (kL, 3002, .inr (.inl fn)))]) (w1 := [(m9, .inr (23, mA mr mv vf xl (nI zs) ff_32 xa_33 (nI T) (nI (pp1 + 1)) xi xt xn (nI (ns + 1)) (nI vv) (nI bb1))), (mr 6, .inl (kI, 3002, .inl fa))]) hP hD [6, 4] [0, 1, 2, 3, 5] rfl rfl (by decide) (by decide) hk1 hFc hP1 hD1
                  replace hP := hPj
                  replace hD := hDj
                  clear hPj hDj
                  replace hK := hK.app hK1
                  generalize H1 = H at hP hS ⊢
                  replace hP : va_P (dC, dI) vwCl (([(q_20, .inr (15, [.int 8, .int (nI pp), .int 0, .int 0, .int 0, .int 0, .long 0, .int 0, .ref r_3, .ref la, .ref sa, .int (nI n), .null, .null])), (la, .inl (kE, cp, .inr (.inr (.inr (.inr f))))), (sa, .inl (kI, cp, .inl g)), (mr 5, .inl (kI, 3002, .inl fk)), (mr 8, .inl (kL, 3002, .inr (.inl fn))), (m9, .inr (23, mA mr mv vf xl (nI zs) ff_32 xa_33 (nI T) (nI (pp1 + 1)) xi xt xn (nI (ns + 1)) (nI vv) (nI bb1))), (mr 6, .inl (kI, 3002, .inl fa))] : va_W) ++ (sT L1 F1)) H := hP
                  replace hD : va_D A (([(q_20, .inr (15, [.int 8, .int (nI pp), .int 0, .int 0, .int 0, .int 0, .long 0, .int 0, .ref r_3, .ref la, .ref sa, .int (nI n), .null, .null])), (la, .inl (kE, cp, .inr (.inr (.inr (.inr f))))), (sa, .inl (kI, cp, .inl g)), (mr 5, .inl (kI, 3002, .inl fk)), (mr 8, .inl (kL, 3002, .inr (.inl fn))), (m9, .inr (23, mA mr mv vf xl (nI zs) ff_32 xa_33 (nI T) (nI (pp1 + 1)) xi xt xn (nI (ns + 1)) (nI vv) (nI bb1))), (mr 6, .inl (kI, 3002, .inl fa))] : va_W) ++ (sT L1 F1)) := hD
                  replace hK : va_K (dC, dI) vwCl [(kI, .int), (kL, .long), (kE, .object RX15), (kI, .int)] s := hK
                  replace hK := hK.sub (tys' := [(kI, .int), (kL, .long), (kE, .object RX15)]) [0, 1, 2] rfl
                  clear hz1 hk1 hPc hDc hKc hFc hP1 hD1 hK1
                  refine lv_aload_n hx hb dX23_chain_74 rfl (lv_at hl 3 rfl) ?_
                  refine lv_iload_n hx hb dX23_chain_75 rfl (lv_at hl 4 rfl) ?_
                  refine lv_iconst (v := 1) hx hb dX23_chain_76 (by decide) ?_
                  refine lv_iadd hx hb dX23_chain_77 ?_
                  refine lv_topi (fun f_35 ef_35 => ?_)
                  obtain rfl : f_35 = 6 := ef_35.trans (by decide)
                  replace hPc := hP.subT (f' := [(m9, .inr (23, mA mr mv vf xl (nI zs) ff_32 xa_33 (nI T) (nI (pp1 + 1)) xi xt xn (nI (ns + 1)) (nI vv) (nI bb1))), (mr 5, .inl (kI, 3002, .inl fk)), (mr 6, .inl (kI, 3002, .inl fa))]) [5, 3, 6] rfl
                  replace hDc := hD.subT (f' := [(m9, .inr (23, mA mr mv vf xl (nI zs) ff_32 xa_33 (nI T) (nI (pp1 + 1)) xi xt xn (nI (ns + 1)) (nI vv) (nI bb1))), (mr 5, .inl (kI, 3002, .inl fk)), (mr 6, .inl (kI, 3002, .inl fa))]) [5, 3, 6] (by decide) rfl
                  replace hKc := hK.sub (tys' := [(kI, .int)]) [0] rfl
                  replace hFc := va_freeB (wc := [(m9, .inr (23, mA mr mv vf xl (nI zs) ff_32 xa_33 (nI T) (nI (pp1 + 1)) xi xt xn (nI (ns + 1)) (nI vv) (nI bb1))), (mr 5, .inl (kI, 3002, .inl fk)), (mr 6, .inl (kI, 3002, .inl fa))]) hD hS hA [5, 3, 6] rfl
                  refine W.grow (fun hgs0 hgs1 => ?_)
                  refine va_callr (va_runV (As := [.int 6]) (rest := []) ⟨hx, hb, hml, hown, hts⟩ (c_xc6B l dC dI m9 mr mv vf xl xa_33 xi xt xn zs T (pp1 + 1) (ns + 1) vv bb1 kI fk fa ff_32 L1 F1 (slN H) H.size hf34_0) (cwV 1 hts g_c_xc5_c_xc6B_78 rfl rfl rfl (by decide +kernel) ⟨by show 3 + 1 ≤ 8 + 12 * k; omega, by show 8 + (6 + 11) + (54) ≤ 177 + 279 * k; omega⟩) ⟨fun a U g mk q => by obtain ⟨q0, q1, qP, qK, qD, qx0, qx1⟩ := q; exact ⟨q0, q1, qP, va_K.moved (u := U) (U := U.calling g mk a) (Vm.Alike.refl U.vm) qK, qD, nsM.same (u := U) (U := U.calling g mk a) rfl qx0, qx1⟩, va_recv hKc hPc (ci := 23) (q0 := 0) rfl rfl, fun U hU hW => ⟨rfl, by rw [hU], by rw [hU]; exact hPc, va_K.moved hW.alike hKc, hDc.weaken (fun _ _ _ _ => trivial), nsM.warm hW hns, by rw [hU]⟩⟩ rfl rfl hl.1 rfl (lv_room (Nat.le_of_ble_eq_true rfl)) dX23_chain_78 ⟨(show (8 * (pp1 - pp) + 4 - 3 * n) + 1 ≤ (8 * (T - pp) + 8) by omega), (show (120 * (pp1 - pp) + 62 + 4 * cp - 72 * n) + 14 ≤ (120 * (T - pp) + 360) by omega)⟩) hS (fun q _ h => hFc q h) hFc (fun u r_36 tS H1 locs ht hvm hw hB hz1 hk1 hS => ?_)
                  obtain ⟨L35, F35, hf36_0, hf36_1, hP1, hK1, hD1⟩ := hB
                  rw [ht] at hP1
                  replace hK1 := va_K.moved hvm.symm hK1
                  rw [ht] at hf36_1
                  have hgz : H1.size ≤ s.heap.size + (((8 * (pp1 - pp) + 4 - 3 * n) + 1)) ∧ slN H1 ≤ slN s.heap + (((120 * (pp1 - pp) + 62 + 4 * cp - 72 * n) + 14)) := ⟨by have := hf36_1.1; omega, by have := hf36_1.2; omega⟩
                  obtain ⟨hPj, hDj⟩ := va_joinB (wr := [(q_20, .inr (15, [.int 8, .int (nI pp), .int 0, .int 0, .int 0, .int 0, .long 0, .int 0, .ref r_3, .ref la, .ref sa, .int (nI n), .null, .null])), (la, .inl (kE, cp, .inr (.inr (.inr (.inr f))))), (sa, .inl (kI, cp, .inl g)), (mr 8, .inl (kL, 3002, .inr (.inl fn)))]) (w1 := [(m9, .inr (23, mA mr mv vf xl (nI zs) ff_32 xa_33 (nI T) (nI (pp1 + 1)) xi xt xn (nI (ns + 1)) (nI vv) (nI bb1))), (mr 5, .inl (kI, 3002, .inl fk)), (mr 6, .inl (kI, 3002, .inl fa))]) hP hD [5, 3, 6] [0, 1, 2, 4] rfl rfl (by decide) (by decide) hk1 hFc hP1 hD1
                  replace hP := hPj
                  replace hD := hDj
                  clear hPj hDj
                  replace hK := hK.app hK1
                  generalize H1 = H at hP hS hgz ⊢
                  replace hP : va_P (dC, dI) vwCl (([(q_20, .inr (15, [.int 8, .int (nI pp), .int 0, .int 0, .int 0, .int 0, .long 0, .int 0, .ref r_3, .ref la, .ref sa, .int (nI n), .null, .null])), (la, .inl (kE, cp, .inr (.inr (.inr (.inr f))))), (sa, .inl (kI, cp, .inl g)), (mr 8, .inl (kL, 3002, .inr (.inl fn))), (m9, .inr (23, mA mr mv vf xl (nI zs) ff_32 xa_33 (nI T) (nI (pp1 + 1)) xi xt xn (nI (ns + 1)) (nI vv) (nI bb1))), (mr 5, .inl (kI, 3002, .inl fk)), (mr 6, .inl (kI, 3002, .inl fa))] : va_W) ++ (sT L35 F35)) H := hP
                  replace hD : va_D A (([(q_20, .inr (15, [.int 8, .int (nI pp), .int 0, .int 0, .int 0, .int 0, .long 0, .int 0, .ref r_3, .ref la, .ref sa, .int (nI n), .null, .null])), (la, .inl (kE, cp, .inr (.inr (.inr (.inr f))))), (sa, .inl (kI, cp, .inl g)), (mr 8, .inl (kL, 3002, .inr (.inl fn))), (m9, .inr (23, mA mr mv vf xl (nI zs) ff_32 xa_33 (nI T) (nI (pp1 + 1)) xi xt xn (nI (ns + 1)) (nI vv) (nI bb1))), (mr 5, .inl (kI, 3002, .inl fk)), (mr 6, .inl (kI, 3002, .inl fa))] : va_W) ++ (sT L35 F35)) := hD
                  replace hK : va_K (dC, dI) vwCl [(kI, .int), (kL, .long), (kE, .object RX15), (kI, .int)] s := hK
                  replace hK := hK.sub (tys' := [(kI, .int), (kL, .long), (kE, .object RX15)]) [0, 1, 2] rfl
                  refine W.tight (k := ((8 * (pp1 - pp) + 4 - 3 * n) + 1)) (n := ((120 * (pp1 - pp) + 62 + 4 * cp - 72 * n) + 14)) hgz.1 hgz.2 ?_
                  clear hz1 hk1 hPc hDc hKc hFc hP1 hD1 hK1
                  refine lv_astore (lv' := [(5, .ref r_36), (4, .int (nI pp1)), (3, .ref q_20), (2, .ref r_3), (0, .ref m9), (1, .int 5)]) hx hb dX23_chain_81 hl (by decide) rfl (fun ls hl => ?_)
                  refine lv_aload_n hx hb dX23_chain_83 rfl (lv_at hl 4 rfl) ?_
                  refine lv_dup hx hb dX23_chain_84 rfl ?_
                  refine va_get (D := (dC, dI)) (ci := 23) (v := .int (nI (ns + 1))) (C := RX23) (T := TX23) (N := 89) hx hb hts in_c_xc5_X23 hown hK hP 4 rfl rfl 15 (by decide) (hts (.fieldLink RX23 104 "OwnedPlacesModel" "nest" "I") (wm_c_xc5 19 rfl)) (fun _ h9 => h9) rfl dX23_chain_85 ?_
                  refine lv_iconst (v := 1) hx hb dX23_chain_88 (by decide) ?_
                  refine lv_isub hx hb dX23_chain_89 ?_
                  refine lv_topi (fun f_37 ef_37 => ?_)
                  obtain rfl : f_37 = nI ns := ef_37.trans (nI_pred _)
                  refine va_put (D := (dC, dI)) (ci := 23) (v := .int (nI ns)) (ty := .int) (C := RX23) (T := TX23) (N := 89) hx hb hts in_c_xc5_X23 tyX23 tyX23_ok nmX23 hown hK hP hD hS 4 rfl rfl 15 (by decide) (hts (.fieldLink RX23 104 "OwnedPlacesModel" "nest" "I") (wm_c_xc5 19 rfl)) (fun _ h9 => h9) rfl (by decide +kernel) rfl rfl (Nat.le_of_ble_eq_true rfl) dX23_chain_90 (fun H locs hP hD hS => ?_)
                  replace hP : va_P (dC, dI) vwCl (([(q_20, .inr (15, [.int 8, .int (nI pp), .int 0, .int 0, .int 0, .int 0, .long 0, .int 0, .ref r_3, .ref la, .ref sa, .int (nI n), .null, .null])), (la, .inl (kE, cp, .inr (.inr (.inr (.inr f))))), (sa, .inl (kI, cp, .inl g)), (mr 8, .inl (kL, 3002, .inr (.inl fn))), (m9, .inr (23, mA mr mv vf xl (nI zs) ff_32 xa_33 (nI T) (nI (pp1 + 1)) xi xt xn (nI ns) (nI vv) (nI bb1))), (mr 5, .inl (kI, 3002, .inl fk)), (mr 6, .inl (kI, 3002, .inl fa))] : va_W) ++ (sT L35 F35)) H := hP
                  replace hD : va_D A (([(q_20, .inr (15, [.int 8, .int (nI pp), .int 0, .int 0, .int 0, .int 0, .long 0, .int 0, .ref r_3, .ref la, .ref sa, .int (nI n), .null, .null])), (la, .inl (kE, cp, .inr (.inr (.inr (.inr f))))), (sa, .inl (kI, cp, .inl g)), (mr 8, .inl (kL, 3002, .inr (.inl fn))), (m9, .inr (23, mA mr mv vf xl (nI zs) ff_32 xa_33 (nI T) (nI (pp1 + 1)) xi xt xn (nI ns) (nI vv) (nI bb1))), (mr 5, .inl (kI, 3002, .inl fk)), (mr 6, .inl (kI, 3002, .inl fa))] : va_W) ++ (sT L35 F35)) := hD
                  refine lv_aload_n hx hb dX23_chain_93 rfl (lv_at hl 2 rfl) ?_
                  refine lv_ifnonnull (tgt := 124) hx hb dX23_chain_94 (by decide) ?_
                  refine lv_aload_n hx hb dX23_chain_124 rfl (lv_at hl 2 rfl) ?_
                  refine lv_aload hx hb dX23_chain_125 (lv_at hl 0 rfl) ?_
                  refine lv_iload hx hb dX23_chain_127 (lv_at hl 1 rfl) ?_
                  replace hPc := hP.subT (f' := [(q_20, .inr (15, [.int 8, .int (nI pp), .int 0, .int 0, .int 0, .int 0, .long 0, .int 0, (.ref r_3), .ref la, .ref sa, .int (nI n), .null, .null])), (la, .inl (kE, cp, .inr (.inr (.inr (.inr f))))), (sa, .inl (kI, cp, .inl g))]) [0, 1, 2] rfl
                  replace hDc := hD.subT (f' := [(q_20, .inr (15, [.int 8, .int (nI pp), .int 0, .int 0, .int 0, .int 0, .long 0, .int 0, (.ref r_3), .ref la, .ref sa, .int (nI n), .null, .null])), (la, .inl (kE, cp, .inr (.inr (.inr (.inr f))))), (sa, .inl (kI, cp, .inl g))]) [0, 1, 2] (by decide) rfl
                  replace hKc := hK.sub (tys' := [(kI, .int), (kE, .object RX15)]) [0, 2] rfl
                  replace hFc := va_freeB (wc := [(q_20, .inr (15, [.int 8, .int (nI pp), .int 0, .int 0, .int 0, .int 0, .long 0, .int 0, (.ref r_3), .ref la, .ref sa, .int (nI n), .null, .null])), (la, .inl (kE, cp, .inr (.inr (.inr (.inr f))))), (sa, .inl (kI, cp, .inl g))]) hD hS hA [0, 1, 2] rfl
                  refine W.grow (fun hgs0 hgs1 => ?_)
                  refine va_callv (va_runS (As := [.ref q_20, .ref r_36, .int (nI pp1)]) (rest := []) ⟨hx, hb, hml, hown, hts⟩ (c_xaA l dC dI q_20 r_36 8 (nI pp) 0 0 0 0 (nI pp1) (.ref r_3) kI kE la sa n cp f g L35 F35 (slN H) H.size hf36_0.2 (by omega) (fun i hi => by obtain ⟨x9, y9, z9⟩ := hr3 i hi; exact ⟨x9, y9, xO_ex hf36_0.1 z9⟩)) (va_cwS 3 hts g_c_xc5_c_xaA_129 rfl rfl rfl (by decide +kernel) ⟨by show 0 + 1 ≤ 8 + 12 * k; omega, by show 8 + (6 + 11) + (0) ≤ 177 + 279 * k; omega⟩) ⟨fun a U g mk q => by obtain ⟨q0, q1, qP, qK, qD, qx0, qx1⟩ := q; exact ⟨q0, q1, qP, va_K.moved (u := U) (U := U.calling g mk a) (Vm.Alike.refl U.vm) qK, qD, nsM.same (u := U) (U := U.calling g mk a) rfl qx0, qx1⟩, fun U hU hW => ⟨rfl, by rw [hU], by rw [hU]; exact hPc, va_K.moved hW.alike hKc, hDc.weaken (fun _ _ _ _ => trivial), nsM.warm hW hns, by rw [hU]⟩⟩ rfl rfl hl.1 rfl (lv_room (Nat.le_of_ble_eq_true rfl)) dX23_chain_129 ⟨(show ((8 * (pp1 - pp) + 4 - 3 * n) + 1) + 2 ≤ (8 * (T - pp) + 8) by omega), (show ((120 * (pp1 - pp) + 62 + 4 * cp - 72 * n) + 14) + (4 * cp) ≤ (120 * (T - pp) + 360) by omega)⟩) hS (fun q _ h => hFc q h) hFc (fun u tS H1 locs ht hvm hw hB hz1 hk1 hS => ?_)
                  obtain ⟨la37, sa37, cp37, f37, g37, hf38_0, hf38_1, hf38_2, hf38_3, hf38_4, hP1, hK1, hD1⟩ := hB
                  rw [ht] at hP1
                  replace hK1 := va_K.moved hvm.symm hK1
                  rw [ht] at hf38_4
                  have hgz : H1.size ≤ s.heap.size + ((((8 * (pp1 - pp) + 4 - 3 * n) + 1) + 2)) ∧ slN H1 ≤ slN s.heap + ((((120 * (pp1 - pp) + 62 + 4 * cp - 72 * n) + 14) + 4 * (cp37 - cp))) := ⟨by have := hf38_4.1; omega, by have := hf38_4.2; omega⟩
                  obtain ⟨hPj, hDj⟩ := va_joinB (wr := [(mr 8, .inl (kL, 3002, .inr (.inl fn))), (m9, .inr (23, mA mr mv vf xl (nI zs) ff_32 xa_33 (nI T) (nI (pp1 + 1)) xi xt xn (nI ns) (nI vv) (nI bb1))), (mr 5, .inl (kI, 3002, .inl fk)), (mr 6, .inl (kI, 3002, .inl fa))]) (w1 := [(q_20, .inr (15, [.int 8, .int (nI pp), .int 0, .int 0, .int 0, .int 0, .long 0, .int 0, (.ref r_3), .ref la37, .ref sa37, .int (nI (n + 1)), .null, .null])), (la37, .inl (kE, cp37, .inr (.inr (.inr (.inr f37))))), (sa37, .inl (kI, cp37, .inl g37))]) hP hD [0, 1, 2] [3, 4, 5, 6] rfl rfl (by decide) (by decide) hk1 hFc hP1 hD1
                  replace hP := hPj
                  replace hD := hDj
                  clear hPj hDj
                  replace hK := hK.app hK1
                  generalize H1 = H at hP hS hgz ⊢
                  replace hP : va_P (dC, dI) vwCl (([(mr 8, .inl (kL, 3002, .inr (.inl fn))), (m9, .inr (23, mA mr mv vf xl (nI zs) ff_32 xa_33 (nI T) (nI (pp1 + 1)) xi xt xn (nI ns) (nI vv) (nI bb1))), (mr 5, .inl (kI, 3002, .inl fk)), (mr 6, .inl (kI, 3002, .inl fa)), (q_20, .inr (15, [.int 8, .int (nI pp), .int 0, .int 0, .int 0, .int 0, .long 0, .int 0, (.ref r_3), .ref la37, .ref sa37, .int (nI (n + 1)), .null, .null])), (la37, .inl (kE, cp37, .inr (.inr (.inr (.inr f37))))), (sa37, .inl (kI, cp37, .inl g37))] : va_W) ++ (sT L35 F35)) H := hP
                  replace hD : va_D A (([(mr 8, .inl (kL, 3002, .inr (.inl fn))), (m9, .inr (23, mA mr mv vf xl (nI zs) ff_32 xa_33 (nI T) (nI (pp1 + 1)) xi xt xn (nI ns) (nI vv) (nI bb1))), (mr 5, .inl (kI, 3002, .inl fk)), (mr 6, .inl (kI, 3002, .inl fa)), (q_20, .inr (15, [.int 8, .int (nI pp), .int 0, .int 0, .int 0, .int 0, .long 0, .int 0, (.ref r_3), .ref la37, .ref sa37, .int (nI (n + 1)), .null, .null])), (la37, .inl (kE, cp37, .inr (.inr (.inr (.inr f37))))), (sa37, .inl (kI, cp37, .inl g37))] : va_W) ++ (sT L35 F35)) := hD
                  replace hK : va_K (dC, dI) vwCl [(kI, .int), (kL, .long), (kE, .object RX15), (kI, .int), (kE, .object RX15)] s := hK
                  replace hK := hK.sub (tys' := [(kI, .int), (kL, .long), (kE, .object RX15)]) [0, 1, 2] rfl
                  refine W.tight (k := (((8 * (pp1 - pp) + 4 - 3 * n) + 1) + 2)) (n := (((120 * (pp1 - pp) + 62 + 4 * cp - 72 * n) + 14) + 4 * (cp37 - cp))) hgz.1 hgz.2 ?_
                  clear hz1 hk1 hPc hDc hKc hFc hP1 hD1 hK1
                  refine lv_goto (tgt := 29) hx hb dX23_chain_132 (by decide) ?_
                  refine W.widen (k := (8 * ((pp1 + 1) - pp) + 4 - 3 * (n + 1))) (n := (120 * ((pp1 + 1) - pp) + 62 + 4 * cp37 - 72 * (n + 1))) (by omega) (by omega) ?_
                  exact ih1 (pp1 + 1) bb1 la37 sa37 cp37 (n + 1) ff_32 xa_33 L35 F35 f37 g37 _ _ _ (⟨by omega, by omega, by omega, by omega, by omega, by omega, by omega, by omega, by omega, by omega, hT⟩) (Or.inl hf34_0) (hr2.tr hf36_0.1) (fun i hi => by
                    by_cases e9 : i = n
                    · subst e9; exact ⟨_, hf38_2.1, hf36_0.2⟩
                    · obtain ⟨x9, y9, z9⟩ := hr3 i (by omega); exact ⟨x9, (hf38_1 i (by omega)).1.trans y9, xO_ex hf36_0.1 z9⟩) (fun q9 => absurd q9 hf34_0) (hP.subT [4, 5, 6, 1, 2, 3, 0] rfl) (hD.subT [4, 5, 6, 1, 2, 3, 0] (by decide) rfl) hS (lv_sub hl [2, 3, 4, 5] rfl)
                · replace hPc := hP.subF (f' := [(m9, .inr (23, mA mr mv vf xl (nI zs) 0 xa1 (nI T) (nI (pp1 + 1)) xi xt xn (nI ns) (nI vv) (nI bb1))), (mr 6, .inl (kI, 3002, .inl fa))]) [6, 4] rfl
                  replace hDc := hD.subF (f' := [(m9, .inr (23, mA mr mv vf xl (nI zs) 0 xa1 (nI T) (nI (pp1 + 1)) xi xt xn (nI ns) (nI vv) (nI bb1))), (mr 6, .inl (kI, 3002, .inl fa))]) [6, 4] (by decide) rfl
                  replace hKc := hK.sub (tys' := [(kI, .int)]) [0] rfl
                  replace hFc := va_freeT (wc := [(m9, .inr (23, mA mr mv vf xl (nI zs) 0 xa1 (nI T) (nI (pp1 + 1)) xi xt xn (nI ns) (nI vv) (nI bb1))), (mr 6, .inl (kI, 3002, .inl fa))]) hD hS hA [6, 4] rfl
                  refine va_callv (va_runV (As := [.int (nI pp1)]) (rest := []) ⟨hx, hb, hml, hown, hts⟩ (c_renY l dC dI m9 mr mv vf xl xa1 xi xt xn zs T (pp1 + 1) ns vv bb1 kI fk fa pp1 H.size (by omega) (⟨hn_31, by omega⟩)) (cwV 1 hts g_c_xc5_c_renY_71 rfl rfl rfl (by decide +kernel) ⟨by show 1 + 1 ≤ 8 + 12 * k; omega, by show 8 + (2 + 11) + (20) ≤ 177 + 279 * k; omega⟩) ⟨fun a U g mk q => by obtain ⟨q0, q1, qP, qK, qD⟩ := q; exact ⟨q0, q1, qP, va_K.moved (u := U) (U := U.calling g mk a) (Vm.Alike.refl U.vm) qK, qD⟩, va_recv hKc hPc (ci := 23) (q0 := 0) rfl rfl, fun U hU hW => ⟨rfl, by rw [hU], by rw [hU]; exact hPc, va_K.moved hW.alike hKc, hDc.weaken (fun _ _ _ _ => trivial)⟩⟩ rfl rfl hl.1 rfl (lv_room (Nat.le_of_ble_eq_true rfl)) dX23_chain_71 ⟨(show (8 * (pp1 - pp) + 4 - 3 * n) + 0 ≤ (8 * (T - pp) + 8) by omega), (show (120 * (pp1 - pp) + 62 + 4 * cp - 72 * n) + 0 ≤ (120 * (T - pp) + 360) by omega)⟩) hS (fun q _ h => hFc q h) hFc (fun u tS H1 locs ht hvm hw hB hz1 hk1 hS => ?_)
                  obtain ⟨hP1, hK1, hD1⟩ := hB
                  rw [ht] at hP1
                  replace hK1 := va_K.moved hvm.symm hK1
                  obtain ⟨hPj, hDj⟩ := va_joinT (wr := [(q_20, .inr (15, [.int 8, .int (nI pp), .int 0, .int 0, .int 0, .int 0, .long 0, .int 0, .ref r_3, .ref la, .ref sa, .int (nI n), .null, .null])), (la, .inl (kE, cp, .inr (.inr (.inr (.inr f))))), (sa, .inl (kI, cp, .inl g)), (mr 5, .inl (kI, 3002, .inl fk)), (mr 8, .inl (kL, 3002, .inr (.inl fn)))]) (w1 := [(m9, .inr (23, mA mr mv vf xl (nI zs) 0 xa1 (nI T) (nI (pp1 + 1)) xi xt xn (nI (ns + 1)) (nI vv) (nI bb1))), (mr 6, .inl (kI, 3002, .inl fa))]) hP hD [6, 4] [0, 1, 2, 3, 5] rfl rfl (by decide) (by decide) hk1 hFc hP1 hD1
                  replace hP := hPj
                  replace hD := hDj
                  clear hPj hDj
                  replace hK := hK.app hK1
                  generalize H1 = H at hP hS ⊢
                  replace hP : va_P (dC, dI) vwCl (([(q_20, .inr (15, [.int 8, .int (nI pp), .int 0, .int 0, .int 0, .int 0, .long 0, .int 0, .ref r_3, .ref la, .ref sa, .int (nI n), .null, .null])), (la, .inl (kE, cp, .inr (.inr (.inr (.inr f))))), (sa, .inl (kI, cp, .inl g)), (mr 5, .inl (kI, 3002, .inl fk)), (mr 8, .inl (kL, 3002, .inr (.inl fn))), (m9, .inr (23, mA mr mv vf xl (nI zs) 0 xa1 (nI T) (nI (pp1 + 1)) xi xt xn (nI (ns + 1)) (nI vv) (nI bb1))), (mr 6, .inl (kI, 3002, .inl fa))] : va_W) ++ (sT L1 F1)) H := hP
                  replace hD : va_D A (([(q_20, .inr (15, [.int 8, .int (nI pp), .int 0, .int 0, .int 0, .int 0, .long 0, .int 0, .ref r_3, .ref la, .ref sa, .int (nI n), .null, .null])), (la, .inl (kE, cp, .inr (.inr (.inr (.inr f))))), (sa, .inl (kI, cp, .inl g)), (mr 5, .inl (kI, 3002, .inl fk)), (mr 8, .inl (kL, 3002, .inr (.inl fn))), (m9, .inr (23, mA mr mv vf xl (nI zs) 0 xa1 (nI T) (nI (pp1 + 1)) xi xt xn (nI (ns + 1)) (nI vv) (nI bb1))), (mr 6, .inl (kI, 3002, .inl fa))] : va_W) ++ (sT L1 F1)) := hD
                  replace hK : va_K (dC, dI) vwCl [(kI, .int), (kL, .long), (kE, .object RX15), (kI, .int)] s := hK
                  replace hK := hK.sub (tys' := [(kI, .int), (kL, .long), (kE, .object RX15)]) [0, 1, 2] rfl
                  clear hz1 hk1 hPc hDc hKc hFc hP1 hD1 hK1
                  refine lv_aload_n hx hb dX23_chain_74 rfl (lv_at hl 3 rfl) ?_
                  refine lv_iload_n hx hb dX23_chain_75 rfl (lv_at hl 4 rfl) ?_
                  refine lv_iconst (v := 1) hx hb dX23_chain_76 (by decide) ?_
                  refine lv_iadd hx hb dX23_chain_77 ?_
                  refine lv_topi (fun f_33 ef_33 => ?_)
                  obtain rfl : f_33 = 6 := ef_33.trans (by decide)
                  obtain ⟨k1, hkL⟩ : ∃ k1 : Nat, k = k1 + 1 := ⟨k - 1, by omega⟩
                  replace hPc := hP.subT (f' := [(m9, .inr (23, mA mr mv vf xl (nI zs) 0 xa1 (nI T) (nI (pp1 + 1)) xi xt xn (nI (ns + 1)) (nI vv) (nI bb1))), (mr 5, .inl (kI, 3002, .inl fk)), (mr 6, .inl (kI, 3002, .inl fa)), (mr 8, .inl (kL, 3002, .inr (.inl fn)))]) [5, 3, 6, 4] rfl
                  replace hDc := hD.subT (f' := [(m9, .inr (23, mA mr mv vf xl (nI zs) 0 xa1 (nI T) (nI (pp1 + 1)) xi xt xn (nI (ns + 1)) (nI vv) (nI bb1))), (mr 5, .inl (kI, 3002, .inl fk)), (mr 6, .inl (kI, 3002, .inl fa)), (mr 8, .inl (kL, 3002, .inr (.inl fn)))]) [5, 3, 6, 4] (by decide) rfl
                  replace hKc := hK.sub (tys' := [(kI, .int), (kL, .long), (kE, .object RX15)]) [0, 1, 2] rfl
                  replace hFc := va_freeB (wc := [(m9, .inr (23, mA mr mv vf xl (nI zs) 0 xa1 (nI T) (nI (pp1 + 1)) xi xt xn (nI (ns + 1)) (nI vv) (nI bb1))), (mr 5, .inl (kI, 3002, .inl fk)), (mr 6, .inl (kI, 3002, .inl fa)), (mr 8, .inl (kL, 3002, .inr (.inl fn)))]) hD hS hA [5, 3, 6, 4] rfl
                  refine W.grow (fun hgs0 hgs1 => ?_)
                  refine va_callr (va_runV (As := [.int 6]) (rest := []) ⟨hx, hb, hml, hown, hts⟩ ((ih k1 hkL).2.2.2.2.1 m9 mr mv vf xl xa1 xi xt xn zs T (pp1 + 1) (ns + 1) vv bb1 kI fk fa kL kE fn L1 F1 (slN H) H.size hT hp_29 hk0 hr9.1 (by omega)) (cwV 1 hts g_c_xc5_c_xc6_78 rfl rfl rfl (by decide +kernel) ⟨by show 7 + 12 * k1 + 1 ≤ 8 + 12 * k; omega, by show 8 + (6 + 11) + (152 + 279 * k1) ≤ 177 + 279 * k; omega⟩) ⟨fun a U g mk q => by obtain ⟨q0, q1, qP, qK, qD, qx0, qx1⟩ := q; exact ⟨q0, q1, qP, va_K.moved (u := U) (U := U.calling g mk a) (Vm.Alike.refl U.vm) qK, qD, nsM.same (u := U) (U := U.calling g mk a) rfl qx0, qx1⟩, va_recv hKc hPc (ci := 23) (q0 := 0) rfl rfl, fun U hU hW => ⟨rfl, by rw [hU], by rw [hU]; exact hPc, va_K.moved hW.alike hKc, hDc.weaken (fun _ _ _ _ => trivial), nsM.warm hW hns, by rw [hU]⟩⟩ rfl rfl hl.1 rfl (lv_room (Nat.le_of_ble_eq_true rfl)) dX23_chain_78 ⟨(show (8 * (pp1 - pp) + 4 - 3 * n) + (8 * (T - (pp1 + 1)) + 8) ≤ (8 * (T - pp) + 8) by omega), (show (120 * (pp1 - pp) + 62 + 4 * cp - 72 * n) + (120 * (T - (pp1 + 1)) + 360) ≤ (120 * (T - pp) + 360) by omega)⟩) hS (fun q _ h => hFc q h) hFc (fun u r_34 tS H1 locs ht hvm hw hB hz1 hk1 hS => ?_)
                  obtain ⟨L33, F33, ff33, xa33, pp33, bb33, hf34_0, hf34_1, hf34_2, hf34_3, hP1, hK1, hD1⟩ := hB
                  rw [ht] at hP1
                  replace hK1 := va_K.moved hvm.symm hK1
                  rw [ht] at hf34_3
                  have hgz : H1.size ≤ s.heap.size + (((8 * (pp1 - pp) + 4 - 3 * n) + 8 * (pp33 - (pp1 + 1)) + 3)) ∧ slN H1 ≤ slN s.heap + (((120 * (pp1 - pp) + 62 + 4 * cp - 72 * n) + 120 * (pp33 - (pp1 + 1)) + 48)) := ⟨by have := hf34_3.1; omega, by have := hf34_3.2; omega⟩
                  obtain ⟨hPj, hDj⟩ := va_joinB (wr := [(q_20, .inr (15, [.int 8, .int (nI pp), .int 0, .int 0, .int 0, .int 0, .long 0, .int 0, .ref r_3, .ref la, .ref sa, .int (nI n), .null, .null])), (la, .inl (kE, cp, .inr (.inr (.inr (.inr f))))), (sa, .inl (kI, cp, .inl g))]) (w1 := [(m9, .inr (23, mA mr mv vf xl (nI zs) ff33 xa33 (nI T) (nI pp33) xi xt xn (nI (ns + 1)) (nI vv) (nI bb33))), (mr 5, .inl (kI, 3002, .inl fk)), (mr 6, .inl (kI, 3002, .inl fa)), (mr 8, .inl (kL, 3002, .inr (.inl fn)))]) hP hD [5, 3, 6, 4] [0, 1, 2] rfl rfl (by decide) (by decide) hk1 hFc hP1 hD1
                  replace hP := hPj
                  replace hD := hDj
                  clear hPj hDj
                  replace hK := hK.app hK1
                  generalize H1 = H at hP hS hgz ⊢
                  replace hP : va_P (dC, dI) vwCl (([(q_20, .inr (15, [.int 8, .int (nI pp), .int 0, .int 0, .int 0, .int 0, .long 0, .int 0, .ref r_3, .ref la, .ref sa, .int (nI n), .null, .null])), (la, .inl (kE, cp, .inr (.inr (.inr (.inr f))))), (sa, .inl (kI, cp, .inl g)), (m9, .inr (23, mA mr mv vf xl (nI zs) ff33 xa33 (nI T) (nI pp33) xi xt xn (nI (ns + 1)) (nI vv) (nI bb33))), (mr 5, .inl (kI, 3002, .inl fk)), (mr 6, .inl (kI, 3002, .inl fa)), (mr 8, .inl (kL, 3002, .inr (.inl fn)))] : va_W) ++ (sT L33 F33)) H := hP
                  replace hD : va_D A (([(q_20, .inr (15, [.int 8, .int (nI pp), .int 0, .int 0, .int 0, .int 0, .long 0, .int 0, .ref r_3, .ref la, .ref sa, .int (nI n), .null, .null])), (la, .inl (kE, cp, .inr (.inr (.inr (.inr f))))), (sa, .inl (kI, cp, .inl g)), (m9, .inr (23, mA mr mv vf xl (nI zs) ff33 xa33 (nI T) (nI pp33) xi xt xn (nI (ns + 1)) (nI vv) (nI bb33))), (mr 5, .inl (kI, 3002, .inl fk)), (mr 6, .inl (kI, 3002, .inl fa)), (mr 8, .inl (kL, 3002, .inr (.inl fn)))] : va_W) ++ (sT L33 F33)) := hD
                  replace hK : va_K (dC, dI) vwCl [(kI, .int), (kL, .long), (kE, .object RX15), (kI, .int), (kL, .long), (kE, .object RX15)] s := hK
                  replace hK := hK.sub (tys' := [(kI, .int), (kL, .long), (kE, .object RX15)]) [0, 1, 2] rfl
                  refine W.tight (k := ((8 * (pp1 - pp) + 4 - 3 * n) + 8 * (pp33 - (pp1 + 1)) + 3)) (n := ((120 * (pp1 - pp) + 62 + 4 * cp - 72 * n) + 120 * (pp33 - (pp1 + 1)) + 48)) hgz.1 hgz.2 ?_
                  clear hz1 hk1 hPc hDc hKc hFc hP1 hD1 hK1
                  refine lv_astore (lv' := [(5, .ref r_34), (4, .int (nI pp1)), (3, .ref q_20), (2, .ref r_3), (0, .ref m9), (1, .int 5)]) hx hb dX23_chain_81 hl (by decide) rfl (fun ls hl => ?_)
                  refine lv_aload_n hx hb dX23_chain_83 rfl (lv_at hl 4 rfl) ?_
                  refine lv_dup hx hb dX23_chain_84 rfl ?_
                  refine va_get (D := (dC, dI)) (ci := 23) (v := .int (nI (ns + 1))) (C := RX23) (T := TX23) (N := 89) hx hb hts in_c_xc5_X23 hown hK hP 3 rfl rfl 15 (by decide) (hts (.fieldLink RX23 104 "OwnedPlacesModel" "nest" "I") (wm_c_xc5 19 rfl)) (fun _ h9 => h9) rfl dX23_chain_85 ?_
                  refine lv_iconst (v := 1) hx hb dX23_chain_88 (by decide) ?_
                  refine lv_isub hx hb dX23_chain_89 ?_
                  refine lv_topi (fun f_35 ef_35 => ?_)
                  obtain rfl : f_35 = nI ns := ef_35.trans (nI_pred _)
                  refine va_put (D := (dC, dI)) (ci := 23) (v := .int (nI ns)) (ty := .int) (C := RX23) (T := TX23) (N := 89) hx hb hts in_c_xc5_X23 tyX23 tyX23_ok nmX23 hown hK hP hD hS 3 rfl rfl 15 (by decide) (hts (.fieldLink RX23 104 "OwnedPlacesModel" "nest" "I") (wm_c_xc5 19 rfl)) (fun _ h9 => h9) rfl (by decide +kernel) rfl rfl (Nat.le_of_ble_eq_true rfl) dX23_chain_90 (fun H locs hP hD hS => ?_)
                  replace hP : va_P (dC, dI) vwCl (([(q_20, .inr (15, [.int 8, .int (nI pp), .int 0, .int 0, .int 0, .int 0, .long 0, .int 0, .ref r_3, .ref la, .ref sa, .int (nI n), .null, .null])), (la, .inl (kE, cp, .inr (.inr (.inr (.inr f))))), (sa, .inl (kI, cp, .inl g)), (m9, .inr (23, mA mr mv vf xl (nI zs) ff33 xa33 (nI T) (nI pp33) xi xt xn (nI ns) (nI vv) (nI bb33))), (mr 5, .inl (kI, 3002, .inl fk)), (mr 6, .inl (kI, 3002, .inl fa)), (mr 8, .inl (kL, 3002, .inr (.inl fn)))] : va_W) ++ (sT L33 F33)) H := hP
                  replace hD : va_D A (([(q_20, .inr (15, [.int 8, .int (nI pp), .int 0, .int 0, .int 0, .int 0, .long 0, .int 0, .ref r_3, .ref la, .ref sa, .int (nI n), .null, .null])), (la, .inl (kE, cp, .inr (.inr (.inr (.inr f))))), (sa, .inl (kI, cp, .inl g)), (m9, .inr (23, mA mr mv vf xl (nI zs) ff33 xa33 (nI T) (nI pp33) xi xt xn (nI ns) (nI vv) (nI bb33))), (mr 5, .inl (kI, 3002, .inl fk)), (mr 6, .inl (kI, 3002, .inl fa)), (mr 8, .inl (kL, 3002, .inr (.inl fn)))] : va_W) ++ (sT L33 F33)) := hD
                  refine lv_aload_n hx hb dX23_chain_93 rfl (lv_at hl 2 rfl) ?_
                  refine lv_ifnonnull (tgt := 124) hx hb dX23_chain_94 (by decide) ?_
                  refine lv_aload_n hx hb dX23_chain_124 rfl (lv_at hl 2 rfl) ?_
                  refine lv_aload hx hb dX23_chain_125 (lv_at hl 0 rfl) ?_
                  refine lv_iload hx hb dX23_chain_127 (lv_at hl 1 rfl) ?_
                  replace hPc := hP.subT (f' := [(q_20, .inr (15, [.int 8, .int (nI pp), .int 0, .int 0, .int 0, .int 0, .long 0, .int 0, (.ref r_3), .ref la, .ref sa, .int (nI n), .null, .null])), (la, .inl (kE, cp, .inr (.inr (.inr (.inr f))))), (sa, .inl (kI, cp, .inl g))]) [0, 1, 2] rfl
                  replace hDc := hD.subT (f' := [(q_20, .inr (15, [.int 8, .int (nI pp), .int 0, .int 0, .int 0, .int 0, .long 0, .int 0, (.ref r_3), .ref la, .ref sa, .int (nI n), .null, .null])), (la, .inl (kE, cp, .inr (.inr (.inr (.inr f))))), (sa, .inl (kI, cp, .inl g))]) [0, 1, 2] (by decide) rfl
                  replace hKc := hK.sub (tys' := [(kI, .int), (kE, .object RX15)]) [0, 2] rfl
                  replace hFc := va_freeB (wc := [(q_20, .inr (15, [.int 8, .int (nI pp), .int 0, .int 0, .int 0, .int 0, .long 0, .int 0, (.ref r_3), .ref la, .ref sa, .int (nI n), .null, .null])), (la, .inl (kE, cp, .inr (.inr (.inr (.inr f))))), (sa, .inl (kI, cp, .inl g))]) hD hS hA [0, 1, 2] rfl
                  refine W.grow (fun hgs0 hgs1 => ?_)
                  refine va_callv (va_runS (As := [.ref q_20, .ref r_34, .int (nI pp1)]) (rest := []) ⟨hx, hb, hml, hown, hts⟩ (c_xaA l dC dI q_20 r_34 8 (nI pp) 0 0 0 0 (nI pp1) (.ref r_3) kI kE la sa n cp f g L33 F33 (slN H) H.size hf34_0.2 (by omega) (fun i hi => by obtain ⟨x9, y9, z9⟩ := hr3 i hi; exact ⟨x9, y9, xO_ex hf34_0.1 z9⟩)) (va_cwS 3 hts g_c_xc5_c_xaA_129 rfl rfl rfl (by decide +kernel) ⟨by show 0 + 1 ≤ 8 + 12 * k; omega, by show 8 + (6 + 11) + (0) ≤ 177 + 279 * k; omega⟩) ⟨fun a U g mk q => by obtain ⟨q0, q1, qP, qK, qD, qx0, qx1⟩ := q; exact ⟨q0, q1, qP, va_K.moved (u := U) (U := U.calling g mk a) (Vm.Alike.refl U.vm) qK, qD, nsM.same (u := U) (U := U.calling g mk a) rfl qx0, qx1⟩, fun U hU hW => ⟨rfl, by rw [hU], by rw [hU]; exact hPc, va_K.moved hW.alike hKc, hDc.weaken (fun _ _ _ _ => trivial), nsM.warm hW hns, by rw [hU]⟩⟩ rfl rfl hl.1 rfl (lv_room (Nat.le_of_ble_eq_true rfl)) dX23_chain_129 ⟨(show ((8 * (pp1 - pp) + 4 - 3 * n) + 8 * (pp33 - (pp1 + 1)) + 3) + 2 ≤ (8 * (T - pp) + 8) by omega), (show ((120 * (pp1 - pp) + 62 + 4 * cp - 72 * n) + 120 * (pp33 - (pp1 + 1)) + 48) + (4 * cp) ≤ (120 * (T - pp) + 360) by omega)⟩) hS (fun q _ h => hFc q h) hFc (fun u tS H1 locs ht hvm hw hB hz1 hk1 hS => ?_)
                  obtain ⟨la35, sa35, cp35, f35, g35, hf36_0, hf36_1, hf36_2, hf36_3, hf36_4, hP1, hK1, hD1⟩ := hB
                  rw [ht] at hP1
                  replace hK1 := va_K.moved hvm.symm hK1
                  rw [ht] at hf36_4
                  have hgz : H1.size ≤ s.heap.size + ((((8 * (pp1 - pp) + 4 - 3 * n) + 8 * (pp33 - (pp1 + 1)) + 3) + 2)) ∧ slN H1 ≤ slN s.heap + ((((120 * (pp1 - pp) + 62 + 4 * cp - 72 * n) + 120 * (pp33 - (pp1 + 1)) + 48) + 4 * (cp35 - cp))) := ⟨by have := hf36_4.1; omega, by have := hf36_4.2; omega⟩
                  obtain ⟨hPj, hDj⟩ := va_joinB (wr := [(m9, .inr (23, mA mr mv vf xl (nI zs) ff33 xa33 (nI T) (nI pp33) xi xt xn (nI ns) (nI vv) (nI bb33))), (mr 5, .inl (kI, 3002, .inl fk)), (mr 6, .inl (kI, 3002, .inl fa)), (mr 8, .inl (kL, 3002, .inr (.inl fn)))]) (w1 := [(q_20, .inr (15, [.int 8, .int (nI pp), .int 0, .int 0, .int 0, .int 0, .long 0, .int 0, (.ref r_3), .ref la35, .ref sa35, .int (nI (n + 1)), .null, .null])), (la35, .inl (kE, cp35, .inr (.inr (.inr (.inr f35))))), (sa35, .inl (kI, cp35, .inl g35))]) hP hD [0, 1, 2] [3, 4, 5, 6] rfl rfl (by decide) (by decide) hk1 hFc hP1 hD1
                  replace hP := hPj
                  replace hD := hDj
                  clear hPj hDj
                  replace hK := hK.app hK1
                  generalize H1 = H at hP hS hgz ⊢
                  replace hP : va_P (dC, dI) vwCl (([(m9, .inr (23, mA mr mv vf xl (nI zs) ff33 xa33 (nI T) (nI pp33) xi xt xn (nI ns) (nI vv) (nI bb33))), (mr 5, .inl (kI, 3002, .inl fk)), (mr 6, .inl (kI, 3002, .inl fa)), (mr 8, .inl (kL, 3002, .inr (.inl fn))), (q_20, .inr (15, [.int 8, .int (nI pp), .int 0, .int 0, .int 0, .int 0, .long 0, .int 0, (.ref r_3), .ref la35, .ref sa35, .int (nI (n + 1)), .null, .null])), (la35, .inl (kE, cp35, .inr (.inr (.inr (.inr f35))))), (sa35, .inl (kI, cp35, .inl g35))] : va_W) ++ (sT L33 F33)) H := hP
                  replace hD : va_D A (([(m9, .inr (23, mA mr mv vf xl (nI zs) ff33 xa33 (nI T) (nI pp33) xi xt xn (nI ns) (nI vv) (nI bb33))), (mr 5, .inl (kI, 3002, .inl fk)), (mr 6, .inl (kI, 3002, .inl fa)), (mr 8, .inl (kL, 3002, .inr (.inl fn))), (q_20, .inr (15, [.int 8, .int (nI pp), .int 0, .int 0, .int 0, .int 0, .long 0, .int 0, (.ref r_3), .ref la35, .ref sa35, .int (nI (n + 1)), .null, .null])), (la35, .inl (kE, cp35, .inr (.inr (.inr (.inr f35))))), (sa35, .inl (kI, cp35, .inl g35))] : va_W) ++ (sT L33 F33)) := hD
                  replace hK : va_K (dC, dI) vwCl [(kI, .int), (kL, .long), (kE, .object RX15), (kI, .int), (kE, .object RX15)] s := hK
                  replace hK := hK.sub (tys' := [(kI, .int), (kL, .long), (kE, .object RX15)]) [0, 1, 2] rfl
                  refine W.tight (k := (((8 * (pp1 - pp) + 4 - 3 * n) + 8 * (pp33 - (pp1 + 1)) + 3) + 2)) (n := (((120 * (pp1 - pp) + 62 + 4 * cp - 72 * n) + 120 * (pp33 - (pp1 + 1)) + 48) + 4 * (cp35 - cp))) hgz.1 hgz.2 ?_
                  clear hz1 hk1 hPc hDc hKc hFc hP1 hD1 hK1
                  refine lv_goto (tgt := 29) hx hb dX23_chain_132 (by decide) ?_
                  by_cases hz_37 : ff33 = 0
                  · subst hz_37
                    have hg33 := hf34_2 rfl
                    have hlthg33 := (isE_mem hg33.2).2
                    refine W.widen (k := (8 * (pp33 - pp) + 4 - 3 * (n + 1))) (n := (120 * (pp33 - pp) + 62 + 4 * cp35 - 72 * (n + 1))) (by omega) (by omega) ?_
                    exact ih1 pp33 bb33 la35 sa35 cp35 (n + 1) 0 xa33 L33 F33 f35 g35 _ _ _ (⟨by omega, by omega, by omega, by omega, by omega, by omega, by omega, by omega, by omega, by omega, hT⟩) (Or.inr (by omega)) (hr2.tr hf34_0.1) (fun i hi => by
                      by_cases e9 : i = n
                      · subst e9; exact ⟨_, hf36_2.1, hf34_0.2⟩
                      · obtain ⟨x9, y9, z9⟩ := hr3 i (by omega); exact ⟨x9, (hf36_1 i (by omega)).1.trans y9, xO_ex hf34_0.1 z9⟩) (fun _ => ⟨hg33.1, isE_im hf34_0.1 _ (Nat.le_refl _) hr9.2.1, chP_add (chP_im (fun x p q b c z => isE_im hf34_0.1 _ (Nat.le_refl _) z) hr9.2.2) (fun i hi => hf36_1 i hi) hf36_2.1 hf36_2.2 (by omega) (isE_im exS.rf _ (by omega) hg33.2) (Or.inr ⟨by omega, by omega⟩)⟩) (hP.subT [4, 5, 6, 0, 1, 2, 3] rfl) (hD.subT [4, 5, 6, 0, 1, 2, 3] (by decide) rfl) hS (lv_sub hl [2, 3, 4, 5] rfl)
                  · refine W.widen (k := (8 * (pp33 - pp) + 4 - 3 * (n + 1))) (n := (120 * (pp33 - pp) + 62 + 4 * cp35 - 72 * (n + 1))) (by omega) (by omega) ?_
                    exact ih1 pp33 bb33 la35 sa35 cp35 (n + 1) ff33 xa33 L33 F33 f35 g35 _ _ _ (⟨by omega, by omega, by omega, by omega, by omega, by omega, by omega, by omega, by omega, by omega, hT⟩) (Or.inl hz_37) (hr2.tr hf34_0.1) (fun i hi => by
                      by_cases e9 : i = n
                      · subst e9; exact ⟨_, hf36_2.1, hf34_0.2⟩
                      · obtain ⟨x9, y9, z9⟩ := hr3 i (by omega); exact ⟨x9, (hf36_1 i (by omega)).1.trans y9, xO_ex hf34_0.1 z9⟩) (fun q9 => absurd q9 hz_37) (hP.subT [4, 5, 6, 0, 1, 2, 3] rfl) (hD.subT [4, 5, 6, 0, 1, 2, 3] (by decide) rfl) hS (lv_sub hl [2, 3, 4, 5] rfl)
            · replace hPc := hP.subF (f' := [(m9, .inr (23, mA mr mv vf xl (nI zs) ff1 xa1 (nI T) (nI pp1) xi xt xn (nI ns) (nI vv) (nI bb1)))]) [3] rfl
              replace hDc := hD.subF (f' := [(m9, .inr (23, mA mr mv vf xl (nI zs) ff1 xa1 (nI T) (nI pp1) xi xt xn (nI ns) (nI vv) (nI bb1)))]) [3] (by decide) rfl
              replace hKc := hK.sub (tys' := []) [] rfl
              replace hFc := va_freeT (wc := [(m9, .inr (23, mA mr mv vf xl (nI zs) ff1 xa1 (nI T) (nI pp1) xi xt xn (nI ns) (nI vv) (nI bb1)))]) hD hS hA [3] rfl
              refine va_calli (va_runV (As := []) (rest := []) ⟨hx, hb, hml, hown, hts⟩ (c_rokB l dC dI m9 mr mv vf xl xa1 xi xt xn zs T pp1 ns vv bb1 kI fk fa ff1 H.size hz_23) (cwV 0 hts g_c_xc5_c_rokB_30 rfl rfl rfl (by decide +kernel) ⟨by show 0 + 1 ≤ 8 + 12 * k; omega, by show 8 + (1 + 11) + (0) ≤ 177 + 279 * k; omega⟩) ⟨fun a U g mk q => by obtain ⟨q0, q1, qP, qK, qD⟩ := q; exact ⟨q0, q1, qP, va_K.moved (u := U) (U := U.calling g mk a) (Vm.Alike.refl U.vm) qK, qD⟩, va_recv hKc hPc (ci := 23) (q0 := 0) rfl rfl, fun U hU hW => ⟨rfl, by rw [hU], by rw [hU]; exact hPc, va_K.moved hW.alike hKc, hDc.weaken (fun _ _ _ _ => trivial)⟩⟩ rfl rfl hl.1 rfl (lv_room (Nat.le_of_ble_eq_true rfl)) dX23_chain_30 ⟨(show (8 * (pp1 - pp) + 4 - 3 * n) + 0 ≤ (8 * (T - pp) + 8) by omega), (show (120 * (pp1 - pp) + 62 + 4 * cp - 72 * n) + 0 ≤ (120 * (T - pp) + 360) by omega)⟩) hS (fun q _ h => hFc q h) hFc (fun r_24 u tS H1 locs ht hvm hw hB hz1 hk1 hS => ?_)
              obtain ⟨hP1, hK1, hD1⟩ := hB
              rw [ht] at hP1
              replace hK1 := va_K.moved hvm.symm hK1
              obtain ⟨hPj, hDj⟩ := va_joinT (wr := [(q_20, .inr (15, [.int 8, .int (nI pp), .int 0, .int 0, .int 0, .int 0, .long 0, .int 0, .ref r_3, .ref la, .ref sa, .int (nI n), .null, .null])), (la, .inl (kE, cp, .inr (.inr (.inr (.inr f))))), (sa, .inl (kI, cp, .inl g)), (mr 5, .inl (kI, 3002, .inl fk)), (mr 6, .inl (kI, 3002, .inl fa)), (mr 8, .inl (kL, 3002, .inr (.inl fn)))]) (w1 := [(m9, .inr (23, mA mr mv vf xl (nI zs) ff1 xa1 (nI T) (nI pp1) xi xt xn (nI ns) (nI vv) (nI bb1)))]) hP hD [3] [0, 1, 2, 4, 5, 6] rfl rfl (by decide) (by decide) hk1 hFc hP1 hD1
              replace hP := hPj
              replace hD := hDj
              clear hPj hDj
              generalize H1 = H at hP hS ⊢
              replace hP : va_P (dC, dI) vwCl (([(q_20, .inr (15, [.int 8, .int (nI pp), .int 0, .int 0, .int 0, .int 0, .long 0, .int 0, .ref r_3, .ref la, .ref sa, .int (nI n), .null, .null])), (la, .inl (kE, cp, .inr (.inr (.inr (.inr f))))), (sa, .inl (kI, cp, .inl g)), (mr 5, .inl (kI, 3002, .inl fk)), (mr 6, .inl (kI, 3002, .inl fa)), (mr 8, .inl (kL, 3002, .inr (.inl fn))), (m9, .inr (23, mA mr mv vf xl (nI zs) ff1 xa1 (nI T) (nI pp1) xi xt xn (nI ns) (nI vv) (nI bb1)))] : va_W) ++ (sT L1 F1)) H := hP
              replace hD : va_D A (([(q_20, .inr (15, [.int 8, .int (nI pp), .int 0, .int 0, .int 0, .int 0, .long 0, .int 0, .ref r_3, .ref la, .ref sa, .int (nI n), .null, .null])), (la, .inl (kE, cp, .inr (.inr (.inr (.inr f))))), (sa, .inl (kI, cp, .inl g)), (mr 5, .inl (kI, 3002, .inl fk)), (mr 6, .inl (kI, 3002, .inl fa)), (mr 8, .inl (kL, 3002, .inr (.inl fn))), (m9, .inr (23, mA mr mv vf xl (nI zs) ff1 xa1 (nI T) (nI pp1) xi xt xn (nI ns) (nI vv) (nI bb1)))] : va_W) ++ (sT L1 F1)) := hD
              replace hK : va_K (dC, dI) vwCl [(kI, .int), (kL, .long), (kE, .object RX15)] s := hK
              clear hz1 hk1 hPc hDc hKc hFc hP1 hD1 hK1
              obtain rfl : r_24 = 0 := hw
              refine lv_if_eq (tgt := 135) hx hb dX23_chain_33 (by decide) (fun _ => ?_) (fun c_25 => absurd (by decide) c_25)
              refine lv_aload_n hx hb dX23_chain_135 rfl (lv_at hl 0 rfl) ?_
              refine lv_ifnonnull (tgt := 143) hx hb dX23_chain_136 (by decide) ?_
              refine lv_aload_n hx hb dX23_chain_143 rfl (lv_at hl 0 rfl) ?_
              replace hP : va_P (dC, dI) vwCl ((([(mr 5, .inl (kI, 3002, .inl fk)), (mr 6, .inl (kI, 3002, .inl fa)), (mr 8, .inl (kL, 3002, .inr (.inl fn))), (m9, .inr (23, mA mr mv vf xl (nI zs) ff1 xa1 (nI T) (nI pp1) xi xt xn (nI ns) (nI vv) (nI bb1)))] : va_W) ++ ([(q_20, .inr (15, [.int 8, .int (nI pp), .int 0, .int 0, .int 0, .int 0, .long 0, .int 0, .ref r_3, .ref la, .ref sa, .int (nI n), .null, .null])), (la, .inl (kE, cp, .inr (.inr (.inr (.inr f))))), (sa, .inl (kI, cp, .inl g))] : va_W)) ++ sT L1 F1) H := hP.subT (f' := [(mr 5, .inl (kI, 3002, .inl fk)), (mr 6, .inl (kI, 3002, .inl fa)), (mr 8, .inl (kL, 3002, .inr (.inl fn))), (m9, .inr (23, mA mr mv vf xl (nI zs) ff1 xa1 (nI T) (nI pp1) xi xt xn (nI ns) (nI vv) (nI bb1))), (q_20, .inr (15, [.int 8, .int (nI pp), .int 0, .int 0, .int 0, .int 0, .long 0, .int 0, .ref r_3, .ref la, .ref sa, .int (nI n), .null, .null])), (la, .inl (kE, cp, .inr (.inr (.inr (.inr f))))), (sa, .inl (kI, cp, .inl g))]) [3, 4, 5, 6, 0, 1, 2] rfl
              replace hD : va_D A ((([(mr 5, .inl (kI, 3002, .inl fk)), (mr 6, .inl (kI, 3002, .inl fa)), (mr 8, .inl (kL, 3002, .inr (.inl fn))), (m9, .inr (23, mA mr mv vf xl (nI zs) ff1 xa1 (nI T) (nI pp1) xi xt xn (nI ns) (nI vv) (nI bb1)))] : va_W) ++ ([(q_20, .inr (15, [.int 8, .int (nI pp), .int 0, .int 0, .int 0, .int 0, .long 0, .int 0, .ref r_3, .ref la, .ref sa, .int (nI n), .null, .null])), (la, .inl (kE, cp, .inr (.inr (.inr (.inr f))))), (sa, .inl (kI, cp, .inl g))] : va_W)) ++ sT L1 F1) := hD.subT (f' := [(mr 5, .inl (kI, 3002, .inl fk)), (mr 6, .inl (kI, 3002, .inl fa)), (mr 8, .inl (kL, 3002, .inr (.inl fn))), (m9, .inr (23, mA mr mv vf xl (nI zs) ff1 xa1 (nI T) (nI pp1) xi xt xn (nI ns) (nI vv) (nI bb1))), (q_20, .inr (15, [.int 8, .int (nI pp), .int 0, .int 0, .int 0, .int 0, .long 0, .int 0, .ref r_3, .ref la, .ref sa, .int (nI n), .null, .null])), (la, .inl (kE, cp, .inr (.inr (.inr (.inr f))))), (sa, .inl (kI, cp, .inl g))]) [3, 4, 5, 6, 0, 1, 2] (by decide) rfl
              obtain ⟨L9, F9, hx9, hm9, hP, hD⟩ := st_fileL [(q_20, .inr (15, [.int 8, .int (nI pp), .int 0, .int 0, .int 0, .int 0, .long 0, .int 0, .ref r_3, .ref la, .ref sa, .int (nI n), .null, .null])), (la, .inl (kE, cp, .inr (.inr (.inr (.inr f))))), (sa, .inl (kI, cp, .inl g))] hP hD
              have hm9_0 := hm9 _ (List.mem_of_getElem? (i := 0) rfl)
              have hm9_1 := hm9 _ (List.mem_of_getElem? (i := 1) rfl)
              have hm9_2 := hm9 _ (List.mem_of_getElem? (i := 2) rfl)
              refine W.grow (fun hgs0 hgs1 => ?_)
              have hP9 := hP.subT (f' := [(m9, .inr (23, mA mr mv vf xl (nI zs) ff1 xa1 (nI T) (nI pp1) xi xt xn (nI ns) (nI vv) (nI bb1))), (mr 5, .inl (kI, 3002, .inl fk)), (mr 6, .inl (kI, 3002, .inl fa)), (mr 8, .inl (kL, 3002, .inr (.inl fn)))]) [3, 0, 1, 2] rfl
              have hD9 := hD.subT (f' := [(m9, .inr (23, mA mr mv vf xl (nI zs) ff1 xa1 (nI T) (nI pp1) xi xt xn (nI ns) (nI vv) (nI bb1))), (mr 5, .inl (kI, 3002, .inl fk)), (mr 6, .inl (kI, 3002, .inl fa)), (mr 8, .inl (kL, 3002, .inr (.inl fn)))]) [3, 0, 1, 2] (by decide) rfl
              have hK9 := hK.sub (tys' := [(kI, .int), (kL, .long), (kE, .object RX15)]) [0, 1, 2] rfl
              refine W.widen (k := (8 * (T - pp) + 8)) (n := (120 * (T - pp) + 360)) (by omega) (by omega) ?_
              subst hQ1
              exact W.aret hx hb hr (Or.inl ⟨_, rfl⟩) (Or.inr ⟨q_20, rfl⟩) (fun tS ht hW => ⟨⟨(), q_20, rfl, trivial, L9, F9, ff1, xa1, pp1, bb1, ⟨hr2.tr hx9, hm9_0.1, _, hm9_0.2⟩, ⟨by omega, by omega, by omega, by omega⟩, (fun q9 => absurd q9 hz_23), by rw [ht]; exact ⟨by omega, by omega⟩, by rw [ht]; exact hP9, va_K.moved hW.alike hK9, hD9⟩, hS.F ht⟩) hS.2.2 dX23_chain_144
        refine W.widen (k := (8 * ((ppA + 1) - pp) + 4 - 3 * 1)) (n := (120 * ((ppA + 1) - pp) + 62 + 4 * 4 - 72 * 1)) (by omega) (by omega) ?_
        exact key1 (T + 1 - (ppA + 1) + 1) (ppA + 1) bbA la21 sa21 4 1 ff_14 xa_15 L17 F17 f21 g21 _ _ _ (⟨by omega, by omega, by omega, by omega, by omega, by omega, by omega, by omega, by omega, by omega, hT⟩) (Or.inl hf16_0) ((hf3_0.1).tr hf18_0.1) (fun i hi => by obtain rfl : i = 0 := (by omega); exact ⟨_, hf22_1.1, hf18_0.2⟩) (fun q9 => absurd q9 hf16_0) (hP.subT [4, 5, 6, 1, 2, 3, 0] rfl) (hD.subT [4, 5, 6, 1, 2, 3, 0] (by decide) rfl) hS (lv_sub hl [0, 3, 4, 5] rfl)
      · replace hPc := hP.subF (f' := [(m9, .inr (23, mA mr mv vf xl (nI zs) 0 xaA (nI T) (nI (ppA + 1)) xi xt xn (nI ns) (nI vv) (nI bbA))), (mr 6, .inl (kI, 3002, .inl fa))]) [3, 1] rfl
        replace hDc := hD.subF (f' := [(m9, .inr (23, mA mr mv vf xl (nI zs) 0 xaA (nI T) (nI (ppA + 1)) xi xt xn (nI ns) (nI vv) (nI bbA))), (mr 6, .inl (kI, 3002, .inl fa))]) [3, 1] (by decide) rfl
        replace hKc := hK.sub (tys' := [(kI, .int)]) [0] rfl
        replace hFc := va_freeT (wc := [(m9, .inr (23, mA mr mv vf xl (nI zs) 0 xaA (nI T) (nI (ppA + 1)) xi xt xn (nI ns) (nI vv) (nI bbA))), (mr 6, .inl (kI, 3002, .inl fa))]) hD hS hA [3, 1] rfl
        refine va_callv (va_runV (As := [.int (nI ppA)]) (rest := []) ⟨hx, hb, hml, hown, hts⟩ (c_renY l dC dI m9 mr mv vf xl xaA xi xt xn zs T (ppA + 1) ns vv bbA kI fk fa ppA H.size (by omega) (⟨hn_13, by omega⟩)) (cwV 1 hts g_c_xc5_c_renY_71 rfl rfl rfl (by decide +kernel) ⟨by show 1 + 1 ≤ 8 + 12 * k; omega, by show 8 + (2 + 11) + (20) ≤ 177 + 279 * k; omega⟩) ⟨fun a U g mk q => by obtain ⟨q0, q1, qP, qK, qD⟩ := q; exact ⟨q0, q1, qP, va_K.moved (u := U) (U := U.calling g mk a) (Vm.Alike.refl U.vm) qK, qD⟩, va_recv hKc hPc (ci := 23) (q0 := 0) rfl rfl, fun U hU hW => ⟨rfl, by rw [hU], by rw [hU]; exact hPc, va_K.moved hW.alike hKc, hDc.weaken (fun _ _ _ _ => trivial)⟩⟩ rfl rfl hl.1 rfl (lv_room (Nat.le_of_ble_eq_true rfl)) dX23_chain_71 ⟨(show 8 * (ppA - pp) + 3 + 0 ≤ (8 * (T - pp) + 8) by omega), (show 120 * (ppA - pp) + 48 + 0 ≤ (120 * (T - pp) + 360) by omega)⟩) hS (fun q _ h => hFc q h) hFc (fun u tS H1 locs ht hvm hw hB hz1 hk1 hS => ?_)
        obtain ⟨hP1, hK1, hD1⟩ := hB
        rw [ht] at hP1
        replace hK1 := va_K.moved hvm.symm hK1
        obtain ⟨hPj, hDj⟩ := va_joinT (wr := [(mr 5, .inl (kI, 3002, .inl fk)), (mr 8, .inl (kL, 3002, .inr (.inl fn)))]) (w1 := [(m9, .inr (23, mA mr mv vf xl (nI zs) 0 xaA (nI T) (nI (ppA + 1)) xi xt xn (nI (ns + 1)) (nI vv) (nI bbA))), (mr 6, .inl (kI, 3002, .inl fa))]) hP hD [3, 1] [0, 2] rfl rfl (by decide) (by decide) hk1 hFc hP1 hD1
        replace hP := hPj
        replace hD := hDj
        clear hPj hDj
        replace hK := hK.app hK1
        generalize H1 = H at hP hS ⊢
        replace hP : va_P (dC, dI) vwCl (([(mr 5, .inl (kI, 3002, .inl fk)), (mr 8, .inl (kL, 3002, .inr (.inl fn))), (m9, .inr (23, mA mr mv vf xl (nI zs) 0 xaA (nI T) (nI (ppA + 1)) xi xt xn (nI (ns + 1)) (nI vv) (nI bbA))), (mr 6, .inl (kI, 3002, .inl fa))] : va_W) ++ (sT LA FA)) H := hP
        replace hD : va_D A (([(mr 5, .inl (kI, 3002, .inl fk)), (mr 8, .inl (kL, 3002, .inr (.inl fn))), (m9, .inr (23, mA mr mv vf xl (nI zs) 0 xaA (nI T) (nI (ppA + 1)) xi xt xn (nI (ns + 1)) (nI vv) (nI bbA))), (mr 6, .inl (kI, 3002, .inl fa))] : va_W) ++ (sT LA FA)) := hD
        replace hK : va_K (dC, dI) vwCl [(kI, .int), (kL, .long), (kE, .object RX15), (kI, .int)] s := hK
        replace hK := hK.sub (tys' := [(kI, .int), (kL, .long), (kE, .object RX15)]) [0, 1, 2] rfl
        clear hz1 hk1 hPc hDc hKc hFc hP1 hD1 hK1
        refine lv_aload_n hx hb dX23_chain_74 rfl (lv_at hl 3 rfl) ?_
        refine lv_iload_n hx hb dX23_chain_75 rfl (lv_at hl 4 rfl) ?_
        refine lv_iconst (v := 1) hx hb dX23_chain_76 (by decide) ?_
        refine lv_iadd hx hb dX23_chain_77 ?_
        refine lv_topi (fun f_15 ef_15 => ?_)
        obtain rfl : f_15 = 6 := ef_15.trans (by decide)
        obtain ⟨k1, hkL⟩ : ∃ k1 : Nat, k = k1 + 1 := ⟨k - 1, by omega⟩
        replace hPc := hP.subT (f' := [(m9, .inr (23, mA mr mv vf xl (nI zs) 0 xaA (nI T) (nI (ppA + 1)) xi xt xn (nI (ns + 1)) (nI vv) (nI bbA))), (mr 5, .inl (kI, 3002, .inl fk)), (mr 6, .inl (kI, 3002, .inl fa)), (mr 8, .inl (kL, 3002, .inr (.inl fn)))]) [2, 0, 3, 1] rfl
        replace hDc := hD.subT (f' := [(m9, .inr (23, mA mr mv vf xl (nI zs) 0 xaA (nI T) (nI (ppA + 1)) xi xt xn (nI (ns + 1)) (nI vv) (nI bbA))), (mr 5, .inl (kI, 3002, .inl fk)), (mr 6, .inl (kI, 3002, .inl fa)), (mr 8, .inl (kL, 3002, .inr (.inl fn)))]) [2, 0, 3, 1] (by decide) rfl
        replace hKc := hK.sub (tys' := [(kI, .int), (kL, .long), (kE, .object RX15)]) [0, 1, 2] rfl
        replace hFc := va_freeB (wc := [(m9, .inr (23, mA mr mv vf xl (nI zs) 0 xaA (nI T) (nI (ppA + 1)) xi xt xn (nI (ns + 1)) (nI vv) (nI bbA))), (mr 5, .inl (kI, 3002, .inl fk)), (mr 6, .inl (kI, 3002, .inl fa)), (mr 8, .inl (kL, 3002, .inr (.inl fn)))]) hD hS hA [2, 0, 3, 1] rfl
        refine W.grow (fun hgs0 hgs1 => ?_)
        refine va_callr (va_runV (As := [.int 6]) (rest := []) ⟨hx, hb, hml, hown, hts⟩ ((ih k1 hkL).2.2.2.2.1 m9 mr mv vf xl xaA xi xt xn zs T (ppA + 1) (ns + 1) vv bbA kI fk fa kL kE fn LA FA (slN H) H.size hT hp_11 hk0 hgA.1 (by omega)) (cwV 1 hts g_c_xc5_c_xc6_78 rfl rfl rfl (by decide +kernel) ⟨by show 7 + 12 * k1 + 1 ≤ 8 + 12 * k; omega, by show 8 + (6 + 11) + (152 + 279 * k1) ≤ 177 + 279 * k; omega⟩) ⟨fun a U g mk q => by obtain ⟨q0, q1, qP, qK, qD, qx0, qx1⟩ := q; exact ⟨q0, q1, qP, va_K.moved (u := U) (U := U.calling g mk a) (Vm.Alike.refl U.vm) qK, qD, nsM.same (u := U) (U := U.calling g mk a) rfl qx0, qx1⟩, va_recv hKc hPc (ci := 23) (q0 := 0) rfl rfl, fun U hU hW => ⟨rfl, by rw [hU], by rw [hU]; exact hPc, va_K.moved hW.alike hKc, hDc.weaken (fun _ _ _ _ => trivial), nsM.warm hW hns, by rw [hU]⟩⟩ rfl rfl hl.1 rfl (lv_room (Nat.le_of_ble_eq_true rfl)) dX23_chain_78 ⟨(show 8 * (ppA - pp) + 3 + (8 * (T - (ppA + 1)) + 8) ≤ (8 * (T - pp) + 8) by omega), (show 120 * (ppA - pp) + 48 + (120 * (T - (ppA + 1)) + 360) ≤ (120 * (T - pp) + 360) by omega)⟩) hS (fun q _ h => hFc q h) hFc (fun u r_16 tS H1 locs ht hvm hw hB hz1 hk1 hS => ?_)
        obtain ⟨L15, F15, ff15, xa15, pp15, bb15, hf16_0, hf16_1, hf16_2, hf16_3, hP1, hK1, hD1⟩ := hB
        rw [ht] at hP1
        replace hK1 := va_K.moved hvm.symm hK1
        rw [ht] at hf16_3
        have hgz : H1.size ≤ s.heap.size + ((8 * (ppA - pp) + 3 + 8 * (pp15 - (ppA + 1)) + 3)) ∧ slN H1 ≤ slN s.heap + ((120 * (ppA - pp) + 48 + 120 * (pp15 - (ppA + 1)) + 48)) := ⟨by have := hf16_3.1; omega, by have := hf16_3.2; omega⟩
        obtain ⟨hPj, hDj⟩ := va_joinB (wr := []) (w1 := [(m9, .inr (23, mA mr mv vf xl (nI zs) ff15 xa15 (nI T) (nI pp15) xi xt xn (nI (ns + 1)) (nI vv) (nI bb15))), (mr 5, .inl (kI, 3002, .inl fk)), (mr 6, .inl (kI, 3002, .inl fa)), (mr 8, .inl (kL, 3002, .inr (.inl fn)))]) hP hD [2, 0, 3, 1] [] rfl rfl (by decide) (by decide) hk1 hFc hP1 hD1
        replace hP := hPj
        replace hD := hDj
        clear hPj hDj
        replace hK := hK.app hK1
        generalize H1 = H at hP hS hgz ⊢
        replace hP : va_P (dC, dI) vwCl (([(m9, .inr (23, mA mr mv vf xl (nI zs) ff15 xa15 (nI T) (nI pp15) xi xt xn (nI (ns + 1)) (nI vv) (nI bb15))), (mr 5, .inl (kI, 3002, .inl fk)), (mr 6, .inl (kI, 3002, .inl fa)), (mr 8, .inl (kL, 3002, .inr (.inl fn)))] : va_W) ++ (sT L15 F15)) H := hP
        replace hD : va_D A (([(m9, .inr (23, mA mr mv vf xl (nI zs) ff15 xa15 (nI T) (nI pp15) xi xt xn (nI (ns + 1)) (nI vv) (nI bb15))), (mr 5, .inl (kI, 3002, .inl fk)), (mr 6, .inl (kI, 3002, .inl fa)), (mr 8, .inl (kL, 3002, .inr (.inl fn)))] : va_W) ++ (sT L15 F15)) := hD
        replace hK : va_K (dC, dI) vwCl [(kI, .int), (kL, .long), (kE, .object RX15), (kI, .int), (kL, .long), (kE, .object RX15)] s := hK
        replace hK := hK.sub (tys' := [(kI, .int), (kL, .long), (kE, .object RX15)]) [0, 1, 2] rfl
        refine W.tight (k := (8 * (ppA - pp) + 3 + 8 * (pp15 - (ppA + 1)) + 3)) (n := (120 * (ppA - pp) + 48 + 120 * (pp15 - (ppA + 1)) + 48)) hgz.1 hgz.2 ?_
        clear hz1 hk1 hPc hDc hKc hFc hP1 hD1 hK1
        refine lv_astore (lv' := [(5, .ref r_16), (4, .int (nI ppA)), (3, .null), (2, .ref r_3), (0, .ref m9), (1, .int 5)]) hx hb dX23_chain_81 hl (by decide) rfl (fun ls hl => ?_)
        refine lv_aload_n hx hb dX23_chain_83 rfl (lv_at hl 4 rfl) ?_
        refine lv_dup hx hb dX23_chain_84 rfl ?_
        refine va_get (D := (dC, dI)) (ci := 23) (v := .int (nI (ns + 1))) (C := RX23) (T := TX23) (N := 89) hx hb hts in_c_xc5_X23 hown hK hP 0 rfl rfl 15 (by decide) (hts (.fieldLink RX23 104 "OwnedPlacesModel" "nest" "I") (wm_c_xc5 19 rfl)) (fun _ h9 => h9) rfl dX23_chain_85 ?_
        refine lv_iconst (v := 1) hx hb dX23_chain_88 (by decide) ?_
        refine lv_isub hx hb dX23_chain_89 ?_
        refine lv_topi (fun f_17 ef_17 => ?_)
        obtain rfl : f_17 = nI ns := ef_17.trans (nI_pred _)
        refine va_put (D := (dC, dI)) (ci := 23) (v := .int (nI ns)) (ty := .int) (C := RX23) (T := TX23) (N := 89) hx hb hts in_c_xc5_X23 tyX23 tyX23_ok nmX23 hown hK hP hD hS 0 rfl rfl 15 (by decide) (hts (.fieldLink RX23 104 "OwnedPlacesModel" "nest" "I") (wm_c_xc5 19 rfl)) (fun _ h9 => h9) rfl (by decide +kernel) rfl rfl (Nat.le_of_ble_eq_true rfl) dX23_chain_90 (fun H locs hP hD hS => ?_)
        replace hP : va_P (dC, dI) vwCl (([(m9, .inr (23, mA mr mv vf xl (nI zs) ff15 xa15 (nI T) (nI pp15) xi xt xn (nI ns) (nI vv) (nI bb15))), (mr 5, .inl (kI, 3002, .inl fk)), (mr 6, .inl (kI, 3002, .inl fa)), (mr 8, .inl (kL, 3002, .inr (.inl fn)))] : va_W) ++ (sT L15 F15)) H := hP
        replace hD : va_D A (([(m9, .inr (23, mA mr mv vf xl (nI zs) ff15 xa15 (nI T) (nI pp15) xi xt xn (nI ns) (nI vv) (nI bb15))), (mr 5, .inl (kI, 3002, .inl fk)), (mr 6, .inl (kI, 3002, .inl fa)), (mr 8, .inl (kL, 3002, .inr (.inl fn)))] : va_W) ++ (sT L15 F15)) := hD
        refine lv_aload_nN hx hb dX23_chain_93 rfl (lv_at hl 2 rfl) ?_
        refine lv_ifnonnullN hx hb dX23_chain_94 ?_
        refine va_new (ci := 15) (fs := [.int 0, .int 0, .int 0, .int 0, .int 0, .int 0, .long 0, .int 0, .null, .null, .null, .int 0, .null, .null]) (C := RX15) (T := TX15) (N := 14) hx hb hts in_c_xc5_X15 tyX15 tyX15_ok hown (hts (.classLink RX23 295 RX15) (wm_c_xc5 30 rfl)) (hts (.instantiable RX15 14) (wm_c_xc5 31 rfl)) (hts (.initialized RX15) (wm_c_xc5 32 rfl)) hK hP hD hS hA rfl dv_X15 (show (8 * (ppA - pp) + 3 + 8 * (pp15 - (ppA + 1)) + 3) + 1 ≤ (8 * (T - pp) + 8) by omega) (show (120 * (ppA - pp) + 48 + 120 * (pp15 - (ppA + 1)) + 48) + 14 ≤ (120 * (T - pp) + 360) by omega) dX23_chain_97 (fun q_18 H hP hD hS => ?_)
        replace hP := va_P.nt hP
        replace hD := va_D.nt hD
        replace hP : va_P (dC, dI) vwCl (([(m9, .inr (23, mA mr mv vf xl (nI zs) ff15 xa15 (nI T) (nI pp15) xi xt xn (nI ns) (nI vv) (nI bb15))), (mr 5, .inl (kI, 3002, .inl fk)), (mr 6, .inl (kI, 3002, .inl fa)), (mr 8, .inl (kL, 3002, .inr (.inl fn))), (q_18, .inr (15, [.int 0, .int 0, .int 0, .int 0, .int 0, .int 0, .long 0, .int 0, .null, .null, .null, .int 0, .null, .null]))] : va_W) ++ (sT L15 F15)) H := hP
        replace hD : va_D A (([(m9, .inr (23, mA mr mv vf xl (nI zs) ff15 xa15 (nI T) (nI pp15) xi xt xn (nI ns) (nI vv) (nI bb15))), (mr 5, .inl (kI, 3002, .inl fk)), (mr 6, .inl (kI, 3002, .inl fa)), (mr 8, .inl (kL, 3002, .inr (.inl fn))), (q_18, .inr (15, [.int 0, .int 0, .int 0, .int 0, .int 0, .int 0, .long 0, .int 0, .null, .null, .null, .int 0, .null, .null]))] : va_W) ++ (sT L15 F15)) := hD
        refine W.widen (k := ((8 * (ppA - pp) + 3 + 8 * (pp15 - (ppA + 1)) + 3) + 1)) (n := ((120 * (ppA - pp) + 48 + 120 * (pp15 - (ppA + 1)) + 48) + 14)) (by omega) (by omega) ?_
        refine lv_dup hx hb dX23_chain_100 rfl ?_
        replace hPc := hP.subF (f' := [(q_18, .inr (15, [.int 0, .int 0, .int 0, .int 0, .int 0, .int 0, .long 0, .int 0, .null, .null, .null, .int 0, .null, .null]))]) [4] rfl
        replace hDc := hD.subF (f' := [(q_18, .inr (15, [.int 0, .int 0, .int 0, .int 0, .int 0, .int 0, .long 0, .int 0, .null, .null, .null, .int 0, .null, .null]))]) [4] (by decide) rfl
        replace hKc := hK.sub (tys' := []) [] rfl
        replace hFc := va_freeT (wc := [(q_18, .inr (15, [.int 0, .int 0, .int 0, .int 0, .int 0, .int 0, .long 0, .int 0, .null, .null, .null, .int 0, .null, .null]))]) hD hS hA [4] rfl
        refine va_callv (va_runIN (As := []) (rest := [.ref q_18]) ⟨hx, hb, hml, hown, hts⟩ (c_nX l dC dI q_18 H.size) ⟨va_cnB 0 hts g_c_xc5_c_nX_101 rfl rfl rfl hns.1.2.2.2.2.2.2.1 (hts (.initialized RX15) (wm_c_xc5 32 rfl)) (by decide +kernel) ⟨by show 1 + 1 ≤ 8 + 12 * k; omega, by show 8 + (1 + 11) + (12) ≤ 177 + 279 * k; omega⟩, rfl, (hts (.instanceMethod yX15_init) (wm_c_xc5 37 rfl))⟩ ⟨fun a U g mk q => by obtain ⟨q0, q1, qP, qK, qD⟩ := q; exact ⟨q0, q1, qP, va_K.moved (u := U) (U := U.calling g mk a) (Vm.Alike.refl U.vm) qK, qD⟩, fun U hU hW => ⟨rfl, by rw [hU], by rw [hU]; exact hPc, va_K.moved hW.alike hKc, hDc.weaken (fun _ _ _ _ => trivial)⟩⟩ rfl rfl hl.1 rfl (lv_room (Nat.le_of_ble_eq_true rfl)) dX23_chain_101 ⟨(show ((8 * (ppA - pp) + 3 + 8 * (pp15 - (ppA + 1)) + 3) + 1) + 0 ≤ (8 * (T - pp) + 8) by omega), (show ((120 * (ppA - pp) + 48 + 120 * (pp15 - (ppA + 1)) + 48) + 14) + 0 ≤ (120 * (T - pp) + 360) by omega)⟩) hS (fun q _ h => hFc q h) hFc (fun u tS H1 locs ht hvm hw hB hz1 hk1 hS => ?_)
        obtain ⟨hP1, hK1, hD1⟩ := hB
        rw [ht] at hP1
        replace hK1 := va_K.moved hvm.symm hK1
        obtain ⟨hPj, hDj⟩ := va_joinT (wr := [(m9, .inr (23, mA mr mv vf xl (nI zs) ff15 xa15 (nI T) (nI pp15) xi xt xn (nI ns) (nI vv) (nI bb15))), (mr 5, .inl (kI, 3002, .inl fk)), (mr 6, .inl (kI, 3002, .inl fa)), (mr 8, .inl (kL, 3002, .inr (.inl fn)))]) (w1 := [(q_18, .inr (15, [.int 0, .int 0, .int 0, .int 0, .int 0, .int 0, .long 0, .int 0, .null, .null, .null, .int 0, .null, .null]))]) hP hD [4] [0, 1, 2, 3] rfl rfl (by decide) (by decide) hk1 hFc hP1 hD1
        replace hP := hPj
        replace hD := hDj
        clear hPj hDj
        generalize H1 = H at hP hS ⊢
        replace hP : va_P (dC, dI) vwCl (([(m9, .inr (23, mA mr mv vf xl (nI zs) ff15 xa15 (nI T) (nI pp15) xi xt xn (nI ns) (nI vv) (nI bb15))), (mr 5, .inl (kI, 3002, .inl fk)), (mr 6, .inl (kI, 3002, .inl fa)), (mr 8, .inl (kL, 3002, .inr (.inl fn))), (q_18, .inr (15, [.int 0, .int 0, .int 0, .int 0, .int 0, .int 0, .long 0, .int 0, .null, .null, .null, .int 0, .null, .null]))] : va_W) ++ (sT L15 F15)) H := hP
        replace hD : va_D A (([(m9, .inr (23, mA mr mv vf xl (nI zs) ff15 xa15 (nI T) (nI pp15) xi xt xn (nI ns) (nI vv) (nI bb15))), (mr 5, .inl (kI, 3002, .inl fk)), (mr 6, .inl (kI, 3002, .inl fa)), (mr 8, .inl (kL, 3002, .inr (.inl fn))), (q_18, .inr (15, [.int 0, .int 0, .int 0, .int 0, .int 0, .int 0, .long 0, .int 0, .null, .null, .null, .int 0, .null, .null]))] : va_W) ++ (sT L15 F15)) := hD
        replace hK : va_K (dC, dI) vwCl [(kI, .int), (kL, .long), (kE, .object RX15)] s := hK
        clear hz1 hk1 hPc hDc hKc hFc hP1 hD1 hK1
        refine lv_astore_n (lv' := [(3, .ref q_18), (5, .ref r_16), (4, .int (nI ppA)), (2, .ref r_3), (0, .ref m9), (1, .int 5)]) hx hb dX23_chain_104 rfl hl (by decide) rfl (fun ls hl => ?_)
        refine lv_aload_n hx hb dX23_chain_105 rfl (lv_at hl 0 rfl) ?_
        refine lv_bipush (v := 8) hx hb dX23_chain_106 (by decide) ?_
        refine va_put (D := (dC, dI)) (ci := 15) (v := .int 8) (ty := .int) (C := RX15) (T := TX15) (N := 14) hx hb hts in_c_xc5_X15 tyX15 tyX15_ok nmX15 hown hK hP hD hS 4 rfl rfl 0 (by decide) (hts (.fieldLink RX23 330 "OwnedPlacesModel$Exp" "kind" "I") (wm_c_xc5 38 rfl)) (fun _ h9 => h9) rfl (by decide +kernel) rfl rfl (Nat.le_of_ble_eq_true rfl) dX23_chain_108 (fun H locs hP hD hS => ?_)
        replace hP : va_P (dC, dI) vwCl (([(m9, .inr (23, mA mr mv vf xl (nI zs) ff15 xa15 (nI T) (nI pp15) xi xt xn (nI ns) (nI vv) (nI bb15))), (mr 5, .inl (kI, 3002, .inl fk)), (mr 6, .inl (kI, 3002, .inl fa)), (mr 8, .inl (kL, 3002, .inr (.inl fn))), (q_18, .inr (15, [.int 8, .int 0, .int 0, .int 0, .int 0, .int 0, .long 0, .int 0, .null, .null, .null, .int 0, .null, .null]))] : va_W) ++ (sT L15 F15)) H := hP
        replace hD : va_D A (([(m9, .inr (23, mA mr mv vf xl (nI zs) ff15 xa15 (nI T) (nI pp15) xi xt xn (nI ns) (nI vv) (nI bb15))), (mr 5, .inl (kI, 3002, .inl fk)), (mr 6, .inl (kI, 3002, .inl fa)), (mr 8, .inl (kL, 3002, .inr (.inl fn))), (q_18, .inr (15, [.int 8, .int 0, .int 0, .int 0, .int 0, .int 0, .long 0, .int 0, .null, .null, .null, .int 0, .null, .null]))] : va_W) ++ (sT L15 F15)) := hD
        refine lv_aload_n hx hb dX23_chain_111 rfl (lv_at hl 0 rfl) ?_
        refine lv_aload_n hx hb dX23_chain_112 rfl (lv_at hl 3 rfl) ?_
        have hfi := isE_im hf16_0.1 _ (Nat.le_refl _) hgA.2
        obtain ⟨vs9, hF9, ht9⟩ := isE_tok hfi
        refine va_get (D := (dC, dI)) (ci := 15) (v := .int (nI pp)) (C := RX15) (T := TX15) (N := 14) hx hb hts in_c_xc5_X15 hown hK (va_P.st hP (isE_mem hfi).1 hF9) 0 rfl rfl 1 (by decide) (hts (.fieldLink RX23 350 "OwnedPlacesModel$Exp" "token" "I") (wm_c_xc5 39 rfl)) (fun _ h9 => h9) ht9 dX23_chain_113 ?_
        refine va_put (D := (dC, dI)) (ci := 15) (v := .int (nI pp)) (ty := .int) (C := RX15) (T := TX15) (N := 14) hx hb hts in_c_xc5_X15 tyX15 tyX15_ok nmX15 hown hK hP hD hS 4 rfl rfl 1 (by decide) (hts (.fieldLink RX23 350 "OwnedPlacesModel$Exp" "token" "I") (wm_c_xc5 39 rfl)) (fun _ h9 => h9) rfl (by decide +kernel) rfl rfl (Nat.le_of_ble_eq_true rfl) dX23_chain_116 (fun H locs hP hD hS => ?_)
        replace hP : va_P (dC, dI) vwCl (([(m9, .inr (23, mA mr mv vf xl (nI zs) ff15 xa15 (nI T) (nI pp15) xi xt xn (nI ns) (nI vv) (nI bb15))), (mr 5, .inl (kI, 3002, .inl fk)), (mr 6, .inl (kI, 3002, .inl fa)), (mr 8, .inl (kL, 3002, .inr (.inl fn))), (q_18, .inr (15, [.int 8, .int (nI pp), .int 0, .int 0, .int 0, .int 0, .long 0, .int 0, .null, .null, .null, .int 0, .null, .null]))] : va_W) ++ (sT L15 F15)) H := hP
        replace hD : va_D A (([(m9, .inr (23, mA mr mv vf xl (nI zs) ff15 xa15 (nI T) (nI pp15) xi xt xn (nI ns) (nI vv) (nI bb15))), (mr 5, .inl (kI, 3002, .inl fk)), (mr 6, .inl (kI, 3002, .inl fa)), (mr 8, .inl (kL, 3002, .inr (.inl fn))), (q_18, .inr (15, [.int 8, .int (nI pp), .int 0, .int 0, .int 0, .int 0, .long 0, .int 0, .null, .null, .null, .int 0, .null, .null]))] : va_W) ++ (sT L15 F15)) := hD
        refine lv_aload_n hx hb dX23_chain_119 rfl (lv_at hl 0 rfl) ?_
        refine lv_aload_n hx hb dX23_chain_120 rfl (lv_at hl 3 rfl) ?_
        refine va_put (D := (dC, dI)) (ci := 15) (v := .ref r_3) (ty := (.object "OwnedPlacesModel$Exp")) (C := RX15) (T := TX15) (N := 14) hx hb hts in_c_xc5_X15 tyX15 tyX15_ok nmX15 hown hK hP hD hS 4 rfl rfl 8 (by decide) (hts (.fieldLink RX23 331 "OwnedPlacesModel$Exp" "of" "LOwnedPlacesModel$Exp;") (wm_c_xc5 40 rfl)) (fun _ h9 => h9) rfl (by decide +kernel) rfl rfl (Nat.le_of_ble_eq_true rfl) dX23_chain_121 (fun H locs hP hD hS => ?_)
        replace hP : va_P (dC, dI) vwCl (([(m9, .inr (23, mA mr mv vf xl (nI zs) ff15 xa15 (nI T) (nI pp15) xi xt xn (nI ns) (nI vv) (nI bb15))), (mr 5, .inl (kI, 3002, .inl fk)), (mr 6, .inl (kI, 3002, .inl fa)), (mr 8, .inl (kL, 3002, .inr (.inl fn))), (q_18, .inr (15, [.int 8, .int (nI pp), .int 0, .int 0, .int 0, .int 0, .long 0, .int 0, .ref r_3, .null, .null, .int 0, .null, .null]))] : va_W) ++ (sT L15 F15)) H := hP
        replace hD : va_D A (([(m9, .inr (23, mA mr mv vf xl (nI zs) ff15 xa15 (nI T) (nI pp15) xi xt xn (nI ns) (nI vv) (nI bb15))), (mr 5, .inl (kI, 3002, .inl fk)), (mr 6, .inl (kI, 3002, .inl fa)), (mr 8, .inl (kL, 3002, .inr (.inl fn))), (q_18, .inr (15, [.int 8, .int (nI pp), .int 0, .int 0, .int 0, .int 0, .long 0, .int 0, .ref r_3, .null, .null, .int 0, .null, .null]))] : va_W) ++ (sT L15 F15)) := hD
        refine lv_aload_n hx hb dX23_chain_124 rfl (lv_at hl 0 rfl) ?_
        refine lv_aload hx hb dX23_chain_125 (lv_at hl 1 rfl) ?_
        refine lv_iload hx hb dX23_chain_127 (lv_at hl 2 rfl) ?_
        replace hPc := hP.subT (f' := [(q_18, .inr (15, [.int 8, .int (nI pp), .int 0, .int 0, .int 0, .int 0, .long 0, .int 0, (.ref r_3), .null, .null, .int 0, .null, .null]))]) [4] rfl
        replace hDc := hD.subT (f' := [(q_18, .inr (15, [.int 8, .int (nI pp), .int 0, .int 0, .int 0, .int 0, .long 0, .int 0, (.ref r_3), .null, .null, .int 0, .null, .null]))]) [4] (by decide) rfl
        replace hKc := hK.sub (tys' := [(kI, .int), (kE, .object RX15)]) [0, 2] rfl
        replace hFc := va_freeB (wc := [(q_18, .inr (15, [.int 8, .int (nI pp), .int 0, .int 0, .int 0, .int 0, .long 0, .int 0, (.ref r_3), .null, .null, .int 0, .null, .null]))]) hD hS hA [4] rfl
        refine W.grow (fun hgs0 hgs1 => ?_)
        refine va_callv (va_runS (As := [.ref q_18, .ref r_16, .int (nI ppA)]) (rest := []) ⟨hx, hb, hml, hown, hts⟩ (c_xaN l dC dI q_18 r_16 8 (nI pp) 0 0 0 0 (nI ppA) (.ref r_3) kI kE L15 F15 (slN H) H.size hf16_0.2) (va_cwS 3 hts g_c_xc5_c_xaN_129 rfl rfl rfl (by decide +kernel) ⟨by show 0 + 1 ≤ 8 + 12 * k; omega, by show 8 + (6 + 11) + (0) ≤ 177 + 279 * k; omega⟩) ⟨fun a U g mk q => by obtain ⟨q0, q1, qP, qK, qD, qx0, qx1⟩ := q; exact ⟨q0, q1, qP, va_K.moved (u := U) (U := U.calling g mk a) (Vm.Alike.refl U.vm) qK, qD, nsM.same (u := U) (U := U.calling g mk a) rfl qx0, qx1⟩, fun U hU hW => ⟨rfl, by rw [hU], by rw [hU]; exact hPc, va_K.moved hW.alike hKc, hDc.weaken (fun _ _ _ _ => trivial), nsM.warm hW hns, by rw [hU]⟩⟩ rfl rfl hl.1 rfl (lv_room (Nat.le_of_ble_eq_true rfl)) dX23_chain_129 ⟨(show ((8 * (ppA - pp) + 3 + 8 * (pp15 - (ppA + 1)) + 3) + 1) + 2 ≤ (8 * (T - pp) + 8) by omega), (show ((120 * (ppA - pp) + 48 + 120 * (pp15 - (ppA + 1)) + 48) + 14) + 8 ≤ (120 * (T - pp) + 360) by omega)⟩) hS (fun q _ h => hFc q h) hFc (fun u tS H1 locs ht hvm hw hB hz1 hk1 hS => ?_)
        obtain ⟨la19, sa19, cp19, f19, g19, hf20_0, hf20_1, hf20_2, hP1, hK1, hD1⟩ := hB
        rw [ht] at hP1
        replace hK1 := va_K.moved hvm.symm hK1
        rw [ht] at hf20_2
        have hgz : H1.size ≤ s.heap.size + ((((8 * (ppA - pp) + 3 + 8 * (pp15 - (ppA + 1)) + 3) + 1) + 2)) ∧ slN H1 ≤ slN s.heap + ((((120 * (ppA - pp) + 48 + 120 * (pp15 - (ppA + 1)) + 48) + 14) + 8)) := ⟨by have := hf20_2.1; omega, by have := hf20_2.2; omega⟩
        obtain ⟨hPj, hDj⟩ := va_joinB (wr := [(m9, .inr (23, mA mr mv vf xl (nI zs) ff15 xa15 (nI T) (nI pp15) xi xt xn (nI ns) (nI vv) (nI bb15))), (mr 5, .inl (kI, 3002, .inl fk)), (mr 6, .inl (kI, 3002, .inl fa)), (mr 8, .inl (kL, 3002, .inr (.inl fn)))]) (w1 := [(q_18, .inr (15, [.int 8, .int (nI pp), .int 0, .int 0, .int 0, .int 0, .long 0, .int 0, (.ref r_3), .ref la19, .ref sa19, .int 1, .null, .null])), (la19, .inl (kE, cp19, .inr (.inr (.inr (.inr f19))))), (sa19, .inl (kI, cp19, .inl g19))]) hP hD [4] [0, 1, 2, 3] rfl rfl (by decide) (by decide) hk1 hFc hP1 hD1
        replace hP := hPj
        replace hD := hDj
        clear hPj hDj
        replace hK := hK.app hK1
        generalize H1 = H at hP hS hgz ⊢
        replace hP : va_P (dC, dI) vwCl (([(m9, .inr (23, mA mr mv vf xl (nI zs) ff15 xa15 (nI T) (nI pp15) xi xt xn (nI ns) (nI vv) (nI bb15))), (mr 5, .inl (kI, 3002, .inl fk)), (mr 6, .inl (kI, 3002, .inl fa)), (mr 8, .inl (kL, 3002, .inr (.inl fn))), (q_18, .inr (15, [.int 8, .int (nI pp), .int 0, .int 0, .int 0, .int 0, .long 0, .int 0, (.ref r_3), .ref la19, .ref sa19, .int 1, .null, .null])), (la19, .inl (kE, cp19, .inr (.inr (.inr (.inr f19))))), (sa19, .inl (kI, cp19, .inl g19))] : va_W) ++ (sT L15 F15)) H := hP
        replace hD : va_D A (([(m9, .inr (23, mA mr mv vf xl (nI zs) ff15 xa15 (nI T) (nI pp15) xi xt xn (nI ns) (nI vv) (nI bb15))), (mr 5, .inl (kI, 3002, .inl fk)), (mr 6, .inl (kI, 3002, .inl fa)), (mr 8, .inl (kL, 3002, .inr (.inl fn))), (q_18, .inr (15, [.int 8, .int (nI pp), .int 0, .int 0, .int 0, .int 0, .long 0, .int 0, (.ref r_3), .ref la19, .ref sa19, .int 1, .null, .null])), (la19, .inl (kE, cp19, .inr (.inr (.inr (.inr f19))))), (sa19, .inl (kI, cp19, .inl g19))] : va_W) ++ (sT L15 F15)) := hD
        replace hK : va_K (dC, dI) vwCl [(kI, .int), (kL, .long), (kE, .object RX15), (kI, .int), (kE, .object RX15)] s := hK
        replace hK := hK.sub (tys' := [(kI, .int), (kL, .long), (kE, .object RX15)]) [0, 1, 2] rfl
        refine W.tight (k := (((8 * (ppA - pp) + 3 + 8 * (pp15 - (ppA + 1)) + 3) + 1) + 2)) (n := (((120 * (ppA - pp) + 48 + 120 * (pp15 - (ppA + 1)) + 48) + 14) + 8)) hgz.1 hgz.2 ?_
        clear hz1 hk1 hPc hDc hKc hFc hP1 hD1 hK1
        subst hf20_0
        refine lv_goto (tgt := 29) hx hb dX23_chain_132 (by decide) ?_
        by_cases hz_21 : ff15 = 0
        · subst hz_21
          have hg15 := hf16_2 rfl
          have hlthg15 := (isE_mem hg15.2).2
          refine W_q (fun Q1 hQ1 => ?_)
          have key1 : ∀ (n1 : Nat) (pp1 bb1 la sa cp n : Nat) (ff1 xa1 : Int32) (L1 : List Nat) (F1 : Nat → va_E) (f : Nat → Option Nat) (g : Nat → Int32) (H : Heap) (locs : List Loc) (ls : Array Slot), (1 ≤ n1 ∧ ppA < pp1 ∧ pp1 < T ∧ bb ≤ bb1 ∧ bb1 ≤ bb + (pp1 - pp) ∧ 1 ≤ n ∧ n ≤ cp ∧ 4 ≤ cp ∧ cp ≤ 4 + 2 * n ∧ pp + n ≤ pp1 ∧ T ≤ 3001) → (ff1 ≠ 0 ∨ T + 1 ≤ pp1 + n1) → (exS L F L1 F1) → (∀ i : Nat, i < n → ∃ x : Nat, f i = some x ∧ xO L1 F1 x) → (ff1 = 0 → bb1 ≤ 54 ∧ isE L1 F1 kE kI (24 * k + 18) r_3 pp ppA bb bbA ∧ chP 1 (isE L1 F1 kE kI (24 * k + 18)) f g n ppA pp1 bbA bb1) → va_P (dC, dI) vwCl (([(q_18, .inr (15, [.int 8, .int (nI pp), .int 0, .int 0, .int 0, .int 0, .long 0, .int 0, .ref r_3, .ref la, .ref sa, .int (nI n), .null, .null])), (la, .inl (kE, cp, .inr (.inr (.inr (.inr f))))), (sa, .inl (kI, cp, .inl g)), (m9, .inr (23, mA mr mv vf xl (nI zs) ff1 xa1 (nI T) (nI pp1) xi xt xn (nI ns) (nI vv) (nI bb1))), (mr 5, .inl (kI, 3002, .inl fk)), (mr 6, .inl (kI, 3002, .inl fa)), (mr 8, .inl (kL, 3002, .inr (.inl fn)))] : va_W) ++ (sT L1 F1)) H → va_D A (([(q_18, .inr (15, [.int 8, .int (nI pp), .int 0, .int 0, .int 0, .int 0, .long 0, .int 0, .ref r_3, .ref la, .ref sa, .int (nI n), .null, .null])), (la, .inl (kE, cp, .inr (.inr (.inr (.inr f))))), (sa, .inl (kI, cp, .inl g)), (m9, .inr (23, mA mr mv vf xl (nI zs) ff1 xa1 (nI T) (nI pp1) xi xt xn (nI ns) (nI vv) (nI bb1))), (mr 5, .inl (kI, 3002, .inl fk)), (mr 6, .inl (kI, 3002, .inl fa)), (mr 8, .inl (kL, 3002, .inr (.inl fn)))] : va_W) ++ (sT L1 F1)) → va_S A s.heap H locs → lv_has ls 6 [(3, .ref q_18), (2, .ref r_3), (0, .ref m9), (1, .int 5)] → W p l e (headSpec wp_c_xc5 ({ frames := 8 + 12 * k, cells := (8 * (T - pp) + 8), slots := (120 * (T - pp) + 360), locals := 177 + 279 * k })).room s m ([.ref m9, .int 5] : List Value).toArray below meth c H locs (8 * (pp1 - pp) + 4 - 3 * n) (120 * (pp1 - pp) + 62 + 4 * cp - 72 * n) Q1 (F0 m 29 ls []) := by
            intro n1
            induction n1 with
            | zero => intro pp1 bb1 la sa cp n ff1 xa1 L1 F1 f g H locs ls hr0 hr1 hr2 hr3 hr4; exact absurd hr0 (by omega)
            | succ n1 ih1 =>
              intro pp1 bb1 la sa cp n ff1 xa1 L1 F1 f g H locs ls hr0 hr1 hr2 hr3 hr4 hP hD hS hl
              refine lv_aload_n hx hb dX23_chain_29 rfl (lv_at hl 2 rfl) ?_
              by_cases hz_22 : ff1 = 0
              · subst hz_22
                have hr9 := hr4 rfl
                replace hPc := hP.subF (f' := [(m9, .inr (23, mA mr mv vf xl (nI zs) 0 xa1 (nI T) (nI pp1) xi xt xn (nI ns) (nI vv) (nI bb1)))]) [3] rfl
                replace hDc := hD.subF (f' := [(m9, .inr (23, mA mr mv vf xl (nI zs) 0 xa1 (nI T) (nI pp1) xi xt xn (nI ns) (nI vv) (nI bb1)))]) [3] (by decide) rfl
                replace hKc := hK.sub (tys' := []) [] rfl
                replace hFc := va_freeT (wc := [(m9, .inr (23, mA mr mv vf xl (nI zs) 0 xa1 (nI T) (nI pp1) xi xt xn (nI ns) (nI vv) (nI bb1)))]) hD hS hA [3] rfl
                refine va_calli (va_runV (As := []) (rest := []) ⟨hx, hb, hml, hown, hts⟩ (c_rok0 l dC dI m9 mr mv vf xl xa1 xi xt xn zs T pp1 ns vv bb1 kI fk fa H.size) (cwV 0 hts g_c_xc5_c_rok0_30 rfl rfl rfl (by decide +kernel) ⟨by show 0 + 1 ≤ 8 + 12 * k; omega, by show 8 + (1 + 11) + (0) ≤ 177 + 279 * k; omega⟩) ⟨fun a U g mk q => by obtain ⟨q0, q1, qP, qK, qD⟩ := q; exact ⟨q0, q1, qP, va_K.moved (u := U) (U := U.calling g mk a) (Vm.Alike.refl U.vm) qK, qD⟩, va_recv hKc hPc (ci := 23) (q0 := 0) rfl rfl, fun U hU hW => ⟨rfl, by rw [hU], by rw [hU]; exact hPc, va_K.moved hW.alike hKc, hDc.weaken (fun _ _ _ _ => trivial)⟩⟩ rfl rfl hl.1 rfl (lv_room (Nat.le_of_ble_eq_true rfl)) dX23_chain_30 ⟨(show (8 * (pp1 - pp) + 4 - 3 * n) + 0 ≤ (8 * (T - pp) + 8) by omega), (show (120 * (pp1 - pp) + 62 + 4 * cp - 72 * n) + 0 ≤ (120 * (T - pp) + 360) by omega)⟩) hS (fun q _ h => hFc q h) hFc (fun r_23 u tS H1 locs ht hvm hw hB hz1 hk1 hS => ?_)
                obtain ⟨hP1, hK1, hD1⟩ := hB
                rw [ht] at hP1
                replace hK1 := va_K.moved hvm.symm hK1
                obtain ⟨hPj, hDj⟩ := va_joinT (wr := [(q_18, .inr (15, [.int 8, .int (nI pp), .int 0, .int 0, .int 0, .int 0, .long 0, .int 0, .ref r_3, .ref la, .ref sa, .int (nI n), .null, .null])), (la, .inl (kE, cp, .inr (.inr (.inr (.inr f))))), (sa, .inl (kI, cp, .inl g)), (mr 5, .inl (kI, 3002, .inl fk)), (mr 6, .inl (kI, 3002, .inl fa)), (mr 8, .inl (kL, 3002, .inr (.inl fn)))]) (w1 := [(m9, .inr (23, mA mr mv vf xl (nI zs) 0 xa1 (nI T) (nI pp1) xi xt xn (nI ns) (nI vv) (nI bb1)))]) hP hD [3] [0, 1, 2, 4, 5, 6] rfl rfl (by decide) (by decide) hk1 hFc hP1 hD1
                replace hP := hPj
                replace hD := hDj
                clear hPj hDj
                generalize H1 = H at hP hS ⊢
                replace hP : va_P (dC, dI) vwCl (([(q_18, .inr (15, [.int 8, .int (nI pp), .int 0, .int 0, .int 0, .int 0, .long 0, .int 0, .ref r_3, .ref la, .ref sa, .int (nI n), .null, .null])), (la, .inl (kE, cp, .inr (.inr (.inr (.inr f))))), (sa, .inl (kI, cp, .inl g)), (mr 5, .inl (kI, 3002, .inl fk)), (mr 6, .inl (kI, 3002, .inl fa)), (mr 8, .inl (kL, 3002, .inr (.inl fn))), (m9, .inr (23, mA mr mv vf xl (nI zs) 0 xa1 (nI T) (nI pp1) xi xt xn (nI ns) (nI vv) (nI bb1)))] : va_W) ++ (sT L1 F1)) H := hP
                replace hD : va_D A (([(q_18, .inr (15, [.int 8, .int (nI pp), .int 0, .int 0, .int 0, .int 0, .long 0, .int 0, .ref r_3, .ref la, .ref sa, .int (nI n), .null, .null])), (la, .inl (kE, cp, .inr (.inr (.inr (.inr f))))), (sa, .inl (kI, cp, .inl g)), (mr 5, .inl (kI, 3002, .inl fk)), (mr 6, .inl (kI, 3002, .inl fa)), (mr 8, .inl (kL, 3002, .inr (.inl fn))), (m9, .inr (23, mA mr mv vf xl (nI zs) 0 xa1 (nI T) (nI pp1) xi xt xn (nI ns) (nI vv) (nI bb1)))] : va_W) ++ (sT L1 F1)) := hD
                replace hK : va_K (dC, dI) vwCl [(kI, .int), (kL, .long), (kE, .object RX15)] s := hK
                clear hz1 hk1 hPc hDc hKc hFc hP1 hD1 hK1
                obtain rfl : r_23 = 1 := hw
                refine lv_if_eq (tgt := 135) hx hb dX23_chain_33 (by decide) (fun c_24 => absurd c_24 (by decide)) (fun _ => ?_)
                refine lv_aload_n hx hb dX23_chain_36 rfl (lv_at hl 2 rfl) ?_
                refine va_get (D := (dC, dI)) (ci := 23) (v := .ref (mr 5)) (C := RX23) (T := TX23) (N := 89) hx hb hts in_c_xc5_X23 hown hK hP 6 rfl rfl 5 (by decide) (hts (.fieldLink RX23 25 "OwnedPlacesModel" "tokenKind" "[I") (wm_c_xc5 13 rfl)) (fun _ h9 => h9) rfl dX23_chain_37 ?_
                refine lv_aload_n hx hb dX23_chain_40 rfl (lv_at hl 2 rfl) ?_
                refine va_get (D := (dC, dI)) (ci := 23) (v := .int (nI pp1)) (C := RX23) (T := TX23) (N := 89) hx hb hts in_c_xc5_X23 hown hK hP 6 rfl rfl 10 (by decide) (hts (.fieldLink RX23 86 "OwnedPlacesModel" "p" "I") (wm_c_xc5 14 rfl)) (fun _ h9 => h9) rfl dX23_chain_41 ?_
                refine va_iald hx hb hK hP 3 0 rfl rfl (vp_in_nI (show pp1 < 3002 by omega) (by decide)) dX23_chain_44 ?_
                refine lv_topi (fun v_25 ev_25 => ?_)
                obtain rfl : v_25 = fk pp1 := ev_25.trans (by rw [nI_clamp (by omega)])
                replace hr1 := hr1.resolve_left (fun q => q rfl)
                replace hPc := hP.subF (f' := []) [] rfl
                replace hDc := hD.subF (f' := []) [] (by decide) rfl
                replace hKc := hK.sub (tys' := []) [] rfl
                replace hFc := va_freeT (wc := []) hD hS hA [] rfl
                refine va_calli (va_runS (As := [.int (fk pp1)]) (rest := []) ⟨hx, hb, hml, hown, hts⟩ (c_rlv l dC dI (fk pp1) H.size) (va_cwS 1 hts g_c_xc5_c_rlv_45 rfl rfl rfl (by decide +kernel) ⟨by show 0 + 1 ≤ 8 + 12 * k; omega, by show 8 + (1 + 11) + (0) ≤ 177 + 279 * k; omega⟩) ⟨fun a U g mk q => by obtain ⟨q0, q1, qP, qK, qD⟩ := q; exact ⟨q0, q1, qP, va_K.moved (u := U) (U := U.calling g mk a) (Vm.Alike.refl U.vm) qK, qD⟩, fun U hU hW => ⟨rfl, by rw [hU], by rw [hU]; exact hPc, va_K.moved hW.alike hKc, hDc.weaken (fun _ _ _ _ => trivial)⟩⟩ rfl rfl hl.1 rfl (lv_room (Nat.le_of_ble_eq_true rfl)) dX23_chain_45 ⟨(show (8 * (pp1 - pp) + 4 - 3 * n) + 0 ≤ (8 * (T - pp) + 8) by omega), (show (120 * (pp1 - pp) + 62 + 4 * cp - 72 * n) + 0 ≤ (120 * (T - pp) + 360) by omega)⟩) hS (fun q _ h => hFc q h) hFc (fun r_26 u tS H1 locs ht hvm hw hB hz1 hk1 hS => ?_)
                obtain ⟨hP1, hK1, hD1⟩ := hB
                rw [ht] at hP1
                replace hK1 := va_K.moved hvm.symm hK1
                obtain ⟨hPj, hDj⟩ := va_joinT (wr := [(q_18, .inr (15, [.int 8, .int (nI pp), .int 0, .int 0, .int 0, .int 0, .long 0, .int 0, .ref r_3, .ref la, .ref sa, .int (nI n), .null, .null])), (la, .inl (kE, cp, .inr (.inr (.inr (.inr f))))), (sa, .inl (kI, cp, .inl g)), (mr 5, .inl (kI, 3002, .inl fk)), (mr 6, .inl (kI, 3002, .inl fa)), (mr 8, .inl (kL, 3002, .inr (.inl fn))), (m9, .inr (23, mA mr mv vf xl (nI zs) 0 xa1 (nI T) (nI pp1) xi xt xn (nI ns) (nI vv) (nI bb1)))]) (w1 := []) hP hD [] [0, 1, 2, 3, 4, 5, 6] rfl rfl (by decide) (by decide) hk1 hFc hP1 hD1
                replace hP := hPj
                replace hD := hDj
                clear hPj hDj
                generalize H1 = H at hP hS ⊢
                replace hP : va_P (dC, dI) vwCl (([(q_18, .inr (15, [.int 8, .int (nI pp), .int 0, .int 0, .int 0, .int 0, .long 0, .int 0, .ref r_3, .ref la, .ref sa, .int (nI n), .null, .null])), (la, .inl (kE, cp, .inr (.inr (.inr (.inr f))))), (sa, .inl (kI, cp, .inl g)), (mr 5, .inl (kI, 3002, .inl fk)), (mr 6, .inl (kI, 3002, .inl fa)), (mr 8, .inl (kL, 3002, .inr (.inl fn))), (m9, .inr (23, mA mr mv vf xl (nI zs) 0 xa1 (nI T) (nI pp1) xi xt xn (nI ns) (nI vv) (nI bb1)))] : va_W) ++ (sT L1 F1)) H := hP
                replace hD : va_D A (([(q_18, .inr (15, [.int 8, .int (nI pp), .int 0, .int 0, .int 0, .int 0, .long 0, .int 0, .ref r_3, .ref la, .ref sa, .int (nI n), .null, .null])), (la, .inl (kE, cp, .inr (.inr (.inr (.inr f))))), (sa, .inl (kI, cp, .inl g)), (mr 5, .inl (kI, 3002, .inl fk)), (mr 6, .inl (kI, 3002, .inl fa)), (mr 8, .inl (kL, 3002, .inr (.inl fn))), (m9, .inr (23, mA mr mv vf xl (nI zs) 0 xa1 (nI T) (nI pp1) xi xt xn (nI ns) (nI vv) (nI bb1)))] : va_W) ++ (sT L1 F1)) := hD
                replace hK : va_K (dC, dI) vwCl [(kI, .int), (kL, .long), (kE, .object RX15)] s := hK
                clear hz1 hk1 hPc hDc hKc hFc hP1 hD1 hK1
                have hlv : r_26 = lvR (fk pp1) := hw
                refine lv_iload_n hx hb dX23_chain_48 rfl (lv_at hl 3 rfl) ?_
                refine lv_icmp_ne (tgt := 135) hx hb dX23_chain_49 (by decide) (fun hc_27 => ?_) (fun hc_27 => ?_)
                · refine lv_aload_n hx hb dX23_chain_135 rfl (lv_at hl 0 rfl) ?_
                  refine lv_ifnonnull (tgt := 143) hx hb dX23_chain_136 (by decide) ?_
                  refine lv_aload_n hx hb dX23_chain_143 rfl (lv_at hl 0 rfl) ?_
                  replace hP : va_P (dC, dI) vwCl ((([(mr 5, .inl (kI, 3002, .inl fk)), (mr 6, .inl (kI, 3002, .inl fa)), (mr 8, .inl (kL, 3002, .inr (.inl fn))), (m9, .inr (23, mA mr mv vf xl (nI zs) 0 xa1 (nI T) (nI pp1) xi xt xn (nI ns) (nI vv) (nI bb1)))] : va_W) ++ ([(q_18, .inr (15, [.int 8, .int (nI pp), .int 0, .int 0, .int 0, .int 0, .long 0, .int 0, .ref r_3, .ref la, .ref sa, .int (nI n), .null, .null])), (la, .inl (kE, cp, .inr (.inr (.inr (.inr f))))), (sa, .inl (kI, cp, .inl g))] : va_W)) ++ sT L1 F1) H := hP.subT (f' := [(mr 5, .inl (kI, 3002, .inl fk)), (mr 6, .inl (kI, 3002, .inl fa)), (mr 8, .inl (kL, 3002, .inr (.inl fn))), (m9, .inr (23, mA mr mv vf xl (nI zs) 0 xa1 (nI T) (nI pp1) xi xt xn (nI ns) (nI vv) (nI bb1))), (q_18, .inr (15, [.int 8, .int (nI pp), .int 0, .int 0, .int 0, .int 0, .long 0, .int 0, .ref r_3, .ref la, .ref sa, .int (nI n), .null, .null])), (la, .inl (kE, cp, .inr (.inr (.inr (.inr f))))), (sa, .inl (kI, cp, .inl g))]) [3, 4, 5, 6, 0, 1, 2] rfl
                  replace hD : va_D A ((([(mr 5, .inl (kI, 3002, .inl fk)), (mr 6, .inl (kI, 3002, .inl fa)), (mr 8, .inl (kL, 3002, .inr (.inl fn))), (m9, .inr (23, mA mr mv vf xl (nI zs) 0 xa1 (nI T) (nI pp1) xi xt xn (nI ns) (nI vv) (nI bb1)))] : va_W) ++ ([(q_18, .inr (15, [.int 8, .int (nI pp), .int 0, .int 0, .int 0, .int 0, .long 0, .int 0, .ref r_3, .ref la, .ref sa, .int (nI n), .null, .null])), (la, .inl (kE, cp, .inr (.inr (.inr (.inr f))))), (sa, .inl (kI, cp, .inl g))] : va_W)) ++ sT L1 F1) := hD.subT (f' := [(mr 5, .inl (kI, 3002, .inl fk)), (mr 6, .inl (kI, 3002, .inl fa)), (mr 8, .inl (kL, 3002, .inr (.inl fn))), (m9, .inr (23, mA mr mv vf xl (nI zs) 0 xa1 (nI T) (nI pp1) xi xt xn (nI ns) (nI vv) (nI bb1))), (q_18, .inr (15, [.int 8, .int (nI pp), .int 0, .int 0, .int 0, .int 0, .long 0, .int 0, .ref r_3, .ref la, .ref sa, .int (nI n), .null, .null])), (la, .inl (kE, cp, .inr (.inr (.inr (.inr f))))), (sa, .inl (kI, cp, .inl g))]) [3, 4, 5, 6, 0, 1, 2] (by decide) rfl
                  obtain ⟨L9, F9, hx9, hm9, hP, hD⟩ := st_fileL [(q_18, .inr (15, [.int 8, .int (nI pp), .int 0, .int 0, .int 0, .int 0, .long 0, .int 0, .ref r_3, .ref la, .ref sa, .int (nI n), .null, .null])), (la, .inl (kE, cp, .inr (.inr (.inr (.inr f))))), (sa, .inl (kI, cp, .inl g))] hP hD
                  have hm9_0 := hm9 _ (List.mem_of_getElem? (i := 0) rfl)
                  have hm9_1 := hm9 _ (List.mem_of_getElem? (i := 1) rfl)
                  have hm9_2 := hm9 _ (List.mem_of_getElem? (i := 2) rfl)
                  refine W.grow (fun hgs0 hgs1 => ?_)
                  have hP9 := hP.subT (f' := [(m9, .inr (23, mA mr mv vf xl (nI zs) 0 xa1 (nI T) (nI pp1) xi xt xn (nI ns) (nI vv) (nI bb1))), (mr 5, .inl (kI, 3002, .inl fk)), (mr 6, .inl (kI, 3002, .inl fa)), (mr 8, .inl (kL, 3002, .inr (.inl fn)))]) [3, 0, 1, 2] rfl
                  have hD9 := hD.subT (f' := [(m9, .inr (23, mA mr mv vf xl (nI zs) 0 xa1 (nI T) (nI pp1) xi xt xn (nI ns) (nI vv) (nI bb1))), (mr 5, .inl (kI, 3002, .inl fk)), (mr 6, .inl (kI, 3002, .inl fa)), (mr 8, .inl (kL, 3002, .inr (.inl fn)))]) [3, 0, 1, 2] (by decide) rfl
                  have hK9 := hK.sub (tys' := [(kI, .int), (kL, .long), (kE, .object RX15)]) [0, 1, 2] rfl
                  refine W.widen (k := (8 * (T - pp) + 8)) (n := (120 * (T - pp) + 360)) (by omega) (by omega) ?_
                  subst hQ1
                  exact W.aret hx hb hr (Or.inl ⟨_, rfl⟩) (Or.inr ⟨q_18, rfl⟩) (fun tS ht hW => ⟨⟨(), q_18, rfl, trivial, L9, F9, 0, xa1, pp1, bb1, ⟨hr2.tr hx9, hm9_0.1, _, hm9_0.2⟩, ⟨by omega, by omega, by omega, by omega⟩, (fun _ => ⟨hr9.1, isE_6 hm9_0.1 (by omega) hm9_0.2 (by omega) (isE_im hx9 _ (Nat.le_refl _) hr9.2.1) (Or.inr ⟨la, sa, cp, _, f, g, rfl, rfl, hm9_1.1, hm9_2.1, hm9_1.2, hm9_2.2, by omega, Nat.le_refl _, chP_im (fun x p q b c z => isE_im hx9 _ (Nat.le_refl _) z) hr9.2.2⟩)⟩), by rw [ht]; exact ⟨by omega, by omega⟩, by rw [ht]; exact hP9, va_K.moved hW.alike hK9, hD9⟩, hS.F ht⟩) hS.2.2 dX23_chain_144
                · refine lv_aload_n hx hb dX23_chain_52 rfl (lv_at hl 2 rfl) ?_
                  refine va_get (D := (dC, dI)) (ci := 23) (v := .int (nI pp1)) (C := RX23) (T := TX23) (N := 89) hx hb hts in_c_xc5_X23 hown hK hP 6 rfl rfl 10 (by decide) (hts (.fieldLink RX23 86 "OwnedPlacesModel" "p" "I") (wm_c_xc5 14 rfl)) (fun _ h9 => h9) rfl dX23_chain_53 ?_
                  refine lv_istore (lv' := [(4, .int (nI pp1)), (3, .ref q_18), (2, .ref r_3), (0, .ref m9), (1, .int 5)]) hx hb dX23_chain_56 hl (by decide) rfl (fun ls hl => ?_)
                  refine lv_aload_n hx hb dX23_chain_58 rfl (lv_at hl 3 rfl) ?_
                  refine lv_dup hx hb dX23_chain_59 rfl ?_
                  refine va_get (D := (dC, dI)) (ci := 23) (v := .int (nI pp1)) (C := RX23) (T := TX23) (N := 89) hx hb hts in_c_xc5_X23 hown hK hP 6 rfl rfl 10 (by decide) (hts (.fieldLink RX23 86 "OwnedPlacesModel" "p" "I") (wm_c_xc5 14 rfl)) (fun _ h9 => h9) rfl dX23_chain_60 ?_
                  refine lv_iconst (v := 1) hx hb dX23_chain_63 (by decide) ?_
                  have hp_28 : pp1 + 1 < T := kne3 (K := fk pp1) hk0 hr0.2.2.1 rfl (lvR_0 (hlv.symm.trans hc_27) (by decide))
                  refine lv_iadd hx hb dX23_chain_64 ?_
                  refine lv_topi (fun f_29 ef_29 => ?_)
                  obtain rfl : f_29 = nI (pp1 + 1) := ef_29.trans (nI_1 _)
                  refine va_put (D := (dC, dI)) (ci := 23) (v := .int (nI (pp1 + 1))) (ty := .int) (C := RX23) (T := TX23) (N := 89) hx hb hts in_c_xc5_X23 tyX23 tyX23_ok nmX23 hown hK hP hD hS 6 rfl rfl 10 (by decide) (hts (.fieldLink RX23 86 "OwnedPlacesModel" "p" "I") (wm_c_xc5 14 rfl)) (fun _ h9 => h9) rfl (by decide +kernel) rfl rfl (Nat.le_of_ble_eq_true rfl) dX23_chain_65 (fun H locs hP hD hS => ?_)
                  replace hP : va_P (dC, dI) vwCl (([(q_18, .inr (15, [.int 8, .int (nI pp), .int 0, .int 0, .int 0, .int 0, .long 0, .int 0, .ref r_3, .ref la, .ref sa, .int (nI n), .null, .null])), (la, .inl (kE, cp, .inr (.inr (.inr (.inr f))))), (sa, .inl (kI, cp, .inl g)), (mr 5, .inl (kI, 3002, .inl fk)), (mr 6, .inl (kI, 3002, .inl fa)), (mr 8, .inl (kL, 3002, .inr (.inl fn))), (m9, .inr (23, mA mr mv vf xl (nI zs) 0 xa1 (nI T) (nI (pp1 + 1)) xi xt xn (nI ns) (nI vv) (nI bb1)))] : va_W) ++ (sT L1 F1)) H := hP
                  replace hD : va_D A (([(q_18, .inr (15, [.int 8, .int (nI pp), .int 0, .int 0, .int 0, .int 0, .long 0, .int 0, .ref r_3, .ref la, .ref sa, .int (nI n), .null, .null])), (la, .inl (kE, cp, .inr (.inr (.inr (.inr f))))), (sa, .inl (kI, cp, .inl g)), (mr 5, .inl (kI, 3002, .inl fk)), (mr 6, .inl (kI, 3002, .inl fa)), (mr 8, .inl (kL, 3002, .inr (.inl fn))), (m9, .inr (23, mA mr mv vf xl (nI zs) 0 xa1 (nI T) (nI (pp1 + 1)) xi xt xn (nI ns) (nI vv) (nI bb1)))] : va_W) ++ (sT L1 F1)) := hD
                  refine lv_aload_n hx hb dX23_chain_68 rfl (lv_at hl 3 rfl) ?_
                  refine lv_iload hx hb dX23_chain_69 (lv_at hl 0 rfl) ?_
                  by_cases hn_30 : ns = 16
                  · replace hPc := hP.subF (f' := [(m9, .inr (23, mA mr mv vf xl (nI zs) 0 xa1 (nI T) (nI (pp1 + 1)) xi xt xn (nI ns) (nI vv) (nI bb1))), (mr 6, .inl (kI, 3002, .inl fa))]) [6, 4] rfl
                    replace hDc := hD.subF (f' := [(m9, .inr (23, mA mr mv vf xl (nI zs) 0 xa1 (nI T) (nI (pp1 + 1)) xi xt xn (nI ns) (nI vv) (nI bb1))), (mr 6, .inl (kI, 3002, .inl fa))]) [6, 4] (by decide) rfl
                    replace hKc := hK.sub (tys' := [(kI, .int)]) [0] rfl
                    replace hFc := va_freeT (wc := [(m9, .inr (23, mA mr mv vf xl (nI zs) 0 xa1 (nI T) (nI (pp1 + 1)) xi xt xn (nI ns) (nI vv) (nI bb1))), (mr 6, .inl (kI, 3002, .inl fa))]) hD hS hA [6, 4] rfl
                    refine va_callv (va_runV (As := [.int (nI pp1)]) (rest := []) ⟨hx, hb, hml, hown, hts⟩ (c_renN l dC dI m9 mr mv vf xl xa1 xi xt xn zs T (pp1 + 1) ns vv bb1 kI fk fa pp1 H.size (by omega) hn_30) (cwV 1 hts g_c_xc5_c_renN_71 rfl rfl rfl (by decide +kernel) ⟨by show 1 + 1 ≤ 8 + 12 * k; omega, by show 8 + (2 + 11) + (22) ≤ 177 + 279 * k; omega⟩) ⟨fun a U g mk q => by obtain ⟨q0, q1, qP, qK, qD⟩ := q; exact ⟨q0, q1, qP, va_K.moved (u := U) (U := U.calling g mk a) (Vm.Alike.refl U.vm) qK, qD⟩, va_recv hKc hPc (ci := 23) (q0 := 0) rfl rfl, fun U hU hW => ⟨rfl, by rw [hU], by rw [hU]; exact hPc, va_K.moved hW.alike hKc, hDc.weaken (fun _ _ _ _ => trivial)⟩⟩ rfl rfl hl.1 rfl (lv_room (Nat.le_of_ble_eq_true rfl)) dX23_chain_71 ⟨(show (8 * (pp1 - pp) + 4 - 3 * n) + 0 ≤ (8 * (T - pp) + 8) by omega), (show (120 * (pp1 - pp) + 62 + 4 * cp - 72 * n) + 0 ≤ (120 * (T - pp) + 360) by omega)⟩) hS (fun q _ h => hFc q h) hFc (fun u tS H1 locs ht hvm hw hB hz1 hk1 hS => ?_)
                    obtain ⟨ff_31, xa_32, hf33_0, hP1, hK1, hD1⟩ := hB
                    rw [ht] at hP1
                    replace hK1 := va_K.moved hvm.symm hK1
                    obtain ⟨hPj, hDj⟩ := va_joinT (wr := [(q_18, .inr (15, [.int 8, .int (nI pp), .int 0, .int 0, .int 0, .int 0, .long 0, .int 0, .ref r_3, .ref la, .ref sa, .int (nI n), .null, .null])), (la, .inl (kE, cp, .inr (.inr (.inr (.inr f))))), (sa, .inl (kI, cp, .inl g)), (mr 5, .inl (kI, 3002, .inl fk)), (mr 8, .inl (kL, 3002, .inr (.inl fn)))]) (w1 := [(m9, .inr (23, mA mr mv vf xl (nI zs) ff_31 xa_32 (nI T) (nI (pp1 + 1)) xi xt xn (nI (ns + 1)) (nI vv) (nI bb1))), (mr 6, .inl (kI, 3002, .inl fa))]) hP hD [6, 4] [0, 1, 2, 3, 5] rfl rfl (by decide) (by decide) hk1 hFc hP1 hD1
                    replace hP := hPj
                    replace hD := hDj
                    clear hPj hDj
                    replace hK := hK.app hK1
                    generalize H1 = H at hP hS ⊢
                    replace hP : va_P (dC, dI) vwCl (([(q_18, .inr (15, [.int 8, .int (nI pp), .int 0, .int 0, .int 0, .int 0, .long 0, .int 0, .ref r_3, .ref la, .ref sa, .int (nI n), .null, .null])), (la, .inl (kE, cp, .inr (.inr (.inr (.inr f))))), (sa, .inl (kI, cp, .inl g)), (mr 5, .inl (kI, 3002, .inl fk)), (mr 8, .inl (kL, 3002, .inr (.inl fn))), (m9, .inr (23, mA mr mv vf xl (nI zs) ff_31 xa_32 (nI T) (nI (pp1 + 1)) xi xt xn (nI (ns + 1)) (nI vv) (nI bb1))), (mr 6, .inl (kI, 3002, .inl fa))] : va_W) ++ (sT L1 F1)) H := hP
                    replace hD : va_D A (([(q_18, .inr (15, [.int 8, .int (nI pp), .int 0, .int 0, .int 0, .int 0, .long 0, .int 0, .ref r_3, .ref la, .ref sa, .int (nI n), .null, .null])), (la, .inl (kE, cp, .inr (.inr (.inr (.inr f))))), (sa, .inl (kI, cp, .inl g)), (mr 5, .inl (kI, 3002, .inl fk)), (mr 8, .inl (kL, 3002, .inr (.inl fn))), (m9, .inr (23, mA mr mv vf xl (nI zs) ff_31 xa_32 (nI T) (nI (pp1 + 1)) xi xt xn (nI (ns + 1)) (nI vv) (nI bb1))), (mr 6, .inl (kI, 3002, .inl fa))] : va_W) ++ (sT L1 F1)) := hD
                    replace hK : va_K (dC, dI) vwCl [(kI, .int), (kL, .long), (kE, .object RX15), (kI, .int)] s := hK
                    replace hK := hK.sub (tys' := [(kI, .int), (kL, .long), (kE, .object RX15)]) [0, 1, 2] rfl
                    clear hz1 hk1 hPc hDc hKc hFc hP1 hD1 hK1
                    refine lv_aload_n hx hb dX23_chain_74 rfl (lv_at hl 3 rfl) ?_
                    refine lv_iload_n hx hb dX23_chain_75 rfl (lv_at hl 4 rfl) ?_
                    refine lv_iconst (v := 1) hx hb dX23_chain_76 (by decide) ?_
                    refine lv_iadd hx hb dX23_chain_77 ?_
                    refine lv_topi (fun f_34 ef_34 => ?_)
                    obtain rfl : f_34 = 6 := ef_34.trans (by decide)
                    replace hPc := hP.subT (f' := [(m9, .inr (23, mA mr mv vf xl (nI zs) ff_31 xa_32 (nI T) (nI (pp1 + 1)) xi xt xn (nI (ns + 1)) (nI vv) (nI bb1))), (mr 5, .inl (kI, 3002, .inl fk)), (mr 6, .inl (kI, 3002, .inl fa))]) [5, 3, 6] rfl
                    replace hDc := hD.subT (f' := [(m9, .inr (23, mA mr mv vf xl (nI zs) ff_31 xa_32 (nI T) (nI (pp1 + 1)) xi xt xn (nI (ns + 1)) (nI vv) (nI bb1))), (mr 5, .inl (kI, 3002, .inl fk)), (mr 6, .inl (kI, 3002, .inl fa))]) [5, 3, 6] (by decide) rfl
                    replace hKc := hK.sub (tys' := [(kI, .int)]) [0] rfl
                    replace hFc := va_freeB (wc := [(m9, .inr (23, mA mr mv vf xl (nI zs) ff_31 xa_32 (nI T) (nI (pp1 + 1)) xi xt xn (nI (ns + 1)) (nI vv) (nI bb1))), (mr 5, .inl (kI, 3002, .inl fk)), (mr 6, .inl (kI, 3002, .inl fa))]) hD hS hA [5, 3, 6] rfl
                    refine W.grow (fun hgs0 hgs1 => ?_)
                    refine va_callr (va_runV (As := [.int 6]) (rest := []) ⟨hx, hb, hml, hown, hts⟩ (c_xc6B l dC dI m9 mr mv vf xl xa_32 xi xt xn zs T (pp1 + 1) (ns + 1) vv bb1 kI fk fa ff_31 L1 F1 (slN H) H.size hf33_0) (cwV 1 hts g_c_xc5_c_xc6B_78 rfl rfl rfl (by decide +kernel) ⟨by show 3 + 1 ≤ 8 + 12 * k; omega, by show 8 + (6 + 11) + (54) ≤ 177 + 279 * k; omega⟩) ⟨fun a U g mk q => by obtain ⟨q0, q1, qP, qK, qD, qx0, qx1⟩ := q; exact ⟨q0, q1, qP, va_K.moved (u := U) (U := U.calling g mk a) (Vm.Alike.refl U.vm) qK, qD, nsM.same (u := U) (U := U.calling g mk a) rfl qx0, qx1⟩, va_recv hKc hPc (ci := 23) (q0 := 0) rfl rfl, fun U hU hW => ⟨rfl, by rw [hU], by rw [hU]; exact hPc, va_K.moved hW.alike hKc, hDc.weaken (fun _ _ _ _ => trivial), nsM.warm hW hns, by rw [hU]⟩⟩ rfl rfl hl.1 rfl (lv_room (Nat.le_of_ble_eq_true rfl)) dX23_chain_78 ⟨(show (8 * (pp1 - pp) + 4 - 3 * n) + 1 ≤ (8 * (T - pp) + 8) by omega), (show (120 * (pp1 - pp) + 62 + 4 * cp - 72 * n) + 14 ≤ (120 * (T - pp) + 360) by omega)⟩) hS (fun q _ h => hFc q h) hFc (fun u r_35 tS H1 locs ht hvm hw hB hz1 hk1 hS => ?_)
                    obtain ⟨L34, F34, hf35_0, hf35_1, hP1, hK1, hD1⟩ := hB
                    rw [ht] at hP1
                    replace hK1 := va_K.moved hvm.symm hK1
                    rw [ht] at hf35_1
                    have hgz : H1.size ≤ s.heap.size + (((8 * (pp1 - pp) + 4 - 3 * n) + 1)) ∧ slN H1 ≤ slN s.heap + (((120 * (pp1 - pp) + 62 + 4 * cp - 72 * n) + 14)) := ⟨by have := hf35_1.1; omega, by have := hf35_1.2; omega⟩
                    obtain ⟨hPj, hDj⟩ := va_joinB (wr := [(q_18, .inr (15, [.int 8, .int (nI pp), .int 0, .int 0, .int 0, .int 0, .long 0, .int 0, .ref r_3, .ref la, .ref sa, .int (nI n), .null, .null])), (la, .inl (kE, cp, .inr (.inr (.inr (.inr f))))), (sa, .inl (kI, cp, .inl g)), (mr 8, .inl (kL, 3002, .inr (.inl fn)))]) (w1 := [(m9, .inr (23, mA mr mv vf xl (nI zs) ff_31 xa_32 (nI T) (nI (pp1 + 1)) xi xt xn (nI (ns + 1)) (nI vv) (nI bb1))), (mr 5, .inl (kI, 3002, .inl fk)), (mr 6, .inl (kI, 3002, .inl fa))]) hP hD [5, 3, 6] [0, 1, 2, 4] rfl rfl (by decide) (by decide) hk1 hFc hP1 hD1
                    replace hP := hPj
                    replace hD := hDj
                    clear hPj hDj
                    replace hK := hK.app hK1
                    generalize H1 = H at hP hS hgz ⊢
                    replace hP : va_P (dC, dI) vwCl (([(q_18, .inr (15, [.int 8, .int (nI pp), .int 0, .int 0, .int 0, .int 0, .long 0, .int 0, .ref r_3, .ref la, .ref sa, .int (nI n), .null, .null])), (la, .inl (kE, cp, .inr (.inr (.inr (.inr f))))), (sa, .inl (kI, cp, .inl g)), (mr 8, .inl (kL, 3002, .inr (.inl fn))), (m9, .inr (23, mA mr mv vf xl (nI zs) ff_31 xa_32 (nI T) (nI (pp1 + 1)) xi xt xn (nI (ns + 1)) (nI vv) (nI bb1))), (mr 5, .inl (kI, 3002, .inl fk)), (mr 6, .inl (kI, 3002, .inl fa))] : va_W) ++ (sT L34 F34)) H := hP
                    replace hD : va_D A (([(q_18, .inr (15, [.int 8, .int (nI pp), .int 0, .int 0, .int 0, .int 0, .long 0, .int 0, .ref r_3, .ref la, .ref sa, .int (nI n), .null, .null])), (la, .inl (kE, cp, .inr (.inr (.inr (.inr f))))), (sa, .inl (kI, cp, .inl g)), (mr 8, .inl (kL, 3002, .inr (.inl fn))), (m9, .inr (23, mA mr mv vf xl (nI zs) ff_31 xa_32 (nI T) (nI (pp1 + 1)) xi xt xn (nI (ns + 1)) (nI vv) (nI bb1))), (mr 5, .inl (kI, 3002, .inl fk)), (mr 6, .inl (kI, 3002, .inl fa))] : va_W) ++ (sT L34 F34)) := hD
                    replace hK : va_K (dC, dI) vwCl [(kI, .int), (kL, .long), (kE, .object RX15), (kI, .int)] s := hK
                    replace hK := hK.sub (tys' := [(kI, .int), (kL, .long), (kE, .object RX15)]) [0, 1, 2] rfl
                    refine W.tight (k := ((8 * (pp1 - pp) + 4 - 3 * n) + 1)) (n := ((120 * (pp1 - pp) + 62 + 4 * cp - 72 * n) + 14)) hgz.1 hgz.2 ?_
                    clear hz1 hk1 hPc hDc hKc hFc hP1 hD1 hK1
                    refine lv_astore (lv' := [(5, .ref r_35), (4, .int (nI pp1)), (3, .ref q_18), (2, .ref r_3), (0, .ref m9), (1, .int 5)]) hx hb dX23_chain_81 hl (by decide) rfl (fun ls hl => ?_)
                    refine lv_aload_n hx hb dX23_chain_83 rfl (lv_at hl 4 rfl) ?_
                    refine lv_dup hx hb dX23_chain_84 rfl ?_
                    refine va_get (D := (dC, dI)) (ci := 23) (v := .int (nI (ns + 1))) (C := RX23) (T := TX23) (N := 89) hx hb hts in_c_xc5_X23 hown hK hP 4 rfl rfl 15 (by decide) (hts (.fieldLink RX23 104 "OwnedPlacesModel" "nest" "I") (wm_c_xc5 19 rfl)) (fun _ h9 => h9) rfl dX23_chain_85 ?_
                    refine lv_iconst (v := 1) hx hb dX23_chain_88 (by decide) ?_
                    refine lv_isub hx hb dX23_chain_89 ?_
                    refine lv_topi (fun f_36 ef_36 => ?_)
                    obtain rfl : f_36 = nI ns := ef_36.trans (nI_pred _)
                    refine va_put (D := (dC, dI)) (ci := 23) (v := .int (nI ns)) (ty := .int) (C := RX23) (T := TX23) (N := 89) hx hb hts in_c_xc5_X23 tyX23 tyX23_ok nmX23 hown hK hP hD hS 4 rfl rfl 15 (by decide) (hts (.fieldLink RX23 104 "OwnedPlacesModel" "nest" "I") (wm_c_xc5 19 rfl)) (fun _ h9 => h9) rfl (by decide +kernel) rfl rfl (Nat.le_of_ble_eq_true rfl) dX23_chain_90 (fun H locs hP hD hS => ?_)
                    replace hP : va_P (dC, dI) vwCl (([(q_18, .inr (15, [.int 8, .int (nI pp), .int 0, .int 0, .int 0, .int 0, .long 0, .int 0, .ref r_3, .ref la, .ref sa, .int (nI n), .null, .null])), (la, .inl (kE, cp, .inr (.inr (.inr (.inr f))))), (sa, .inl (kI, cp, .inl g)), (mr 8, .inl (kL, 3002, .inr (.inl fn))), (m9, .inr (23, mA mr mv vf xl (nI zs) ff_31 xa_32 (nI T) (nI (pp1 + 1)) xi xt xn (nI ns) (nI vv) (nI bb1))), (mr 5, .inl (kI, 3002, .inl fk)), (mr 6, .inl (kI, 3002, .inl fa))] : va_W) ++ (sT L34 F34)) H := hP
                    replace hD : va_D A (([(q_18, .inr (15, [.int 8, .int (nI pp), .int 0, .int 0, .int 0, .int 0, .long 0, .int 0, .ref r_3, .ref la, .ref sa, .int (nI n), .null, .null])), (la, .inl (kE, cp, .inr (.inr (.inr (.inr f))))), (sa, .inl (kI, cp, .inl g)), (mr 8, .inl (kL, 3002, .inr (.inl fn))), (m9, .inr (23, mA mr mv vf xl (nI zs) ff_31 xa_32 (nI T) (nI (pp1 + 1)) xi xt xn (nI ns) (nI vv) (nI bb1))), (mr 5, .inl (kI, 3002, .inl fk)), (mr 6, .inl (kI, 3002, .inl fa))] : va_W) ++ (sT L34 F34)) := hD
                    refine lv_aload_n hx hb dX23_chain_93 rfl (lv_at hl 2 rfl) ?_
                    refine lv_ifnonnull (tgt := 124) hx hb dX23_chain_94 (by decide) ?_
                    refine lv_aload_n hx hb dX23_chain_124 rfl (lv_at hl 2 rfl) ?_
                    refine lv_aload hx hb dX23_chain_125 (lv_at hl 0 rfl) ?_
                    refine lv_iload hx hb dX23_chain_127 (lv_at hl 1 rfl) ?_
                    replace hPc := hP.subT (f' := [(q_18, .inr (15, [.int 8, .int (nI pp), .int 0, .int 0, .int 0, .int 0, .long 0, .int 0, (.ref r_3), .ref la, .ref sa, .int (nI n), .null, .null])), (la, .inl (kE, cp, .inr (.inr (.inr (.inr f))))), (sa, .inl (kI, cp, .inl g))]) [0, 1, 2] rfl
                    replace hDc := hD.subT (f' := [(q_18, .inr (15, [.int 8, .int (nI pp), .int 0, .int 0, .int 0, .int 0, .long 0, .int 0, (.ref r_3), .ref la, .ref sa, .int (nI n), .null, .null])), (la, .inl (kE, cp, .inr (.inr (.inr (.inr f))))), (sa, .inl (kI, cp, .inl g))]) [0, 1, 2] (by decide) rfl
                    replace hKc := hK.sub (tys' := [(kI, .int), (kE, .object RX15)]) [0, 2] rfl
                    replace hFc := va_freeB (wc := [(q_18, .inr (15, [.int 8, .int (nI pp), .int 0, .int 0, .int 0, .int 0, .long 0, .int 0, (.ref r_3), .ref la, .ref sa, .int (nI n), .null, .null])), (la, .inl (kE, cp, .inr (.inr (.inr (.inr f))))), (sa, .inl (kI, cp, .inl g))]) hD hS hA [0, 1, 2] rfl
                    refine W.grow (fun hgs0 hgs1 => ?_)
                    refine va_callv (va_runS (As := [.ref q_18, .ref r_35, .int (nI pp1)]) (rest := []) ⟨hx, hb, hml, hown, hts⟩ (c_xaA l dC dI q_18 r_35 8 (nI pp) 0 0 0 0 (nI pp1) (.ref r_3) kI kE la sa n cp f g L34 F34 (slN H) H.size hf35_0.2 (by omega) (fun i hi => by obtain ⟨x9, y9, z9⟩ := hr3 i hi; exact ⟨x9, y9, xO_ex hf35_0.1 z9⟩)) (va_cwS 3 hts g_c_xc5_c_xaA_129 rfl rfl rfl (by decide +kernel) ⟨by show 0 + 1 ≤ 8 + 12 * k; omega, by show 8 + (6 + 11) + (0) ≤ 177 + 279 * k; omega⟩) ⟨fun a U g mk q => by obtain ⟨q0, q1, qP, qK, qD, qx0, qx1⟩ := q; exact ⟨q0, q1, qP, va_K.moved (u := U) (U := U.calling g mk a) (Vm.Alike.refl U.vm) qK, qD, nsM.same (u := U) (U := U.calling g mk a) rfl qx0, qx1⟩, fun U hU hW => ⟨rfl, by rw [hU], by rw [hU]; exact hPc, va_K.moved hW.alike hKc, hDc.weaken (fun _ _ _ _ => trivial), nsM.warm hW hns, by rw [hU]⟩⟩ rfl rfl hl.1 rfl (lv_room (Nat.le_of_ble_eq_true rfl)) dX23_chain_129 ⟨(show ((8 * (pp1 - pp) + 4 - 3 * n) + 1) + 2 ≤ (8 * (T - pp) + 8) by omega), (show ((120 * (pp1 - pp) + 62 + 4 * cp - 72 * n) + 14) + (4 * cp) ≤ (120 * (T - pp) + 360) by omega)⟩) hS (fun q _ h => hFc q h) hFc (fun u tS H1 locs ht hvm hw hB hz1 hk1 hS => ?_)
                    obtain ⟨la36, sa36, cp36, f36, g36, hf37_0, hf37_1, hf37_2, hf37_3, hf37_4, hP1, hK1, hD1⟩ := hB
                    rw [ht] at hP1
                    replace hK1 := va_K.moved hvm.symm hK1
                    rw [ht] at hf37_4
                    have hgz : H1.size ≤ s.heap.size + ((((8 * (pp1 - pp) + 4 - 3 * n) + 1) + 2)) ∧ slN H1 ≤ slN s.heap + ((((120 * (pp1 - pp) + 62 + 4 * cp - 72 * n) + 14) + 4 * (cp36 - cp))) := ⟨by have := hf37_4.1; omega, by have := hf37_4.2; omega⟩
                    obtain ⟨hPj, hDj⟩ := va_joinB (wr := [(mr 8, .inl (kL, 3002, .inr (.inl fn))), (m9, .inr (23, mA mr mv vf xl (nI zs) ff_31 xa_32 (nI T) (nI (pp1 + 1)) xi xt xn (nI ns) (nI vv) (nI bb1))), (mr 5, .inl (kI, 3002, .inl fk)), (mr 6, .inl (kI, 3002, .inl fa))]) (w1 := [(q_18, .inr (15, [.int 8, .int (nI pp), .int 0, .int 0, .int 0, .int 0, .long 0, .int 0, (.ref r_3), .ref la36, .ref sa36, .int (nI (n + 1)), .null, .null])), (la36, .inl (kE, cp36, .inr (.inr (.inr (.inr f36))))), (sa36, .inl (kI, cp36, .inl g36))]) hP hD [0, 1, 2] [3, 4, 5, 6] rfl rfl (by decide) (by decide) hk1 hFc hP1 hD1
                    replace hP := hPj
                    replace hD := hDj
                    clear hPj hDj
                    replace hK := hK.app hK1
                    generalize H1 = H at hP hS hgz ⊢
                    replace hP : va_P (dC, dI) vwCl (([(mr 8, .inl (kL, 3002, .inr (.inl fn))), (m9, .inr (23, mA mr mv vf xl (nI zs) ff_31 xa_32 (nI T) (nI (pp1 + 1)) xi xt xn (nI ns) (nI vv) (nI bb1))), (mr 5, .inl (kI, 3002, .inl fk)), (mr 6, .inl (kI, 3002, .inl fa)), (q_18, .inr (15, [.int 8, .int (nI pp), .int 0, .int 0, .int 0, .int 0, .long 0, .int 0, (.ref r_3), .ref la36, .ref sa36, .int (nI (n + 1)), .null, .null])), (la36, .inl (kE, cp36, .inr (.inr (.inr (.inr f36))))), (sa36, .inl (kI, cp36, .inl g36))] : va_W) ++ (sT L34 F34)) H := hP
                    replace hD : va_D A (([(mr 8, .inl (kL, 3002, .inr (.inl fn))), (m9, .inr (23, mA mr mv vf xl (nI zs) ff_31 xa_32 (nI T) (nI (pp1 + 1)) xi xt xn (nI ns) (nI vv) (nI bb1))), (mr 5, .inl (kI, 3002, .inl fk)), (mr 6, .inl (kI, 3002, .inl fa)), (q_18, .inr (15, [.int 8, .int (nI pp), .int 0, .int 0, .int 0, .int 0, .long 0, .int 0, (.ref r_3), .ref la36, .ref sa36, .int (nI (n + 1)), .null, .null])), (la36, .inl (kE, cp36, .inr (.inr (.inr (.inr f36))))), (sa36, .inl (kI, cp36, .inl g36))] : va_W) ++ (sT L34 F34)) := hD
                    replace hK : va_K (dC, dI) vwCl [(kI, .int), (kL, .long), (kE, .object RX15), (kI, .int), (kE, .object RX15)] s := hK
                    replace hK := hK.sub (tys' := [(kI, .int), (kL, .long), (kE, .object RX15)]) [0, 1, 2] rfl
                    refine W.tight (k := (((8 * (pp1 - pp) + 4 - 3 * n) + 1) + 2)) (n := (((120 * (pp1 - pp) + 62 + 4 * cp - 72 * n) + 14) + 4 * (cp36 - cp))) hgz.1 hgz.2 ?_
                    clear hz1 hk1 hPc hDc hKc hFc hP1 hD1 hK1
                    refine lv_goto (tgt := 29) hx hb dX23_chain_132 (by decide) ?_
                    refine W.widen (k := (8 * ((pp1 + 1) - pp) + 4 - 3 * (n + 1))) (n := (120 * ((pp1 + 1) - pp) + 62 + 4 * cp36 - 72 * (n + 1))) (by omega) (by omega) ?_
                    exact ih1 (pp1 + 1) bb1 la36 sa36 cp36 (n + 1) ff_31 xa_32 L34 F34 f36 g36 _ _ _ (⟨by omega, by omega, by omega, by omega, by omega, by omega, by omega, by omega, by omega, by omega, hT⟩) (Or.inl hf33_0) (hr2.tr hf35_0.1) (fun i hi => by
                      by_cases e9 : i = n
                      · subst e9; exact ⟨_, hf37_2.1, hf35_0.2⟩
                      · obtain ⟨x9, y9, z9⟩ := hr3 i (by omega); exact ⟨x9, (hf37_1 i (by omega)).1.trans y9, xO_ex hf35_0.1 z9⟩) (fun q9 => absurd q9 hf33_0) (hP.subT [4, 5, 6, 1, 2, 3, 0] rfl) (hD.subT [4, 5, 6, 1, 2, 3, 0] (by decide) rfl) hS (lv_sub hl [2, 3, 4, 5] rfl)
                  · replace hPc := hP.subF (f' := [(m9, .inr (23, mA mr mv vf xl (nI zs) 0 xa1 (nI T) (nI (pp1 + 1)) xi xt xn (nI ns) (nI vv) (nI bb1))), (mr 6, .inl (kI, 3002, .inl fa))]) [6, 4] rfl
                    replace hDc := hD.subF (f' := [(m9, .inr (23, mA mr mv vf xl (nI zs) 0 xa1 (nI T) (nI (pp1 + 1)) xi xt xn (nI ns) (nI vv) (nI bb1))), (mr 6, .inl (kI, 3002, .inl fa))]) [6, 4] (by decide) rfl
                    replace hKc := hK.sub (tys' := [(kI, .int)]) [0] rfl
                    replace hFc := va_freeT (wc := [(m9, .inr (23, mA mr mv vf xl (nI zs) 0 xa1 (nI T) (nI (pp1 + 1)) xi xt xn (nI ns) (nI vv) (nI bb1))), (mr 6, .inl (kI, 3002, .inl fa))]) hD hS hA [6, 4] rfl
                    refine va_callv (va_runV (As := [.int (nI pp1)]) (rest := []) ⟨hx, hb, hml, hown, hts⟩ (c_renY l dC dI m9 mr mv vf xl xa1 xi xt xn zs T (pp1 + 1) ns vv bb1 kI fk fa pp1 H.size (by omega) (⟨hn_30, by omega⟩)) (cwV 1 hts g_c_xc5_c_renY_71 rfl rfl rfl (by decide +kernel) ⟨by show 1 + 1 ≤ 8 + 12 * k; omega, by show 8 + (2 + 11) + (20) ≤ 177 + 279 * k; omega⟩) ⟨fun a U g mk q => by obtain ⟨q0, q1, qP, qK, qD⟩ := q; exact ⟨q0, q1, qP, va_K.moved (u := U) (U := U.calling g mk a) (Vm.Alike.refl U.vm) qK, qD⟩, va_recv hKc hPc (ci := 23) (q0 := 0) rfl rfl, fun U hU hW => ⟨rfl, by rw [hU], by rw [hU]; exact hPc, va_K.moved hW.alike hKc, hDc.weaken (fun _ _ _ _ => trivial)⟩⟩ rfl rfl hl.1 rfl (lv_room (Nat.le_of_ble_eq_true rfl)) dX23_chain_71 ⟨(show (8 * (pp1 - pp) + 4 - 3 * n) + 0 ≤ (8 * (T - pp) + 8) by omega), (show (120 * (pp1 - pp) + 62 + 4 * cp - 72 * n) + 0 ≤ (120 * (T - pp) + 360) by omega)⟩) hS (fun q _ h => hFc q h) hFc (fun u tS H1 locs ht hvm hw hB hz1 hk1 hS => ?_)
                    obtain ⟨hP1, hK1, hD1⟩ := hB
                    rw [ht] at hP1
                    replace hK1 := va_K.moved hvm.symm hK1
                    obtain ⟨hPj, hDj⟩ := va_joinT (wr := [(q_18, .inr (15, [.int 8, .int (nI pp), .int 0, .int 0, .int 0, .int 0, .long 0, .int 0, .ref r_3, .ref la, .ref sa, .int (nI n), .null, .null])), (la, .inl (kE, cp, .inr (.inr (.inr (.inr f))))), (sa, .inl (kI, cp, .inl g)), (mr 5, .inl (kI, 3002, .inl fk)), (mr 8, .inl (kL, 3002, .inr (.inl fn)))]) (w1 := [(m9, .inr (23, mA mr mv vf xl (nI zs) 0 xa1 (nI T) (nI (pp1 + 1)) xi xt xn (nI (ns + 1)) (nI vv) (nI bb1))), (mr 6, .inl (kI, 3002, .inl fa))]) hP hD [6, 4] [0, 1, 2, 3, 5] rfl rfl (by decide) (by decide) hk1 hFc hP1 hD1
                    replace hP := hPj
                    replace hD := hDj
                    clear hPj hDj
                    replace hK := hK.app hK1
                    generalize H1 = H at hP hS ⊢
                    replace hP : va_P (dC, dI) vwCl (([(q_18, .inr (15, [.int 8, .int (nI pp), .int 0, .int 0, .int 0, .int 0, .long 0, .int 0, .ref r_3, .ref la, .ref sa, .int (nI n), .null, .null])), (la, .inl (kE, cp, .inr (.inr (.inr (.inr f))))), (sa, .inl (kI, cp, .inl g)), (mr 5, .inl (kI, 3002, .inl fk)), (mr 8, .inl (kL, 3002, .inr (.inl fn))), (m9, .inr (23, mA mr mv vf xl (nI zs) 0 xa1 (nI T) (nI (pp1 + 1)) xi xt xn (nI (ns + 1)) (nI vv) (nI bb1))), (mr 6, .inl (kI, 3002, .inl fa))] : va_W) ++ (sT L1 F1)) H := hP
                    replace hD : va_D A (([(q_18, .inr (15, [.int 8, .int (nI pp), .int 0, .int 0, .int 0, .int 0, .long 0, .int 0, .ref r_3, .ref la, .ref sa, .int (nI n), .null, .null])), (la, .inl (kE, cp, .inr (.inr (.inr (.inr f))))), (sa, .inl (kI, cp, .inl g)), (mr 5, .inl (kI, 3002, .inl fk)), (mr 8, .inl (kL, 3002, .inr (.inl fn))), (m9, .inr (23, mA mr mv vf xl (nI zs) 0 xa1 (nI T) (nI (pp1 + 1)) xi xt xn (nI (ns + 1)) (nI vv) (nI bb1))), (mr 6, .inl (kI, 3002, .inl fa))] : va_W) ++ (sT L1 F1)) := hD
                    replace hK : va_K (dC, dI) vwCl [(kI, .int), (kL, .long), (kE, .object RX15), (kI, .int)] s := hK
                    replace hK := hK.sub (tys' := [(kI, .int), (kL, .long), (kE, .object RX15)]) [0, 1, 2] rfl
                    clear hz1 hk1 hPc hDc hKc hFc hP1 hD1 hK1
                    refine lv_aload_n hx hb dX23_chain_74 rfl (lv_at hl 3 rfl) ?_
                    refine lv_iload_n hx hb dX23_chain_75 rfl (lv_at hl 4 rfl) ?_
                    refine lv_iconst (v := 1) hx hb dX23_chain_76 (by decide) ?_
                    refine lv_iadd hx hb dX23_chain_77 ?_
                    refine lv_topi (fun f_32 ef_32 => ?_)
                    obtain rfl : f_32 = 6 := ef_32.trans (by decide)
                    obtain ⟨k1, hkL⟩ : ∃ k1 : Nat, k = k1 + 1 := ⟨k - 1, by omega⟩
                    replace hPc := hP.subT (f' := [(m9, .inr (23, mA mr mv vf xl (nI zs) 0 xa1 (nI T) (nI (pp1 + 1)) xi xt xn (nI (ns + 1)) (nI vv) (nI bb1))), (mr 5, .inl (kI, 3002, .inl fk)), (mr 6, .inl (kI, 3002, .inl fa)), (mr 8, .inl (kL, 3002, .inr (.inl fn)))]) [5, 3, 6, 4] rfl
                    replace hDc := hD.subT (f' := [(m9, .inr (23, mA mr mv vf xl (nI zs) 0 xa1 (nI T) (nI (pp1 + 1)) xi xt xn (nI (ns + 1)) (nI vv) (nI bb1))), (mr 5, .inl (kI, 3002, .inl fk)), (mr 6, .inl (kI, 3002, .inl fa)), (mr 8, .inl (kL, 3002, .inr (.inl fn)))]) [5, 3, 6, 4] (by decide) rfl
                    replace hKc := hK.sub (tys' := [(kI, .int), (kL, .long), (kE, .object RX15)]) [0, 1, 2] rfl
                    replace hFc := va_freeB (wc := [(m9, .inr (23, mA mr mv vf xl (nI zs) 0 xa1 (nI T) (nI (pp1 + 1)) xi xt xn (nI (ns + 1)) (nI vv) (nI bb1))), (mr 5, .inl (kI, 3002, .inl fk)), (mr 6, .inl (kI, 3002, .inl fa)), (mr 8, .inl (kL, 3002, .inr (.inl fn)))]) hD hS hA [5, 3, 6, 4] rfl
                    refine W.grow (fun hgs0 hgs1 => ?_)
                    refine va_callr (va_runV (As := [.int 6]) (rest := []) ⟨hx, hb, hml, hown, hts⟩ ((ih k1 hkL).2.2.2.2.1 m9 mr mv vf xl xa1 xi xt xn zs T (pp1 + 1) (ns + 1) vv bb1 kI fk fa kL kE fn L1 F1 (slN H) H.size hT hp_28 hk0 hr9.1 (by omega)) (cwV 1 hts g_c_xc5_c_xc6_78 rfl rfl rfl (by decide +kernel) ⟨by show 7 + 12 * k1 + 1 ≤ 8 + 12 * k; omega, by show 8 + (6 + 11) + (152 + 279 * k1) ≤ 177 + 279 * k; omega⟩) ⟨fun a U g mk q => by obtain ⟨q0, q1, qP, qK, qD, qx0, qx1⟩ := q; exact ⟨q0, q1, qP, va_K.moved (u := U) (U := U.calling g mk a) (Vm.Alike.refl U.vm) qK, qD, nsM.same (u := U) (U := U.calling g mk a) rfl qx0, qx1⟩, va_recv hKc hPc (ci := 23) (q0 := 0) rfl rfl, fun U hU hW => ⟨rfl, by rw [hU], by rw [hU]; exact hPc, va_K.moved hW.alike hKc, hDc.weaken (fun _ _ _ _ => trivial), nsM.warm hW hns, by rw [hU]⟩⟩ rfl rfl hl.1 rfl (lv_room (Nat.le_of_ble_eq_true rfl)) dX23_chain_78 ⟨(show (8 * (pp1 - pp) + 4 - 3 * n) + (8 * (T - (pp1 + 1)) + 8) ≤ (8 * (T - pp) + 8) by omega), (show (120 * (pp1 - pp) + 62 + 4 * cp - 72 * n) + (120 * (T - (pp1 + 1)) + 360) ≤ (120 * (T - pp) + 360) by omega)⟩) hS (fun q _ h => hFc q h) hFc (fun u r_33 tS H1 locs ht hvm hw hB hz1 hk1 hS => ?_)
                    obtain ⟨L32, F32, ff32, xa32, pp32, bb32, hf33_0, hf33_1, hf33_2, hf33_3, hP1, hK1, hD1⟩ := hB
                    rw [ht] at hP1
                    replace hK1 := va_K.moved hvm.symm hK1
                    rw [ht] at hf33_3
                    have hgz : H1.size ≤ s.heap.size + (((8 * (pp1 - pp) + 4 - 3 * n) + 8 * (pp32 - (pp1 + 1)) + 3)) ∧ slN H1 ≤ slN s.heap + (((120 * (pp1 - pp) + 62 + 4 * cp - 72 * n) + 120 * (pp32 - (pp1 + 1)) + 48)) := ⟨by have := hf33_3.1; omega, by have := hf33_3.2; omega⟩
                    obtain ⟨hPj, hDj⟩ := va_joinB (wr := [(q_18, .inr (15, [.int 8, .int (nI pp), .int 0, .int 0, .int 0, .int 0, .long 0, .int 0, .ref r_3, .ref la, .ref sa, .int (nI n), .null, .null])), (la, .inl (kE, cp, .inr (.inr (.inr (.inr f))))), (sa, .inl (kI, cp, .inl g))]) (w1 := [(m9, .inr (23, mA mr mv vf xl (nI zs) ff32 xa32 (nI T) (nI pp32) xi xt xn (nI (ns + 1)) (nI vv) (nI bb32))), (mr 5, .inl (kI, 3002, .inl fk)), (mr 6, .inl (kI, 3002, .inl fa)), (mr 8, .inl (kL, 3002, .inr (.inl fn)))]) hP hD [5, 3, 6, 4] [0, 1, 2] rfl rfl (by decide) (by decide) hk1 hFc hP1 hD1
                    replace hP := hPj
                    replace hD := hDj
                    clear hPj hDj
                    replace hK := hK.app hK1
                    generalize H1 = H at hP hS hgz ⊢
                    replace hP : va_P (dC, dI) vwCl (([(q_18, .inr (15, [.int 8, .int (nI pp), .int 0, .int 0, .int 0, .int 0, .long 0, .int 0, .ref r_3, .ref la, .ref sa, .int (nI n), .null, .null])), (la, .inl (kE, cp, .inr (.inr (.inr (.inr f))))), (sa, .inl (kI, cp, .inl g)), (m9, .inr (23, mA mr mv vf xl (nI zs) ff32 xa32 (nI T) (nI pp32) xi xt xn (nI (ns + 1)) (nI vv) (nI bb32))), (mr 5, .inl (kI, 3002, .inl fk)), (mr 6, .inl (kI, 3002, .inl fa)), (mr 8, .inl (kL, 3002, .inr (.inl fn)))] : va_W) ++ (sT L32 F32)) H := hP
                    replace hD : va_D A (([(q_18, .inr (15, [.int 8, .int (nI pp), .int 0, .int 0, .int 0, .int 0, .long 0, .int 0, .ref r_3, .ref la, .ref sa, .int (nI n), .null, .null])), (la, .inl (kE, cp, .inr (.inr (.inr (.inr f))))), (sa, .inl (kI, cp, .inl g)), (m9, .inr (23, mA mr mv vf xl (nI zs) ff32 xa32 (nI T) (nI pp32) xi xt xn (nI (ns + 1)) (nI vv) (nI bb32))), (mr 5, .inl (kI, 3002, .inl fk)), (mr 6, .inl (kI, 3002, .inl fa)), (mr 8, .inl (kL, 3002, .inr (.inl fn)))] : va_W) ++ (sT L32 F32)) := hD
                    replace hK : va_K (dC, dI) vwCl [(kI, .int), (kL, .long), (kE, .object RX15), (kI, .int), (kL, .long), (kE, .object RX15)] s := hK
                    replace hK := hK.sub (tys' := [(kI, .int), (kL, .long), (kE, .object RX15)]) [0, 1, 2] rfl
                    refine W.tight (k := ((8 * (pp1 - pp) + 4 - 3 * n) + 8 * (pp32 - (pp1 + 1)) + 3)) (n := ((120 * (pp1 - pp) + 62 + 4 * cp - 72 * n) + 120 * (pp32 - (pp1 + 1)) + 48)) hgz.1 hgz.2 ?_
                    clear hz1 hk1 hPc hDc hKc hFc hP1 hD1 hK1
                    refine lv_astore (lv' := [(5, .ref r_33), (4, .int (nI pp1)), (3, .ref q_18), (2, .ref r_3), (0, .ref m9), (1, .int 5)]) hx hb dX23_chain_81 hl (by decide) rfl (fun ls hl => ?_)
                    refine lv_aload_n hx hb dX23_chain_83 rfl (lv_at hl 4 rfl) ?_
                    refine lv_dup hx hb dX23_chain_84 rfl ?_
                    refine va_get (D := (dC, dI)) (ci := 23) (v := .int (nI (ns + 1))) (C := RX23) (T := TX23) (N := 89) hx hb hts in_c_xc5_X23 hown hK hP 3 rfl rfl 15 (by decide) (hts (.fieldLink RX23 104 "OwnedPlacesModel" "nest" "I") (wm_c_xc5 19 rfl)) (fun _ h9 => h9) rfl dX23_chain_85 ?_
                    refine lv_iconst (v := 1) hx hb dX23_chain_88 (by decide) ?_
                    refine lv_isub hx hb dX23_chain_89 ?_
                    refine lv_topi (fun f_34 ef_34 => ?_)
                    obtain rfl : f_34 = nI ns := ef_34.trans (nI_pred _)
                    refine va_put (D := (dC, dI)) (ci := 23) (v := .int (nI ns)) (ty := .int) (C := RX23) (T := TX23) (N := 89) hx hb hts in_c_xc5_X23 tyX23 tyX23_ok nmX23 hown hK hP hD hS 3 rfl rfl 15 (by decide) (hts (.fieldLink RX23 104 "OwnedPlacesModel" "nest" "I") (wm_c_xc5 19 rfl)) (fun _ h9 => h9) rfl (by decide +kernel) rfl rfl (Nat.le_of_ble_eq_true rfl) dX23_chain_90 (fun H locs hP hD hS => ?_)
                    replace hP : va_P (dC, dI) vwCl (([(q_18, .inr (15, [.int 8, .int (nI pp), .int 0, .int 0, .int 0, .int 0, .long 0, .int 0, .ref r_3, .ref la, .ref sa, .int (nI n), .null, .null])), (la, .inl (kE, cp, .inr (.inr (.inr (.inr f))))), (sa, .inl (kI, cp, .inl g)), (m9, .inr (23, mA mr mv vf xl (nI zs) ff32 xa32 (nI T) (nI pp32) xi xt xn (nI ns) (nI vv) (nI bb32))), (mr 5, .inl (kI, 3002, .inl fk)), (mr 6, .inl (kI, 3002, .inl fa)), (mr 8, .inl (kL, 3002, .inr (.inl fn)))] : va_W) ++ (sT L32 F32)) H := hP
                    replace hD : va_D A (([(q_18, .inr (15, [.int 8, .int (nI pp), .int 0, .int 0, .int 0, .int 0, .long 0, .int 0, .ref r_3, .ref la, .ref sa, .int (nI n), .null, .null])), (la, .inl (kE, cp, .inr (.inr (.inr (.inr f))))), (sa, .inl (kI, cp, .inl g)), (m9, .inr (23, mA mr mv vf xl (nI zs) ff32 xa32 (nI T) (nI pp32) xi xt xn (nI ns) (nI vv) (nI bb32))), (mr 5, .inl (kI, 3002, .inl fk)), (mr 6, .inl (kI, 3002, .inl fa)), (mr 8, .inl (kL, 3002, .inr (.inl fn)))] : va_W) ++ (sT L32 F32)) := hD
                    refine lv_aload_n hx hb dX23_chain_93 rfl (lv_at hl 2 rfl) ?_
                    refine lv_ifnonnull (tgt := 124) hx hb dX23_chain_94 (by decide) ?_
                    refine lv_aload_n hx hb dX23_chain_124 rfl (lv_at hl 2 rfl) ?_
                    refine lv_aload hx hb dX23_chain_125 (lv_at hl 0 rfl) ?_
                    refine lv_iload hx hb dX23_chain_127 (lv_at hl 1 rfl) ?_
                    replace hPc := hP.subT (f' := [(q_18, .inr (15, [.int 8, .int (nI pp), .int 0, .int 0, .int 0, .int 0, .long 0, .int 0, (.ref r_3), .ref la, .ref sa, .int (nI n), .null, .null])), (la, .inl (kE, cp, .inr (.inr (.inr (.inr f))))), (sa, .inl (kI, cp, .inl g))]) [0, 1, 2] rfl
                    replace hDc := hD.subT (f' := [(q_18, .inr (15, [.int 8, .int (nI pp), .int 0, .int 0, .int 0, .int 0, .long 0, .int 0, (.ref r_3), .ref la, .ref sa, .int (nI n), .null, .null])), (la, .inl (kE, cp, .inr (.inr (.inr (.inr f))))), (sa, .inl (kI, cp, .inl g))]) [0, 1, 2] (by decide) rfl
                    replace hKc := hK.sub (tys' := [(kI, .int), (kE, .object RX15)]) [0, 2] rfl
                    replace hFc := va_freeB (wc := [(q_18, .inr (15, [.int 8, .int (nI pp), .int 0, .int 0, .int 0, .int 0, .long 0, .int 0, (.ref r_3), .ref la, .ref sa, .int (nI n), .null, .null])), (la, .inl (kE, cp, .inr (.inr (.inr (.inr f))))), (sa, .inl (kI, cp, .inl g))]) hD hS hA [0, 1, 2] rfl
                    refine W.grow (fun hgs0 hgs1 => ?_)
                    refine va_callv (va_runS (As := [.ref q_18, .ref r_33, .int (nI pp1)]) (rest := []) ⟨hx, hb, hml, hown, hts⟩ (c_xaA l dC dI q_18 r_33 8 (nI pp) 0 0 0 0 (nI pp1) (.ref r_3) kI kE la sa n cp f g L32 F32 (slN H) H.size hf33_0.2 (by omega) (fun i hi => by obtain ⟨x9, y9, z9⟩ := hr3 i hi; exact ⟨x9, y9, xO_ex hf33_0.1 z9⟩)) (va_cwS 3 hts g_c_xc5_c_xaA_129 rfl rfl rfl (by decide +kernel) ⟨by show 0 + 1 ≤ 8 + 12 * k; omega, by show 8 + (6 + 11) + (0) ≤ 177 + 279 * k; omega⟩) ⟨fun a U g mk q => by obtain ⟨q0, q1, qP, qK, qD, qx0, qx1⟩ := q; exact ⟨q0, q1, qP, va_K.moved (u := U) (U := U.calling g mk a) (Vm.Alike.refl U.vm) qK, qD, nsM.same (u := U) (U := U.calling g mk a) rfl qx0, qx1⟩, fun U hU hW => ⟨rfl, by rw [hU], by rw [hU]; exact hPc, va_K.moved hW.alike hKc, hDc.weaken (fun _ _ _ _ => trivial), nsM.warm hW hns, by rw [hU]⟩⟩ rfl rfl hl.1 rfl (lv_room (Nat.le_of_ble_eq_true rfl)) dX23_chain_129 ⟨(show ((8 * (pp1 - pp) + 4 - 3 * n) + 8 * (pp32 - (pp1 + 1)) + 3) + 2 ≤ (8 * (T - pp) + 8) by omega), (show ((120 * (pp1 - pp) + 62 + 4 * cp - 72 * n) + 120 * (pp32 - (pp1 + 1)) + 48) + (4 * cp) ≤ (120 * (T - pp) + 360) by omega)⟩) hS (fun q _ h => hFc q h) hFc (fun u tS H1 locs ht hvm hw hB hz1 hk1 hS => ?_)
                    obtain ⟨la34, sa34, cp34, f34, g34, hf35_0, hf35_1, hf35_2, hf35_3, hf35_4, hP1, hK1, hD1⟩ := hB
                    rw [ht] at hP1
                    replace hK1 := va_K.moved hvm.symm hK1
                    rw [ht] at hf35_4
                    have hgz : H1.size ≤ s.heap.size + ((((8 * (pp1 - pp) + 4 - 3 * n) + 8 * (pp32 - (pp1 + 1)) + 3) + 2)) ∧ slN H1 ≤ slN s.heap + ((((120 * (pp1 - pp) + 62 + 4 * cp - 72 * n) + 120 * (pp32 - (pp1 + 1)) + 48) + 4 * (cp34 - cp))) := ⟨by have := hf35_4.1; omega, by have := hf35_4.2; omega⟩
                    obtain ⟨hPj, hDj⟩ := va_joinB (wr := [(m9, .inr (23, mA mr mv vf xl (nI zs) ff32 xa32 (nI T) (nI pp32) xi xt xn (nI ns) (nI vv) (nI bb32))), (mr 5, .inl (kI, 3002, .inl fk)), (mr 6, .inl (kI, 3002, .inl fa)), (mr 8, .inl (kL, 3002, .inr (.inl fn)))]) (w1 := [(q_18, .inr (15, [.int 8, .int (nI pp), .int 0, .int 0, .int 0, .int 0, .long 0, .int 0, (.ref r_3), .ref la34, .ref sa34, .int (nI (n + 1)), .null, .null])), (la34, .inl (kE, cp34, .inr (.inr (.inr (.inr f34))))), (sa34, .inl (kI, cp34, .inl g34))]) hP hD [0, 1, 2] [3, 4, 5, 6] rfl rfl (by decide) (by decide) hk1 hFc hP1 hD1
                    replace hP := hPj
                    replace hD := hDj
                    clear hPj hDj
                    replace hK := hK.app hK1
                    generalize H1 = H at hP hS hgz ⊢
                    replace hP : va_P (dC, dI) vwCl (([(m9, .inr (23, mA mr mv vf xl (nI zs) ff32 xa32 (nI T) (nI pp32) xi xt xn (nI ns) (nI vv) (nI bb32))), (mr 5, .inl (kI, 3002, .inl fk)), (mr 6, .inl (kI, 3002, .inl fa)), (mr 8, .inl (kL, 3002, .inr (.inl fn))), (q_18, .inr (15, [.int 8, .int (nI pp), .int 0, .int 0, .int 0, .int 0, .long 0, .int 0, (.ref r_3), .ref la34, .ref sa34, .int (nI (n + 1)), .null, .null])), (la34, .inl (kE, cp34, .inr (.inr (.inr (.inr f34))))), (sa34, .inl (kI, cp34, .inl g34))] : va_W) ++ (sT L32 F32)) H := hP
                    replace hD : va_D A (([(m9, .inr (23, mA mr mv vf xl (nI zs) ff32 xa32 (nI T) (nI pp32) xi xt xn (nI ns) (nI vv) (nI bb32))), (mr 5, .inl (kI, 3002, .inl fk)), (mr 6, .inl (kI, 3002, .inl fa)), (mr 8, .inl (kL, 3002, .inr (.inl fn))), (q_18, .inr (15, [.int 8, .int (nI pp), .int 0, .int 0, .int 0, .int 0, .long 0, .int 0, (.ref r_3), .ref la34, .ref sa34, .int (nI (n + 1)), .null, .null])), (la34, .inl (kE, cp34, .inr (.inr (.inr (.inr f34))))), (sa34, .inl (kI, cp34, .inl g34))] : va_W) ++ (sT L32 F32)) := hD
                    replace hK : va_K (dC, dI) vwCl [(kI, .int), (kL, .long), (kE, .object RX15), (kI, .int), (kE, .object RX15)] s := hK
                    replace hK := hK.sub (tys' := [(kI, .int), (kL, .long), (kE, .object RX15)]) [0, 1, 2] rfl
                    refine W.tight (k := (((8 * (pp1 - pp) + 4 - 3 * n) + 8 * (pp32 - (pp1 + 1)) + 3) + 2)) (n := (((120 * (pp1 - pp) + 62 + 4 * cp - 72 * n) + 120 * (pp32 - (pp1 + 1)) + 48) + 4 * (cp34 - cp))) hgz.1 hgz.2 ?_
                    clear hz1 hk1 hPc hDc hKc hFc hP1 hD1 hK1
                    refine lv_goto (tgt := 29) hx hb dX23_chain_132 (by decide) ?_
                    by_cases hz_36 : ff32 = 0
                    · subst hz_36
                      have hg32 := hf33_2 rfl
                      have hlthg32 := (isE_mem hg32.2).2
                      refine W.widen (k := (8 * (pp32 - pp) + 4 - 3 * (n + 1))) (n := (120 * (pp32 - pp) + 62 + 4 * cp34 - 72 * (n + 1))) (by omega) (by omega) ?_
                      exact ih1 pp32 bb32 la34 sa34 cp34 (n + 1) 0 xa32 L32 F32 f34 g34 _ _ _ (⟨by omega, by omega, by omega, by omega, by omega, by omega, by omega, by omega, by omega, by omega, hT⟩) (Or.inr (by omega)) (hr2.tr hf33_0.1) (fun i hi => by
                        by_cases e9 : i = n
                        · subst e9; exact ⟨_, hf35_2.1, hf33_0.2⟩
                        · obtain ⟨x9, y9, z9⟩ := hr3 i (by omega); exact ⟨x9, (hf35_1 i (by omega)).1.trans y9, xO_ex hf33_0.1 z9⟩) (fun _ => ⟨hg32.1, isE_im hf33_0.1 _ (Nat.le_refl _) hr9.2.1, chP_add (chP_im (fun x p q b c z => isE_im hf33_0.1 _ (Nat.le_refl _) z) hr9.2.2) (fun i hi => hf35_1 i hi) hf35_2.1 hf35_2.2 (by omega) (isE_im exS.rf _ (by omega) hg32.2) (Or.inr ⟨by omega, by omega⟩)⟩) (hP.subT [4, 5, 6, 0, 1, 2, 3] rfl) (hD.subT [4, 5, 6, 0, 1, 2, 3] (by decide) rfl) hS (lv_sub hl [2, 3, 4, 5] rfl)
                    · refine W.widen (k := (8 * (pp32 - pp) + 4 - 3 * (n + 1))) (n := (120 * (pp32 - pp) + 62 + 4 * cp34 - 72 * (n + 1))) (by omega) (by omega) ?_
                      exact ih1 pp32 bb32 la34 sa34 cp34 (n + 1) ff32 xa32 L32 F32 f34 g34 _ _ _ (⟨by omega, by omega, by omega, by omega, by omega, by omega, by omega, by omega, by omega, by omega, hT⟩) (Or.inl hz_36) (hr2.tr hf33_0.1) (fun i hi => by
                        by_cases e9 : i = n
                        · subst e9; exact ⟨_, hf35_2.1, hf33_0.2⟩
                        · obtain ⟨x9, y9, z9⟩ := hr3 i (by omega); exact ⟨x9, (hf35_1 i (by omega)).1.trans y9, xO_ex hf33_0.1 z9⟩) (fun q9 => absurd q9 hz_36) (hP.subT [4, 5, 6, 0, 1, 2, 3] rfl) (hD.subT [4, 5, 6, 0, 1, 2, 3] (by decide) rfl) hS (lv_sub hl [2, 3, 4, 5] rfl)
              · replace hPc := hP.subF (f' := [(m9, .inr (23, mA mr mv vf xl (nI zs) ff1 xa1 (nI T) (nI pp1) xi xt xn (nI ns) (nI vv) (nI bb1)))]) [3] rfl
                replace hDc := hD.subF (f' := [(m9, .inr (23, mA mr mv vf xl (nI zs) ff1 xa1 (nI T) (nI pp1) xi xt xn (nI ns) (nI vv) (nI bb1)))]) [3] (by decide) rfl
                replace hKc := hK.sub (tys' := []) [] rfl
                replace hFc := va_freeT (wc := [(m9, .inr (23, mA mr mv vf xl (nI zs) ff1 xa1 (nI T) (nI pp1) xi xt xn (nI ns) (nI vv) (nI bb1)))]) hD hS hA [3] rfl
                refine va_calli (va_runV (As := []) (rest := []) ⟨hx, hb, hml, hown, hts⟩ (c_rokB l dC dI m9 mr mv vf xl xa1 xi xt xn zs T pp1 ns vv bb1 kI fk fa ff1 H.size hz_22) (cwV 0 hts g_c_xc5_c_rokB_30 rfl rfl rfl (by decide +kernel) ⟨by show 0 + 1 ≤ 8 + 12 * k; omega, by show 8 + (1 + 11) + (0) ≤ 177 + 279 * k; omega⟩) ⟨fun a U g mk q => by obtain ⟨q0, q1, qP, qK, qD⟩ := q; exact ⟨q0, q1, qP, va_K.moved (u := U) (U := U.calling g mk a) (Vm.Alike.refl U.vm) qK, qD⟩, va_recv hKc hPc (ci := 23) (q0 := 0) rfl rfl, fun U hU hW => ⟨rfl, by rw [hU], by rw [hU]; exact hPc, va_K.moved hW.alike hKc, hDc.weaken (fun _ _ _ _ => trivial)⟩⟩ rfl rfl hl.1 rfl (lv_room (Nat.le_of_ble_eq_true rfl)) dX23_chain_30 ⟨(show (8 * (pp1 - pp) + 4 - 3 * n) + 0 ≤ (8 * (T - pp) + 8) by omega), (show (120 * (pp1 - pp) + 62 + 4 * cp - 72 * n) + 0 ≤ (120 * (T - pp) + 360) by omega)⟩) hS (fun q _ h => hFc q h) hFc (fun r_23 u tS H1 locs ht hvm hw hB hz1 hk1 hS => ?_)
                obtain ⟨hP1, hK1, hD1⟩ := hB
                rw [ht] at hP1
                replace hK1 := va_K.moved hvm.symm hK1
                obtain ⟨hPj, hDj⟩ := va_joinT (wr := [(q_18, .inr (15, [.int 8, .int (nI pp), .int 0, .int 0, .int 0, .int 0, .long 0, .int 0, .ref r_3, .ref la, .ref sa, .int (nI n), .null, .null])), (la, .inl (kE, cp, .inr (.inr (.inr (.inr f))))), (sa, .inl (kI, cp, .inl g)), (mr 5, .inl (kI, 3002, .inl fk)), (mr 6, .inl (kI, 3002, .inl fa)), (mr 8, .inl (kL, 3002, .inr (.inl fn)))]) (w1 := [(m9, .inr (23, mA mr mv vf xl (nI zs) ff1 xa1 (nI T) (nI pp1) xi xt xn (nI ns) (nI vv) (nI bb1)))]) hP hD [3] [0, 1, 2, 4, 5, 6] rfl rfl (by decide) (by decide) hk1 hFc hP1 hD1
                replace hP := hPj
                replace hD := hDj
                clear hPj hDj
                generalize H1 = H at hP hS ⊢
                replace hP : va_P (dC, dI) vwCl (([(q_18, .inr (15, [.int 8, .int (nI pp), .int 0, .int 0, .int 0, .int 0, .long 0, .int 0, .ref r_3, .ref la, .ref sa, .int (nI n), .null, .null])), (la, .inl (kE, cp, .inr (.inr (.inr (.inr f))))), (sa, .inl (kI, cp, .inl g)), (mr 5, .inl (kI, 3002, .inl fk)), (mr 6, .inl (kI, 3002, .inl fa)), (mr 8, .inl (kL, 3002, .inr (.inl fn))), (m9, .inr (23, mA mr mv vf xl (nI zs) ff1 xa1 (nI T) (nI pp1) xi xt xn (nI ns) (nI vv) (nI bb1)))] : va_W) ++ (sT L1 F1)) H := hP
                replace hD : va_D A (([(q_18, .inr (15, [.int 8, .int (nI pp), .int 0, .int 0, .int 0, .int 0, .long 0, .int 0, .ref r_3, .ref la, .ref sa, .int (nI n), .null, .null])), (la, .inl (kE, cp, .inr (.inr (.inr (.inr f))))), (sa, .inl (kI, cp, .inl g)), (mr 5, .inl (kI, 3002, .inl fk)), (mr 6, .inl (kI, 3002, .inl fa)), (mr 8, .inl (kL, 3002, .inr (.inl fn))), (m9, .inr (23, mA mr mv vf xl (nI zs) ff1 xa1 (nI T) (nI pp1) xi xt xn (nI ns) (nI vv) (nI bb1)))] : va_W) ++ (sT L1 F1)) := hD
                replace hK : va_K (dC, dI) vwCl [(kI, .int), (kL, .long), (kE, .object RX15)] s := hK
                clear hz1 hk1 hPc hDc hKc hFc hP1 hD1 hK1
                obtain rfl : r_23 = 0 := hw
                refine lv_if_eq (tgt := 135) hx hb dX23_chain_33 (by decide) (fun _ => ?_) (fun c_24 => absurd (by decide) c_24)
                refine lv_aload_n hx hb dX23_chain_135 rfl (lv_at hl 0 rfl) ?_
                refine lv_ifnonnull (tgt := 143) hx hb dX23_chain_136 (by decide) ?_
                refine lv_aload_n hx hb dX23_chain_143 rfl (lv_at hl 0 rfl) ?_
                replace hP : va_P (dC, dI) vwCl ((([(mr 5, .inl (kI, 3002, .inl fk)), (mr 6, .inl (kI, 3002, .inl fa)), (mr 8, .inl (kL, 3002, .inr (.inl fn))), (m9, .inr (23, mA mr mv vf xl (nI zs) ff1 xa1 (nI T) (nI pp1) xi xt xn (nI ns) (nI vv) (nI bb1)))] : va_W) ++ ([(q_18, .inr (15, [.int 8, .int (nI pp), .int 0, .int 0, .int 0, .int 0, .long 0, .int 0, .ref r_3, .ref la, .ref sa, .int (nI n), .null, .null])), (la, .inl (kE, cp, .inr (.inr (.inr (.inr f))))), (sa, .inl (kI, cp, .inl g))] : va_W)) ++ sT L1 F1) H := hP.subT (f' := [(mr 5, .inl (kI, 3002, .inl fk)), (mr 6, .inl (kI, 3002, .inl fa)), (mr 8, .inl (kL, 3002, .inr (.inl fn))), (m9, .inr (23, mA mr mv vf xl (nI zs) ff1 xa1 (nI T) (nI pp1) xi xt xn (nI ns) (nI vv) (nI bb1))), (q_18, .inr (15, [.int 8, .int (nI pp), .int 0, .int 0, .int 0, .int 0, .long 0, .int 0, .ref r_3, .ref la, .ref sa, .int (nI n), .null, .null])), (la, .inl (kE, cp, .inr (.inr (.inr (.inr f))))), (sa, .inl (kI, cp, .inl g))]) [3, 4, 5, 6, 0, 1, 2] rfl
                replace hD : va_D A ((([(mr 5, .inl (kI, 3002, .inl fk)), (mr 6, .inl (kI, 3002, .inl fa)), (mr 8, .inl (kL, 3002, .inr (.inl fn))), (m9, .inr (23, mA mr mv vf xl (nI zs) ff1 xa1 (nI T) (nI pp1) xi xt xn (nI ns) (nI vv) (nI bb1)))] : va_W) ++ ([(q_18, .inr (15, [.int 8, .int (nI pp), .int 0, .int 0, .int 0, .int 0, .long 0, .int 0, .ref r_3, .ref la, .ref sa, .int (nI n), .null, .null])), (la, .inl (kE, cp, .inr (.inr (.inr (.inr f))))), (sa, .inl (kI, cp, .inl g))] : va_W)) ++ sT L1 F1) := hD.subT (f' := [(mr 5, .inl (kI, 3002, .inl fk)), (mr 6, .inl (kI, 3002, .inl fa)), (mr 8, .inl (kL, 3002, .inr (.inl fn))), (m9, .inr (23, mA mr mv vf xl (nI zs) ff1 xa1 (nI T) (nI pp1) xi xt xn (nI ns) (nI vv) (nI bb1))), (q_18, .inr (15, [.int 8, .int (nI pp), .int 0, .int 0, .int 0, .int 0, .long 0, .int 0, .ref r_3, .ref la, .ref sa, .int (nI n), .null, .null])), (la, .inl (kE, cp, .inr (.inr (.inr (.inr f))))), (sa, .inl (kI, cp, .inl g))]) [3, 4, 5, 6, 0, 1, 2] (by decide) rfl
                obtain ⟨L9, F9, hx9, hm9, hP, hD⟩ := st_fileL [(q_18, .inr (15, [.int 8, .int (nI pp), .int 0, .int 0, .int 0, .int 0, .long 0, .int 0, .ref r_3, .ref la, .ref sa, .int (nI n), .null, .null])), (la, .inl (kE, cp, .inr (.inr (.inr (.inr f))))), (sa, .inl (kI, cp, .inl g))] hP hD
                have hm9_0 := hm9 _ (List.mem_of_getElem? (i := 0) rfl)
                have hm9_1 := hm9 _ (List.mem_of_getElem? (i := 1) rfl)
                have hm9_2 := hm9 _ (List.mem_of_getElem? (i := 2) rfl)
                refine W.grow (fun hgs0 hgs1 => ?_)
                have hP9 := hP.subT (f' := [(m9, .inr (23, mA mr mv vf xl (nI zs) ff1 xa1 (nI T) (nI pp1) xi xt xn (nI ns) (nI vv) (nI bb1))), (mr 5, .inl (kI, 3002, .inl fk)), (mr 6, .inl (kI, 3002, .inl fa)), (mr 8, .inl (kL, 3002, .inr (.inl fn)))]) [3, 0, 1, 2] rfl
                have hD9 := hD.subT (f' := [(m9, .inr (23, mA mr mv vf xl (nI zs) ff1 xa1 (nI T) (nI pp1) xi xt xn (nI ns) (nI vv) (nI bb1))), (mr 5, .inl (kI, 3002, .inl fk)), (mr 6, .inl (kI, 3002, .inl fa)), (mr 8, .inl (kL, 3002, .inr (.inl fn)))]) [3, 0, 1, 2] (by decide) rfl
                have hK9 := hK.sub (tys' := [(kI, .int), (kL, .long), (kE, .object RX15)]) [0, 1, 2] rfl
                refine W.widen (k := (8 * (T - pp) + 8)) (n := (120 * (T - pp) + 360)) (by omega) (by omega) ?_
                subst hQ1
                exact W.aret hx hb hr (Or.inl ⟨_, rfl⟩) (Or.inr ⟨q_18, rfl⟩) (fun tS ht hW => ⟨⟨(), q_18, rfl, trivial, L9, F9, ff1, xa1, pp1, bb1, ⟨hr2.tr hx9, hm9_0.1, _, hm9_0.2⟩, ⟨by omega, by omega, by omega, by omega⟩, (fun q9 => absurd q9 hz_22), by rw [ht]; exact ⟨by omega, by omega⟩, by rw [ht]; exact hP9, va_K.moved hW.alike hK9, hD9⟩, hS.F ht⟩) hS.2.2 dX23_chain_144
          refine W.widen (k := (8 * (pp15 - pp) + 4 - 3 * 1)) (n := (120 * (pp15 - pp) + 62 + 4 * 4 - 72 * 1)) (by omega) (by omega) ?_
          exact key1 (T + 1 - (pp15) + 1) pp15 bb15 la19 sa19 4 1 0 xa15 L15 F15 f19 g19 _ _ _ (⟨by omega, by omega, by omega, by omega, by omega, by omega, by omega, by omega, by omega, by omega, hT⟩) (Or.inr (by omega)) ((hf3_0.1).tr hf16_0.1) (fun i hi => by obtain rfl : i = 0 := (by omega); exact ⟨_, hf20_1.1, hf16_0.2⟩) (fun _ => ⟨hg15.1, isE_im hf16_0.1 _ (Nat.le_refl _) hgA.2, chP_add (chP_0 (f := f19) (g := g19) (Nat.le_refl ppA)) (fun i hi => absurd hi (by omega)) hf20_1.1 hf20_1.2 (by omega) (isE_im exS.rf _ (by omega) hg15.2) (Or.inr ⟨by omega, by omega⟩)⟩) (hP.subT [4, 5, 6, 0, 1, 2, 3] rfl) (hD.subT [4, 5, 6, 0, 1, 2, 3] (by decide) rfl) hS (lv_sub hl [0, 3, 4, 5] rfl)
        · refine W_q (fun Q1 hQ1 => ?_)
          have key1 : ∀ (n1 : Nat) (pp1 bb1 la sa cp n : Nat) (ff1 xa1 : Int32) (L1 : List Nat) (F1 : Nat → va_E) (f : Nat → Option Nat) (g : Nat → Int32) (H : Heap) (locs : List Loc) (ls : Array Slot), (1 ≤ n1 ∧ ppA < pp1 ∧ pp1 < T ∧ bb ≤ bb1 ∧ bb1 ≤ bb + (pp1 - pp) ∧ 1 ≤ n ∧ n ≤ cp ∧ 4 ≤ cp ∧ cp ≤ 4 + 2 * n ∧ pp + n ≤ pp1 ∧ T ≤ 3001) → (ff1 ≠ 0 ∨ T + 1 ≤ pp1 + n1) → (exS L F L1 F1) → (∀ i : Nat, i < n → ∃ x : Nat, f i = some x ∧ xO L1 F1 x) → (ff1 = 0 → bb1 ≤ 54 ∧ isE L1 F1 kE kI (24 * k + 18) r_3 pp ppA bb bbA ∧ chP 1 (isE L1 F1 kE kI (24 * k + 18)) f g n ppA pp1 bbA bb1) → va_P (dC, dI) vwCl (([(q_18, .inr (15, [.int 8, .int (nI pp), .int 0, .int 0, .int 0, .int 0, .long 0, .int 0, .ref r_3, .ref la, .ref sa, .int (nI n), .null, .null])), (la, .inl (kE, cp, .inr (.inr (.inr (.inr f))))), (sa, .inl (kI, cp, .inl g)), (m9, .inr (23, mA mr mv vf xl (nI zs) ff1 xa1 (nI T) (nI pp1) xi xt xn (nI ns) (nI vv) (nI bb1))), (mr 5, .inl (kI, 3002, .inl fk)), (mr 6, .inl (kI, 3002, .inl fa)), (mr 8, .inl (kL, 3002, .inr (.inl fn)))] : va_W) ++ (sT L1 F1)) H → va_D A (([(q_18, .inr (15, [.int 8, .int (nI pp), .int 0, .int 0, .int 0, .int 0, .long 0, .int 0, .ref r_3, .ref la, .ref sa, .int (nI n), .null, .null])), (la, .inl (kE, cp, .inr (.inr (.inr (.inr f))))), (sa, .inl (kI, cp, .inl g)), (m9, .inr (23, mA mr mv vf xl (nI zs) ff1 xa1 (nI T) (nI pp1) xi xt xn (nI ns) (nI vv) (nI bb1))), (mr 5, .inl (kI, 3002, .inl fk)), (mr 6, .inl (kI, 3002, .inl fa)), (mr 8, .inl (kL, 3002, .inr (.inl fn)))] : va_W) ++ (sT L1 F1)) → va_S A s.heap H locs → lv_has ls 6 [(3, .ref q_18), (2, .ref r_3), (0, .ref m9), (1, .int 5)] → W p l e (headSpec wp_c_xc5 ({ frames := 8 + 12 * k, cells := (8 * (T - pp) + 8), slots := (120 * (T - pp) + 360), locals := 177 + 279 * k })).room s m ([.ref m9, .int 5] : List Value).toArray below meth c H locs (8 * (pp1 - pp) + 4 - 3 * n) (120 * (pp1 - pp) + 62 + 4 * cp - 72 * n) Q1 (F0 m 29 ls []) := by
            intro n1
            induction n1 with
            | zero => intro pp1 bb1 la sa cp n ff1 xa1 L1 F1 f g H locs ls hr0 hr1 hr2 hr3 hr4; exact absurd hr0 (by omega)
            | succ n1 ih1 =>
              intro pp1 bb1 la sa cp n ff1 xa1 L1 F1 f g H locs ls hr0 hr1 hr2 hr3 hr4 hP hD hS hl
              refine lv_aload_n hx hb dX23_chain_29 rfl (lv_at hl 2 rfl) ?_
              by_cases hz_22 : ff1 = 0
              · subst hz_22
                have hr9 := hr4 rfl
                replace hPc := hP.subF (f' := [(m9, .inr (23, mA mr mv vf xl (nI zs) 0 xa1 (nI T) (nI pp1) xi xt xn (nI ns) (nI vv) (nI bb1)))]) [3] rfl
                replace hDc := hD.subF (f' := [(m9, .inr (23, mA mr mv vf xl (nI zs) 0 xa1 (nI T) (nI pp1) xi xt xn (nI ns) (nI vv) (nI bb1)))]) [3] (by decide) rfl
                replace hKc := hK.sub (tys' := []) [] rfl
                replace hFc := va_freeT (wc := [(m9, .inr (23, mA mr mv vf xl (nI zs) 0 xa1 (nI T) (nI pp1) xi xt xn (nI ns) (nI vv) (nI bb1)))]) hD hS hA [3] rfl
                refine va_calli (va_runV (As := []) (rest := []) ⟨hx, hb, hml, hown, hts⟩ (c_rok0 l dC dI m9 mr mv vf xl xa1 xi xt xn zs T pp1 ns vv bb1 kI fk fa H.size) (cwV 0 hts g_c_xc5_c_rok0_30 rfl rfl rfl (by decide +kernel) ⟨by show 0 + 1 ≤ 8 + 12 * k; omega, by show 8 + (1 + 11) + (0) ≤ 177 + 279 * k; omega⟩) ⟨fun a U g mk q => by obtain ⟨q0, q1, qP, qK, qD⟩ := q; exact ⟨q0, q1, qP, va_K.moved (u := U) (U := U.calling g mk a) (Vm.Alike.refl U.vm) qK, qD⟩, va_recv hKc hPc (ci := 23) (q0 := 0) rfl rfl, fun U hU hW => ⟨rfl, by rw [hU], by rw [hU]; exact hPc, va_K.moved hW.alike hKc, hDc.weaken (fun _ _ _ _ => trivial)⟩⟩ rfl rfl hl.1 rfl (lv_room (Nat.le_of_ble_eq_true rfl)) dX23_chain_30 ⟨(show (8 * (pp1 - pp) + 4 - 3 * n) + 0 ≤ (8 * (T - pp) + 8) by omega), (show (120 * (pp1 - pp) + 62 + 4 * cp - 72 * n) + 0 ≤ (120 * (T - pp) + 360) by omega)⟩) hS (fun q _ h => hFc q h) hFc (fun r_23 u tS H1 locs ht hvm hw hB hz1 hk1 hS => ?_)
                obtain ⟨hP1, hK1, hD1⟩ := hB
                rw [ht] at hP1
                replace hK1 := va_K.moved hvm.symm hK1
                obtain ⟨hPj, hDj⟩ := va_joinT (wr := [(q_18, .inr (15, [.int 8, .int (nI pp), .int 0, .int 0, .int 0, .int 0, .long 0, .int 0, .ref r_3, .ref la, .ref sa, .int (nI n), .null, .null])), (la, .inl (kE, cp, .inr (.inr (.inr (.inr f))))), (sa, .inl (kI, cp, .inl g)), (mr 5, .inl (kI, 3002, .inl fk)), (mr 6, .inl (kI, 3002, .inl fa)), (mr 8, .inl (kL, 3002, .inr (.inl fn)))]) (w1 := [(m9, .inr (23, mA mr mv vf xl (nI zs) 0 xa1 (nI T) (nI pp1) xi xt xn (nI ns) (nI vv) (nI bb1)))]) hP hD [3] [0, 1, 2, 4, 5, 6] rfl rfl (by decide) (by decide) hk1 hFc hP1 hD1
                replace hP := hPj
                replace hD := hDj
                clear hPj hDj
                generalize H1 = H at hP hS ⊢
                replace hP : va_P (dC, dI) vwCl (([(q_18, .inr (15, [.int 8, .int (nI pp), .int 0, .int 0, .int 0, .int 0, .long 0, .int 0, .ref r_3, .ref la, .ref sa, .int (nI n), .null, .null])), (la, .inl (kE, cp, .inr (.inr (.inr (.inr f))))), (sa, .inl (kI, cp, .inl g)), (mr 5, .inl (kI, 3002, .inl fk)), (mr 6, .inl (kI, 3002, .inl fa)), (mr 8, .inl (kL, 3002, .inr (.inl fn))), (m9, .inr (23, mA mr mv vf xl (nI zs) 0 xa1 (nI T) (nI pp1) xi xt xn (nI ns) (nI vv) (nI bb1)))] : va_W) ++ (sT L1 F1)) H := hP
                replace hD : va_D A (([(q_18, .inr (15, [.int 8, .int (nI pp), .int 0, .int 0, .int 0, .int 0, .long 0, .int 0, .ref r_3, .ref la, .ref sa, .int (nI n), .null, .null])), (la, .inl (kE, cp, .inr (.inr (.inr (.inr f))))), (sa, .inl (kI, cp, .inl g)), (mr 5, .inl (kI, 3002, .inl fk)), (mr 6, .inl (kI, 3002, .inl fa)), (mr 8, .inl (kL, 3002, .inr (.inl fn))), (m9, .inr (23, mA mr mv vf xl (nI zs) 0 xa1 (nI T) (nI pp1) xi xt xn (nI ns) (nI vv) (nI bb1)))] : va_W) ++ (sT L1 F1)) := hD
                replace hK : va_K (dC, dI) vwCl [(kI, .int), (kL, .long), (kE, .object RX15)] s := hK
                clear hz1 hk1 hPc hDc hKc hFc hP1 hD1 hK1
                obtain rfl : r_23 = 1 := hw
                refine lv_if_eq (tgt := 135) hx hb dX23_chain_33 (by decide) (fun c_24 => absurd c_24 (by decide)) (fun _ => ?_)
                refine lv_aload_n hx hb dX23_chain_36 rfl (lv_at hl 2 rfl) ?_
                refine va_get (D := (dC, dI)) (ci := 23) (v := .ref (mr 5)) (C := RX23) (T := TX23) (N := 89) hx hb hts in_c_xc5_X23 hown hK hP 6 rfl rfl 5 (by decide) (hts (.fieldLink RX23 25 "OwnedPlacesModel" "tokenKind" "[I") (wm_c_xc5 13 rfl)) (fun _ h9 => h9) rfl dX23_chain_37 ?_
                refine lv_aload_n hx hb dX23_chain_40 rfl (lv_at hl 2 rfl) ?_
                refine va_get (D := (dC, dI)) (ci := 23) (v := .int (nI pp1)) (C := RX23) (T := TX23) (N := 89) hx hb hts in_c_xc5_X23 hown hK hP 6 rfl rfl 10 (by decide) (hts (.fieldLink RX23 86 "OwnedPlacesModel" "p" "I") (wm_c_xc5 14 rfl)) (fun _ h9 => h9) rfl dX23_chain_41 ?_
                refine va_iald hx hb hK hP 3 0 rfl rfl (vp_in_nI (show pp1 < 3002 by omega) (by decide)) dX23_chain_44 ?_
                refine lv_topi (fun v_25 ev_25 => ?_)
                obtain rfl : v_25 = fk pp1 := ev_25.trans (by rw [nI_clamp (by omega)])
                replace hr1 := hr1.resolve_left (fun q => q rfl)
                replace hPc := hP.subF (f' := []) [] rfl
                replace hDc := hD.subF (f' := []) [] (by decide) rfl
                replace hKc := hK.sub (tys' := []) [] rfl
                replace hFc := va_freeT (wc := []) hD hS hA [] rfl
                refine va_calli (va_runS (As := [.int (fk pp1)]) (rest := []) ⟨hx, hb, hml, hown, hts⟩ (c_rlv l dC dI (fk pp1) H.size) (va_cwS 1 hts g_c_xc5_c_rlv_45 rfl rfl rfl (by decide +kernel) ⟨by show 0 + 1 ≤ 8 + 12 * k; omega, by show 8 + (1 + 11) + (0) ≤ 177 + 279 * k; omega⟩) ⟨fun a U g mk q => by obtain ⟨q0, q1, qP, qK, qD⟩ := q; exact ⟨q0, q1, qP, va_K.moved (u := U) (U := U.calling g mk a) (Vm.Alike.refl U.vm) qK, qD⟩, fun U hU hW => ⟨rfl, by rw [hU], by rw [hU]; exact hPc, va_K.moved hW.alike hKc, hDc.weaken (fun _ _ _ _ => trivial)⟩⟩ rfl rfl hl.1 rfl (lv_room (Nat.le_of_ble_eq_true rfl)) dX23_chain_45 ⟨(show (8 * (pp1 - pp) + 4 - 3 * n) + 0 ≤ (8 * (T - pp) + 8) by omega), (show (120 * (pp1 - pp) + 62 + 4 * cp - 72 * n) + 0 ≤ (120 * (T - pp) + 360) by omega)⟩) hS (fun q _ h => hFc q h) hFc (fun r_26 u tS H1 locs ht hvm hw hB hz1 hk1 hS => ?_)
                obtain ⟨hP1, hK1, hD1⟩ := hB
                rw [ht] at hP1
                replace hK1 := va_K.moved hvm.symm hK1
                obtain ⟨hPj, hDj⟩ := va_joinT (wr := [(q_18, .inr (15, [.int 8, .int (nI pp), .int 0, .int 0, .int 0, .int 0, .long 0, .int 0, .ref r_3, .ref la, .ref sa, .int (nI n), .null, .null])), (la, .inl (kE, cp, .inr (.inr (.inr (.inr f))))), (sa, .inl (kI, cp, .inl g)), (mr 5, .inl (kI, 3002, .inl fk)), (mr 6, .inl (kI, 3002, .inl fa)), (mr 8, .inl (kL, 3002, .inr (.inl fn))), (m9, .inr (23, mA mr mv vf xl (nI zs) 0 xa1 (nI T) (nI pp1) xi xt xn (nI ns) (nI vv) (nI bb1)))]) (w1 := []) hP hD [] [0, 1, 2, 3, 4, 5, 6] rfl rfl (by decide) (by decide) hk1 hFc hP1 hD1
                replace hP := hPj
                replace hD := hDj
                clear hPj hDj
                generalize H1 = H at hP hS ⊢
                replace hP : va_P (dC, dI) vwCl (([(q_18, .inr (15, [.int 8, .int (nI pp), .int 0, .int 0, .int 0, .int 0, .long 0, .int 0, .ref r_3, .ref la, .ref sa, .int (nI n), .null, .null])), (la, .inl (kE, cp, .inr (.inr (.inr (.inr f))))), (sa, .inl (kI, cp, .inl g)), (mr 5, .inl (kI, 3002, .inl fk)), (mr 6, .inl (kI, 3002, .inl fa)), (mr 8, .inl (kL, 3002, .inr (.inl fn))), (m9, .inr (23, mA mr mv vf xl (nI zs) 0 xa1 (nI T) (nI pp1) xi xt xn (nI ns) (nI vv) (nI bb1)))] : va_W) ++ (sT L1 F1)) H := hP
                replace hD : va_D A (([(q_18, .inr (15, [.int 8, .int (nI pp), .int 0, .int 0, .int 0, .int 0, .long 0, .int 0, .ref r_3, .ref la, .ref sa, .int (nI n), .null, .null])), (la, .inl (kE, cp, .inr (.inr (.inr (.inr f))))), (sa, .inl (kI, cp, .inl g)), (mr 5, .inl (kI, 3002, .inl fk)), (mr 6, .inl (kI, 3002, .inl fa)), (mr 8, .inl (kL, 3002, .inr (.inl fn))), (m9, .inr (23, mA mr mv vf xl (nI zs) 0 xa1 (nI T) (nI pp1) xi xt xn (nI ns) (nI vv) (nI bb1)))] : va_W) ++ (sT L1 F1)) := hD
                replace hK : va_K (dC, dI) vwCl [(kI, .int), (kL, .long), (kE, .object RX15)] s := hK
                clear hz1 hk1 hPc hDc hKc hFc hP1 hD1 hK1
                have hlv : r_26 = lvR (fk pp1) := hw
                refine lv_iload_n hx hb dX23_chain_48 rfl (lv_at hl 3 rfl) ?_
                refine lv_icmp_ne (tgt := 135) hx hb dX23_chain_49 (by decide) (fun hc_27 => ?_) (fun hc_27 => ?_)
                · refine lv_aload_n hx hb dX23_chain_135 rfl (lv_at hl 0 rfl) ?_
                  refine lv_ifnonnull (tgt := 143) hx hb dX23_chain_136 (by decide) ?_
                  refine lv_aload_n hx hb dX23_chain_143 rfl (lv_at hl 0 rfl) ?_
                  replace hP : va_P (dC, dI) vwCl ((([(mr 5, .inl (kI, 3002, .inl fk)), (mr 6, .inl (kI, 3002, .inl fa)), (mr 8, .inl (kL, 3002, .inr (.inl fn))), (m9, .inr (23, mA mr mv vf xl (nI zs) 0 xa1 (nI T) (nI pp1) xi xt xn (nI ns) (nI vv) (nI bb1)))] : va_W) ++ ([(q_18, .inr (15, [.int 8, .int (nI pp), .int 0, .int 0, .int 0, .int 0, .long 0, .int 0, .ref r_3, .ref la, .ref sa, .int (nI n), .null, .null])), (la, .inl (kE, cp, .inr (.inr (.inr (.inr f))))), (sa, .inl (kI, cp, .inl g))] : va_W)) ++ sT L1 F1) H := hP.subT (f' := [(mr 5, .inl (kI, 3002, .inl fk)), (mr 6, .inl (kI, 3002, .inl fa)), (mr 8, .inl (kL, 3002, .inr (.inl fn))), (m9, .inr (23, mA mr mv vf xl (nI zs) 0 xa1 (nI T) (nI pp1) xi xt xn (nI ns) (nI vv) (nI bb1))), (q_18, .inr (15, [.int 8, .int (nI pp), .int 0, .int 0, .int 0, .int 0, .long 0, .int 0, .ref r_3, .ref la, .ref sa, .int (nI n), .null, .null])), (la, .inl (kE, cp, .inr (.inr (.inr (.inr f))))), (sa, .inl (kI, cp, .inl g))]) [3, 4, 5, 6, 0, 1, 2] rfl
                  replace hD : va_D A ((([(mr 5, .inl (kI, 3002, .inl fk)), (mr 6, .inl (kI, 3002, .inl fa)), (mr 8, .inl (kL, 3002, .inr (.inl fn))), (m9, .inr (23, mA mr mv vf xl (nI zs) 0 xa1 (nI T) (nI pp1) xi xt xn (nI ns) (nI vv) (nI bb1)))] : va_W) ++ ([(q_18, .inr (15, [.int 8, .int (nI pp), .int 0, .int 0, .int 0, .int 0, .long 0, .int 0, .ref r_3, .ref la, .ref sa, .int (nI n), .null, .null])), (la, .inl (kE, cp, .inr (.inr (.inr (.inr f))))), (sa, .inl (kI, cp, .inl g))] : va_W)) ++ sT L1 F1) := hD.subT (f' := [(mr 5, .inl (kI, 3002, .inl fk)), (mr 6, .inl (kI, 3002, .inl fa)), (mr 8, .inl (kL, 3002, .inr (.inl fn))), (m9, .inr (23, mA mr mv vf xl (nI zs) 0 xa1 (nI T) (nI pp1) xi xt xn (nI ns) (nI vv) (nI bb1))), (q_18, .inr (15, [.int 8, .int (nI pp), .int 0, .int 0, .int 0, .int 0, .long 0, .int 0, .ref r_3, .ref la, .ref sa, .int (nI n), .null, .null])), (la, .inl (kE, cp, .inr (.inr (.inr (.inr f))))), (sa, .inl (kI, cp, .inl g))]) [3, 4, 5, 6, 0, 1, 2] (by decide) rfl
                  obtain ⟨L9, F9, hx9, hm9, hP, hD⟩ := st_fileL [(q_18, .inr (15, [.int 8, .int (nI pp), .int 0, .int 0, .int 0, .int 0, .long 0, .int 0, .ref r_3, .ref la, .ref sa, .int (nI n), .null, .null])), (la, .inl (kE, cp, .inr (.inr (.inr (.inr f))))), (sa, .inl (kI, cp, .inl g))] hP hD
                  have hm9_0 := hm9 _ (List.mem_of_getElem? (i := 0) rfl)
                  have hm9_1 := hm9 _ (List.mem_of_getElem? (i := 1) rfl)
                  have hm9_2 := hm9 _ (List.mem_of_getElem? (i := 2) rfl)
                  refine W.grow (fun hgs0 hgs1 => ?_)
                  have hP9 := hP.subT (f' := [(m9, .inr (23, mA mr mv vf xl (nI zs) 0 xa1 (nI T) (nI pp1) xi xt xn (nI ns) (nI vv) (nI bb1))), (mr 5, .inl (kI, 3002, .inl fk)), (mr 6, .inl (kI, 3002, .inl fa)), (mr 8, .inl (kL, 3002, .inr (.inl fn)))]) [3, 0, 1, 2] rfl
                  have hD9 := hD.subT (f' := [(m9, .inr (23, mA mr mv vf xl (nI zs) 0 xa1 (nI T) (nI pp1) xi xt xn (nI ns) (nI vv) (nI bb1))), (mr 5, .inl (kI, 3002, .inl fk)), (mr 6, .inl (kI, 3002, .inl fa)), (mr 8, .inl (kL, 3002, .inr (.inl fn)))]) [3, 0, 1, 2] (by decide) rfl
                  have hK9 := hK.sub (tys' := [(kI, .int), (kL, .long), (kE, .object RX15)]) [0, 1, 2] rfl
                  refine W.widen (k := (8 * (T - pp) + 8)) (n := (120 * (T - pp) + 360)) (by omega) (by omega) ?_
                  subst hQ1
                  exact W.aret hx hb hr (Or.inl ⟨_, rfl⟩) (Or.inr ⟨q_18, rfl⟩) (fun tS ht hW => ⟨⟨(), q_18, rfl, trivial, L9, F9, 0, xa1, pp1, bb1, ⟨hr2.tr hx9, hm9_0.1, _, hm9_0.2⟩, ⟨by omega, by omega, by omega, by omega⟩, (fun _ => ⟨hr9.1, isE_6 hm9_0.1 (by omega) hm9_0.2 (by omega) (isE_im hx9 _ (Nat.le_refl _) hr9.2.1) (Or.inr ⟨la, sa, cp, _, f, g, rfl, rfl, hm9_1.1, hm9_2.1, hm9_1.2, hm9_2.2, by omega, Nat.le_refl _, chP_im (fun x p q b c z => isE_im hx9 _ (Nat.le_refl _) z) hr9.2.2⟩)⟩), by rw [ht]; exact ⟨by omega, by omega⟩, by rw [ht]; exact hP9, va_K.moved hW.alike hK9, hD9⟩, hS.F ht⟩) hS.2.2 dX23_chain_144
                · refine lv_aload_n hx hb dX23_chain_52 rfl (lv_at hl 2 rfl) ?_
                  refine va_get (D := (dC, dI)) (ci := 23) (v := .int (nI pp1)) (C := RX23) (T := TX23) (N := 89) hx hb hts in_c_xc5_X23 hown hK hP 6 rfl rfl 10 (by decide) (hts (.fieldLink RX23 86 "OwnedPlacesModel" "p" "I") (wm_c_xc5 14 rfl)) (fun _ h9 => h9) rfl dX23_chain_53 ?_
                  refine lv_istore (lv' := [(4, .int (nI pp1)), (3, .ref q_18), (2, .ref r_3), (0, .ref m9), (1, .int 5)]) hx hb dX23_chain_56 hl (by decide) rfl (fun ls hl => ?_)
                  refine lv_aload_n hx hb dX23_chain_58 rfl (lv_at hl 3 rfl) ?_
                  refine lv_dup hx hb dX23_chain_59 rfl ?_
                  refine va_get (D := (dC, dI)) (ci := 23) (v := .int (nI pp1)) (C := RX23) (T := TX23) (N := 89) hx hb hts in_c_xc5_X23 hown hK hP 6 rfl rfl 10 (by decide) (hts (.fieldLink RX23 86 "OwnedPlacesModel" "p" "I") (wm_c_xc5 14 rfl)) (fun _ h9 => h9) rfl dX23_chain_60 ?_
                  refine lv_iconst (v := 1) hx hb dX23_chain_63 (by decide) ?_
                  have hp_28 : pp1 + 1 < T := kne3 (K := fk pp1) hk0 hr0.2.2.1 rfl (lvR_0 (hlv.symm.trans hc_27) (by decide))
                  refine lv_iadd hx hb dX23_chain_64 ?_
                  refine lv_topi (fun f_29 ef_29 => ?_)
                  obtain rfl : f_29 = nI (pp1 + 1) := ef_29.trans (nI_1 _)
                  refine va_put (D := (dC, dI)) (ci := 23) (v := .int (nI (pp1 + 1))) (ty := .int) (C := RX23) (T := TX23) (N := 89) hx hb hts in_c_xc5_X23 tyX23 tyX23_ok nmX23 hown hK hP hD hS 6 rfl rfl 10 (by decide) (hts (.fieldLink RX23 86 "OwnedPlacesModel" "p" "I") (wm_c_xc5 14 rfl)) (fun _ h9 => h9) rfl (by decide +kernel) rfl rfl (Nat.le_of_ble_eq_true rfl) dX23_chain_65 (fun H locs hP hD hS => ?_)
                  replace hP : va_P (dC, dI) vwCl (([(q_18, .inr (15, [.int 8, .int (nI pp), .int 0, .int 0, .int 0, .int 0, .long 0, .int 0, .ref r_3, .ref la, .ref sa, .int (nI n), .null, .null])), (la, .inl (kE, cp, .inr (.inr (.inr (.inr f))))), (sa, .inl (kI, cp, .inl g)), (mr 5, .inl (kI, 3002, .inl fk)), (mr 6, .inl (kI, 3002, .inl fa)), (mr 8, .inl (kL, 3002, .inr (.inl fn))), (m9, .inr (23, mA mr mv vf xl (nI zs) 0 xa1 (nI T) (nI (pp1 + 1)) xi xt xn (nI ns) (nI vv) (nI bb1)))] : va_W) ++ (sT L1 F1)) H := hP
                  replace hD : va_D A (([(q_18, .inr (15, [.int 8, .int (nI pp), .int 0, .int 0, .int 0, .int 0, .long 0, .int 0, .ref r_3, .ref la, .ref sa, .int (nI n), .null, .null])), (la, .inl (kE, cp, .inr (.inr (.inr (.inr f))))), (sa, .inl (kI, cp, .inl g)), (mr 5, .inl (kI, 3002, .inl fk)), (mr 6, .inl (kI, 3002, .inl fa)), (mr 8, .inl (kL, 3002, .inr (.inl fn))), (m9, .inr (23, mA mr mv vf xl (nI zs) 0 xa1 (nI T) (nI (pp1 + 1)) xi xt xn (nI ns) (nI vv) (nI bb1)))] : va_W) ++ (sT L1 F1)) := hD
                  refine lv_aload_n hx hb dX23_chain_68 rfl (lv_at hl 3 rfl) ?_
                  refine lv_iload hx hb dX23_chain_69 (lv_at hl 0 rfl) ?_
                  by_cases hn_30 : ns = 16
                  · replace hPc := hP.subF (f' := [(m9, .inr (23, mA mr mv vf xl (nI zs) 0 xa1 (nI T) (nI (pp1 + 1)) xi xt xn (nI ns) (nI vv) (nI bb1))), (mr 6, .inl (kI, 3002, .inl fa))]) [6, 4] rfl
                    replace hDc := hD.subF (f' := [(m9, .inr (23, mA mr mv vf xl (nI zs) 0 xa1 (nI T) (nI (pp1 + 1)) xi xt xn (nI ns) (nI vv) (nI bb1))), (mr 6, .inl (kI, 3002, .inl fa))]) [6, 4] (by decide) rfl
                    replace hKc := hK.sub (tys' := [(kI, .int)]) [0] rfl
                    replace hFc := va_freeT (wc := [(m9, .inr (23, mA mr mv vf xl (nI zs) 0 xa1 (nI T) (nI (pp1 + 1)) xi xt xn (nI ns) (nI vv) (nI bb1))), (mr 6, .inl (kI, 3002, .inl fa))]) hD hS hA [6, 4] rfl
                    refine va_callv (va_runV (As := [.int (nI pp1)]) (rest := []) ⟨hx, hb, hml, hown, hts⟩ (c_renN l dC dI m9 mr mv vf xl xa1 xi xt xn zs T (pp1 + 1) ns vv bb1 kI fk fa pp1 H.size (by omega) hn_30) (cwV 1 hts g_c_xc5_c_renN_71 rfl rfl rfl (by decide +kernel) ⟨by show 1 + 1 ≤ 8 + 12 * k; omega, by show 8 + (2 + 11) + (22) ≤ 177 + 279 * k; omega⟩) ⟨fun a U g mk q => by obtain ⟨q0, q1, qP, qK, qD⟩ := q; exact ⟨q0, q1, qP, va_K.moved (u := U) (U := U.calling g mk a) (Vm.Alike.refl U.vm) qK, qD⟩, va_recv hKc hPc (ci := 23) (q0 := 0) rfl rfl, fun U hU hW => ⟨rfl, by rw [hU], by rw [hU]; exact hPc, va_K.moved hW.alike hKc, hDc.weaken (fun _ _ _ _ => trivial)⟩⟩ rfl rfl hl.1 rfl (lv_room (Nat.le_of_ble_eq_true rfl)) dX23_chain_71 ⟨(show (8 * (pp1 - pp) + 4 - 3 * n) + 0 ≤ (8 * (T - pp) + 8) by omega), (show (120 * (pp1 - pp) + 62 + 4 * cp - 72 * n) + 0 ≤ (120 * (T - pp) + 360) by omega)⟩) hS (fun q _ h => hFc q h) hFc (fun u tS H1 locs ht hvm hw hB hz1 hk1 hS => ?_)
                    obtain ⟨ff_31, xa_32, hf33_0, hP1, hK1, hD1⟩ := hB
                    rw [ht] at hP1
                    replace hK1 := va_K.moved hvm.symm hK1
                    obtain ⟨hPj, hDj⟩ := va_joinT (wr := [(q_18, .inr (15, [.int 8, .int (nI pp), .int 0, .int 0, .int 0, .int 0, .long 0, .int 0, .ref r_3, .ref la, .ref sa, .int (nI n), .null, .null])), (la, .inl (kE, cp, .inr (.inr (.inr (.inr f))))), (sa, .inl (kI, cp, .inl g)), (mr 5, .inl (kI, 3002, .inl fk)), (mr 8, .inl (kL, 3002, .inr (.inl fn)))]) (w1 := [(m9, .inr (23, mA mr mv vf xl (nI zs) ff_31 xa_32 (nI T) (nI (pp1 + 1)) xi xt xn (nI (ns + 1)) (nI vv) (nI bb1))), (mr 6, .inl (kI, 3002, .inl fa))]) hP hD [6, 4] [0, 1, 2, 3, 5] rfl rfl (by decide) (by decide) hk1 hFc hP1 hD1
                    replace hP := hPj
                    replace hD := hDj
                    clear hPj hDj
                    replace hK := hK.app hK1
                    generalize H1 = H at hP hS ⊢
                    replace hP : va_P (dC, dI) vwCl (([(q_18, .inr (15, [.int 8, .int (nI pp), .int 0, .int 0, .int 0, .int 0, .long 0, .int 0, .ref r_3, .ref la, .ref sa, .int (nI n), .null, .null])), (la, .inl (kE, cp, .inr (.inr (.inr (.inr f))))), (sa, .inl (kI, cp, .inl g)), (mr 5, .inl (kI, 3002, .inl fk)), (mr 8, .inl (kL, 3002, .inr (.inl fn))), (m9, .inr (23, mA mr mv vf xl (nI zs) ff_31 xa_32 (nI T) (nI (pp1 + 1)) xi xt xn (nI (ns + 1)) (nI vv) (nI bb1))), (mr 6, .inl (kI, 3002, .inl fa))] : va_W) ++ (sT L1 F1)) H := hP
                    replace hD : va_D A (([(q_18, .inr (15, [.int 8, .int (nI pp), .int 0, .int 0, .int 0, .int 0, .long 0, .int 0, .ref r_3, .ref la, .ref sa, .int (nI n), .null, .null])), (la, .inl (kE, cp, .inr (.inr (.inr (.inr f))))), (sa, .inl (kI, cp, .inl g)), (mr 5, .inl (kI, 3002, .inl fk)), (mr 8, .inl (kL, 3002, .inr (.inl fn))), (m9, .inr (23, mA mr mv vf xl (nI zs) ff_31 xa_32 (nI T) (nI (pp1 + 1)) xi xt xn (nI (ns + 1)) (nI vv) (nI bb1))), (mr 6, .inl (kI, 3002, .inl fa))] : va_W) ++ (sT L1 F1)) := hD
                    replace hK : va_K (dC, dI) vwCl [(kI, .int), (kL, .long), (kE, .object RX15), (kI, .int)] s := hK
                    replace hK := hK.sub (tys' := [(kI, .int), (kL, .long), (kE, .object RX15)]) [0, 1, 2] rfl
                    clear hz1 hk1 hPc hDc hKc hFc hP1 hD1 hK1
                    refine lv_aload_n hx hb dX23_chain_74 rfl (lv_at hl 3 rfl) ?_
                    refine lv_iload_n hx hb dX23_chain_75 rfl (lv_at hl 4 rfl) ?_
                    refine lv_iconst (v := 1) hx hb dX23_chain_76 (by decide) ?_
                    refine lv_iadd hx hb dX23_chain_77 ?_
                    refine lv_topi (fun f_34 ef_34 => ?_)
                    obtain rfl : f_34 = 6 := ef_34.trans (by decide)
                    replace hPc := hP.subT (f' := [(m9, .inr (23, mA mr mv vf xl (nI zs) ff_31 xa_32 (nI T) (nI (pp1 + 1)) xi xt xn (nI (ns + 1)) (nI vv) (nI bb1))), (mr 5, .inl (kI, 3002, .inl fk)), (mr 6, .inl (kI, 3002, .inl fa))]) [5, 3, 6] rfl
                    replace hDc := hD.subT (f' := [(m9, .inr (23, mA mr mv vf xl (nI zs) ff_31 xa_32 (nI T) (nI (pp1 + 1)) xi xt xn (nI (ns + 1)) (nI vv) (nI bb1))), (mr 5, .inl (kI, 3002, .inl fk)), (mr 6, .inl (kI, 3002, .inl fa))]) [5, 3, 6] (by decide) rfl
                    replace hKc := hK.sub (tys' := [(kI, .int)]) [0] rfl
                    replace hFc := va_freeB (wc := [(m9, .inr (23, mA mr mv vf xl (nI zs) ff_31 xa_32 (nI T) (nI (pp1 + 1)) xi xt xn (nI (ns + 1)) (nI vv) (nI bb1))), (mr 5, .inl (kI, 3002, .inl fk)), (mr 6, .inl (kI, 3002, .inl fa))]) hD hS hA [5, 3, 6] rfl
                    refine W.grow (fun hgs0 hgs1 => ?_)
                    refine va_callr (va_runV (As := [.int 6]) (rest := []) ⟨hx, hb, hml, hown, hts⟩ (c_xc6B l dC dI m9 mr mv vf xl xa_32 xi xt xn zs T (pp1 + 1) (ns + 1) vv bb1 kI fk fa ff_31 L1 F1 (slN H) H.size hf33_0) (cwV 1 hts g_c_xc5_c_xc6B_78 rfl rfl rfl (by decide +kernel) ⟨by show 3 + 1 ≤ 8 + 12 * k; omega, by show 8 + (6 + 11) + (54) ≤ 177 + 279 * k; omega⟩) ⟨fun a U g mk q => by obtain ⟨q0, q1, qP, qK, qD, qx0, qx1⟩ := q; exact ⟨q0, q1, qP, va_K.moved (u := U) (U := U.calling g mk a) (Vm.Alike.refl U.vm) qK, qD, nsM.same (u := U) (U := U.calling g mk a) rfl qx0, qx1⟩, va_recv hKc hPc (ci := 23) (q0 := 0) rfl rfl, fun U hU hW => ⟨rfl, by rw [hU], by rw [hU]; exact hPc, va_K.moved hW.alike hKc, hDc.weaken (fun _ _ _ _ => trivial), nsM.warm hW hns, by rw [hU]⟩⟩ rfl rfl hl.1 rfl (lv_room (Nat.le_of_ble_eq_true rfl)) dX23_chain_78 ⟨(show (8 * (pp1 - pp) + 4 - 3 * n) + 1 ≤ (8 * (T - pp) + 8) by omega), (show (120 * (pp1 - pp) + 62 + 4 * cp - 72 * n) + 14 ≤ (120 * (T - pp) + 360) by omega)⟩) hS (fun q _ h => hFc q h) hFc (fun u r_35 tS H1 locs ht hvm hw hB hz1 hk1 hS => ?_)
                    obtain ⟨L34, F34, hf35_0, hf35_1, hP1, hK1, hD1⟩ := hB
                    rw [ht] at hP1
                    replace hK1 := va_K.moved hvm.symm hK1
                    rw [ht] at hf35_1
                    have hgz : H1.size ≤ s.heap.size + (((8 * (pp1 - pp) + 4 - 3 * n) + 1)) ∧ slN H1 ≤ slN s.heap + (((120 * (pp1 - pp) + 62 + 4 * cp - 72 * n) + 14)) := ⟨by have := hf35_1.1; omega, by have := hf35_1.2; omega⟩
                    obtain ⟨hPj, hDj⟩ := va_joinB (wr := [(q_18, .inr (15, [.int 8, .int (nI pp), .int 0, .int 0, .int 0, .int 0, .long 0, .int 0, .ref r_3, .ref la, .ref sa, .int (nI n), .null, .null])), (la, .inl (kE, cp, .inr (.inr (.inr (.inr f))))), (sa, .inl (kI, cp, .inl g)), (mr 8, .inl (kL, 3002, .inr (.inl fn)))]) (w1 := [(m9, .inr (23, mA mr mv vf xl (nI zs) ff_31 xa_32 (nI T) (nI (pp1 + 1)) xi xt xn (nI (ns + 1)) (nI vv) (nI bb1))), (mr 5, .inl (kI, 3002, .inl fk)), (mr 6, .inl (kI, 3002, .inl fa))]) hP hD [5, 3, 6] [0, 1, 2, 4] rfl rfl (by decide) (by decide) hk1 hFc hP1 hD1
                    replace hP := hPj
                    replace hD := hDj
                    clear hPj hDj
                    replace hK := hK.app hK1
                    generalize H1 = H at hP hS hgz ⊢
                    replace hP : va_P (dC, dI) vwCl (([(q_18, .inr (15, [.int 8, .int (nI pp), .int 0, .int 0, .int 0, .int 0, .long 0, .int 0, .ref r_3, .ref la, .ref sa, .int (nI n), .null, .null])), (la, .inl (kE, cp, .inr (.inr (.inr (.inr f))))), (sa, .inl (kI, cp, .inl g)), (mr 8, .inl (kL, 3002, .inr (.inl fn))), (m9, .inr (23, mA mr mv vf xl (nI zs) ff_31 xa_32 (nI T) (nI (pp1 + 1)) xi xt xn (nI (ns + 1)) (nI vv) (nI bb1))), (mr 5, .inl (kI, 3002, .inl fk)), (mr 6, .inl (kI, 3002, .inl fa))] : va_W) ++ (sT L34 F34)) H := hP
                    replace hD : va_D A (([(q_18, .inr (15, [.int 8, .int (nI pp), .int 0, .int 0, .int 0, .int 0, .long 0, .int 0, .ref r_3, .ref la, .ref sa, .int (nI n), .null, .null])), (la, .inl (kE, cp, .inr (.inr (.inr (.inr f))))), (sa, .inl (kI, cp, .inl g)), (mr 8, .inl (kL, 3002, .inr (.inl fn))), (m9, .inr (23, mA mr mv vf xl (nI zs) ff_31 xa_32 (nI T) (nI (pp1 + 1)) xi xt xn (nI (ns + 1)) (nI vv) (nI bb1))), (mr 5, .inl (kI, 3002, .inl fk)), (mr 6, .inl (kI, 3002, .inl fa))] : va_W) ++ (sT L34 F34)) := hD
                    replace hK : va_K (dC, dI) vwCl [(kI, .int), (kL, .long), (kE, .object RX15), (kI, .int)] s := hK
                    replace hK := hK.sub (tys' := [(kI, .int), (kL, .long), (kE, .object RX15)]) [0, 1, 2] rfl
                    refine W.tight (k := ((8 * (pp1 - pp) + 4 - 3 * n) + 1)) (n := ((120 * (pp1 - pp) + 62 + 4 * cp - 72 * n) + 14)) hgz.1 hgz.2 ?_
                    clear hz1 hk1 hPc hDc hKc hFc hP1 hD1 hK1
                    refine lv_astore (lv' := [(5, .ref r_35), (4, .int (nI pp1)), (3, .ref q_18), (2, .ref r_3), (0, .ref m9), (1, .int 5)]) hx hb dX23_chain_81 hl (by decide) rfl (fun ls hl => ?_)
                    refine lv_aload_n hx hb dX23_chain_83 rfl (lv_at hl 4 rfl) ?_
                    refine lv_dup hx hb dX23_chain_84 rfl ?_
                    refine va_get (D := (dC, dI)) (ci := 23) (v := .int (nI (ns + 1))) (C := RX23) (T := TX23) (N := 89) hx hb hts in_c_xc5_X23 hown hK hP 4 rfl rfl 15 (by decide) (hts (.fieldLink RX23 104 "OwnedPlacesModel" "nest" "I") (wm_c_xc5 19 rfl)) (fun _ h9 => h9) rfl dX23_chain_85 ?_
                    refine lv_iconst (v := 1) hx hb dX23_chain_88 (by decide) ?_
                    refine lv_isub hx hb dX23_chain_89 ?_
                    refine lv_topi (fun f_36 ef_36 => ?_)
                    obtain rfl : f_36 = nI ns := ef_36.trans (nI_pred _)
                    refine va_put (D := (dC, dI)) (ci := 23) (v := .int (nI ns)) (ty := .int) (C := RX23) (T := TX23) (N := 89) hx hb hts in_c_xc5_X23 tyX23 tyX23_ok nmX23 hown hK hP hD hS 4 rfl rfl 15 (by decide) (hts (.fieldLink RX23 104 "OwnedPlacesModel" "nest" "I") (wm_c_xc5 19 rfl)) (fun _ h9 => h9) rfl (by decide +kernel) rfl rfl (Nat.le_of_ble_eq_true rfl) dX23_chain_90 (fun H locs hP hD hS => ?_)
                    replace hP : va_P (dC, dI) vwCl (([(q_18, .inr (15, [.int 8, .int (nI pp), .int 0, .int 0, .int 0, .int 0, .long 0, .int 0, .ref r_3, .ref la, .ref sa, .int (nI n), .null, .null])), (la, .inl (kE, cp, .inr (.inr (.inr (.inr f))))), (sa, .inl (kI, cp, .inl g)), (mr 8, .inl (kL, 3002, .inr (.inl fn))), (m9, .inr (23, mA mr mv vf xl (nI zs) ff_31 xa_32 (nI T) (nI (pp1 + 1)) xi xt xn (nI ns) (nI vv) (nI bb1))), (mr 5, .inl (kI, 3002, .inl fk)), (mr 6, .inl (kI, 3002, .inl fa))] : va_W) ++ (sT L34 F34)) H := hP
                    replace hD : va_D A (([(q_18, .inr (15, [.int 8, .int (nI pp), .int 0, .int 0, .int 0, .int 0, .long 0, .int 0, .ref r_3, .ref la, .ref sa, .int (nI n), .null, .null])), (la, .inl (kE, cp, .inr (.inr (.inr (.inr f))))), (sa, .inl (kI, cp, .inl g)), (mr 8, .inl (kL, 3002, .inr (.inl fn))), (m9, .inr (23, mA mr mv vf xl (nI zs) ff_31 xa_32 (nI T) (nI (pp1 + 1)) xi xt xn (nI ns) (nI vv) (nI bb1))), (mr 5, .inl (kI, 3002, .inl fk)), (mr 6, .inl (kI, 3002, .inl fa))] : va_W) ++ (sT L34 F34)) := hD
                    refine lv_aload_n hx hb dX23_chain_93 rfl (lv_at hl 2 rfl) ?_
                    refine lv_ifnonnull (tgt := 124) hx hb dX23_chain_94 (by decide) ?_
                    refine lv_aload_n hx hb dX23_chain_124 rfl (lv_at hl 2 rfl) ?_
                    refine lv_aload hx hb dX23_chain_125 (lv_at hl 0 rfl) ?_
                    refine lv_iload hx hb dX23_chain_127 (lv_at hl 1 rfl) ?_
                    replace hPc := hP.subT (f' := [(q_18, .inr (15, [.int 8, .int (nI pp), .int 0, .int 0, .int 0, .int 0, .long 0, .int 0, (.ref r_3), .ref la, .ref sa, .int (nI n), .null, .null])), (la, .inl (kE, cp, .inr (.inr (.inr (.inr f))))), (sa, .inl (kI, cp, .inl g))]) [0, 1, 2] rfl
                    replace hDc := hD.subT (f' := [(q_18, .inr (15, [.int 8, .int (nI pp), .int 0, .int 0, .int 0, .int 0, .long 0, .int 0, (.ref r_3), .ref la, .ref sa, .int (nI n), .null, .null])), (la, .inl (kE, cp, .inr (.inr (.inr (.inr f))))), (sa, .inl (kI, cp, .inl g))]) [0, 1, 2] (by decide) rfl
                    replace hKc := hK.sub (tys' := [(kI, .int), (kE, .object RX15)]) [0, 2] rfl
                    replace hFc := va_freeB (wc := [(q_18, .inr (15, [.int 8, .int (nI pp), .int 0, .int 0, .int 0, .int 0, .long 0, .int 0, (.ref r_3), .ref la, .ref sa, .int (nI n), .null, .null])), (la, .inl (kE, cp, .inr (.inr (.inr (.inr f))))), (sa, .inl (kI, cp, .inl g))]) hD hS hA [0, 1, 2] rfl
                    refine W.grow (fun hgs0 hgs1 => ?_)
                    refine va_callv (va_runS (As := [.ref q_18, .ref r_35, .int (nI pp1)]) (rest := []) ⟨hx, hb, hml, hown, hts⟩ (c_xaA l dC dI q_18 r_35 8 (nI pp) 0 0 0 0 (nI pp1) (.ref r_3) kI kE la sa n cp f g L34 F34 (slN H) H.size hf35_0.2 (by omega) (fun i hi => by obtain ⟨x9, y9, z9⟩ := hr3 i hi; exact ⟨x9, y9, xO_ex hf35_0.1 z9⟩)) (va_cwS 3 hts g_c_xc5_c_xaA_129 rfl rfl rfl (by decide +kernel) ⟨by show 0 + 1 ≤ 8 + 12 * k; omega, by show 8 + (6 + 11) + (0) ≤ 177 + 279 * k; omega⟩) ⟨fun a U g mk q => by obtain ⟨q0, q1, qP, qK, qD, qx0, qx1⟩ := q; exact ⟨q0, q1, qP, va_K.moved (u := U) (U := U.calling g mk a) (Vm.Alike.refl U.vm) qK, qD, nsM.same (u := U) (U := U.calling g mk a) rfl qx0, qx1⟩, fun U hU hW => ⟨rfl, by rw [hU], by rw [hU]; exact hPc, va_K.moved hW.alike hKc, hDc.weaken (fun _ _ _ _ => trivial), nsM.warm hW hns, by rw [hU]⟩⟩ rfl rfl hl.1 rfl (lv_room (Nat.le_of_ble_eq_true rfl)) dX23_chain_129 ⟨(show ((8 * (pp1 - pp) + 4 - 3 * n) + 1) + 2 ≤ (8 * (T - pp) + 8) by omega), (show ((120 * (pp1 - pp) + 62 + 4 * cp - 72 * n) + 14) + (4 * cp) ≤ (120 * (T - pp) + 360) by omega)⟩) hS (fun q _ h => hFc q h) hFc (fun u tS H1 locs ht hvm hw hB hz1 hk1 hS => ?_)
                    obtain ⟨la36, sa36, cp36, f36, g36, hf37_0, hf37_1, hf37_2, hf37_3, hf37_4, hP1, hK1, hD1⟩ := hB
                    rw [ht] at hP1
                    replace hK1 := va_K.moved hvm.symm hK1
                    rw [ht] at hf37_4
                    have hgz : H1.size ≤ s.heap.size + ((((8 * (pp1 - pp) + 4 - 3 * n) + 1) + 2)) ∧ slN H1 ≤ slN s.heap + ((((120 * (pp1 - pp) + 62 + 4 * cp - 72 * n) + 14) + 4 * (cp36 - cp))) := ⟨by have := hf37_4.1; omega, by have := hf37_4.2; omega⟩
                    obtain ⟨hPj, hDj⟩ := va_joinB (wr := [(mr 8, .inl (kL, 3002, .inr (.inl fn))), (m9, .inr (23, mA mr mv vf xl (nI zs) ff_31 xa_32 (nI T) (nI (pp1 + 1)) xi xt xn (nI ns) (nI vv) (nI bb1))), (mr 5, .inl (kI, 3002, .inl fk)), (mr 6, .inl (kI, 3002, .inl fa))]) (w1 := [(q_18, .inr (15, [.int 8, .int (nI pp), .int 0, .int 0, .int 0, .int 0, .long 0, .int 0, (.ref r_3), .ref la36, .ref sa36, .int (nI (n + 1)), .null, .null])), (la36, .inl (kE, cp36, .inr (.inr (.inr (.inr f36))))), (sa36, .inl (kI, cp36, .inl g36))]) hP hD [0, 1, 2] [3, 4, 5, 6] rfl rfl (by decide) (by decide) hk1 hFc hP1 hD1
                    replace hP := hPj
                    replace hD := hDj
                    clear hPj hDj
                    replace hK := hK.app hK1
                    generalize H1 = H at hP hS hgz ⊢
                    replace hP : va_P (dC, dI) vwCl (([(mr 8, .inl (kL, 3002, .inr (.inl fn))), (m9, .inr (23, mA mr mv vf xl (nI zs) ff_31 xa_32 (nI T) (nI (pp1 + 1)) xi xt xn (nI ns) (nI vv) (nI bb1))), (mr 5, .inl (kI, 3002, .inl fk)), (mr 6, .inl (kI, 3002, .inl fa)), (q_18, .inr (15, [.int 8, .int (nI pp), .int 0, .int 0, .int 0, .int 0, .long 0, .int 0, (.ref r_3), .ref la36, .ref sa36, .int (nI (n + 1)), .null, .null])), (la36, .inl (kE, cp36, .inr (.inr (.inr (.inr f36))))), (sa36, .inl (kI, cp36, .inl g36))] : va_W) ++ (sT L34 F34)) H := hP
                    replace hD : va_D A (([(mr 8, .inl (kL, 3002, .inr (.inl fn))), (m9, .inr (23, mA mr mv vf xl (nI zs) ff_31 xa_32 (nI T) (nI (pp1 + 1)) xi xt xn (nI ns) (nI vv) (nI bb1))), (mr 5, .inl (kI, 3002, .inl fk)), (mr 6, .inl (kI, 3002, .inl fa)), (q_18, .inr (15, [.int 8, .int (nI pp), .int 0, .int 0, .int 0, .int 0, .long 0, .int 0, (.ref r_3), .ref la36, .ref sa36, .int (nI (n + 1)), .null, .null])), (la36, .inl (kE, cp36, .inr (.inr (.inr (.inr f36))))), (sa36, .inl (kI, cp36, .inl g36))] : va_W) ++ (sT L34 F34)) := hD
                    replace hK : va_K (dC, dI) vwCl [(kI, .int), (kL, .long), (kE, .object RX15), (kI, .int), (kE, .object RX15)] s := hK
                    replace hK := hK.sub (tys' := [(kI, .int), (kL, .long), (kE, .object RX15)]) [0, 1, 2] rfl
                    refine W.tight (k := (((8 * (pp1 - pp) + 4 - 3 * n) + 1) + 2)) (n := (((120 * (pp1 - pp) + 62 + 4 * cp - 72 * n) + 14) + 4 * (cp36 - cp))) hgz.1 hgz.2 ?_
                    clear hz1 hk1 hPc hDc hKc hFc hP1 hD1 hK1
                    refine lv_goto (tgt := 29) hx hb dX23_chain_132 (by decide) ?_
                    refine W.widen (k := (8 * ((pp1 + 1) - pp) + 4 - 3 * (n + 1))) (n := (120 * ((pp1 + 1) - pp) + 62 + 4 * cp36 - 72 * (n + 1))) (by omega) (by omega) ?_
                    exact ih1 (pp1 + 1) bb1 la36 sa36 cp36 (n + 1) ff_31 xa_32 L34 F34 f36 g36 _ _ _ (⟨by omega, by omega, by omega, by omega, by omega, by omega, by omega, by omega, by omega, by omega, hT⟩) (Or.inl hf33_0) (hr2.tr hf35_0.1) (fun i hi => by
                      by_cases e9 : i = n
                      · subst e9; exact ⟨_, hf37_2.1, hf35_0.2⟩
                      · obtain ⟨x9, y9, z9⟩ := hr3 i (by omega); exact ⟨x9, (hf37_1 i (by omega)).1.trans y9, xO_ex hf35_0.1 z9⟩) (fun q9 => absurd q9 hf33_0) (hP.subT [4, 5, 6, 1, 2, 3, 0] rfl) (hD.subT [4, 5, 6, 1, 2, 3, 0] (by decide) rfl) hS (lv_sub hl [2, 3, 4, 5] rfl)
                  · replace hPc := hP.subF (f' := [(m9, .inr (23, mA mr mv vf xl (nI zs) 0 xa1 (nI T) (nI (pp1 + 1)) xi xt xn (nI ns) (nI vv) (nI bb1))), (mr 6, .inl (kI, 3002, .inl fa))]) [6, 4] rfl
                    replace hDc := hD.subF (f' := [(m9, .inr (23, mA mr mv vf xl (nI zs) 0 xa1 (nI T) (nI (pp1 + 1)) xi xt xn (nI ns) (nI vv) (nI bb1))), (mr 6, .inl (kI, 3002, .inl fa))]) [6, 4] (by decide) rfl
                    replace hKc := hK.sub (tys' := [(kI, .int)]) [0] rfl
                    replace hFc := va_freeT (wc := [(m9, .inr (23, mA mr mv vf xl (nI zs) 0 xa1 (nI T) (nI (pp1 + 1)) xi xt xn (nI ns) (nI vv) (nI bb1))), (mr 6, .inl (kI, 3002, .inl fa))]) hD hS hA [6, 4] rfl
                    refine va_callv (va_runV (As := [.int (nI pp1)]) (rest := []) ⟨hx, hb, hml, hown, hts⟩ (c_renY l dC dI m9 mr mv vf xl xa1 xi xt xn zs T (pp1 + 1) ns vv bb1 kI fk fa pp1 H.size (by omega) (⟨hn_30, by omega⟩)) (cwV 1 hts g_c_xc5_c_renY_71 rfl rfl rfl (by decide +kernel) ⟨by show 1 + 1 ≤ 8 + 12 * k; omega, by show 8 + (2 + 11) + (20) ≤ 177 + 279 * k; omega⟩) ⟨fun a U g mk q => by obtain ⟨q0, q1, qP, qK, qD⟩ := q; exact ⟨q0, q1, qP, va_K.moved (u := U) (U := U.calling g mk a) (Vm.Alike.refl U.vm) qK, qD⟩, va_recv hKc hPc (ci := 23) (q0 := 0) rfl rfl, fun U hU hW => ⟨rfl, by rw [hU], by rw [hU]; exact hPc, va_K.moved hW.alike hKc, hDc.weaken (fun _ _ _ _ => trivial)⟩⟩ rfl rfl hl.1 rfl (lv_room (Nat.le_of_ble_eq_true rfl)) dX23_chain_71 ⟨(show (8 * (pp1 - pp) + 4 - 3 * n) + 0 ≤ (8 * (T - pp) + 8) by omega), (show (120 * (pp1 - pp) + 62 + 4 * cp - 72 * n) + 0 ≤ (120 * (T - pp) + 360) by omega)⟩) hS (fun q _ h => hFc q h) hFc (fun u tS H1 locs ht hvm hw hB hz1 hk1 hS => ?_)
                    obtain ⟨hP1, hK1, hD1⟩ := hB
                    rw [ht] at hP1
                    replace hK1 := va_K.moved hvm.symm hK1
                    obtain ⟨hPj, hDj⟩ := va_joinT (wr := [(q_18, .inr (15, [.int 8, .int (nI pp), .int 0, .int 0, .int 0, .int 0, .long 0, .int 0, .ref r_3, .ref la, .ref sa, .int (nI n), .null, .null])), (la, .inl (kE, cp, .inr (.inr (.inr (.inr f))))), (sa, .inl (kI, cp, .inl g)), (mr 5, .inl (kI, 3002, .inl fk)), (mr 8, .inl (kL, 3002, .inr (.inl fn)))]) (w1 := [(m9, .inr (23, mA mr mv vf xl (nI zs) 0 xa1 (nI T) (nI (pp1 + 1)) xi xt xn (nI (ns + 1)) (nI vv) (nI bb1))), (mr 6, .inl (kI, 3002, .inl fa))]) hP hD [6, 4] [0, 1, 2, 3, 5] rfl rfl (by decide) (by decide) hk1 hFc hP1 hD1
                    replace hP := hPj
                    replace hD := hDj
                    clear hPj hDj
                    replace hK := hK.app hK1
                    generalize H1 = H at hP hS ⊢
                    replace hP : va_P (dC, dI) vwCl (([(q_18, .inr (15, [.int 8, .int (nI pp), .int 0, .int 0, .int 0, .int 0, .long 0, .int 0, .ref r_3, .ref la, .ref sa, .int (nI n), .null, .null])), (la, .inl (kE, cp, .inr (.inr (.inr (.inr f))))), (sa, .inl (kI, cp, .inl g)), (mr 5, .inl (kI, 3002, .inl fk)), (mr 8, .inl (kL, 3002, .inr (.inl fn))), (m9, .inr (23, mA mr mv vf xl (nI zs) 0 xa1 (nI T) (nI (pp1 + 1)) xi xt xn (nI (ns + 1)) (nI vv) (nI bb1))), (mr 6, .inl (kI, 3002, .inl fa))] : va_W) ++ (sT L1 F1)) H := hP
                    replace hD : va_D A (([(q_18, .inr (15, [.int 8, .int (nI pp), .int 0, .int 0, .int 0, .int 0, .long 0, .int 0, .ref r_3, .ref la, .ref sa, .int (nI n), .null, .null])), (la, .inl (kE, cp, .inr (.inr (.inr (.inr f))))), (sa, .inl (kI, cp, .inl g)), (mr 5, .inl (kI, 3002, .inl fk)), (mr 8, .inl (kL, 3002, .inr (.inl fn))), (m9, .inr (23, mA mr mv vf xl (nI zs) 0 xa1 (nI T) (nI (pp1 + 1)) xi xt xn (nI (ns + 1)) (nI vv) (nI bb1))), (mr 6, .inl (kI, 3002, .inl fa))] : va_W) ++ (sT L1 F1)) := hD
                    replace hK : va_K (dC, dI) vwCl [(kI, .int), (kL, .long), (kE, .object RX15), (kI, .int)] s := hK
                    replace hK := hK.sub (tys' := [(kI, .int), (kL, .long), (kE, .object RX15)]) [0, 1, 2] rfl
                    clear hz1 hk1 hPc hDc hKc hFc hP1 hD1 hK1
                    refine lv_aload_n hx hb dX23_chain_74 rfl (lv_at hl 3 rfl) ?_
                    refine lv_iload_n hx hb dX23_chain_75 rfl (lv_at hl 4 rfl) ?_
                    refine lv_iconst (v := 1) hx hb dX23_chain_76 (by decide) ?_
                    refine lv_iadd hx hb dX23_chain_77 ?_
                    refine lv_topi (fun f_32 ef_32 => ?_)
                    obtain rfl : f_32 = 6 := ef_32.trans (by decide)
                    obtain ⟨k1, hkL⟩ : ∃ k1 : Nat, k = k1 + 1 := ⟨k - 1, by omega⟩
                    replace hPc := hP.subT (f' := [(m9, .inr (23, mA mr mv vf xl (nI zs) 0 xa1 (nI T) (nI (pp1 + 1)) xi xt xn (nI (ns + 1)) (nI vv) (nI bb1))), (mr 5, .inl (kI, 3002, .inl fk)), (mr 6, .inl (kI, 3002, .inl fa)), (mr 8, .inl (kL, 3002, .inr (.inl fn)))]) [5, 3, 6, 4] rfl
                    replace hDc := hD.subT (f' := [(m9, .inr (23, mA mr mv vf xl (nI zs) 0 xa1 (nI T) (nI (pp1 + 1)) xi xt xn (nI (ns + 1)) (nI vv) (nI bb1))), (mr 5, .inl (kI, 3002, .inl fk)), (mr 6, .inl (kI, 3002, .inl fa)), (mr 8, .inl (kL, 3002, .inr (.inl fn)))]) [5, 3, 6, 4] (by decide) rfl
                    replace hKc := hK.sub (tys' := [(kI, .int), (kL, .long), (kE, .object RX15)]) [0, 1, 2] rfl
                    replace hFc := va_freeB (wc := [(m9, .inr (23, mA mr mv vf xl (nI zs) 0 xa1 (nI T) (nI (pp1 + 1)) xi xt xn (nI (ns + 1)) (nI vv) (nI bb1))), (mr 5, .inl (kI, 3002, .inl fk)), (mr 6, .inl (kI, 3002, .inl fa)), (mr 8, .inl (kL, 3002, .inr (.inl fn)))]) hD hS hA [5, 3, 6, 4] rfl
                    refine W.grow (fun hgs0 hgs1 => ?_)
                    refine va_callr (va_runV (As := [.int 6]) (rest := []) ⟨hx, hb, hml, hown, hts⟩ ((ih k1 hkL).2.2.2.2.1 m9 mr mv vf xl xa1 xi xt xn zs T (pp1 + 1) (ns + 1) vv bb1 kI fk fa kL kE fn L1 F1 (slN H) H.size hT hp_28 hk0 hr9.1 (by omega)) (cwV 1 hts g_c_xc5_c_xc6_78 rfl rfl rfl (by decide +kernel) ⟨by show 7 + 12 * k1 + 1 ≤ 8 + 12 * k; omega, by show 8 + (6 + 11) + (152 + 279 * k1) ≤ 177 + 279 * k; omega⟩) ⟨fun a U g mk q => by obtain ⟨q0, q1, qP, qK, qD, qx0, qx1⟩ := q; exact ⟨q0, q1, qP, va_K.moved (u := U) (U := U.calling g mk a) (Vm.Alike.refl U.vm) qK, qD, nsM.same (u := U) (U := U.calling g mk a) rfl qx0, qx1⟩, va_recv hKc hPc (ci := 23) (q0 := 0) rfl rfl, fun U hU hW => ⟨rfl, by rw [hU], by rw [hU]; exact hPc, va_K.moved hW.alike hKc, hDc.weaken (fun _ _ _ _ => trivial), nsM.warm hW hns, by rw [hU]⟩⟩ rfl rfl hl.1 rfl (lv_room (Nat.le_of_ble_eq_true rfl)) dX23_chain_78 ⟨(show (8 * (pp1 - pp) + 4 - 3 * n) + (8 * (T - (pp1 + 1)) + 8) ≤ (8 * (T - pp) + 8) by omega), (show (120 * (pp1 - pp) + 62 + 4 * cp - 72 * n) + (120 * (T - (pp1 + 1)) + 360) ≤ (120 * (T - pp) + 360) by omega)⟩) hS (fun q _ h => hFc q h) hFc (fun u r_33 tS H1 locs ht hvm hw hB hz1 hk1 hS => ?_)
                    obtain ⟨L32, F32, ff32, xa32, pp32, bb32, hf33_0, hf33_1, hf33_2, hf33_3, hP1, hK1, hD1⟩ := hB
                    rw [ht] at hP1
                    replace hK1 := va_K.moved hvm.symm hK1
                    rw [ht] at hf33_3
                    have hgz : H1.size ≤ s.heap.size + (((8 * (pp1 - pp) + 4 - 3 * n) + 8 * (pp32 - (pp1 + 1)) + 3)) ∧ slN H1 ≤ slN s.heap + (((120 * (pp1 - pp) + 62 + 4 * cp - 72 * n) + 120 * (pp32 - (pp1 + 1)) + 48)) := ⟨by have := hf33_3.1; omega, by have := hf33_3.2; omega⟩
                    obtain ⟨hPj, hDj⟩ := va_joinB (wr := [(q_18, .inr (15, [.int 8, .int (nI pp), .int 0, .int 0, .int 0, .int 0, .long 0, .int 0, .ref r_3, .ref la, .ref sa, .int (nI n), .null, .null])), (la, .inl (kE, cp, .inr (.inr (.inr (.inr f))))), (sa, .inl (kI, cp, .inl g))]) (w1 := [(m9, .inr (23, mA mr mv vf xl (nI zs) ff32 xa32 (nI T) (nI pp32) xi xt xn (nI (ns + 1)) (nI vv) (nI bb32))), (mr 5, .inl (kI, 3002, .inl fk)), (mr 6, .inl (kI, 3002, .inl fa)), (mr 8, .inl (kL, 3002, .inr (.inl fn)))]) hP hD [5, 3, 6, 4] [0, 1, 2] rfl rfl (by decide) (by decide) hk1 hFc hP1 hD1
                    replace hP := hPj
                    replace hD := hDj
                    clear hPj hDj
                    replace hK := hK.app hK1
                    generalize H1 = H at hP hS hgz ⊢
                    replace hP : va_P (dC, dI) vwCl (([(q_18, .inr (15, [.int 8, .int (nI pp), .int 0, .int 0, .int 0, .int 0, .long 0, .int 0, .ref r_3, .ref la, .ref sa, .int (nI n), .null, .null])), (la, .inl (kE, cp, .inr (.inr (.inr (.inr f))))), (sa, .inl (kI, cp, .inl g)), (m9, .inr (23, mA mr mv vf xl (nI zs) ff32 xa32 (nI T) (nI pp32) xi xt xn (nI (ns + 1)) (nI vv) (nI bb32))), (mr 5, .inl (kI, 3002, .inl fk)), (mr 6, .inl (kI, 3002, .inl fa)), (mr 8, .inl (kL, 3002, .inr (.inl fn)))] : va_W) ++ (sT L32 F32)) H := hP
                    replace hD : va_D A (([(q_18, .inr (15, [.int 8, .int (nI pp), .int 0, .int 0, .int 0, .int 0, .long 0, .int 0, .ref r_3, .ref la, .ref sa, .int (nI n), .null, .null])), (la, .inl (kE, cp, .inr (.inr (.inr (.inr f))))), (sa, .inl (kI, cp, .inl g)), (m9, .inr (23, mA mr mv vf xl (nI zs) ff32 xa32 (nI T) (nI pp32) xi xt xn (nI (ns + 1)) (nI vv) (nI bb32))), (mr 5, .inl (kI, 3002, .inl fk)), (mr 6, .inl (kI, 3002, .inl fa)), (mr 8, .inl (kL, 3002, .inr (.inl fn)))] : va_W) ++ (sT L32 F32)) := hD
                    replace hK : va_K (dC, dI) vwCl [(kI, .int), (kL, .long), (kE, .object RX15), (kI, .int), (kL, .long), (kE, .object RX15)] s := hK
                    replace hK := hK.sub (tys' := [(kI, .int), (kL, .long), (kE, .object RX15)]) [0, 1, 2] rfl
                    refine W.tight (k := ((8 * (pp1 - pp) + 4 - 3 * n) + 8 * (pp32 - (pp1 + 1)) + 3)) (n := ((120 * (pp1 - pp) + 62 + 4 * cp - 72 * n) + 120 * (pp32 - (pp1 + 1)) + 48)) hgz.1 hgz.2 ?_
                    clear hz1 hk1 hPc hDc hKc hFc hP1 hD1 hK1
                    refine lv_astore (lv' := [(5, .ref r_33), (4, .int (nI pp1)), (3, .ref q_18), (2, .ref r_3), (0, .ref m9), (1, .int 5)]) hx hb dX23_chain_81 hl (by decide) rfl (fun ls hl => ?_)
                    refine lv_aload_n hx hb dX23_chain_83 rfl (lv_at hl 4 rfl) ?_
                    refine lv_dup hx hb dX23_chain_84 rfl ?_
                    refine va_get (D := (dC, dI)) (ci := 23) (v := .int (nI (ns + 1))) (C := RX23) (T := TX23) (N := 89) hx hb hts in_c_xc5_X23 hown hK hP 3 rfl rfl 15 (by decide) (hts (.fieldLink RX23 104 "OwnedPlacesModel" "nest" "I") (wm_c_xc5 19 rfl)) (fun _ h9 => h9) rfl dX23_chain_85 ?_
                    refine lv_iconst (v := 1) hx hb dX23_chain_88 (by decide) ?_
                    refine lv_isub hx hb dX23_chain_89 ?_
                    refine lv_topi (fun f_34 ef_34 => ?_)
                    obtain rfl : f_34 = nI ns := ef_34.trans (nI_pred _)
                    refine va_put (D := (dC, dI)) (ci := 23) (v := .int (nI ns)) (ty := .int) (C := RX23) (T := TX23) (N := 89) hx hb hts in_c_xc5_X23 tyX23 tyX23_ok nmX23 hown hK hP hD hS 3 rfl rfl 15 (by decide) (hts (.fieldLink RX23 104 "OwnedPlacesModel" "nest" "I") (wm_c_xc5 19 rfl)) (fun _ h9 => h9) rfl (by decide +kernel) rfl rfl (Nat.le_of_ble_eq_true rfl) dX23_chain_90 (fun H locs hP hD hS => ?_)
                    replace hP : va_P (dC, dI) vwCl (([(q_18, .inr (15, [.int 8, .int (nI pp), .int 0, .int 0, .int 0, .int 0, .long 0, .int 0, .ref r_3, .ref la, .ref sa, .int (nI n), .null, .null])), (la, .inl (kE, cp, .inr (.inr (.inr (.inr f))))), (sa, .inl (kI, cp, .inl g)), (m9, .inr (23, mA mr mv vf xl (nI zs) ff32 xa32 (nI T) (nI pp32) xi xt xn (nI ns) (nI vv) (nI bb32))), (mr 5, .inl (kI, 3002, .inl fk)), (mr 6, .inl (kI, 3002, .inl fa)), (mr 8, .inl (kL, 3002, .inr (.inl fn)))] : va_W) ++ (sT L32 F32)) H := hP
                    replace hD : va_D A (([(q_18, .inr (15, [.int 8, .int (nI pp), .int 0, .int 0, .int 0, .int 0, .long 0, .int 0, .ref r_3, .ref la, .ref sa, .int (nI n), .null, .null])), (la, .inl (kE, cp, .inr (.inr (.inr (.inr f))))), (sa, .inl (kI, cp, .inl g)), (m9, .inr (23, mA mr mv vf xl (nI zs) ff32 xa32 (nI T) (nI pp32) xi xt xn (nI ns) (nI vv) (nI bb32))), (mr 5, .inl (kI, 3002, .inl fk)), (mr 6, .inl (kI, 3002, .inl fa)), (mr 8, .inl (kL, 3002, .inr (.inl fn)))] : va_W) ++ (sT L32 F32)) := hD
                    refine lv_aload_n hx hb dX23_chain_93 rfl (lv_at hl 2 rfl) ?_
                    refine lv_ifnonnull (tgt := 124) hx hb dX23_chain_94 (by decide) ?_
                    refine lv_aload_n hx hb dX23_chain_124 rfl (lv_at hl 2 rfl) ?_
                    refine lv_aload hx hb dX23_chain_125 (lv_at hl 0 rfl) ?_
                    refine lv_iload hx hb dX23_chain_127 (lv_at hl 1 rfl) ?_
                    replace hPc := hP.subT (f' := [(q_18, .inr (15, [.int 8, .int (nI pp), .int 0, .int 0, .int 0, .int 0, .long 0, .int 0, (.ref r_3), .ref la, .ref sa, .int (nI n), .null, .null])), (la, .inl (kE, cp, .inr (.inr (.inr (.inr f))))), (sa, .inl (kI, cp, .inl g))]) [0, 1, 2] rfl
                    replace hDc := hD.subT (f' := [(q_18, .inr (15, [.int 8, .int (nI pp), .int 0, .int 0, .int 0, .int 0, .long 0, .int 0, (.ref r_3), .ref la, .ref sa, .int (nI n), .null, .null])), (la, .inl (kE, cp, .inr (.inr (.inr (.inr f))))), (sa, .inl (kI, cp, .inl g))]) [0, 1, 2] (by decide) rfl
                    replace hKc := hK.sub (tys' := [(kI, .int), (kE, .object RX15)]) [0, 2] rfl
                    replace hFc := va_freeB (wc := [(q_18, .inr (15, [.int 8, .int (nI pp), .int 0, .int 0, .int 0, .int 0, .long 0, .int 0, (.ref r_3), .ref la, .ref sa, .int (nI n), .null, .null])), (la, .inl (kE, cp, .inr (.inr (.inr (.inr f))))), (sa, .inl (kI, cp, .inl g))]) hD hS hA [0, 1, 2] rfl
                    refine W.grow (fun hgs0 hgs1 => ?_)
                    refine va_callv (va_runS (As := [.ref q_18, .ref r_33, .int (nI pp1)]) (rest := []) ⟨hx, hb, hml, hown, hts⟩ (c_xaA l dC dI q_18 r_33 8 (nI pp) 0 0 0 0 (nI pp1) (.ref r_3) kI kE la sa n cp f g L32 F32 (slN H) H.size hf33_0.2 (by omega) (fun i hi => by obtain ⟨x9, y9, z9⟩ := hr3 i hi; exact ⟨x9, y9, xO_ex hf33_0.1 z9⟩)) (va_cwS 3 hts g_c_xc5_c_xaA_129 rfl rfl rfl (by decide +kernel) ⟨by show 0 + 1 ≤ 8 + 12 * k; omega, by show 8 + (6 + 11) + (0) ≤ 177 + 279 * k; omega⟩) ⟨fun a U g mk q => by obtain ⟨q0, q1, qP, qK, qD, qx0, qx1⟩ := q; exact ⟨q0, q1, qP, va_K.moved (u := U) (U := U.calling g mk a) (Vm.Alike.refl U.vm) qK, qD, nsM.same (u := U) (U := U.calling g mk a) rfl qx0, qx1⟩, fun U hU hW => ⟨rfl, by rw [hU], by rw [hU]; exact hPc, va_K.moved hW.alike hKc, hDc.weaken (fun _ _ _ _ => trivial), nsM.warm hW hns, by rw [hU]⟩⟩ rfl rfl hl.1 rfl (lv_room (Nat.le_of_ble_eq_true rfl)) dX23_chain_129 ⟨(show ((8 * (pp1 - pp) + 4 - 3 * n) + 8 * (pp32 - (pp1 + 1)) + 3) + 2 ≤ (8 * (T - pp) + 8) by omega), (show ((120 * (pp1 - pp) + 62 + 4 * cp - 72 * n) + 120 * (pp32 - (pp1 + 1)) + 48) + (4 * cp) ≤ (120 * (T - pp) + 360) by omega)⟩) hS (fun q _ h => hFc q h) hFc (fun u tS H1 locs ht hvm hw hB hz1 hk1 hS => ?_)
                    obtain ⟨la34, sa34, cp34, f34, g34, hf35_0, hf35_1, hf35_2, hf35_3, hf35_4, hP1, hK1, hD1⟩ := hB
                    rw [ht] at hP1
                    replace hK1 := va_K.moved hvm.symm hK1
                    rw [ht] at hf35_4
                    have hgz : H1.size ≤ s.heap.size + ((((8 * (pp1 - pp) + 4 - 3 * n) + 8 * (pp32 - (pp1 + 1)) + 3) + 2)) ∧ slN H1 ≤ slN s.heap + ((((120 * (pp1 - pp) + 62 + 4 * cp - 72 * n) + 120 * (pp32 - (pp1 + 1)) + 48) + 4 * (cp34 - cp))) := ⟨by have := hf35_4.1; omega, by have := hf35_4.2; omega⟩
                    obtain ⟨hPj, hDj⟩ := va_joinB (wr := [(m9, .inr (23, mA mr mv vf xl (nI zs) ff32 xa32 (nI T) (nI pp32) xi xt xn (nI ns) (nI vv) (nI bb32))), (mr 5, .inl (kI, 3002, .inl fk)), (mr 6, .inl (kI, 3002, .inl fa)), (mr 8, .inl (kL, 3002, .inr (.inl fn)))]) (w1 := [(q_18, .inr (15, [.int 8, .int (nI pp), .int 0, .int 0, .int 0, .int 0, .long 0, .int 0, (.ref r_3), .ref la34, .ref sa34, .int (nI (n + 1)), .null, .null])), (la34, .inl (kE, cp34, .inr (.inr (.inr (.inr f34))))), (sa34, .inl (kI, cp34, .inl g34))]) hP hD [0, 1, 2] [3, 4, 5, 6] rfl rfl (by decide) (by decide) hk1 hFc hP1 hD1
                    replace hP := hPj
                    replace hD := hDj
                    clear hPj hDj
                    replace hK := hK.app hK1
                    generalize H1 = H at hP hS hgz ⊢
                    replace hP : va_P (dC, dI) vwCl (([(m9, .inr (23, mA mr mv vf xl (nI zs) ff32 xa32 (nI T) (nI pp32) xi xt xn (nI ns) (nI vv) (nI bb32))), (mr 5, .inl (kI, 3002, .inl fk)), (mr 6, .inl (kI, 3002, .inl fa)), (mr 8, .inl (kL, 3002, .inr (.inl fn))), (q_18, .inr (15, [.int 8, .int (nI pp), .int 0, .int 0, .int 0, .int 0, .long 0, .int 0, (.ref r_3), .ref la34, .ref sa34, .int (nI (n + 1)), .null, .null])), (la34, .inl (kE, cp34, .inr (.inr (.inr (.inr f34))))), (sa34, .inl (kI, cp34, .inl g34))] : va_W) ++ (sT L32 F32)) H := hP
                    replace hD : va_D A (([(m9, .inr (23, mA mr mv vf xl (nI zs) ff32 xa32 (nI T) (nI pp32) xi xt xn (nI ns) (nI vv) (nI bb32))), (mr 5, .inl (kI, 3002, .inl fk)), (mr 6, .inl (kI, 3002, .inl fa)), (mr 8, .inl (kL, 3002, .inr (.inl fn))), (q_18, .inr (15, [.int 8, .int (nI pp), .int 0, .int 0, .int 0, .int 0, .long 0, .int 0, (.ref r_3), .ref la34, .ref sa34, .int (nI (n + 1)), .null, .null])), (la34, .inl (kE, cp34, .inr (.inr (.inr (.inr f34))))), (sa34, .inl (kI, cp34, .inl g34))] : va_W) ++ (sT L32 F32)) := hD
                    replace hK : va_K (dC, dI) vwCl [(kI, .int), (kL, .long), (kE, .object RX15), (kI, .int), (kE, .object RX15)] s := hK
                    replace hK := hK.sub (tys' := [(kI, .int), (kL, .long), (kE, .object RX15)]) [0, 1, 2] rfl
                    refine W.tight (k := (((8 * (pp1 - pp) + 4 - 3 * n) + 8 * (pp32 - (pp1 + 1)) + 3) + 2)) (n := (((120 * (pp1 - pp) + 62 + 4 * cp - 72 * n) + 120 * (pp32 - (pp1 + 1)) + 48) + 4 * (cp34 - cp))) hgz.1 hgz.2 ?_
                    clear hz1 hk1 hPc hDc hKc hFc hP1 hD1 hK1
                    refine lv_goto (tgt := 29) hx hb dX23_chain_132 (by decide) ?_
                    by_cases hz_36 : ff32 = 0
                    · subst hz_36
                      have hg32 := hf33_2 rfl
                      have hlthg32 := (isE_mem hg32.2).2
                      refine W.widen (k := (8 * (pp32 - pp) + 4 - 3 * (n + 1))) (n := (120 * (pp32 - pp) + 62 + 4 * cp34 - 72 * (n + 1))) (by omega) (by omega) ?_
                      exact ih1 pp32 bb32 la34 sa34 cp34 (n + 1) 0 xa32 L32 F32 f34 g34 _ _ _ (⟨by omega, by omega, by omega, by omega, by omega, by omega, by omega, by omega, by omega, by omega, hT⟩) (Or.inr (by omega)) (hr2.tr hf33_0.1) (fun i hi => by
                        by_cases e9 : i = n
                        · subst e9; exact ⟨_, hf35_2.1, hf33_0.2⟩
                        · obtain ⟨x9, y9, z9⟩ := hr3 i (by omega); exact ⟨x9, (hf35_1 i (by omega)).1.trans y9, xO_ex hf33_0.1 z9⟩) (fun _ => ⟨hg32.1, isE_im hf33_0.1 _ (Nat.le_refl _) hr9.2.1, chP_add (chP_im (fun x p q b c z => isE_im hf33_0.1 _ (Nat.le_refl _) z) hr9.2.2) (fun i hi => hf35_1 i hi) hf35_2.1 hf35_2.2 (by omega) (isE_im exS.rf _ (by omega) hg32.2) (Or.inr ⟨by omega, by omega⟩)⟩) (hP.subT [4, 5, 6, 0, 1, 2, 3] rfl) (hD.subT [4, 5, 6, 0, 1, 2, 3] (by decide) rfl) hS (lv_sub hl [2, 3, 4, 5] rfl)
                    · refine W.widen (k := (8 * (pp32 - pp) + 4 - 3 * (n + 1))) (n := (120 * (pp32 - pp) + 62 + 4 * cp34 - 72 * (n + 1))) (by omega) (by omega) ?_
                      exact ih1 pp32 bb32 la34 sa34 cp34 (n + 1) ff32 xa32 L32 F32 f34 g34 _ _ _ (⟨by omega, by omega, by omega, by omega, by omega, by omega, by omega, by omega, by omega, by omega, hT⟩) (Or.inl hz_36) (hr2.tr hf33_0.1) (fun i hi => by
                        by_cases e9 : i = n
                        · subst e9; exact ⟨_, hf35_2.1, hf33_0.2⟩
                        · obtain ⟨x9, y9, z9⟩ := hr3 i (by omega); exact ⟨x9, (hf35_1 i (by omega)).1.trans y9, xO_ex hf33_0.1 z9⟩) (fun q9 => absurd q9 hz_36) (hP.subT [4, 5, 6, 0, 1, 2, 3] rfl) (hD.subT [4, 5, 6, 0, 1, 2, 3] (by decide) rfl) hS (lv_sub hl [2, 3, 4, 5] rfl)
              · replace hPc := hP.subF (f' := [(m9, .inr (23, mA mr mv vf xl (nI zs) ff1 xa1 (nI T) (nI pp1) xi xt xn (nI ns) (nI vv) (nI bb1)))]) [3] rfl
                replace hDc := hD.subF (f' := [(m9, .inr (23, mA mr mv vf xl (nI zs) ff1 xa1 (nI T) (nI pp1) xi xt xn (nI ns) (nI vv) (nI bb1)))]) [3] (by decide) rfl
                replace hKc := hK.sub (tys' := []) [] rfl
                replace hFc := va_freeT (wc := [(m9, .inr (23, mA mr mv vf xl (nI zs) ff1 xa1 (nI T) (nI pp1) xi xt xn (nI ns) (nI vv) (nI bb1)))]) hD hS hA [3] rfl
                refine va_calli (va_runV (As := []) (rest := []) ⟨hx, hb, hml, hown, hts⟩ (c_rokB l dC dI m9 mr mv vf xl xa1 xi xt xn zs T pp1 ns vv bb1 kI fk fa ff1 H.size hz_22) (cwV 0 hts g_c_xc5_c_rokB_30 rfl rfl rfl (by decide +kernel) ⟨by show 0 + 1 ≤ 8 + 12 * k; omega, by show 8 + (1 + 11) + (0) ≤ 177 + 279 * k; omega⟩) ⟨fun a U g mk q => by obtain ⟨q0, q1, qP, qK, qD⟩ := q; exact ⟨q0, q1, qP, va_K.moved (u := U) (U := U.calling g mk a) (Vm.Alike.refl U.vm) qK, qD⟩, va_recv hKc hPc (ci := 23) (q0 := 0) rfl rfl, fun U hU hW => ⟨rfl, by rw [hU], by rw [hU]; exact hPc, va_K.moved hW.alike hKc, hDc.weaken (fun _ _ _ _ => trivial)⟩⟩ rfl rfl hl.1 rfl (lv_room (Nat.le_of_ble_eq_true rfl)) dX23_chain_30 ⟨(show (8 * (pp1 - pp) + 4 - 3 * n) + 0 ≤ (8 * (T - pp) + 8) by omega), (show (120 * (pp1 - pp) + 62 + 4 * cp - 72 * n) + 0 ≤ (120 * (T - pp) + 360) by omega)⟩) hS (fun q _ h => hFc q h) hFc (fun r_23 u tS H1 locs ht hvm hw hB hz1 hk1 hS => ?_)
                obtain ⟨hP1, hK1, hD1⟩ := hB
                rw [ht] at hP1
                replace hK1 := va_K.moved hvm.symm hK1
                obtain ⟨hPj, hDj⟩ := va_joinT (wr := [(q_18, .inr (15, [.int 8, .int (nI pp), .int 0, .int 0, .int 0, .int 0, .long 0, .int 0, .ref r_3, .ref la, .ref sa, .int (nI n), .null, .null])), (la, .inl (kE, cp, .inr (.inr (.inr (.inr f))))), (sa, .inl (kI, cp, .inl g)), (mr 5, .inl (kI, 3002, .inl fk)), (mr 6, .inl (kI, 3002, .inl fa)), (mr 8, .inl (kL, 3002, .inr (.inl fn)))]) (w1 := [(m9, .inr (23, mA mr mv vf xl (nI zs) ff1 xa1 (nI T) (nI pp1) xi xt xn (nI ns) (nI vv) (nI bb1)))]) hP hD [3] [0, 1, 2, 4, 5, 6] rfl rfl (by decide) (by decide) hk1 hFc hP1 hD1
                replace hP := hPj
                replace hD := hDj
                clear hPj hDj
                generalize H1 = H at hP hS ⊢
                replace hP : va_P (dC, dI) vwCl (([(q_18, .inr (15, [.int 8, .int (nI pp), .int 0, .int 0, .int 0, .int 0, .long 0, .int 0, .ref r_3, .ref la, .ref sa, .int (nI n), .null, .null])), (la, .inl (kE, cp, .inr (.inr (.inr (.inr f))))), (sa, .inl (kI, cp, .inl g)), (mr 5, .inl (kI, 3002, .inl fk)), (mr 6, .inl (kI, 3002, .inl fa)), (mr 8, .inl (kL, 3002, .inr (.inl fn))), (m9, .inr (23, mA mr mv vf xl (nI zs) ff1 xa1 (nI T) (nI pp1) xi xt xn (nI ns) (nI vv) (nI bb1)))] : va_W) ++ (sT L1 F1)) H := hP
                replace hD : va_D A (([(q_18, .inr (15, [.int 8, .int (nI pp), .int 0, .int 0, .int 0, .int 0, .long 0, .int 0, .ref r_3, .ref la, .ref sa, .int (nI n), .null, .null])), (la, .inl (kE, cp, .inr (.inr (.inr (.inr f))))), (sa, .inl (kI, cp, .inl g)), (mr 5, .inl (kI, 3002, .inl fk)), (mr 6, .inl (kI, 3002, .inl fa)), (mr 8, .inl (kL, 3002, .inr (.inl fn))), (m9, .inr (23, mA mr mv vf xl (nI zs) ff1 xa1 (nI T) (nI pp1) xi xt xn (nI ns) (nI vv) (nI bb1)))] : va_W) ++ (sT L1 F1)) := hD
                replace hK : va_K (dC, dI) vwCl [(kI, .int), (kL, .long), (kE, .object RX15)] s := hK
                clear hz1 hk1 hPc hDc hKc hFc hP1 hD1 hK1
                obtain rfl : r_23 = 0 := hw
                refine lv_if_eq (tgt := 135) hx hb dX23_chain_33 (by decide) (fun _ => ?_) (fun c_24 => absurd (by decide) c_24)
                refine lv_aload_n hx hb dX23_chain_135 rfl (lv_at hl 0 rfl) ?_
                refine lv_ifnonnull (tgt := 143) hx hb dX23_chain_136 (by decide) ?_
                refine lv_aload_n hx hb dX23_chain_143 rfl (lv_at hl 0 rfl) ?_
                replace hP : va_P (dC, dI) vwCl ((([(mr 5, .inl (kI, 3002, .inl fk)), (mr 6, .inl (kI, 3002, .inl fa)), (mr 8, .inl (kL, 3002, .inr (.inl fn))), (m9, .inr (23, mA mr mv vf xl (nI zs) ff1 xa1 (nI T) (nI pp1) xi xt xn (nI ns) (nI vv) (nI bb1)))] : va_W) ++ ([(q_18, .inr (15, [.int 8, .int (nI pp), .int 0, .int 0, .int 0, .int 0, .long 0, .int 0, .ref r_3, .ref la, .ref sa, .int (nI n), .null, .null])), (la, .inl (kE, cp, .inr (.inr (.inr (.inr f))))), (sa, .inl (kI, cp, .inl g))] : va_W)) ++ sT L1 F1) H := hP.subT (f' := [(mr 5, .inl (kI, 3002, .inl fk)), (mr 6, .inl (kI, 3002, .inl fa)), (mr 8, .inl (kL, 3002, .inr (.inl fn))), (m9, .inr (23, mA mr mv vf xl (nI zs) ff1 xa1 (nI T) (nI pp1) xi xt xn (nI ns) (nI vv) (nI bb1))), (q_18, .inr (15, [.int 8, .int (nI pp), .int 0, .int 0, .int 0, .int 0, .long 0, .int 0, .ref r_3, .ref la, .ref sa, .int (nI n), .null, .null])), (la, .inl (kE, cp, .inr (.inr (.inr (.inr f))))), (sa, .inl (kI, cp, .inl g))]) [3, 4, 5, 6, 0, 1, 2] rfl
                replace hD : va_D A ((([(mr 5, .inl (kI, 3002, .inl fk)), (mr 6, .inl (kI, 3002, .inl fa)), (mr 8, .inl (kL, 3002, .inr (.inl fn))), (m9, .inr (23, mA mr mv vf xl (nI zs) ff1 xa1 (nI T) (nI pp1) xi xt xn (nI ns) (nI vv) (nI bb1)))] : va_W) ++ ([(q_18, .inr (15, [.int 8, .int (nI pp), .int 0, .int 0, .int 0, .int 0, .long 0, .int 0, .ref r_3, .ref la, .ref sa, .int (nI n), .null, .null])), (la, .inl (kE, cp, .inr (.inr (.inr (.inr f))))), (sa, .inl (kI, cp, .inl g))] : va_W)) ++ sT L1 F1) := hD.subT (f' := [(mr 5, .inl (kI, 3002, .inl fk)), (mr 6, .inl (kI, 3002, .inl fa)), (mr 8, .inl (kL, 3002, .inr (.inl fn))), (m9, .inr (23, mA mr mv vf xl (nI zs) ff1 xa1 (nI T) (nI pp1) xi xt xn (nI ns) (nI vv) (nI bb1))), (q_18, .inr (15, [.int 8, .int (nI pp), .int 0, .int 0, .int 0, .int 0, .long 0, .int 0, .ref r_3, .ref la, .ref sa, .int (nI n), .null, .null])), (la, .inl (kE, cp, .inr (.inr (.inr (.inr f))))), (sa, .inl (kI, cp, .inl g))]) [3, 4, 5, 6, 0, 1, 2] (by decide) rfl
                obtain ⟨L9, F9, hx9, hm9, hP, hD⟩ := st_fileL [(q_18, .inr (15, [.int 8, .int (nI pp), .int 0, .int 0, .int 0, .int 0, .long 0, .int 0, .ref r_3, .ref la, .ref sa, .int (nI n), .null, .null])), (la, .inl (kE, cp, .inr (.inr (.inr (.inr f))))), (sa, .inl (kI, cp, .inl g))] hP hD
                have hm9_0 := hm9 _ (List.mem_of_getElem? (i := 0) rfl)
                have hm9_1 := hm9 _ (List.mem_of_getElem? (i := 1) rfl)
                have hm9_2 := hm9 _ (List.mem_of_getElem? (i := 2) rfl)
                refine W.grow (fun hgs0 hgs1 => ?_)
                have hP9 := hP.subT (f' := [(m9, .inr (23, mA mr mv vf xl (nI zs) ff1 xa1 (nI T) (nI pp1) xi xt xn (nI ns) (nI vv) (nI bb1))), (mr 5, .inl (kI, 3002, .inl fk)), (mr 6, .inl (kI, 3002, .inl fa)), (mr 8, .inl (kL, 3002, .inr (.inl fn)))]) [3, 0, 1, 2] rfl
                have hD9 := hD.subT (f' := [(m9, .inr (23, mA mr mv vf xl (nI zs) ff1 xa1 (nI T) (nI pp1) xi xt xn (nI ns) (nI vv) (nI bb1))), (mr 5, .inl (kI, 3002, .inl fk)), (mr 6, .inl (kI, 3002, .inl fa)), (mr 8, .inl (kL, 3002, .inr (.inl fn)))]) [3, 0, 1, 2] (by decide) rfl
                have hK9 := hK.sub (tys' := [(kI, .int), (kL, .long), (kE, .object RX15)]) [0, 1, 2] rfl
                refine W.widen (k := (8 * (T - pp) + 8)) (n := (120 * (T - pp) + 360)) (by omega) (by omega) ?_
                subst hQ1
                exact W.aret hx hb hr (Or.inl ⟨_, rfl⟩) (Or.inr ⟨q_18, rfl⟩) (fun tS ht hW => ⟨⟨(), q_18, rfl, trivial, L9, F9, ff1, xa1, pp1, bb1, ⟨hr2.tr hx9, hm9_0.1, _, hm9_0.2⟩, ⟨by omega, by omega, by omega, by omega⟩, (fun q9 => absurd q9 hz_22), by rw [ht]; exact ⟨by omega, by omega⟩, by rw [ht]; exact hP9, va_K.moved hW.alike hK9, hD9⟩, hS.F ht⟩) hS.2.2 dX23_chain_144
          refine W.widen (k := (8 * (pp15 - pp) + 4 - 3 * 1)) (n := (120 * (pp15 - pp) + 62 + 4 * 4 - 72 * 1)) (by omega) (by omega) ?_
          exact key1 (T + 1 - (pp15) + 1) pp15 bb15 la19 sa19 4 1 ff15 xa15 L15 F15 f19 g19 _ _ _ (⟨by omega, by omega, by omega, by omega, by omega, by omega, by omega, by omega, by omega, by omega, hT⟩) (Or.inl hz_21) ((hf3_0.1).tr hf16_0.1) (fun i hi => by obtain rfl : i = 0 := (by omega); exact ⟨_, hf20_1.1, hf16_0.2⟩) (fun q9 => absurd q9 hz_21) (hP.subT [4, 5, 6, 0, 1, 2, 3] rfl) (hD.subT [4, 5, 6, 0, 1, 2, 3] (by decide) rfl) hS (lv_sub hl [0, 3, 4, 5] rfl)
  · replace hPc := hP.subF (f' := [(m9, .inr (23, mA mr mv vf xl (nI zs) ffA xaA (nI T) (nI ppA) xi xt xn (nI ns) (nI vv) (nI bbA)))]) [0] rfl
    replace hDc := hD.subF (f' := [(m9, .inr (23, mA mr mv vf xl (nI zs) ffA xaA (nI T) (nI ppA) xi xt xn (nI ns) (nI vv) (nI bbA)))]) [0] (by decide) rfl
    replace hKc := hK.sub (tys' := []) [] rfl
    replace hFc := va_freeT (wc := [(m9, .inr (23, mA mr mv vf xl (nI zs) ffA xaA (nI T) (nI ppA) xi xt xn (nI ns) (nI vv) (nI bbA)))]) hD hS hA [0] rfl
    refine va_calli (va_runV (As := []) (rest := []) ⟨hx, hb, hml, hown, hts⟩ (c_rokB l dC dI m9 mr mv vf xl xaA xi xt xn zs T ppA ns vv bbA kI fk fa ffA H.size hz_5) (cwV 0 hts g_c_xc5_c_rokB_30 rfl rfl rfl (by decide +kernel) ⟨by show 0 + 1 ≤ 8 + 12 * k; omega, by show 8 + (1 + 11) + (0) ≤ 177 + 279 * k; omega⟩) ⟨fun a U g mk q => by obtain ⟨q0, q1, qP, qK, qD⟩ := q; exact ⟨q0, q1, qP, va_K.moved (u := U) (U := U.calling g mk a) (Vm.Alike.refl U.vm) qK, qD⟩, va_recv hKc hPc (ci := 23) (q0 := 0) rfl rfl, fun U hU hW => ⟨rfl, by rw [hU], by rw [hU]; exact hPc, va_K.moved hW.alike hKc, hDc.weaken (fun _ _ _ _ => trivial)⟩⟩ rfl rfl hl.1 rfl (lv_room (Nat.le_of_ble_eq_true rfl)) dX23_chain_30 ⟨(show 8 * (ppA - pp) + 3 + 0 ≤ (8 * (T - pp) + 8) by omega), (show 120 * (ppA - pp) + 48 + 0 ≤ (120 * (T - pp) + 360) by omega)⟩) hS (fun q _ h => hFc q h) hFc (fun r_6 u tS H1 locs ht hvm hw hB hz1 hk1 hS => ?_)
    obtain ⟨hP1, hK1, hD1⟩ := hB
    rw [ht] at hP1
    replace hK1 := va_K.moved hvm.symm hK1
    obtain ⟨hPj, hDj⟩ := va_joinT (wr := [(mr 5, .inl (kI, 3002, .inl fk)), (mr 6, .inl (kI, 3002, .inl fa)), (mr 8, .inl (kL, 3002, .inr (.inl fn)))]) (w1 := [(m9, .inr (23, mA mr mv vf xl (nI zs) ffA xaA (nI T) (nI ppA) xi xt xn (nI ns) (nI vv) (nI bbA)))]) hP hD [0] [1, 2, 3] rfl rfl (by decide) (by decide) hk1 hFc hP1 hD1
    replace hP := hPj
    replace hD := hDj
    clear hPj hDj
    generalize H1 = H at hP hS ⊢
    replace hP : va_P (dC, dI) vwCl (([(mr 5, .inl (kI, 3002, .inl fk)), (mr 6, .inl (kI, 3002, .inl fa)), (mr 8, .inl (kL, 3002, .inr (.inl fn))), (m9, .inr (23, mA mr mv vf xl (nI zs) ffA xaA (nI T) (nI ppA) xi xt xn (nI ns) (nI vv) (nI bbA)))] : va_W) ++ (sT LA FA)) H := hP
    replace hD : va_D A (([(mr 5, .inl (kI, 3002, .inl fk)), (mr 6, .inl (kI, 3002, .inl fa)), (mr 8, .inl (kL, 3002, .inr (.inl fn))), (m9, .inr (23, mA mr mv vf xl (nI zs) ffA xaA (nI T) (nI ppA) xi xt xn (nI ns) (nI vv) (nI bbA)))] : va_W) ++ (sT LA FA)) := hD
    replace hK : va_K (dC, dI) vwCl [(kI, .int), (kL, .long), (kE, .object RX15)] s := hK
    clear hz1 hk1 hPc hDc hKc hFc hP1 hD1 hK1
    obtain rfl : r_6 = 0 := hw
    refine lv_if_eq (tgt := 135) hx hb dX23_chain_33 (by decide) (fun _ => ?_) (fun c_7 => absurd (by decide) c_7)
    refine lv_aload_nN hx hb dX23_chain_135 rfl (lv_at hl 0 rfl) ?_
    refine lv_ifnonnullN hx hb dX23_chain_136 ?_
    refine lv_aload_n hx hb dX23_chain_139 rfl (lv_at hl 1 rfl) ?_
    refine lv_goto (tgt := 144) hx hb dX23_chain_140 (by decide) ?_
    refine W.grow (fun hgs0 hgs1 => ?_)
    have hP9 := hP.subT (f' := [(m9, .inr (23, mA mr mv vf xl (nI zs) ffA xaA (nI T) (nI ppA) xi xt xn (nI ns) (nI vv) (nI bbA))), (mr 5, .inl (kI, 3002, .inl fk)), (mr 6, .inl (kI, 3002, .inl fa)), (mr 8, .inl (kL, 3002, .inr (.inl fn)))]) [3, 0, 1, 2] rfl
    have hD9 := hD.subT (f' := [(m9, .inr (23, mA mr mv vf xl (nI zs) ffA xaA (nI T) (nI ppA) xi xt xn (nI ns) (nI vv) (nI bbA))), (mr 5, .inl (kI, 3002, .inl fk)), (mr 6, .inl (kI, 3002, .inl fa)), (mr 8, .inl (kL, 3002, .inr (.inl fn)))]) [3, 0, 1, 2] (by decide) rfl
    have hK9 := hK.sub (tys' := [(kI, .int), (kL, .long), (kE, .object RX15)]) [0, 1, 2] rfl
    refine W.widen (k := (8 * (T - pp) + 8)) (n := (120 * (T - pp) + 360)) (by omega) (by omega) ?_
    exact W.aret hx hb hr (Or.inl ⟨_, rfl⟩) (Or.inr ⟨r_3, rfl⟩) (fun tS ht hW => ⟨⟨(), r_3, rfl, trivial, LA, FA, ffA, xaA, ppA, bbA, hf3_0, hf3_1, (fun q9 => absurd q9 hz_5), by rw [ht]; exact ⟨by omega, by omega⟩, by rw [ht]; exact hP9, va_K.moved hW.alike hK9, hD9⟩, hS.F ht⟩) hS.2.2 dX23_chain_144
