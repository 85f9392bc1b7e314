set_option maxRecDepth 20000 in
theorem g_c_vbl_c_nB_4 : GoodIn wp_c_vbl wp_c_nB := goodIn_app (goodIn_f (wf_c_nB) [4, 5, 6, 7, 8, 9] rfl wg_c_nB) (goodIn_app (goodIn_sub in_c_vbl_X14 gd_X14) (goodIn_n))
set_option maxRecDepth 20000 in
theorem g_c_vbl_c_rok0_9 : GoodIn wp_c_vbl (wsV RX23 89 RX23 yX23_ok wp_c_rok0) := goodIn_app (goodIn_f [.methodLink RX23 89 yX23_ok, .instanceMethod yX23_ok, .selects RX23 yX23_ok yX23_ok, .initialized RX23] [13, 14, 15, 16] rfl (by decide +kernel)) (goodIn_app (goodIn_f (wf_c_rok0) [11, 12] rfl wg_c_rok0) (goodIn_app (goodIn_sub in_c_vbl_X23 gd_X23) (goodIn_n)))
set_option maxRecDepth 20000 in
theorem g_c_vbl_c_risY_28 : GoodIn wp_c_vbl (wsV RX23 93 RX23 yX23_is wp_c_risY) := goodIn_app (goodIn_f [.methodLink RX23 93 yX23_is, .instanceMethod yX23_is, .selects RX23 yX23_is yX23_is, .initialized RX23] [21, 22, 23, 16] rfl (by decide +kernel)) (goodIn_app (goodIn_f (wf_c_risY) [19, 20, 17] rfl wg_c_risY) (goodIn_app (goodIn_sub in_c_vbl_X23 gd_X23) (goodIn_n)))
set_option maxRecDepth 20000 in
theorem g_c_vbl_c_risN_28 : GoodIn wp_c_vbl (wsV RX23 93 RX23 yX23_is wp_c_risY) := goodIn_app (goodIn_f [.methodLink RX23 93 yX23_is, .instanceMethod yX23_is, .selects RX23 yX23_is yX23_is, .initialized RX23] [21, 22, 23, 16] rfl (by decide +kernel)) (goodIn_app (goodIn_f (wf_c_risY) [19, 20, 17] rfl wg_c_risY) (goodIn_app (goodIn_sub in_c_vbl_X23 gd_X23) (goodIn_n)))
set_option maxRecDepth 20000 in
theorem g_c_vbl_c_renN_39 : GoodIn wp_c_vbl (wsV RX23 119 RX23 yX23_enter wp_c_renY) := goodIn_app (goodIn_f [.methodLink RX23 119 yX23_enter, .instanceMethod yX23_enter, .selects RX23 yX23_enter yX23_enter, .initialized RX23] [32, 33, 34, 16] rfl (by decide +kernel)) (goodIn_app (goodIn_f (wf_c_renY) [24, 11, 12, 13, 14, 15, 16, 25, 26, 27, 28, 29, 30, 31] rfl wg_c_renY) (goodIn_app (goodIn_sub in_c_vbl_X23 gd_X23) (goodIn_n)))
set_option maxRecDepth 20000 in
theorem g_c_vbl_c_renY_39 : GoodIn wp_c_vbl (wsV RX23 119 RX23 yX23_enter wp_c_renY) := goodIn_app (goodIn_f [.methodLink RX23 119 yX23_enter, .instanceMethod yX23_enter, .selects RX23 yX23_enter yX23_enter, .initialized RX23] [32, 33, 34, 16] rfl (by decide +kernel)) (goodIn_app (goodIn_f (wf_c_renY) [24, 11, 12, 13, 14, 15, 16, 25, 26, 27, 28, 29, 30, 31] rfl wg_c_renY) (goodIn_app (goodIn_sub in_c_vbl_X23 gd_X23) (goodIn_n)))
set_option maxRecDepth 20000 in
theorem g_c_vbl_c_rtkB_58 : GoodIn wp_c_vbl (wsV RX23 100 RX23 yX23_take wp_c_rtkY) := goodIn_app (goodIn_f [.methodLink RX23 100 yX23_take, .instanceMethod yX23_take, .selects RX23 yX23_take yX23_take, .initialized RX23] [36, 37, 38, 16] rfl (by decide +kernel)) (goodIn_app (goodIn_f (wf_c_rtkY) [35, 11, 12, 13, 14, 15, 16, 19, 20, 17, 21, 22, 23, 26, 27, 28, 29, 30, 31] rfl wg_c_rtkY) (goodIn_app (goodIn_sub in_c_vbl_X23 gd_X23) (goodIn_n)))
set_option maxRecDepth 20000 in
theorem g_c_vbl_c_rokB_62 : GoodIn wp_c_vbl (wsV RX23 89 RX23 yX23_ok wp_c_rok0) := goodIn_app (goodIn_f [.methodLink RX23 89 yX23_ok, .instanceMethod yX23_ok, .selects RX23 yX23_ok yX23_ok, .initialized RX23] [13, 14, 15, 16] rfl (by decide +kernel)) (goodIn_app (goodIn_f (wf_c_rok0) [11, 12] rfl wg_c_rok0) (goodIn_app (goodIn_sub in_c_vbl_X23 gd_X23) (goodIn_n)))
set_option maxRecDepth 20000 in
theorem g_c_vbl_c_rtkB_182 : GoodIn wp_c_vbl (wsV RX23 100 RX23 yX23_take wp_c_rtkY) := goodIn_app (goodIn_f [.methodLink RX23 100 yX23_take, .instanceMethod yX23_take, .selects RX23 yX23_take yX23_take, .initialized RX23] [36, 37, 38, 16] rfl (by decide +kernel)) (goodIn_app (goodIn_f (wf_c_rtkY) [35, 11, 12, 13, 14, 15, 16, 19, 20, 17, 21, 22, 23, 26, 27, 28, 29, 30, 31] rfl wg_c_rtkY) (goodIn_app (goodIn_sub in_c_vbl_X23 gd_X23) (goodIn_n)))
set_option maxRecDepth 20000 in
theorem g_c_vbl_c_rtkY_58 : GoodIn wp_c_vbl (wsV RX23 100 RX23 yX23_take wp_c_rtkY) := goodIn_app (goodIn_f [.methodLink RX23 100 yX23_take, .instanceMethod yX23_take, .selects RX23 yX23_take yX23_take, .initialized RX23] [36, 37, 38, 16] rfl (by decide +kernel)) (goodIn_app (goodIn_f (wf_c_rtkY) [35, 11, 12, 13, 14, 15, 16, 19, 20, 17, 21, 22, 23, 26, 27, 28, 29, 30, 31] rfl wg_c_rtkY) (goodIn_app (goodIn_sub in_c_vbl_X23 gd_X23) (goodIn_n)))
set_option maxRecDepth 20000 in
theorem g_c_vbl_c_rok0_62 : GoodIn wp_c_vbl (wsV RX23 89 RX23 yX23_ok wp_c_rok0) := goodIn_app (goodIn_f [.methodLink RX23 89 yX23_ok, .instanceMethod yX23_ok, .selects RX23 yX23_ok yX23_ok, .initialized RX23] [13, 14, 15, 16] rfl (by decide +kernel)) (goodIn_app (goodIn_f (wf_c_rok0) [11, 12] rfl wg_c_rok0) (goodIn_app (goodIn_sub in_c_vbl_X23 gd_X23) (goodIn_n)))
set_option maxRecDepth 20000 in
theorem g_c_vbl_c_risY_71 : GoodIn wp_c_vbl (wsV RX23 93 RX23 yX23_is wp_c_risY) := goodIn_app (goodIn_f [.methodLink RX23 93 yX23_is, .instanceMethod yX23_is, .selects RX23 yX23_is yX23_is, .initialized RX23] [21, 22, 23, 16] rfl (by decide +kernel)) (goodIn_app (goodIn_f (wf_c_risY) [19, 20, 17] rfl wg_c_risY) (goodIn_app (goodIn_sub in_c_vbl_X23 gd_X23) (goodIn_n)))
set_option maxRecDepth 20000 in
theorem g_c_vbl_c_risN_71 : GoodIn wp_c_vbl (wsV RX23 93 RX23 yX23_is wp_c_risY) := goodIn_app (goodIn_f [.methodLink RX23 93 yX23_is, .instanceMethod yX23_is, .selects RX23 yX23_is yX23_is, .initialized RX23] [21, 22, 23, 16] rfl (by decide +kernel)) (goodIn_app (goodIn_f (wf_c_risY) [19, 20, 17] rfl wg_c_risY) (goodIn_app (goodIn_sub in_c_vbl_X23 gd_X23) (goodIn_n)))
set_option maxRecDepth 20000 in
theorem g_c_vbl_c_rtkY_182 : GoodIn wp_c_vbl (wsV RX23 100 RX23 yX23_take wp_c_rtkY) := goodIn_app (goodIn_f [.methodLink RX23 100 yX23_take, .instanceMethod yX23_take, .selects RX23 yX23_take yX23_take, .initialized RX23] [36, 37, 38, 16] rfl (by decide +kernel)) (goodIn_app (goodIn_f (wf_c_rtkY) [35, 11, 12, 13, 14, 15, 16, 19, 20, 17, 21, 22, 23, 26, 27, 28, 29, 30, 31] rfl wg_c_rtkY) (goodIn_app (goodIn_sub in_c_vbl_X23 gd_X23) (goodIn_n)))
set_option maxRecDepth 20000 in
theorem g_c_vbl_c_vst_78 : GoodIn wp_c_vbl (wsV RX23 240 RX23 yX23_statement wp_c_vst) := goodIn_app (goodIn_f [.methodLink RX23 240 yX23_statement, .instanceMethod yX23_statement, .selects RX23 yX23_statement yX23_statement, .initialized RX23] [169, 170, 171, 16] rfl (by decide +kernel)) (goodIn_app (goodIn_f (wf_c_vst) [40, 41, 42, 43, 44, 45, 6, 7, 46, 17, 47, 20, 48, 49, 50, 11, 12, 13, 14, 15, 16, 19, 21, 22, 23, 51, 52, 53, 54, 55, 56, 26, 27, 28, 29, 30, 31, 57, 58, 59, 60, 35, 36, 37, 38, 61, 62, 63, 64, 65, 66, 67, 68, 69, 70, 71, 72, 73, 74, 24, 25, 32, 33, 34, 75, 76, 77, 78, 79, 80, 81, 82, 83, 84, 85, 86, 87, 88, 89, 90, 91, 92, 93, 94, 95, 96, 97, 98, 99, 100, 101, 102, 103, 104, 105, 106, 107, 108, 109, 110, 111, 112, 113, 114, 115, 116, 117, 118, 119, 120, 121, 122, 123, 124, 125, 126, 127, 128, 129, 130, 131, 132, 133, 134, 135, 136, 137, 138, 139, 140, 141, 142, 143, 144, 145, 146, 147, 148, 149, 150, 151, 152, 153, 154, 155, 156, 157, 0, 1, 2, 3, 4, 5, 8, 9, 10, 158, 159, 160, 161, 162, 163, 164, 165, 166, 167, 168, 18, 39, 169, 170, 171, 172, 173, 174, 175, 176, 177, 178, 179, 180, 181, 182, 183, 184, 185, 186, 187, 188, 189, 190, 191, 192, 193, 194, 195, 196, 197, 198, 199, 200, 201, 202, 203, 204] rfl wg_c_vst) (goodIn_app (goodIn_sub in_c_vbl_X19 gd_X19) (goodIn_app (goodIn_sub in_c_vbl_X23 gd_X23) (goodIn_app (goodIn_sub in_c_vbl_X22 gd_X22) (goodIn_app (goodIn_sub in_c_vbl_X15 gd_X15) (goodIn_app (goodIn_sub in_c_vbl_X14 gd_X14) (goodIn_app (goodIn_sub in_c_vbl_X13 gd_X13) (goodIn_n))))))))
set_option maxRecDepth 20000 in
theorem g_c_vbl_c_rtkN_58 : GoodIn wp_c_vbl (wsV RX23 100 RX23 yX23_take wp_c_rtkY) := goodIn_app (goodIn_f [.methodLink RX23 100 yX23_take, .instanceMethod yX23_take, .selects RX23 yX23_take yX23_take, .initialized RX23] [36, 37, 38, 16] rfl (by decide +kernel)) (goodIn_app (goodIn_f (wf_c_rtkY) [35, 11, 12, 13, 14, 15, 16, 19, 20, 17, 21, 22, 23, 26, 27, 28, 29, 30, 31] rfl wg_c_rtkY) (goodIn_app (goodIn_sub in_c_vbl_X23 gd_X23) (goodIn_n)))
set_option maxHeartbeats 4000000 in
set_option maxRecDepth 100000 in
theorem c_vbl (l : Launch) (dC : Nat → ClassId) (dI : Nat → Nat → Nat) (k : Nat) (ih : ∀ k1 : Nat, k = k1 + 1 → IH_gv l dC dI k1) : st_c_vbl l dC dI k := by
  intro m9 mr mv vf xl xa xi xt xn zs T pp ns vv bb kI fk fa kL kE fn L F kS kB kA kV sl sz hT hp hk0 hbb hvv hnk
  refine Met.ofW (cc := cX23_block) (maxL := 5) (ret := (some (.object "OwnedPlacesModel$Block"))) (by decide) rfl ?_
  intro p e s m args below meth c s₁ B hml hv
  obtain ⟨rfl, hsz, hP, hK, hD0, hpre0, hpre1⟩ := hv
  have hx := B.exec
  have hb := B.bytes
  have hr := B.returns
  have hts := atoms_spec (ws := wp_c_vbl) B.pre
  have hown : s.vm.findClass RX23 = some m.cls := findClass_of_methodNamed B.named
  have hlocks := B.notSynchronized
  subst hsz
  replace hD := hD0.self (sz := s.heap.size)
  generalize hAe : va_A (([(m9, .inr (23, mA mr mv vf xl (nI zs) 0 xa (nI T) (nI pp) xi xt xn (nI ns) (nI vv) (nI bb))), (mr 5, .inl (kI, 3002, .inl fk)), (mr 6, .inl (kI, 3002, .inl fa)), (mr 8, .inl (kL, 3002, .inr (.inl fn)))] : va_W) ++ (sT L F)) s.heap.size = A at hD ⊢
  have hA : ∀ q : Nat, s.heap.size ≤ q → A q := fun q h => by rw [← hAe]; exact Or.inr h
  have hS : va_S A s.heap s.heap [] := va_S.rf
  replace hP : va_P (dC, dI) vwCl (([(m9, .inr (23, mA mr mv vf xl (nI zs) 0 xa (nI T) (nI pp) xi xt xn (nI ns) (nI vv) (nI bb))), (mr 5, .inl (kI, 3002, .inl fk)), (mr 6, .inl (kI, 3002, .inl fa)), (mr 8, .inl (kL, 3002, .inr (.inl fn)))] : va_W) ++ (sT L F)) s.heap := hP
  replace hl := lv_entry ([.ref m9]) (n := 5) (Nat.le_of_ble_eq_true rfl)
  rw [lg_entry_eq]
  generalize (lg_sl ([.ref m9]) ++ List.replicate (5 - (lg_sl ([.ref m9])).length) Slot.unset).toArray = ls at hl ⊢
  replace hl : lv_has ls 5 [(0, .ref m9)] := hl
  have hns := hpre0
  subst hpre1
  refine va_new (ci := 14) (fs := [.int 0, .int 0, .null, .int 0]) (C := RX14) (T := TX14) (N := 4) hx hb hts in_c_vbl_X14 tyX14 tyX14_ok hown (hts (.classLink RX23 236 RX14) (wm_c_vbl 1 rfl)) (hts (.instantiable RX14 4) (wm_c_vbl 2 rfl)) (hts (.initialized RX14) (wm_c_vbl 3 rfl)) hK hP hD hS hA rfl dv_X14 (show 0 + 1 ≤ (8 * (T - pp) + 12) by omega) (show 0 + 4 ≤ (120 * (T - pp) + 460) by omega) dX23_block_0 (fun q_1 H hP hD hS => ?_)
  replace hP := va_P.nt hP
  replace hD := va_D.nt hD
  replace hP : va_P (dC, dI) vwCl (([(m9, .inr (23, mA mr mv vf xl (nI zs) 0 xa (nI T) (nI pp) xi xt xn (nI ns) (nI vv) (nI bb))), (mr 5, .inl (kI, 3002, .inl fk)), (mr 6, .inl (kI, 3002, .inl fa)), (mr 8, .inl (kL, 3002, .inr (.inl fn))), (q_1, .inr (14, [.int 0, .int 0, .null, .int 0]))] : va_W) ++ (sT L F)) H := hP
  replace hD : va_D A (([(m9, .inr (23, mA mr mv vf xl (nI zs) 0 xa (nI T) (nI pp) xi xt xn (nI ns) (nI vv) (nI bb))), (mr 5, .inl (kI, 3002, .inl fk)), (mr 6, .inl (kI, 3002, .inl fa)), (mr 8, .inl (kL, 3002, .inr (.inl fn))), (q_1, .inr (14, [.int 0, .int 0, .null, .int 0]))] : va_W) ++ (sT L F)) := hD
  refine W.widen (k := 1) (n := 4) (by omega) (by omega) ?_
  refine lv_dup hx hb dX23_block_3 rfl ?_
  replace hPc := hP.subF (f' := [(q_1, .inr (14, [.int 0, .int 0, .null, .int 0]))]) [4] rfl
  replace hDc := hD.subF (f' := [(q_1, .inr (14, [.int 0, .int 0, .null, .int 0]))]) [4] (by decide) rfl
  replace hKc := hK.sub (tys' := [(kS, .object RX19)]) [3] rfl
  replace hFc := va_freeT (wc := [(q_1, .inr (14, [.int 0, .int 0, .null, .int 0]))]) hD hS hA [4] rfl
  refine W.grow (fun hgs0 hgs1 => ?_)
  refine va_callv (va_runIN (As := []) (rest := [.ref q_1]) ⟨hx, hb, hml, hown, hts⟩ (c_nB l dC dI q_1 kS (slN H) H.size) ⟨va_cnB 0 hts g_c_vbl_c_nB_4 rfl rfl rfl hns.1.2.2.2.1 (hts (.initialized RX14) (wm_c_vbl 3 rfl)) (by decide +kernel) ⟨by show 1 + 1 ≤ 2 + 14 * k; omega, by show 8 + (1 + 11) + (12) ≤ 43 + 323 * k; omega⟩, rfl, (hts (.instanceMethod yX14_init) (wm_c_vbl 10 rfl))⟩ ⟨fun a U g mk q => by obtain ⟨q0, q1, qP, qK, qD, qx0, qx1⟩ := q; exact ⟨q0, q1, qP, va_K.moved (u := U) (U := U.calling g mk a) (Vm.Alike.refl U.vm) qK, qD, nsM.same (u := U) (U := U.calling g mk a) rfl qx0, qx1⟩, fun U hU hW => ⟨rfl, by rw [hU], by rw [hU]; exact hPc, va_K.moved hW.alike hKc, hDc.weaken (fun _ _ _ _ => trivial), nsM.warm hW hns, by rw [hU]⟩⟩ rfl rfl hl.1 rfl (lv_room (Nat.le_of_ble_eq_true rfl)) dX23_block_4 ⟨(show 1 + 1 ≤ (8 * (T - pp) + 12) by omega), (show 4 + 4 ≤ (120 * (T - pp) + 460) by omega)⟩) hS (fun q _ h => hFc q h) hFc (fun u tS H1 locs ht hvm hw hB hz1 hk1 hS => ?_)
  obtain ⟨la0, hf2_0, hP1, hK1, hD1⟩ := hB
  rw [ht] at hP1
  replace hK1 := va_K.moved hvm.symm hK1
  rw [ht] at hf2_0
  have hgz : H1.size ≤ s.heap.size + ((1 + 1)) ∧ slN H1 ≤ slN s.heap + ((4 + 4)) := ⟨by have := hf2_0.1; omega, by have := hf2_0.2; omega⟩
  obtain ⟨hPj, hDj⟩ := va_joinT (wr := [(m9, .inr (23, mA mr mv vf xl (nI zs) 0 xa (nI T) (nI pp) xi xt xn (nI ns) (nI vv) (nI bb))), (mr 5, .inl (kI, 3002, .inl fk)), (mr 6, .inl (kI, 3002, .inl fa)), (mr 8, .inl (kL, 3002, .inr (.inl fn)))]) (w1 := [(q_1, .inr (14, [.int 0, .int 0, .ref la0, .int 0])), (la0, .inl (kS, 4, .inr (.inr (.inr (.inr (fun _ => none))))))]) hP hD [4] [0, 1, 2, 3] rfl rfl (by decide) (by decide) hk1 hFc hP1 hD1
  replace hP := hPj
  replace hD := hDj
  clear hPj hDj
  replace hK := hK.app hK1
  generalize H1 = H at hP hS hgz ⊢
  replace hP : va_P (dC, dI) vwCl (([(m9, .inr (23, mA mr mv vf xl (nI zs) 0 xa (nI T) (nI pp) xi xt xn (nI ns) (nI vv) (nI bb))), (mr 5, .inl (kI, 3002, .inl fk)), (mr 6, .inl (kI, 3002, .inl fa)), (mr 8, .inl (kL, 3002, .inr (.inl fn))), (q_1, .inr (14, [.int 0, .int 0, .ref la0, .int 0])), (la0, .inl (kS, 4, .inr (.inr (.inr (.inr (fun _ => none))))))] : va_W) ++ (sT L F)) H := hP
  replace hD : va_D A (([(m9, .inr (23, mA mr mv vf xl (nI zs) 0 xa (nI T) (nI pp) xi xt xn (nI ns) (nI vv) (nI bb))), (mr 5, .inl (kI, 3002, .inl fk)), (mr 6, .inl (kI, 3002, .inl fa)), (mr 8, .inl (kL, 3002, .inr (.inl fn))), (q_1, .inr (14, [.int 0, .int 0, .ref la0, .int 0])), (la0, .inl (kS, 4, .inr (.inr (.inr (.inr (fun _ => none))))))] : va_W) ++ (sT L F)) := hD
  replace hK : va_K (dC, dI) vwCl [(kI, .int), (kL, .long), (kE, .object RX15), (kS, .object RX19), (kB, .object RX14), (kA, .object RX13), (kV, .object RX21), (kS, .object RX19)] s := hK
  replace hK := hK.sub (tys' := [(kI, .int), (kL, .long), (kE, .object RX15), (kS, .object RX19), (kB, .object RX14), (kA, .object RX13), (kV, .object RX21)]) [0, 1, 2, 3, 4, 5, 6] rfl
  refine W.tight (k := (1 + 1)) (n := (4 + 4)) hgz.1 hgz.2 ?_
  clear hz1 hk1 hPc hDc hKc hFc hP1 hD1 hK1
  refine lv_astore_n (lv' := [(1, .ref q_1), (0, .ref m9)]) hx hb dX23_block_7 rfl hl (by decide) rfl (fun ls hl => ?_)
  refine lv_aload_n hx hb dX23_block_8 rfl (lv_at hl 1 rfl) ?_
  replace hPc := hP.subF (f' := [(m9, .inr (23, mA mr mv vf xl (nI zs) 0 xa (nI T) (nI pp) xi xt xn (nI ns) (nI vv) (nI bb)))]) [0] rfl
  replace hDc := hD.subF (f' := [(m9, .inr (23, mA mr mv vf xl (nI zs) 0 xa (nI T) (nI pp) xi xt xn (nI ns) (nI vv) (nI bb)))]) [0] (by decide) rfl
  replace hKc := hK.sub (tys' := []) [] rfl
  replace hFc := va_freeT (wc := [(m9, .inr (23, mA mr mv vf xl (nI zs) 0 xa (nI T) (nI pp) xi xt xn (nI ns) (nI vv) (nI bb)))]) hD hS hA [0] rfl
  refine va_calli (va_runV (As := []) (rest := []) ⟨hx, hb, hml, hown, hts⟩ (c_rok0 l dC dI m9 mr mv vf xl xa xi xt xn zs T pp ns vv bb kI fk fa H.size) (cwV 0 hts g_c_vbl_c_rok0_9 rfl rfl rfl (by decide +kernel) ⟨by show 0 + 1 ≤ 2 + 14 * k; omega, by show 8 + (1 + 11) + (0) ≤ 43 + 323 * k; omega⟩) ⟨fun a U g mk q => by obtain ⟨q0, q1, qP, qK, qD⟩ := q; exact ⟨q0, q1, qP, va_K.moved (u := U) (U := U.calling g mk a) (Vm.Alike.refl U.vm) qK, qD⟩, va_recv hKc hPc (ci := 23) (q0 := 0) rfl rfl, fun U hU hW => ⟨rfl, by rw [hU], by rw [hU]; exact hPc, va_K.moved hW.alike hKc, hDc.weaken (fun _ _ _ _ => trivial)⟩⟩ rfl rfl hl.1 rfl (lv_room (Nat.le_of_ble_eq_true rfl)) dX23_block_9 ⟨(show (1 + 1) + 0 ≤ (8 * (T - pp) + 12) by omega), (show (4 + 4) + 0 ≤ (120 * (T - pp) + 460) by omega)⟩) hS (fun q _ h => hFc q h) hFc (fun r_3 u tS H1 locs ht hvm hw hB hz1 hk1 hS => ?_)
  obtain ⟨hP1, hK1, hD1⟩ := hB
  rw [ht] at hP1
  replace hK1 := va_K.moved hvm.symm hK1
  obtain ⟨hPj, hDj⟩ := va_joinT (wr := [(mr 5, .inl (kI, 3002, .inl fk)), (mr 6, .inl (kI, 3002, .inl fa)), (mr 8, .inl (kL, 3002, .inr (.inl fn))), (q_1, .inr (14, [.int 0, .int 0, .ref la0, .int 0])), (la0, .inl (kS, 4, .inr (.inr (.inr (.inr (fun _ => none))))))]) (w1 := [(m9, .inr (23, mA mr mv vf xl (nI zs) 0 xa (nI T) (nI pp) xi xt xn (nI ns) (nI vv) (nI bb)))]) hP hD [0] [1, 2, 3, 4, 5] rfl rfl (by decide) (by decide) hk1 hFc hP1 hD1
  replace hP := hPj
  replace hD := hDj
  clear hPj hDj
  generalize H1 = H at hP hS ⊢
  replace hP : va_P (dC, dI) vwCl (([(mr 5, .inl (kI, 3002, .inl fk)), (mr 6, .inl (kI, 3002, .inl fa)), (mr 8, .inl (kL, 3002, .inr (.inl fn))), (q_1, .inr (14, [.int 0, .int 0, .ref la0, .int 0])), (la0, .inl (kS, 4, .inr (.inr (.inr (.inr (fun _ => none)))))), (m9, .inr (23, mA mr mv vf xl (nI zs) 0 xa (nI T) (nI pp) xi xt xn (nI ns) (nI vv) (nI bb)))] : va_W) ++ (sT L F)) H := hP
  replace hD : va_D A (([(mr 5, .inl (kI, 3002, .inl fk)), (mr 6, .inl (kI, 3002, .inl fa)), (mr 8, .inl (kL, 3002, .inr (.inl fn))), (q_1, .inr (14, [.int 0, .int 0, .ref la0, .int 0])), (la0, .inl (kS, 4, .inr (.inr (.inr (.inr (fun _ => none)))))), (m9, .inr (23, mA mr mv vf xl (nI zs) 0 xa (nI T) (nI pp) xi xt xn (nI ns) (nI vv) (nI bb)))] : va_W) ++ (sT L F)) := hD
  replace hK : va_K (dC, dI) vwCl [(kI, .int), (kL, .long), (kE, .object RX15), (kS, .object RX19), (kB, .object RX14), (kA, .object RX13), (kV, .object RX21)] s := hK
  clear hz1 hk1 hPc hDc hKc hFc hP1 hD1 hK1
  obtain rfl : r_3 = 1 := hw
  refine lv_if_ne (tgt := 17) hx hb dX23_block_12 (by decide) (fun _ => ?_) (fun c_4 => absurd c_4 (by decide))
  refine lv_aload_n hx hb dX23_block_17 rfl (lv_at hl 0 rfl) ?_
  refine lv_aload_n hx hb dX23_block_18 rfl (lv_at hl 1 rfl) ?_
  refine va_get (D := (dC, dI)) (ci := 23) (v := .int (nI pp)) (C := RX23) (T := TX23) (N := 89) hx hb hts in_c_vbl_X23 hown hK hP 5 rfl rfl 10 (by decide) (hts (.fieldLink RX23 86 "OwnedPlacesModel" "p" "I") (wm_c_vbl 17 rfl)) (fun _ h9 => h9) rfl dX23_block_19 ?_
  refine va_put (D := (dC, dI)) (ci := 14) (v := .int (nI pp)) (ty := .int) (C := RX14) (T := TX14) (N := 4) hx hb hts in_c_vbl_X14 tyX14 tyX14_ok nmX14 hown hK hP hD hS 3 rfl rfl 0 (by decide) (hts (.fieldLink RX23 239 "OwnedPlacesModel$Block" "token" "I") (wm_c_vbl 18 rfl)) (fun _ h9 => h9) rfl (by decide +kernel) rfl rfl (Nat.le_of_ble_eq_true rfl) dX23_block_22 (fun H locs hP hD hS => ?_)
  replace hP : va_P (dC, dI) vwCl (([(mr 5, .inl (kI, 3002, .inl fk)), (mr 6, .inl (kI, 3002, .inl fa)), (mr 8, .inl (kL, 3002, .inr (.inl fn))), (q_1, .inr (14, [.int (nI pp), .int 0, .ref la0, .int 0])), (la0, .inl (kS, 4, .inr (.inr (.inr (.inr (fun _ => none)))))), (m9, .inr (23, mA mr mv vf xl (nI zs) 0 xa (nI T) (nI pp) xi xt xn (nI ns) (nI vv) (nI bb)))] : va_W) ++ (sT L F)) H := hP
  replace hD : va_D A (([(mr 5, .inl (kI, 3002, .inl fk)), (mr 6, .inl (kI, 3002, .inl fa)), (mr 8, .inl (kL, 3002, .inr (.inl fn))), (q_1, .inr (14, [.int (nI pp), .int 0, .ref la0, .int 0])), (la0, .inl (kS, 4, .inr (.inr (.inr (.inr (fun _ => none)))))), (m9, .inr (23, mA mr mv vf xl (nI zs) 0 xa (nI T) (nI pp) xi xt xn (nI ns) (nI vv) (nI bb)))] : va_W) ++ (sT L F)) := hD
  refine lv_aload_n hx hb dX23_block_25 rfl (lv_at hl 1 rfl) ?_
  refine lv_bipush (v := 63) hx hb dX23_block_26 (by decide) ?_
  by_cases hk_5 : fk pp = 63
  · replace hPc := hP.subF (f' := [(m9, .inr (23, mA mr mv vf xl (nI zs) 0 xa (nI T) (nI pp) xi xt xn (nI ns) (nI vv) (nI bb))), (mr 5, .inl (kI, 3002, .inl fk))]) [5, 0] rfl
    replace hDc := hD.subF (f' := [(m9, .inr (23, mA mr mv vf xl (nI zs) 0 xa (nI T) (nI pp) xi xt xn (nI ns) (nI vv) (nI bb))), (mr 5, .inl (kI, 3002, .inl fk))]) [5, 0] (by decide) rfl
    replace hKc := hK.sub (tys' := [(kI, .int)]) [0] rfl
    replace hFc := va_freeT (wc := [(m9, .inr (23, mA mr mv vf xl (nI zs) 0 xa (nI T) (nI pp) xi xt xn (nI ns) (nI vv) (nI bb))), (mr 5, .inl (kI, 3002, .inl fk))]) hD hS hA [5, 0] rfl
    refine va_calli (va_runV (As := [.int 63]) (rest := []) ⟨hx, hb, hml, hown, hts⟩ (c_risY l dC dI m9 mr mv vf xl xa xi xt xn zs T pp ns vv bb kI fk fa 0 63 H.size hT hp hk_5) (cwV 1 hts g_c_vbl_c_risY_28 rfl rfl rfl (by decide +kernel) ⟨by show 0 + 1 ≤ 2 + 14 * k; omega, by show 8 + (2 + 11) + (0) ≤ 43 + 323 * k; omega⟩) ⟨fun a U g mk q => by obtain ⟨q0, q1, qP, qK, qD⟩ := q; exact ⟨q0, q1, qP, va_K.moved (u := U) (U := U.calling g mk a) (Vm.Alike.refl U.vm) qK, qD⟩, va_recv hKc hPc (ci := 23) (q0 := 0) rfl rfl, fun U hU hW => ⟨rfl, by rw [hU], by rw [hU]; exact hPc, va_K.moved hW.alike hKc, hDc.weaken (fun _ _ _ _ => trivial)⟩⟩ rfl rfl hl.1 rfl (lv_room (Nat.le_of_ble_eq_true rfl)) dX23_block_28 ⟨(show (1 + 1) + 0 ≤ (8 * (T - pp) + 12) by omega), (show (4 + 4) + 0 ≤ (120 * (T - pp) + 460) by omega)⟩) hS (fun q _ h => hFc q h) hFc (fun r_6 u tS H1 locs ht hvm hw hB hz1 hk1 hS => ?_)
    obtain ⟨hP1, hK1, hD1⟩ := hB
    rw [ht] at hP1
    replace hK1 := va_K.moved hvm.symm hK1
    obtain ⟨hPj, hDj⟩ := va_joinT (wr := [(mr 6, .inl (kI, 3002, .inl fa)), (mr 8, .inl (kL, 3002, .inr (.inl fn))), (q_1, .inr (14, [.int (nI pp), .int 0, .ref la0, .int 0])), (la0, .inl (kS, 4, .inr (.inr (.inr (.inr (fun _ => none))))))]) (w1 := [(m9, .inr (23, mA mr mv vf xl (nI zs) 0 xa (nI T) (nI pp) xi xt xn (nI ns) (nI vv) (nI bb))), (mr 5, .inl (kI, 3002, .inl fk))]) hP hD [5, 0] [1, 2, 3, 4] rfl rfl (by decide) (by decide) hk1 hFc hP1 hD1
    replace hP := hPj
    replace hD := hDj
    clear hPj hDj
    replace hK := hK.app hK1
    generalize H1 = H at hP hS ⊢
    replace hP : va_P (dC, dI) vwCl (([(mr 6, .inl (kI, 3002, .inl fa)), (mr 8, .inl (kL, 3002, .inr (.inl fn))), (q_1, .inr (14, [.int (nI pp), .int 0, .ref la0, .int 0])), (la0, .inl (kS, 4, .inr (.inr (.inr (.inr (fun _ => none)))))), (m9, .inr (23, mA mr mv vf xl (nI zs) 0 xa (nI T) (nI pp) xi xt xn (nI ns) (nI vv) (nI bb))), (mr 5, .inl (kI, 3002, .inl fk))] : va_W) ++ (sT L F)) H := hP
    replace hD : va_D A (([(mr 6, .inl (kI, 3002, .inl fa)), (mr 8, .inl (kL, 3002, .inr (.inl fn))), (q_1, .inr (14, [.int (nI pp), .int 0, .ref la0, .int 0])), (la0, .inl (kS, 4, .inr (.inr (.inr (.inr (fun _ => none)))))), (m9, .inr (23, mA mr mv vf xl (nI zs) 0 xa (nI T) (nI pp) xi xt xn (nI ns) (nI vv) (nI bb))), (mr 5, .inl (kI, 3002, .inl fk))] : va_W) ++ (sT L F)) := hD
    replace hK : va_K (dC, dI) vwCl [(kI, .int), (kL, .long), (kE, .object RX15), (kS, .object RX19), (kB, .object RX14), (kA, .object RX13), (kV, .object RX21), (kI, .int)] s := hK
    replace hK := hK.sub (tys' := [(kI, .int), (kL, .long), (kE, .object RX15), (kS, .object RX19), (kB, .object RX14), (kA, .object RX13), (kV, .object RX21)]) [0, 1, 2, 3, 4, 5, 6] rfl
    clear hz1 hk1 hPc hDc hKc hFc hP1 hD1 hK1
    obtain rfl : r_6 = 1 := hw
    refine lv_if_eq (tgt := 45) hx hb dX23_block_31 (by decide) (fun c_7 => absurd c_7 (by decide)) (fun _ => ?_)
    refine lv_aload_n hx hb dX23_block_34 rfl (lv_at hl 1 rfl) ?_
    refine lv_aload_n hx hb dX23_block_35 rfl (lv_at hl 1 rfl) ?_
    refine va_get (D := (dC, dI)) (ci := 23) (v := .int (nI pp)) (C := RX23) (T := TX23) (N := 89) hx hb hts in_c_vbl_X23 hown hK hP 4 rfl rfl 10 (by decide) (hts (.fieldLink RX23 86 "OwnedPlacesModel" "p" "I") (wm_c_vbl 17 rfl)) (fun _ h9 => h9) rfl dX23_block_36 ?_
    by_cases hn_8 : ns = 16
    · replace hPc := hP.subF (f' := [(m9, .inr (23, mA mr mv vf xl (nI zs) 0 xa (nI T) (nI pp) xi xt xn (nI ns) (nI vv) (nI bb))), (mr 6, .inl (kI, 3002, .inl fa))]) [4, 0] rfl
      replace hDc := hD.subF (f' := [(m9, .inr (23, mA mr mv vf xl (nI zs) 0 xa (nI T) (nI pp) xi xt xn (nI ns) (nI vv) (nI bb))), (mr 6, .inl (kI, 3002, .inl fa))]) [4, 0] (by decide) rfl
      replace hKc := hK.sub (tys' := [(kI, .int)]) [0] rfl
      replace hFc := va_freeT (wc := [(m9, .inr (23, mA mr mv vf xl (nI zs) 0 xa (nI T) (nI pp) xi xt xn (nI ns) (nI vv) (nI bb))), (mr 6, .inl (kI, 3002, .inl fa))]) hD hS hA [4, 0] rfl
      refine va_callv (va_runV (As := [.int (nI pp)]) (rest := []) ⟨hx, hb, hml, hown, hts⟩ (c_renN l dC dI m9 mr mv vf xl xa xi xt xn zs T pp ns vv bb kI fk fa pp H.size (by omega) hn_8) (cwV 1 hts g_c_vbl_c_renN_39 rfl rfl rfl (by decide +kernel) ⟨by show 1 + 1 ≤ 2 + 14 * k; omega, by show 8 + (2 + 11) + (22) ≤ 43 + 323 * k; omega⟩) ⟨fun a U g mk q => by obtain ⟨q0, q1, qP, qK, qD⟩ := q; exact ⟨q0, q1, qP, va_K.moved (u := U) (U := U.calling g mk a) (Vm.Alike.refl U.vm) qK, qD⟩, va_recv hKc hPc (ci := 23) (q0 := 0) rfl rfl, fun U hU hW => ⟨rfl, by rw [hU], by rw [hU]; exact hPc, va_K.moved hW.alike hKc, hDc.weaken (fun _ _ _ _ => trivial)⟩⟩ rfl rfl hl.1 rfl (lv_room (Nat.le_of_ble_eq_true rfl)) dX23_block_39 ⟨(show (1 + 1) + 0 ≤ (8 * (T - pp) + 12) by omega), (show (4 + 4) + 0 ≤ (120 * (T - pp) + 460) by omega)⟩) hS (fun q _ h => hFc q h) hFc (fun u tS H1 locs ht hvm hw hB hz1 hk1 hS => ?_)
      obtain ⟨ff_9, xa_10, hf11_0, hP1, hK1, hD1⟩ := hB
      rw [ht] at hP1
      replace hK1 := va_K.moved hvm.symm hK1
      obtain ⟨hPj, hDj⟩ := va_joinT (wr := [(mr 8, .inl (kL, 3002, .inr (.inl fn))), (q_1, .inr (14, [.int (nI pp), .int 0, .ref la0, .int 0])), (la0, .inl (kS, 4, .inr (.inr (.inr (.inr (fun _ => none)))))), (mr 5, .inl (kI, 3002, .inl fk))]) (w1 := [(m9, .inr (23, mA mr mv vf xl (nI zs) ff_9 xa_10 (nI T) (nI pp) xi xt xn (nI (ns + 1)) (nI vv) (nI bb))), (mr 6, .inl (kI, 3002, .inl fa))]) hP hD [4, 0] [1, 2, 3, 5] rfl rfl (by decide) (by decide) hk1 hFc hP1 hD1
      replace hP := hPj
      replace hD := hDj
      clear hPj hDj
      replace hK := hK.app hK1
      generalize H1 = H at hP hS ⊢
      replace hP : va_P (dC, dI) vwCl (([(mr 8, .inl (kL, 3002, .inr (.inl fn))), (q_1, .inr (14, [.int (nI pp), .int 0, .ref la0, .int 0])), (la0, .inl (kS, 4, .inr (.inr (.inr (.inr (fun _ => none)))))), (mr 5, .inl (kI, 3002, .inl fk)), (m9, .inr (23, mA mr mv vf xl (nI zs) ff_9 xa_10 (nI T) (nI pp) xi xt xn (nI (ns + 1)) (nI vv) (nI bb))), (mr 6, .inl (kI, 3002, .inl fa))] : va_W) ++ (sT L F)) H := hP
      replace hD : va_D A (([(mr 8, .inl (kL, 3002, .inr (.inl fn))), (q_1, .inr (14, [.int (nI pp), .int 0, .ref la0, .int 0])), (la0, .inl (kS, 4, .inr (.inr (.inr (.inr (fun _ => none)))))), (mr 5, .inl (kI, 3002, .inl fk)), (m9, .inr (23, mA mr mv vf xl (nI zs) ff_9 xa_10 (nI T) (nI pp) xi xt xn (nI (ns + 1)) (nI vv) (nI bb))), (mr 6, .inl (kI, 3002, .inl fa))] : va_W) ++ (sT L F)) := hD
      replace hK : va_K (dC, dI) vwCl [(kI, .int), (kL, .long), (kE, .object RX15), (kS, .object RX19), (kB, .object RX14), (kA, .object RX13), (kV, .object RX21), (kI, .int)] s := hK
      replace hK := hK.sub (tys' := [(kI, .int), (kL, .long), (kE, .object RX15), (kS, .object RX19), (kB, .object RX14), (kA, .object RX13), (kV, .object RX21)]) [0, 1, 2, 3, 4, 5, 6] rfl
      clear hz1 hk1 hPc hDc hKc hFc hP1 hD1 hK1
      refine lv_goto (tgt := 55) hx hb dX23_block_42 (by decide) ?_
      refine lv_aload_n hx hb dX23_block_55 rfl (lv_at hl 1 rfl) ?_
      refine lv_bipush (v := 63) hx hb dX23_block_56 (by decide) ?_
      replace hPc := hP.subF (f' := [(m9, .inr (23, mA mr mv vf xl (nI zs) ff_9 xa_10 (nI T) (nI pp) xi xt xn (nI (ns + 1)) (nI vv) (nI bb))), (mr 5, .inl (kI, 3002, .inl fk)), (mr 6, .inl (kI, 3002, .inl fa))]) [4, 3, 5] rfl
      replace hDc := hD.subF (f' := [(m9, .inr (23, mA mr mv vf xl (nI zs) ff_9 xa_10 (nI T) (nI pp) xi xt xn (nI (ns + 1)) (nI vv) (nI bb))), (mr 5, .inl (kI, 3002, .inl fk)), (mr 6, .inl (kI, 3002, .inl fa))]) [4, 3, 5] (by decide) rfl
      replace hKc := hK.sub (tys' := [(kI, .int)]) [0] rfl
      replace hFc := va_freeT (wc := [(m9, .inr (23, mA mr mv vf xl (nI zs) ff_9 xa_10 (nI T) (nI pp) xi xt xn (nI (ns + 1)) (nI vv) (nI bb))), (mr 5, .inl (kI, 3002, .inl fk)), (mr 6, .inl (kI, 3002, .inl fa))]) hD hS hA [4, 3, 5] rfl
      refine va_callv (va_runV (As := [.int 63]) (rest := []) ⟨hx, hb, hml, hown, hts⟩ (c_rtkB l dC dI m9 mr mv vf xl xa_10 xi xt xn zs T pp (ns + 1) vv bb kI fk fa ff_9 63 H.size hf11_0) (cwV 1 hts g_c_vbl_c_rtkB_58 rfl rfl rfl (by decide +kernel) ⟨by show 1 + 1 ≤ 2 + 14 * k; omega, by show 8 + (2 + 11) + (20) ≤ 43 + 323 * k; omega⟩) ⟨fun a U g mk q => by obtain ⟨q0, q1, qP, qK, qD⟩ := q; exact ⟨q0, q1, qP, va_K.moved (u := U) (U := U.calling g mk a) (Vm.Alike.refl U.vm) qK, qD⟩, va_recv hKc hPc (ci := 23) (q0 := 0) rfl rfl, fun U hU hW => ⟨rfl, by rw [hU], by rw [hU]; exact hPc, va_K.moved hW.alike hKc, hDc.weaken (fun _ _ _ _ => trivial)⟩⟩ rfl rfl hl.1 rfl (lv_room (Nat.le_of_ble_eq_true rfl)) dX23_block_58 ⟨(show (1 + 1) + 0 ≤ (8 * (T - pp) + 12) by omega), (show (4 + 4) + 0 ≤ (120 * (T - pp) + 460) by omega)⟩) hS (fun q _ h => hFc q h) hFc (fun u tS H1 locs ht hvm hw hB hz1 hk1 hS => ?_)
      obtain ⟨hP1, hK1, hD1⟩ := hB
      rw [ht] at hP1
      replace hK1 := va_K.moved hvm.symm hK1
      obtain ⟨hPj, hDj⟩ := va_joinT (wr := [(mr 8, .inl (kL, 3002, .inr (.inl fn))), (q_1, .inr (14, [.int (nI pp), .int 0, .ref la0, .int 0])), (la0, .inl (kS, 4, .inr (.inr (.inr (.inr (fun _ => none))))))]) (w1 := [(m9, .inr (23, mA mr mv vf xl (nI zs) ff_9 xa_10 (nI T) (nI pp) xi xt xn (nI (ns + 1)) (nI vv) (nI bb))), (mr 5, .inl (kI, 3002, .inl fk)), (mr 6, .inl (kI, 3002, .inl fa))]) hP hD [4, 3, 5] [0, 1, 2] rfl rfl (by decide) (by decide) hk1 hFc hP1 hD1
      replace hP := hPj
      replace hD := hDj
      clear hPj hDj
      replace hK := hK.app hK1
      generalize H1 = H at hP hS ⊢
      replace hP : va_P (dC, dI) vwCl (([(mr 8, .inl (kL, 3002, .inr (.inl fn))), (q_1, .inr (14, [.int (nI pp), .int 0, .ref la0, .int 0])), (la0, .inl (kS, 4, .inr (.inr (.inr (.inr (fun _ => none)))))), (m9, .inr (23, mA mr mv vf xl (nI zs) ff_9 xa_10 (nI T) (nI pp) xi xt xn (nI (ns + 1)) (nI vv) (nI bb))), (mr 5, .inl (kI, 3002, .inl fk)), (mr 6, .inl (kI, 3002, .inl fa))] : va_W) ++ (sT L F)) H := hP
      replace hD : va_D A (([(mr 8, .inl (kL, 3002, .inr (.inl fn))), (q_1, .inr (14, [.int (nI pp), .int 0, .ref la0, .int 0])), (la0, .inl (kS, 4, .inr (.inr (.inr (.inr (fun _ => none)))))), (m9, .inr (23, mA mr mv vf xl (nI zs) ff_9 xa_10 (nI T) (nI pp) xi xt xn (nI (ns + 1)) (nI vv) (nI bb))), (mr 5, .inl (kI, 3002, .inl fk)), (mr 6, .inl (kI, 3002, .inl fa))] : va_W) ++ (sT L F)) := hD
      replace hK : va_K (dC, dI) vwCl [(kI, .int), (kL, .long), (kE, .object RX15), (kS, .object RX19), (kB, .object RX14), (kA, .object RX13), (kV, .object RX21), (kI, .int)] s := hK
      replace hK := hK.sub (tys' := [(kI, .int), (kL, .long), (kE, .object RX15), (kS, .object RX19), (kB, .object RX14), (kA, .object RX13), (kV, .object RX21)]) [0, 1, 2, 3, 4, 5, 6] rfl
      clear hz1 hk1 hPc hDc hKc hFc hP1 hD1 hK1
      refine lv_aload_n hx hb dX23_block_61 rfl (lv_at hl 1 rfl) ?_
      replace hPc := hP.subF (f' := [(m9, .inr (23, mA mr mv vf xl (nI zs) ff_9 xa_10 (nI T) (nI pp) xi xt xn (nI (ns + 1)) (nI vv) (nI bb)))]) [3] rfl
      replace hDc := hD.subF (f' := [(m9, .inr (23, mA mr mv vf xl (nI zs) ff_9 xa_10 (nI T) (nI pp) xi xt xn (nI (ns + 1)) (nI vv) (nI bb)))]) [3] (by decide) rfl
      replace hKc := hK.sub (tys' := []) [] rfl
      replace hFc := va_freeT (wc := [(m9, .inr (23, mA mr mv vf xl (nI zs) ff_9 xa_10 (nI T) (nI pp) xi xt xn (nI (ns + 1)) (nI vv) (nI bb)))]) hD hS hA [3] rfl
      refine va_calli (va_runV (As := []) (rest := []) ⟨hx, hb, hml, hown, hts⟩ (c_rokB l dC dI m9 mr mv vf xl xa_10 xi xt xn zs T pp (ns + 1) vv bb kI fk fa ff_9 H.size hf11_0) (cwV 0 hts g_c_vbl_c_rokB_62 rfl rfl rfl (by decide +kernel) ⟨by show 0 + 1 ≤ 2 + 14 * k; omega, by show 8 + (1 + 11) + (0) ≤ 43 + 323 * k; omega⟩) ⟨fun a U g mk q => by obtain ⟨q0, q1, qP, qK, qD⟩ := q; exact ⟨q0, q1, qP, va_K.moved (u := U) (U := U.calling g mk a) (Vm.Alike.refl U.vm) qK, qD⟩, va_recv hKc hPc (ci := 23) (q0 := 0) rfl rfl, fun U hU hW => ⟨rfl, by rw [hU], by rw [hU]; exact hPc, va_K.moved hW.alike hKc, hDc.weaken (fun _ _ _ _ => trivial)⟩⟩ rfl rfl hl.1 rfl (lv_room (Nat.le_of_ble_eq_true rfl)) dX23_block_62 ⟨(show (1 + 1) + 0 ≤ (8 * (T - pp) + 12) by omega), (show (4 + 4) + 0 ≤ (120 * (T - pp) + 460) by omega)⟩) hS (fun q _ h => hFc q h) hFc (fun r_13 u tS H1 locs ht hvm hw hB hz1 hk1 hS => ?_)
      obtain ⟨hP1, hK1, hD1⟩ := hB
      rw [ht] at hP1
      replace hK1 := va_K.moved hvm.symm hK1
      obtain ⟨hPj, hDj⟩ := va_joinT (wr := [(mr 8, .inl (kL, 3002, .inr (.inl fn))), (q_1, .inr (14, [.int (nI pp), .int 0, .ref la0, .int 0])), (la0, .inl (kS, 4, .inr (.inr (.inr (.inr (fun _ => none)))))), (mr 5, .inl (kI, 3002, .inl fk)), (mr 6, .inl (kI, 3002, .inl fa))]) (w1 := [(m9, .inr (23, mA mr mv vf xl (nI zs) ff_9 xa_10 (nI T) (nI pp) xi xt xn (nI (ns + 1)) (nI vv) (nI bb)))]) hP hD [3] [0, 1, 2, 4, 5] rfl rfl (by decide) (by decide) hk1 hFc hP1 hD1
      replace hP := hPj
      replace hD := hDj
      clear hPj hDj
      generalize H1 = H at hP hS ⊢
      replace hP : va_P (dC, dI) vwCl (([(mr 8, .inl (kL, 3002, .inr (.inl fn))), (q_1, .inr (14, [.int (nI pp), .int 0, .ref la0, .int 0])), (la0, .inl (kS, 4, .inr (.inr (.inr (.inr (fun _ => none)))))), (mr 5, .inl (kI, 3002, .inl fk)), (mr 6, .inl (kI, 3002, .inl fa)), (m9, .inr (23, mA mr mv vf xl (nI zs) ff_9 xa_10 (nI T) (nI pp) xi xt xn (nI (ns + 1)) (nI vv) (nI bb)))] : va_W) ++ (sT L F)) H := hP
      replace hD : va_D A (([(mr 8, .inl (kL, 3002, .inr (.inl fn))), (q_1, .inr (14, [.int (nI pp), .int 0, .ref la0, .int 0])), (la0, .inl (kS, 4, .inr (.inr (.inr (.inr (fun _ => none)))))), (mr 5, .inl (kI, 3002, .inl fk)), (mr 6, .inl (kI, 3002, .inl fa)), (m9, .inr (23, mA mr mv vf xl (nI zs) ff_9 xa_10 (nI T) (nI pp) xi xt xn (nI (ns + 1)) (nI vv) (nI bb)))] : va_W) ++ (sT L F)) := hD
      replace hK : va_K (dC, dI) vwCl [(kI, .int), (kL, .long), (kE, .object RX15), (kS, .object RX19), (kB, .object RX14), (kA, .object RX13), (kV, .object RX21)] s := hK
      clear hz1 hk1 hPc hDc hKc hFc hP1 hD1 hK1
      obtain rfl : r_13 = 0 := hw
      refine lv_if_eq (tgt := 161) hx hb dX23_block_65 (by decide) (fun _ => ?_) (fun c_14 => absurd (by decide) c_14)
      refine lv_aload_n hx hb dX23_block_161 rfl (lv_at hl 1 rfl) ?_
      refine lv_dup hx hb dX23_block_162 rfl ?_
      refine va_get (D := (dC, dI)) (ci := 23) (v := .int (nI (ns + 1))) (C := RX23) (T := TX23) (N := 89) hx hb hts in_c_vbl_X23 hown hK hP 5 rfl rfl 15 (by decide) (hts (.fieldLink RX23 104 "OwnedPlacesModel" "nest" "I") (wm_c_vbl 25 rfl)) (fun _ h9 => h9) rfl dX23_block_163 ?_
      refine lv_iconst (v := 1) hx hb dX23_block_166 (by decide) ?_
      refine lv_isub hx hb dX23_block_167 ?_
      refine lv_topi (fun f_15 ef_15 => ?_)
      obtain rfl : f_15 = nI ns := ef_15.trans (nI_pred _)
      refine va_put (D := (dC, dI)) (ci := 23) (v := .int (nI ns)) (ty := .int) (C := RX23) (T := TX23) (N := 89) hx hb hts in_c_vbl_X23 tyX23 tyX23_ok nmX23 hown hK hP hD hS 5 rfl rfl 15 (by decide) (hts (.fieldLink RX23 104 "OwnedPlacesModel" "nest" "I") (wm_c_vbl 25 rfl)) (fun _ h9 => h9) rfl (by decide +kernel) rfl rfl (Nat.le_of_ble_eq_true rfl) dX23_block_168 (fun H locs hP hD hS => ?_)
      replace hP : va_P (dC, dI) vwCl (([(mr 8, .inl (kL, 3002, .inr (.inl fn))), (q_1, .inr (14, [.int (nI pp), .int 0, .ref la0, .int 0])), (la0, .inl (kS, 4, .inr (.inr (.inr (.inr (fun _ => none)))))), (mr 5, .inl (kI, 3002, .inl fk)), (mr 6, .inl (kI, 3002, .inl fa)), (m9, .inr (23, mA mr mv vf xl (nI zs) ff_9 xa_10 (nI T) (nI pp) xi xt xn (nI ns) (nI vv) (nI bb)))] : va_W) ++ (sT L F)) H := hP
      replace hD : va_D A (([(mr 8, .inl (kL, 3002, .inr (.inl fn))), (q_1, .inr (14, [.int (nI pp), .int 0, .ref la0, .int 0])), (la0, .inl (kS, 4, .inr (.inr (.inr (.inr (fun _ => none)))))), (mr 5, .inl (kI, 3002, .inl fk)), (mr 6, .inl (kI, 3002, .inl fa)), (m9, .inr (23, mA mr mv vf xl (nI zs) ff_9 xa_10 (nI T) (nI pp) xi xt xn (nI ns) (nI vv) (nI bb)))] : va_W) ++ (sT L F)) := hD
      refine lv_aload_n hx hb dX23_block_171 rfl (lv_at hl 0 rfl) ?_
      refine lv_aload_n hx hb dX23_block_172 rfl (lv_at hl 1 rfl) ?_
      refine va_get (D := (dC, dI)) (ci := 23) (v := .int (nI pp)) (C := RX23) (T := TX23) (N := 89) hx hb hts in_c_vbl_X23 hown hK hP 5 rfl rfl 10 (by decide) (hts (.fieldLink RX23 86 "OwnedPlacesModel" "p" "I") (wm_c_vbl 17 rfl)) (fun _ h9 => h9) rfl dX23_block_173 ?_
      refine va_put (D := (dC, dI)) (ci := 14) (v := .int (nI pp)) (ty := .int) (C := RX14) (T := TX14) (N := 4) hx hb hts in_c_vbl_X14 tyX14 tyX14_ok nmX14 hown hK hP hD hS 1 rfl rfl 1 (by decide) (hts (.fieldLink RX23 251 "OwnedPlacesModel$Block" "end" "I") (wm_c_vbl 39 rfl)) (fun _ h9 => h9) rfl (by decide +kernel) rfl rfl (Nat.le_of_ble_eq_true rfl) dX23_block_176 (fun H locs hP hD hS => ?_)
      replace hP : va_P (dC, dI) vwCl (([(mr 8, .inl (kL, 3002, .inr (.inl fn))), (q_1, .inr (14, [.int (nI pp), .int (nI pp), .ref la0, .int 0])), (la0, .inl (kS, 4, .inr (.inr (.inr (.inr (fun _ => none)))))), (mr 5, .inl (kI, 3002, .inl fk)), (mr 6, .inl (kI, 3002, .inl fa)), (m9, .inr (23, mA mr mv vf xl (nI zs) ff_9 xa_10 (nI T) (nI pp) xi xt xn (nI ns) (nI vv) (nI bb)))] : va_W) ++ (sT L F)) H := hP
      replace hD : va_D A (([(mr 8, .inl (kL, 3002, .inr (.inl fn))), (q_1, .inr (14, [.int (nI pp), .int (nI pp), .ref la0, .int 0])), (la0, .inl (kS, 4, .inr (.inr (.inr (.inr (fun _ => none)))))), (mr 5, .inl (kI, 3002, .inl fk)), (mr 6, .inl (kI, 3002, .inl fa)), (m9, .inr (23, mA mr mv vf xl (nI zs) ff_9 xa_10 (nI T) (nI pp) xi xt xn (nI ns) (nI vv) (nI bb)))] : va_W) ++ (sT L F)) := hD
      refine lv_aload_n hx hb dX23_block_179 rfl (lv_at hl 1 rfl) ?_
      refine lv_bipush (v := 64) hx hb dX23_block_180 (by decide) ?_
      replace hPc := hP.subF (f' := [(m9, .inr (23, mA mr mv vf xl (nI zs) ff_9 xa_10 (nI T) (nI pp) xi xt xn (nI ns) (nI vv) (nI bb))), (mr 5, .inl (kI, 3002, .inl fk)), (mr 6, .inl (kI, 3002, .inl fa))]) [5, 3, 4] rfl
      replace hDc := hD.subF (f' := [(m9, .inr (23, mA mr mv vf xl (nI zs) ff_9 xa_10 (nI T) (nI pp) xi xt xn (nI ns) (nI vv) (nI bb))), (mr 5, .inl (kI, 3002, .inl fk)), (mr 6, .inl (kI, 3002, .inl fa))]) [5, 3, 4] (by decide) rfl
      replace hKc := hK.sub (tys' := [(kI, .int)]) [0] rfl
      replace hFc := va_freeT (wc := [(m9, .inr (23, mA mr mv vf xl (nI zs) ff_9 xa_10 (nI T) (nI pp) xi xt xn (nI ns) (nI vv) (nI bb))), (mr 5, .inl (kI, 3002, .inl fk)), (mr 6, .inl (kI, 3002, .inl fa))]) hD hS hA [5, 3, 4] rfl
      refine va_callv (va_runV (As := [.int 64]) (rest := []) ⟨hx, hb, hml, hown, hts⟩ (c_rtkB l dC dI m9 mr mv vf xl xa_10 xi xt xn zs T pp ns vv bb kI fk fa ff_9 64 H.size hf11_0) (cwV 1 hts g_c_vbl_c_rtkB_182 rfl rfl rfl (by decide +kernel) ⟨by show 1 + 1 ≤ 2 + 14 * k; omega, by show 8 + (2 + 11) + (20) ≤ 43 + 323 * k; omega⟩) ⟨fun a U g mk q => by obtain ⟨q0, q1, qP, qK, qD⟩ := q; exact ⟨q0, q1, qP, va_K.moved (u := U) (U := U.calling g mk a) (Vm.Alike.refl U.vm) qK, qD⟩, va_recv hKc hPc (ci := 23) (q0 := 0) rfl rfl, fun U hU hW => ⟨rfl, by rw [hU], by rw [hU]; exact hPc, va_K.moved hW.alike hKc, hDc.weaken (fun _ _ _ _ => trivial)⟩⟩ rfl rfl hl.1 rfl (lv_room (Nat.le_of_ble_eq_true rfl)) dX23_block_182 ⟨(show (1 + 1) + 0 ≤ (8 * (T - pp) + 12) by omega), (show (4 + 4) + 0 ≤ (120 * (T - pp) + 460) by omega)⟩) hS (fun q _ h => hFc q h) hFc (fun u tS H1 locs ht hvm hw hB hz1 hk1 hS => ?_)
      obtain ⟨hP1, hK1, hD1⟩ := hB
      rw [ht] at hP1
      replace hK1 := va_K.moved hvm.symm hK1
      obtain ⟨hPj, hDj⟩ := va_joinT (wr := [(mr 8, .inl (kL, 3002, .inr (.inl fn))), (q_1, .inr (14, [.int (nI pp), .int (nI pp), .ref la0, .int 0])), (la0, .inl (kS, 4, .inr (.inr (.inr (.inr (fun _ => none))))))]) (w1 := [(m9, .inr (23, mA mr mv vf xl (nI zs) ff_9 xa_10 (nI T) (nI pp) xi xt xn (nI ns) (nI vv) (nI bb))), (mr 5, .inl (kI, 3002, .inl fk)), (mr 6, .inl (kI, 3002, .inl fa))]) hP hD [5, 3, 4] [0, 1, 2] rfl rfl (by decide) (by decide) hk1 hFc hP1 hD1
      replace hP := hPj
      replace hD := hDj
      clear hPj hDj
      replace hK := hK.app hK1
      generalize H1 = H at hP hS ⊢
      replace hP : va_P (dC, dI) vwCl (([(mr 8, .inl (kL, 3002, .inr (.inl fn))), (q_1, .inr (14, [.int (nI pp), .int (nI pp), .ref la0, .int 0])), (la0, .inl (kS, 4, .inr (.inr (.inr (.inr (fun _ => none)))))), (m9, .inr (23, mA mr mv vf xl (nI zs) ff_9 xa_10 (nI T) (nI pp) xi xt xn (nI ns) (nI vv) (nI bb))), (mr 5, .inl (kI, 3002, .inl fk)), (mr 6, .inl (kI, 3002, .inl fa))] : va_W) ++ (sT L F)) H := hP
      replace hD : va_D A (([(mr 8, .inl (kL, 3002, .inr (.inl fn))), (q_1, .inr (14, [.int (nI pp), .int (nI pp), .ref la0, .int 0])), (la0, .inl (kS, 4, .inr (.inr (.inr (.inr (fun _ => none)))))), (m9, .inr (23, mA mr mv vf xl (nI zs) ff_9 xa_10 (nI T) (nI pp) xi xt xn (nI ns) (nI vv) (nI bb))), (mr 5, .inl (kI, 3002, .inl fk)), (mr 6, .inl (kI, 3002, .inl fa))] : va_W) ++ (sT L F)) := hD
      replace hK : va_K (dC, dI) vwCl [(kI, .int), (kL, .long), (kE, .object RX15), (kS, .object RX19), (kB, .object RX14), (kA, .object RX13), (kV, .object RX21), (kI, .int)] s := hK
      replace hK := hK.sub (tys' := [(kI, .int), (kL, .long), (kE, .object RX15), (kS, .object RX19), (kB, .object RX14), (kA, .object RX13), (kV, .object RX21)]) [0, 1, 2, 3, 4, 5, 6] rfl
      clear hz1 hk1 hPc hDc hKc hFc hP1 hD1 hK1
      refine lv_aload_n hx hb dX23_block_185 rfl (lv_at hl 0 rfl) ?_
      replace hP : va_P (dC, dI) vwCl ((([(mr 8, .inl (kL, 3002, .inr (.inl fn))), (m9, .inr (23, mA mr mv vf xl (nI zs) ff_9 xa_10 (nI T) (nI pp) xi xt xn (nI ns) (nI vv) (nI bb))), (mr 5, .inl (kI, 3002, .inl fk)), (mr 6, .inl (kI, 3002, .inl fa))] : va_W) ++ ([(q_1, .inr (14, [.int (nI pp), .int (nI pp), .ref la0, .int 0])), (la0, .inl (kS, 4, .inr (.inr (.inr (.inr (fun _ => none))))))] : va_W)) ++ sT L F) H := hP.subT (f' := [(mr 8, .inl (kL, 3002, .inr (.inl fn))), (m9, .inr (23, mA mr mv vf xl (nI zs) ff_9 xa_10 (nI T) (nI pp) xi xt xn (nI ns) (nI vv) (nI bb))), (mr 5, .inl (kI, 3002, .inl fk)), (mr 6, .inl (kI, 3002, .inl fa)), (q_1, .inr (14, [.int (nI pp), .int (nI pp), .ref la0, .int 0])), (la0, .inl (kS, 4, .inr (.inr (.inr (.inr (fun _ => none))))))]) [0, 3, 4, 5, 1, 2] rfl
      replace hD : va_D A ((([(mr 8, .inl (kL, 3002, .inr (.inl fn))), (m9, .inr (23, mA mr mv vf xl (nI zs) ff_9 xa_10 (nI T) (nI pp) xi xt xn (nI ns) (nI vv) (nI bb))), (mr 5, .inl (kI, 3002, .inl fk)), (mr 6, .inl (kI, 3002, .inl fa))] : va_W) ++ ([(q_1, .inr (14, [.int (nI pp), .int (nI pp), .ref la0, .int 0])), (la0, .inl (kS, 4, .inr (.inr (.inr (.inr (fun _ => none))))))] : va_W)) ++ sT L F) := hD.subT (f' := [(mr 8, .inl (kL, 3002, .inr (.inl fn))), (m9, .inr (23, mA mr mv vf xl (nI zs) ff_9 xa_10 (nI T) (nI pp) xi xt xn (nI ns) (nI vv) (nI bb))), (mr 5, .inl (kI, 3002, .inl fk)), (mr 6, .inl (kI, 3002, .inl fa)), (q_1, .inr (14, [.int (nI pp), .int (nI pp), .ref la0, .int 0])), (la0, .inl (kS, 4, .inr (.inr (.inr (.inr (fun _ => none))))))]) [0, 3, 4, 5, 1, 2] (by decide) rfl
      obtain ⟨L9, F9, hx9, hm9, hP, hD⟩ := st_fileL [(q_1, .inr (14, [.int (nI pp), .int (nI pp), .ref la0, .int 0])), (la0, .inl (kS, 4, .inr (.inr (.inr (.inr (fun _ => none))))))] hP hD
      have hm9_0 := hm9 _ (List.mem_of_getElem? (i := 0) rfl)
      have hm9_1 := hm9 _ (List.mem_of_getElem? (i := 1) rfl)
      refine W.grow (fun hgs0 hgs1 => ?_)
      have hP9 := hP.subT (f' := [(m9, .inr (23, mA mr mv vf xl (nI zs) ff_9 xa_10 (nI T) (nI pp) xi xt xn (nI ns) (nI vv) (nI bb))), (mr 5, .inl (kI, 3002, .inl fk)), (mr 6, .inl (kI, 3002, .inl fa)), (mr 8, .inl (kL, 3002, .inr (.inl fn)))]) [1, 2, 3, 0] rfl
      have hD9 := hD.subT (f' := [(m9, .inr (23, mA mr mv vf xl (nI zs) ff_9 xa_10 (nI T) (nI pp) xi xt xn (nI ns) (nI vv) (nI bb))), (mr 5, .inl (kI, 3002, .inl fk)), (mr 6, .inl (kI, 3002, .inl fa)), (mr 8, .inl (kL, 3002, .inr (.inl fn)))]) [1, 2, 3, 0] (by decide) rfl
      have hK9 := hK.sub (tys' := [(kI, .int), (kL, .long), (kE, .object RX15), (kS, .object RX19), (kB, .object RX14), (kA, .object RX13), (kV, .object RX21)]) [0, 1, 2, 3, 4, 5, 6] rfl
      refine W.widen (k := (8 * (T - pp) + 12)) (n := (120 * (T - pp) + 460)) (by omega) (by omega) ?_
      exact W.aret hx hb hr (Or.inl ⟨_, rfl⟩) (Or.inr ⟨q_1, rfl⟩) (fun tS ht hW => ⟨⟨(), q_1, rfl, trivial, L9, F9, ff_9, xa_10, pp, bb, vv, 1, ⟨hx9, hm9_0.1, _, hm9_0.2⟩, ⟨by omega, by omega, by omega, by omega, by omega, by omega⟩, ⟨by omega, fun q9 => absurd q9 hf11_0⟩, (fun q9 => absurd q9 hf11_0), by rw [ht]; exact ⟨by omega, by omega⟩, by rw [ht]; exact hP9, va_K.moved hW.alike hK9, hD9⟩, hS.F ht⟩) hS.2.2 dX23_block_186
    · replace hPc := hP.subF (f' := [(m9, .inr (23, mA mr mv vf xl (nI zs) 0 xa (nI T) (nI pp) xi xt xn (nI ns) (nI vv) (nI bb))), (mr 6, .inl (kI, 3002, .inl fa))]) [4, 0] rfl
      replace hDc := hD.subF (f' := [(m9, .inr (23, mA mr mv vf xl (nI zs) 0 xa (nI T) (nI pp) xi xt xn (nI ns) (nI vv) (nI bb))), (mr 6, .inl (kI, 3002, .inl fa))]) [4, 0] (by decide) rfl
      replace hKc := hK.sub (tys' := [(kI, .int)]) [0] rfl
      replace hFc := va_freeT (wc := [(m9, .inr (23, mA mr mv vf xl (nI zs) 0 xa (nI T) (nI pp) xi xt xn (nI ns) (nI vv) (nI bb))), (mr 6, .inl (kI, 3002, .inl fa))]) hD hS hA [4, 0] rfl
      refine va_callv (va_runV (As := [.int (nI pp)]) (rest := []) ⟨hx, hb, hml, hown, hts⟩ (c_renY l dC dI m9 mr mv vf xl xa xi xt xn zs T pp ns vv bb kI fk fa pp H.size (by omega) (⟨hn_8, by omega⟩)) (cwV 1 hts g_c_vbl_c_renY_39 rfl rfl rfl (by decide +kernel) ⟨by show 1 + 1 ≤ 2 + 14 * k; omega, by show 8 + (2 + 11) + (20) ≤ 43 + 323 * k; omega⟩) ⟨fun a U g mk q => by obtain ⟨q0, q1, qP, qK, qD⟩ := q; exact ⟨q0, q1, qP, va_K.moved (u := U) (U := U.calling g mk a) (Vm.Alike.refl U.vm) qK, qD⟩, va_recv hKc hPc (ci := 23) (q0 := 0) rfl rfl, fun U hU hW => ⟨rfl, by rw [hU], by rw [hU]; exact hPc, va_K.moved hW.alike hKc, hDc.weaken (fun _ _ _ _ => trivial)⟩⟩ rfl rfl hl.1 rfl (lv_room (Nat.le_of_ble_eq_true rfl)) dX23_block_39 ⟨(show (1 + 1) + 0 ≤ (8 * (T - pp) + 12) by omega), (show (4 + 4) + 0 ≤ (120 * (T - pp) + 460) by omega)⟩) hS (fun q _ h => hFc q h) hFc (fun u tS H1 locs ht hvm hw hB hz1 hk1 hS => ?_)
      obtain ⟨hP1, hK1, hD1⟩ := hB
      rw [ht] at hP1
      replace hK1 := va_K.moved hvm.symm hK1
      obtain ⟨hPj, hDj⟩ := va_joinT (wr := [(mr 8, .inl (kL, 3002, .inr (.inl fn))), (q_1, .inr (14, [.int (nI pp), .int 0, .ref la0, .int 0])), (la0, .inl (kS, 4, .inr (.inr (.inr (.inr (fun _ => none)))))), (mr 5, .inl (kI, 3002, .inl fk))]) (w1 := [(m9, .inr (23, mA mr mv vf xl (nI zs) 0 xa (nI T) (nI pp) xi xt xn (nI (ns + 1)) (nI vv) (nI bb))), (mr 6, .inl (kI, 3002, .inl fa))]) hP hD [4, 0] [1, 2, 3, 5] rfl rfl (by decide) (by decide) hk1 hFc hP1 hD1
      replace hP := hPj
      replace hD := hDj
      clear hPj hDj
      replace hK := hK.app hK1
      generalize H1 = H at hP hS ⊢
      replace hP : va_P (dC, dI) vwCl (([(mr 8, .inl (kL, 3002, .inr (.inl fn))), (q_1, .inr (14, [.int (nI pp), .int 0, .ref la0, .int 0])), (la0, .inl (kS, 4, .inr (.inr (.inr (.inr (fun _ => none)))))), (mr 5, .inl (kI, 3002, .inl fk)), (m9, .inr (23, mA mr mv vf xl (nI zs) 0 xa (nI T) (nI pp) xi xt xn (nI (ns + 1)) (nI vv) (nI bb))), (mr 6, .inl (kI, 3002, .inl fa))] : va_W) ++ (sT L F)) H := hP
      replace hD : va_D A (([(mr 8, .inl (kL, 3002, .inr (.inl fn))), (q_1, .inr (14, [.int (nI pp), .int 0, .ref la0, .int 0])), (la0, .inl (kS, 4, .inr (.inr (.inr (.inr (fun _ => none)))))), (mr 5, .inl (kI, 3002, .inl fk)), (m9, .inr (23, mA mr mv vf xl (nI zs) 0 xa (nI T) (nI pp) xi xt xn (nI (ns + 1)) (nI vv) (nI bb))), (mr 6, .inl (kI, 3002, .inl fa))] : va_W) ++ (sT L F)) := hD
      replace hK : va_K (dC, dI) vwCl [(kI, .int), (kL, .long), (kE, .object RX15), (kS, .object RX19), (kB, .object RX14), (kA, .object RX13), (kV, .object RX21), (kI, .int)] s := hK
      replace hK := hK.sub (tys' := [(kI, .int), (kL, .long), (kE, .object RX15), (kS, .object RX19), (kB, .object RX14), (kA, .object RX13), (kV, .object RX21)]) [0, 1, 2, 3, 4, 5, 6] rfl
      clear hz1 hk1 hPc hDc hKc hFc hP1 hD1 hK1
      refine lv_goto (tgt := 55) hx hb dX23_block_42 (by decide) ?_
      refine lv_aload_n hx hb dX23_block_55 rfl (lv_at hl 1 rfl) ?_
      refine lv_bipush (v := 63) hx hb dX23_block_56 (by decide) ?_
      replace hPc := hP.subF (f' := [(m9, .inr (23, mA mr mv vf xl (nI zs) 0 xa (nI T) (nI pp) xi xt xn (nI (ns + 1)) (nI vv) (nI bb))), (mr 5, .inl (kI, 3002, .inl fk)), (mr 6, .inl (kI, 3002, .inl fa))]) [4, 3, 5] rfl
      replace hDc := hD.subF (f' := [(m9, .inr (23, mA mr mv vf xl (nI zs) 0 xa (nI T) (nI pp) xi xt xn (nI (ns + 1)) (nI vv) (nI bb))), (mr 5, .inl (kI, 3002, .inl fk)), (mr 6, .inl (kI, 3002, .inl fa))]) [4, 3, 5] (by decide) rfl
      replace hKc := hK.sub (tys' := [(kI, .int)]) [0] rfl
      replace hFc := va_freeT (wc := [(m9, .inr (23, mA mr mv vf xl (nI zs) 0 xa (nI T) (nI pp) xi xt xn (nI (ns + 1)) (nI vv) (nI bb))), (mr 5, .inl (kI, 3002, .inl fk)), (mr 6, .inl (kI, 3002, .inl fa))]) hD hS hA [4, 3, 5] rfl
      refine va_callv (va_runV (As := [.int 63]) (rest := []) ⟨hx, hb, hml, hown, hts⟩ (c_rtkY l dC dI m9 mr mv vf xl xa xi xt xn zs T pp (ns + 1) vv bb kI fk fa 63 H.size hT hp hk0 (by decide) hk_5) (cwV 1 hts g_c_vbl_c_rtkY_58 rfl rfl rfl (by decide +kernel) ⟨by show 1 + 1 ≤ 2 + 14 * k; omega, by show 8 + (2 + 11) + (21) ≤ 43 + 323 * k; omega⟩) ⟨fun a U g mk q => by obtain ⟨q0, q1, qP, qK, qD⟩ := q; exact ⟨q0, q1, qP, va_K.moved (u := U) (U := U.calling g mk a) (Vm.Alike.refl U.vm) qK, qD⟩, va_recv hKc hPc (ci := 23) (q0 := 0) rfl rfl, fun U hU hW => ⟨rfl, by rw [hU], by rw [hU]; exact hPc, va_K.moved hW.alike hKc, hDc.weaken (fun _ _ _ _ => trivial)⟩⟩ rfl rfl hl.1 rfl (lv_room (Nat.le_of_ble_eq_true rfl)) dX23_block_58 ⟨(show (1 + 1) + 0 ≤ (8 * (T - pp) + 12) by omega), (show (4 + 4) + 0 ≤ (120 * (T - pp) + 460) by omega)⟩) hS (fun q _ h => hFc q h) hFc (fun u tS H1 locs ht hvm hw hB hz1 hk1 hS => ?_)
      obtain ⟨hP1, hK1, hD1⟩ := hB
      rw [ht] at hP1
      replace hK1 := va_K.moved hvm.symm hK1
      obtain ⟨hPj, hDj⟩ := va_joinT (wr := [(mr 8, .inl (kL, 3002, .inr (.inl fn))), (q_1, .inr (14, [.int (nI pp), .int 0, .ref la0, .int 0])), (la0, .inl (kS, 4, .inr (.inr (.inr (.inr (fun _ => none))))))]) (w1 := [(m9, .inr (23, mA mr mv vf xl (nI zs) 0 xa (nI T) (nI (pp + 1)) xi xt xn (nI (ns + 1)) (nI vv) (nI bb))), (mr 5, .inl (kI, 3002, .inl fk)), (mr 6, .inl (kI, 3002, .inl fa))]) hP hD [4, 3, 5] [0, 1, 2] rfl rfl (by decide) (by decide) hk1 hFc hP1 hD1
      replace hP := hPj
      replace hD := hDj
      clear hPj hDj
      replace hK := hK.app hK1
      generalize H1 = H at hP hS ⊢
      replace hP : va_P (dC, dI) vwCl (([(mr 8, .inl (kL, 3002, .inr (.inl fn))), (q_1, .inr (14, [.int (nI pp), .int 0, .ref la0, .int 0])), (la0, .inl (kS, 4, .inr (.inr (.inr (.inr (fun _ => none)))))), (m9, .inr (23, mA mr mv vf xl (nI zs) 0 xa (nI T) (nI (pp + 1)) xi xt xn (nI (ns + 1)) (nI vv) (nI bb))), (mr 5, .inl (kI, 3002, .inl fk)), (mr 6, .inl (kI, 3002, .inl fa))] : va_W) ++ (sT L F)) H := hP
      replace hD : va_D A (([(mr 8, .inl (kL, 3002, .inr (.inl fn))), (q_1, .inr (14, [.int (nI pp), .int 0, .ref la0, .int 0])), (la0, .inl (kS, 4, .inr (.inr (.inr (.inr (fun _ => none)))))), (m9, .inr (23, mA mr mv vf xl (nI zs) 0 xa (nI T) (nI (pp + 1)) xi xt xn (nI (ns + 1)) (nI vv) (nI bb))), (mr 5, .inl (kI, 3002, .inl fk)), (mr 6, .inl (kI, 3002, .inl fa))] : va_W) ++ (sT L F)) := hD
      replace hK : va_K (dC, dI) vwCl [(kI, .int), (kL, .long), (kE, .object RX15), (kS, .object RX19), (kB, .object RX14), (kA, .object RX13), (kV, .object RX21), (kI, .int)] s := hK
      replace hK := hK.sub (tys' := [(kI, .int), (kL, .long), (kE, .object RX15), (kS, .object RX19), (kB, .object RX14), (kA, .object RX13), (kV, .object RX21)]) [0, 1, 2, 3, 4, 5, 6] rfl
      clear hz1 hk1 hPc hDc hKc hFc hP1 hD1 hK1
      have hp_11 : pp + 1 < T := kne3 hk0 hp hk_5 (by decide)
      refine W_q (fun Q1 hQ1 => ?_)
      have key1 : ∀ (n1 : Nat) (pp1 bb1 vv1 la cp n : Nat) (xa1 : Int32) (L1 : List Nat) (F1 : Nat → va_E) (f : Nat → Option Nat) (H : Heap) (locs : List Loc) (ls : Array Slot), (T + 1 ≤ pp1 + n1 ∧ pp + 1 + n ≤ pp1 ∧ pp1 < T ∧ bb ≤ bb1 ∧ bb1 ≤ bb + (pp1 - pp) ∧ vv ≤ vv1 ∧ vv1 ≤ vv + (pp1 - pp) ∧ n ≤ cp ∧ 4 ≤ cp ∧ cp ≤ 4 + 2 * n ∧ T ≤ 3001 ∧ bb1 ≤ 54 ∧ vv1 ≤ 40) → (exS L F L1 F1) → (∀ i : Nat, i < n → ∃ x : Nat, f i = some x ∧ oN 19 L1 F1 x) → (chN (isN L1 F1 fk kE kI kS kB kA kV (2 * k) 0) f n (pp + 1) pp1 bb bb1 vv vv1) → va_P (dC, dI) vwCl (([(q_1, .inr (14, [.int (nI pp), .int 0, .ref la, .int (nI n)])), (la, .inl (kS, cp, .inr (.inr (.inr (.inr f))))), (m9, .inr (23, mA mr mv vf xl (nI zs) 0 xa1 (nI T) (nI pp1) xi xt xn (nI (ns + 1)) (nI vv1) (nI bb1))), (mr 5, .inl (kI, 3002, .inl fk)), (mr 6, .inl (kI, 3002, .inl fa)), (mr 8, .inl (kL, 3002, .inr (.inl fn)))] : va_W) ++ (sT L1 F1)) H → va_D A (([(q_1, .inr (14, [.int (nI pp), .int 0, .ref la, .int (nI n)])), (la, .inl (kS, cp, .inr (.inr (.inr (.inr f))))), (m9, .inr (23, mA mr mv vf xl (nI zs) 0 xa1 (nI T) (nI pp1) xi xt xn (nI (ns + 1)) (nI vv1) (nI bb1))), (mr 5, .inl (kI, 3002, .inl fk)), (mr 6, .inl (kI, 3002, .inl fa)), (mr 8, .inl (kL, 3002, .inr (.inl fn)))] : va_W) ++ (sT L1 F1)) → va_S A s.heap H locs → lv_has ls 5 [(0, .ref m9), (1, .ref q_1)] → W p l e (headSpec wp_c_vbl ({ frames := 2 + 14 * k, cells := (8 * (T - pp) + 12), slots := (120 * (T - pp) + 460), locals := 43 + 323 * k })).room s m ([.ref m9] : List Value).toArray below meth c H locs (8 * (pp1 - pp) - 6 - 2 * n) (120 * (pp1 - pp) + 2 * cp - 116 - 50 * n) Q1 (F0 m 61 ls []) := by
        intro n1
        induction n1 with
        | zero => intro pp1 bb1 vv1 la cp n xa1 L1 F1 f H locs ls hr0 hr1 hr2 hr3; exact absurd hr0 (by omega)
        | succ n1 ih1 =>
          intro pp1 bb1 vv1 la cp n xa1 L1 F1 f H locs ls hr0 hr1 hr2 hr3 hP hD hS hl
          refine lv_aload_n hx hb dX23_block_61 rfl (lv_at hl 0 rfl) ?_
          replace hPc := hP.subF (f' := [(m9, .inr (23, mA mr mv vf xl (nI zs) 0 xa1 (nI T) (nI pp1) xi xt xn (nI (ns + 1)) (nI vv1) (nI bb1)))]) [2] rfl
          replace hDc := hD.subF (f' := [(m9, .inr (23, mA mr mv vf xl (nI zs) 0 xa1 (nI T) (nI pp1) xi xt xn (nI (ns + 1)) (nI vv1) (nI bb1)))]) [2] (by decide) rfl
          replace hKc := hK.sub (tys' := []) [] rfl
          replace hFc := va_freeT (wc := [(m9, .inr (23, mA mr mv vf xl (nI zs) 0 xa1 (nI T) (nI pp1) xi xt xn (nI (ns + 1)) (nI vv1) (nI bb1)))]) hD hS hA [2] rfl
          refine va_calli (va_runV (As := []) (rest := []) ⟨hx, hb, hml, hown, hts⟩ (c_rok0 l dC dI m9 mr mv vf xl xa1 xi xt xn zs T pp1 (ns + 1) vv1 bb1 kI fk fa H.size) (cwV 0 hts g_c_vbl_c_rok0_62 rfl rfl rfl (by decide +kernel) ⟨by show 0 + 1 ≤ 2 + 14 * k; omega, by show 8 + (1 + 11) + (0) ≤ 43 + 323 * k; omega⟩) ⟨fun a U g mk q => by obtain ⟨q0, q1, qP, qK, qD⟩ := q; exact ⟨q0, q1, qP, va_K.moved (u := U) (U := U.calling g mk a) (Vm.Alike.refl U.vm) qK, qD⟩, va_recv hKc hPc (ci := 23) (q0 := 0) rfl rfl, fun U hU hW => ⟨rfl, by rw [hU], by rw [hU]; exact hPc, va_K.moved hW.alike hKc, hDc.weaken (fun _ _ _ _ => trivial)⟩⟩ rfl rfl hl.1 rfl (lv_room (Nat.le_of_ble_eq_true rfl)) dX23_block_62 ⟨(show (8 * (pp1 - pp) - 6 - 2 * n) + 0 ≤ (8 * (T - pp) + 12) by omega), (show (120 * (pp1 - pp) + 2 * cp - 116 - 50 * n) + 0 ≤ (120 * (T - pp) + 460) by omega)⟩) hS (fun q _ h => hFc q h) hFc (fun r_12 u tS H1 locs ht hvm hw hB hz1 hk1 hS => ?_)
          obtain ⟨hP1, hK1, hD1⟩ := hB
          rw [ht] at hP1
          replace hK1 := va_K.moved hvm.symm hK1
          obtain ⟨hPj, hDj⟩ := va_joinT (wr := [(q_1, .inr (14, [.int (nI pp), .int 0, .ref la, .int (nI n)])), (la, .inl (kS, cp, .inr (.inr (.inr (.inr f))))), (mr 5, .inl (kI, 3002, .inl fk)), (mr 6, .inl (kI, 3002, .inl fa)), (mr 8, .inl (kL, 3002, .inr (.inl fn)))]) (w1 := [(m9, .inr (23, mA mr mv vf xl (nI zs) 0 xa1 (nI T) (nI pp1) xi xt xn (nI (ns + 1)) (nI vv1) (nI bb1)))]) hP hD [2] [0, 1, 3, 4, 5] rfl rfl (by decide) (by decide) hk1 hFc hP1 hD1
          replace hP := hPj
          replace hD := hDj
          clear hPj hDj
          generalize H1 = H at hP hS ⊢
          replace hP : va_P (dC, dI) vwCl (([(q_1, .inr (14, [.int (nI pp), .int 0, .ref la, .int (nI n)])), (la, .inl (kS, cp, .inr (.inr (.inr (.inr f))))), (mr 5, .inl (kI, 3002, .inl fk)), (mr 6, .inl (kI, 3002, .inl fa)), (mr 8, .inl (kL, 3002, .inr (.inl fn))), (m9, .inr (23, mA mr mv vf xl (nI zs) 0 xa1 (nI T) (nI pp1) xi xt xn (nI (ns + 1)) (nI vv1) (nI bb1)))] : va_W) ++ (sT L1 F1)) H := hP
          replace hD : va_D A (([(q_1, .inr (14, [.int (nI pp), .int 0, .ref la, .int (nI n)])), (la, .inl (kS, cp, .inr (.inr (.inr (.inr f))))), (mr 5, .inl (kI, 3002, .inl fk)), (mr 6, .inl (kI, 3002, .inl fa)), (mr 8, .inl (kL, 3002, .inr (.inl fn))), (m9, .inr (23, mA mr mv vf xl (nI zs) 0 xa1 (nI T) (nI pp1) xi xt xn (nI (ns + 1)) (nI vv1) (nI bb1)))] : va_W) ++ (sT L1 F1)) := hD
          replace hK : va_K (dC, dI) vwCl [(kI, .int), (kL, .long), (kE, .object RX15), (kS, .object RX19), (kB, .object RX14), (kA, .object RX13), (kV, .object RX21)] s := hK
          clear hz1 hk1 hPc hDc hKc hFc hP1 hD1 hK1
          obtain rfl : r_12 = 1 := hw
          refine lv_if_eq (tgt := 161) hx hb dX23_block_65 (by decide) (fun c_13 => absurd c_13 (by decide)) (fun _ => ?_)
          refine lv_aload_n hx hb dX23_block_68 rfl (lv_at hl 0 rfl) ?_
          refine lv_bipush (v := 64) hx hb dX23_block_69 (by decide) ?_
          by_cases hk_14 : fk pp1 = 64
          · replace hPc := hP.subF (f' := [(m9, .inr (23, mA mr mv vf xl (nI zs) 0 xa1 (nI T) (nI pp1) xi xt xn (nI (ns + 1)) (nI vv1) (nI bb1))), (mr 5, .inl (kI, 3002, .inl fk))]) [5, 2] rfl
            replace hDc := hD.subF (f' := [(m9, .inr (23, mA mr mv vf xl (nI zs) 0 xa1 (nI T) (nI pp1) xi xt xn (nI (ns + 1)) (nI vv1) (nI bb1))), (mr 5, .inl (kI, 3002, .inl fk))]) [5, 2] (by decide) rfl
            replace hKc := hK.sub (tys' := [(kI, .int)]) [0] rfl
            replace hFc := va_freeT (wc := [(m9, .inr (23, mA mr mv vf xl (nI zs) 0 xa1 (nI T) (nI pp1) xi xt xn (nI (ns + 1)) (nI vv1) (nI bb1))), (mr 5, .inl (kI, 3002, .inl fk))]) hD hS hA [5, 2] rfl
            refine va_calli (va_runV (As := [.int 64]) (rest := []) ⟨hx, hb, hml, hown, hts⟩ (c_risY l dC dI m9 mr mv vf xl xa1 xi xt xn zs T pp1 (ns + 1) vv1 bb1 kI fk fa 0 64 H.size hT hr0.2.2.1 hk_14) (cwV 1 hts g_c_vbl_c_risY_71 rfl rfl rfl (by decide +kernel) ⟨by show 0 + 1 ≤ 2 + 14 * k; omega, by show 8 + (2 + 11) + (0) ≤ 43 + 323 * k; omega⟩) ⟨fun a U g mk q => by obtain ⟨q0, q1, qP, qK, qD⟩ := q; exact ⟨q0, q1, qP, va_K.moved (u := U) (U := U.calling g mk a) (Vm.Alike.refl U.vm) qK, qD⟩, va_recv hKc hPc (ci := 23) (q0 := 0) rfl rfl, fun U hU hW => ⟨rfl, by rw [hU], by rw [hU]; exact hPc, va_K.moved hW.alike hKc, hDc.weaken (fun _ _ _ _ => trivial)⟩⟩ rfl rfl hl.1 rfl (lv_room (Nat.le_of_ble_eq_true rfl)) dX23_block_71 ⟨(show (8 * (pp1 - pp) - 6 - 2 * n) + 0 ≤ (8 * (T - pp) + 12) by omega), (show (120 * (pp1 - pp) + 2 * cp - 116 - 50 * n) + 0 ≤ (120 * (T - pp) + 460) by omega)⟩) hS (fun q _ h => hFc q h) hFc (fun r_15 u tS H1 locs ht hvm hw hB hz1 hk1 hS => ?_)
            obtain ⟨hP1, hK1, hD1⟩ := hB
            rw [ht] at hP1
            replace hK1 := va_K.moved hvm.symm hK1
            obtain ⟨hPj, hDj⟩ := va_joinT (wr := [(q_1, .inr (14, [.int (nI pp), .int 0, .ref la, .int (nI n)])), (la, .inl (kS, cp, .inr (.inr (.inr (.inr f))))), (mr 6, .inl (kI, 3002, .inl fa)), (mr 8, .inl (kL, 3002, .inr (.inl fn)))]) (w1 := [(m9, .inr (23, mA mr mv vf xl (nI zs) 0 xa1 (nI T) (nI pp1) xi xt xn (nI (ns + 1)) (nI vv1) (nI bb1))), (mr 5, .inl (kI, 3002, .inl fk))]) hP hD [5, 2] [0, 1, 3, 4] rfl rfl (by decide) (by decide) hk1 hFc hP1 hD1
            replace hP := hPj
            replace hD := hDj
            clear hPj hDj
            replace hK := hK.app hK1
            generalize H1 = H at hP hS ⊢
            replace hP : va_P (dC, dI) vwCl (([(q_1, .inr (14, [.int (nI pp), .int 0, .ref la, .int (nI n)])), (la, .inl (kS, cp, .inr (.inr (.inr (.inr f))))), (mr 6, .inl (kI, 3002, .inl fa)), (mr 8, .inl (kL, 3002, .inr (.inl fn))), (m9, .inr (23, mA mr mv vf xl (nI zs) 0 xa1 (nI T) (nI pp1) xi xt xn (nI (ns + 1)) (nI vv1) (nI bb1))), (mr 5, .inl (kI, 3002, .inl fk))] : va_W) ++ (sT L1 F1)) H := hP
            replace hD : va_D A (([(q_1, .inr (14, [.int (nI pp), .int 0, .ref la, .int (nI n)])), (la, .inl (kS, cp, .inr (.inr (.inr (.inr f))))), (mr 6, .inl (kI, 3002, .inl fa)), (mr 8, .inl (kL, 3002, .inr (.inl fn))), (m9, .inr (23, mA mr mv vf xl (nI zs) 0 xa1 (nI T) (nI pp1) xi xt xn (nI (ns + 1)) (nI vv1) (nI bb1))), (mr 5, .inl (kI, 3002, .inl fk))] : va_W) ++ (sT L1 F1)) := hD
            replace hK : va_K (dC, dI) vwCl [(kI, .int), (kL, .long), (kE, .object RX15), (kS, .object RX19), (kB, .object RX14), (kA, .object RX13), (kV, .object RX21), (kI, .int)] s := hK
            replace hK := hK.sub (tys' := [(kI, .int), (kL, .long), (kE, .object RX15), (kS, .object RX19), (kB, .object RX14), (kA, .object RX13), (kV, .object RX21)]) [0, 1, 2, 3, 4, 5, 6] rfl
            clear hz1 hk1 hPc hDc hKc hFc hP1 hD1 hK1
            obtain rfl : r_15 = 1 := hw
            refine lv_if_ne (tgt := 161) hx hb dX23_block_74 (by decide) (fun _ => ?_) (fun c_16 => absurd c_16 (by decide))
            refine lv_aload_n hx hb dX23_block_161 rfl (lv_at hl 0 rfl) ?_
            refine lv_dup hx hb dX23_block_162 rfl ?_
            refine va_get (D := (dC, dI)) (ci := 23) (v := .int (nI (ns + 1))) (C := RX23) (T := TX23) (N := 89) hx hb hts in_c_vbl_X23 hown hK hP 4 rfl rfl 15 (by decide) (hts (.fieldLink RX23 104 "OwnedPlacesModel" "nest" "I") (wm_c_vbl 25 rfl)) (fun _ h9 => h9) rfl dX23_block_163 ?_
            refine lv_iconst (v := 1) hx hb dX23_block_166 (by decide) ?_
            refine lv_isub hx hb dX23_block_167 ?_
            refine lv_topi (fun f_17 ef_17 => ?_)
            obtain rfl : f_17 = nI ns := ef_17.trans (nI_pred _)
            refine va_put (D := (dC, dI)) (ci := 23) (v := .int (nI ns)) (ty := .int) (C := RX23) (T := TX23) (N := 89) hx hb hts in_c_vbl_X23 tyX23 tyX23_ok nmX23 hown hK hP hD hS 4 rfl rfl 15 (by decide) (hts (.fieldLink RX23 104 "OwnedPlacesModel" "nest" "I") (wm_c_vbl 25 rfl)) (fun _ h9 => h9) rfl (by decide +kernel) rfl rfl (Nat.le_of_ble_eq_true rfl) dX23_block_168 (fun H locs hP hD hS => ?_)
            replace hP : va_P (dC, dI) vwCl (([(q_1, .inr (14, [.int (nI pp), .int 0, .ref la, .int (nI n)])), (la, .inl (kS, cp, .inr (.inr (.inr (.inr f))))), (mr 6, .inl (kI, 3002, .inl fa)), (mr 8, .inl (kL, 3002, .inr (.inl fn))), (m9, .inr (23, mA mr mv vf xl (nI zs) 0 xa1 (nI T) (nI pp1) xi xt xn (nI ns) (nI vv1) (nI bb1))), (mr 5, .inl (kI, 3002, .inl fk))] : va_W) ++ (sT L1 F1)) H := hP
            replace hD : va_D A (([(q_1, .inr (14, [.int (nI pp), .int 0, .ref la, .int (nI n)])), (la, .inl (kS, cp, .inr (.inr (.inr (.inr f))))), (mr 6, .inl (kI, 3002, .inl fa)), (mr 8, .inl (kL, 3002, .inr (.inl fn))), (m9, .inr (23, mA mr mv vf xl (nI zs) 0 xa1 (nI T) (nI pp1) xi xt xn (nI ns) (nI vv1) (nI bb1))), (mr 5, .inl (kI, 3002, .inl fk))] : va_W) ++ (sT L1 F1)) := hD
            refine lv_aload_n hx hb dX23_block_171 rfl (lv_at hl 1 rfl) ?_
            refine lv_aload_n hx hb dX23_block_172 rfl (lv_at hl 0 rfl) ?_
            refine va_get (D := (dC, dI)) (ci := 23) (v := .int (nI pp1)) (C := RX23) (T := TX23) (N := 89) hx hb hts in_c_vbl_X23 hown hK hP 4 rfl rfl 10 (by decide) (hts (.fieldLink RX23 86 "OwnedPlacesModel" "p" "I") (wm_c_vbl 17 rfl)) (fun _ h9 => h9) rfl dX23_block_173 ?_
            refine va_put (D := (dC, dI)) (ci := 14) (v := .int (nI pp1)) (ty := .int) (C := RX14) (T := TX14) (N := 4) hx hb hts in_c_vbl_X14 tyX14 tyX14_ok nmX14 hown hK hP hD hS 0 rfl rfl 1 (by decide) (hts (.fieldLink RX23 251 "OwnedPlacesModel$Block" "end" "I") (wm_c_vbl 39 rfl)) (fun _ h9 => h9) rfl (by decide +kernel) rfl rfl (Nat.le_of_ble_eq_true rfl) dX23_block_176 (fun H locs hP hD hS => ?_)
            replace hP : va_P (dC, dI) vwCl (([(q_1, .inr (14, [.int (nI pp), .int (nI pp1), .ref la, .int (nI n)])), (la, .inl (kS, cp, .inr (.inr (.inr (.inr f))))), (mr 6, .inl (kI, 3002, .inl fa)), (mr 8, .inl (kL, 3002, .inr (.inl fn))), (m9, .inr (23, mA mr mv vf xl (nI zs) 0 xa1 (nI T) (nI pp1) xi xt xn (nI ns) (nI vv1) (nI bb1))), (mr 5, .inl (kI, 3002, .inl fk))] : va_W) ++ (sT L1 F1)) H := hP
            replace hD : va_D A (([(q_1, .inr (14, [.int (nI pp), .int (nI pp1), .ref la, .int (nI n)])), (la, .inl (kS, cp, .inr (.inr (.inr (.inr f))))), (mr 6, .inl (kI, 3002, .inl fa)), (mr 8, .inl (kL, 3002, .inr (.inl fn))), (m9, .inr (23, mA mr mv vf xl (nI zs) 0 xa1 (nI T) (nI pp1) xi xt xn (nI ns) (nI vv1) (nI bb1))), (mr 5, .inl (kI, 3002, .inl fk))] : va_W) ++ (sT L1 F1)) := hD
            refine lv_aload_n hx hb dX23_block_179 rfl (lv_at hl 0 rfl) ?_
            refine lv_bipush (v := 64) hx hb dX23_block_180 (by decide) ?_
            replace hPc := hP.subF (f' := [(m9, .inr (23, mA mr mv vf xl (nI zs) 0 xa1 (nI T) (nI pp1) xi xt xn (nI ns) (nI vv1) (nI bb1))), (mr 5, .inl (kI, 3002, .inl fk)), (mr 6, .inl (kI, 3002, .inl fa))]) [4, 5, 2] rfl
            replace hDc := hD.subF (f' := [(m9, .inr (23, mA mr mv vf xl (nI zs) 0 xa1 (nI T) (nI pp1) xi xt xn (nI ns) (nI vv1) (nI bb1))), (mr 5, .inl (kI, 3002, .inl fk)), (mr 6, .inl (kI, 3002, .inl fa))]) [4, 5, 2] (by decide) rfl
            replace hKc := hK.sub (tys' := [(kI, .int)]) [0] rfl
            replace hFc := va_freeT (wc := [(m9, .inr (23, mA mr mv vf xl (nI zs) 0 xa1 (nI T) (nI pp1) xi xt xn (nI ns) (nI vv1) (nI bb1))), (mr 5, .inl (kI, 3002, .inl fk)), (mr 6, .inl (kI, 3002, .inl fa))]) hD hS hA [4, 5, 2] rfl
            refine va_callv (va_runV (As := [.int 64]) (rest := []) ⟨hx, hb, hml, hown, hts⟩ (c_rtkY l dC dI m9 mr mv vf xl xa1 xi xt xn zs T pp1 ns vv1 bb1 kI fk fa 64 H.size hT hr0.2.2.1 hk0 (by decide) hk_14) (cwV 1 hts g_c_vbl_c_rtkY_182 rfl rfl rfl (by decide +kernel) ⟨by show 1 + 1 ≤ 2 + 14 * k; omega, by show 8 + (2 + 11) + (21) ≤ 43 + 323 * k; omega⟩) ⟨fun a U g mk q => by obtain ⟨q0, q1, qP, qK, qD⟩ := q; exact ⟨q0, q1, qP, va_K.moved (u := U) (U := U.calling g mk a) (Vm.Alike.refl U.vm) qK, qD⟩, va_recv hKc hPc (ci := 23) (q0 := 0) rfl rfl, fun U hU hW => ⟨rfl, by rw [hU], by rw [hU]; exact hPc, va_K.moved hW.alike hKc, hDc.weaken (fun _ _ _ _ => trivial)⟩⟩ rfl rfl hl.1 rfl (lv_room (Nat.le_of_ble_eq_true rfl)) dX23_block_182 ⟨(show (8 * (pp1 - pp) - 6 - 2 * n) + 0 ≤ (8 * (T - pp) + 12) by omega), (show (120 * (pp1 - pp) + 2 * cp - 116 - 50 * n) + 0 ≤ (120 * (T - pp) + 460) by omega)⟩) hS (fun q _ h => hFc q h) hFc (fun u tS H1 locs ht hvm hw hB hz1 hk1 hS => ?_)
            obtain ⟨hP1, hK1, hD1⟩ := hB
            rw [ht] at hP1
            replace hK1 := va_K.moved hvm.symm hK1
            obtain ⟨hPj, hDj⟩ := va_joinT (wr := [(q_1, .inr (14, [.int (nI pp), .int (nI pp1), .ref la, .int (nI n)])), (la, .inl (kS, cp, .inr (.inr (.inr (.inr f))))), (mr 8, .inl (kL, 3002, .inr (.inl fn)))]) (w1 := [(m9, .inr (23, mA mr mv vf xl (nI zs) 0 xa1 (nI T) (nI (pp1 + 1)) xi xt xn (nI ns) (nI vv1) (nI bb1))), (mr 5, .inl (kI, 3002, .inl fk)), (mr 6, .inl (kI, 3002, .inl fa))]) hP hD [4, 5, 2] [0, 1, 3] rfl rfl (by decide) (by decide) hk1 hFc hP1 hD1
            replace hP := hPj
            replace hD := hDj
            clear hPj hDj
            replace hK := hK.app hK1
            generalize H1 = H at hP hS ⊢
            replace hP : va_P (dC, dI) vwCl (([(q_1, .inr (14, [.int (nI pp), .int (nI pp1), .ref la, .int (nI n)])), (la, .inl (kS, cp, .inr (.inr (.inr (.inr f))))), (mr 8, .inl (kL, 3002, .inr (.inl fn))), (m9, .inr (23, mA mr mv vf xl (nI zs) 0 xa1 (nI T) (nI (pp1 + 1)) xi xt xn (nI ns) (nI vv1) (nI bb1))), (mr 5, .inl (kI, 3002, .inl fk)), (mr 6, .inl (kI, 3002, .inl fa))] : va_W) ++ (sT L1 F1)) H := hP
            replace hD : va_D A (([(q_1, .inr (14, [.int (nI pp), .int (nI pp1), .ref la, .int (nI n)])), (la, .inl (kS, cp, .inr (.inr (.inr (.inr f))))), (mr 8, .inl (kL, 3002, .inr (.inl fn))), (m9, .inr (23, mA mr mv vf xl (nI zs) 0 xa1 (nI T) (nI (pp1 + 1)) xi xt xn (nI ns) (nI vv1) (nI bb1))), (mr 5, .inl (kI, 3002, .inl fk)), (mr 6, .inl (kI, 3002, .inl fa))] : va_W) ++ (sT L1 F1)) := hD
            replace hK : va_K (dC, dI) vwCl [(kI, .int), (kL, .long), (kE, .object RX15), (kS, .object RX19), (kB, .object RX14), (kA, .object RX13), (kV, .object RX21), (kI, .int)] s := hK
            replace hK := hK.sub (tys' := [(kI, .int), (kL, .long), (kE, .object RX15), (kS, .object RX19), (kB, .object RX14), (kA, .object RX13), (kV, .object RX21)]) [0, 1, 2, 3, 4, 5, 6] rfl
            clear hz1 hk1 hPc hDc hKc hFc hP1 hD1 hK1
            have hp_19 : pp1 + 1 < T := kne3 hk0 hr0.2.2.1 hk_14 (by decide)
            refine lv_aload_n hx hb dX23_block_185 rfl (lv_at hl 1 rfl) ?_
            replace hP : va_P (dC, dI) vwCl ((([(mr 8, .inl (kL, 3002, .inr (.inl fn))), (m9, .inr (23, mA mr mv vf xl (nI zs) 0 xa1 (nI T) (nI (pp1 + 1)) xi xt xn (nI ns) (nI vv1) (nI bb1))), (mr 5, .inl (kI, 3002, .inl fk)), (mr 6, .inl (kI, 3002, .inl fa))] : va_W) ++ ([(q_1, .inr (14, [.int (nI pp), .int (nI pp1), .ref la, .int (nI n)])), (la, .inl (kS, cp, .inr (.inr (.inr (.inr f)))))] : va_W)) ++ sT L1 F1) H := hP.subT (f' := [(mr 8, .inl (kL, 3002, .inr (.inl fn))), (m9, .inr (23, mA mr mv vf xl (nI zs) 0 xa1 (nI T) (nI (pp1 + 1)) xi xt xn (nI ns) (nI vv1) (nI bb1))), (mr 5, .inl (kI, 3002, .inl fk)), (mr 6, .inl (kI, 3002, .inl fa)), (q_1, .inr (14, [.int (nI pp), .int (nI pp1), .ref la, .int (nI n)])), (la, .inl (kS, cp, .inr (.inr (.inr (.inr f)))))]) [2, 3, 4, 5, 0, 1] rfl
            replace hD : va_D A ((([(mr 8, .inl (kL, 3002, .inr (.inl fn))), (m9, .inr (23, mA mr mv vf xl (nI zs) 0 xa1 (nI T) (nI (pp1 + 1)) xi xt xn (nI ns) (nI vv1) (nI bb1))), (mr 5, .inl (kI, 3002, .inl fk)), (mr 6, .inl (kI, 3002, .inl fa))] : va_W) ++ ([(q_1, .inr (14, [.int (nI pp), .int (nI pp1), .ref la, .int (nI n)])), (la, .inl (kS, cp, .inr (.inr (.inr (.inr f)))))] : va_W)) ++ sT L1 F1) := hD.subT (f' := [(mr 8, .inl (kL, 3002, .inr (.inl fn))), (m9, .inr (23, mA mr mv vf xl (nI zs) 0 xa1 (nI T) (nI (pp1 + 1)) xi xt xn (nI ns) (nI vv1) (nI bb1))), (mr 5, .inl (kI, 3002, .inl fk)), (mr 6, .inl (kI, 3002, .inl fa)), (q_1, .inr (14, [.int (nI pp), .int (nI pp1), .ref la, .int (nI n)])), (la, .inl (kS, cp, .inr (.inr (.inr (.inr f)))))]) [2, 3, 4, 5, 0, 1] (by decide) rfl
            obtain ⟨L9, F9, hx9, hm9, hP, hD⟩ := st_fileL [(q_1, .inr (14, [.int (nI pp), .int (nI pp1), .ref la, .int (nI n)])), (la, .inl (kS, cp, .inr (.inr (.inr (.inr f)))))] hP hD
            have hm9_0 := hm9 _ (List.mem_of_getElem? (i := 0) rfl)
            have hm9_1 := hm9 _ (List.mem_of_getElem? (i := 1) rfl)
            refine W.grow (fun hgs0 hgs1 => ?_)
            have hP9 := hP.subT (f' := [(m9, .inr (23, mA mr mv vf xl (nI zs) 0 xa1 (nI T) (nI (pp1 + 1)) xi xt xn (nI ns) (nI vv1) (nI bb1))), (mr 5, .inl (kI, 3002, .inl fk)), (mr 6, .inl (kI, 3002, .inl fa)), (mr 8, .inl (kL, 3002, .inr (.inl fn)))]) [1, 2, 3, 0] rfl
            have hD9 := hD.subT (f' := [(m9, .inr (23, mA mr mv vf xl (nI zs) 0 xa1 (nI T) (nI (pp1 + 1)) xi xt xn (nI ns) (nI vv1) (nI bb1))), (mr 5, .inl (kI, 3002, .inl fk)), (mr 6, .inl (kI, 3002, .inl fa)), (mr 8, .inl (kL, 3002, .inr (.inl fn)))]) [1, 2, 3, 0] (by decide) rfl
            have hK9 := hK.sub (tys' := [(kI, .int), (kL, .long), (kE, .object RX15), (kS, .object RX19), (kB, .object RX14), (kA, .object RX13), (kV, .object RX21)]) [0, 1, 2, 3, 4, 5, 6] rfl
            refine W.widen (k := (8 * (T - pp) + 12)) (n := (120 * (T - pp) + 460)) (by omega) (by omega) ?_
            subst hQ1
            exact W.aret hx hb hr (Or.inl ⟨_, rfl⟩) (Or.inr ⟨q_1, rfl⟩) (fun tS ht hW => ⟨⟨(), q_1, rfl, trivial, L9, F9, 0, xa1, pp1 + 1, bb1, vv1, 0, ⟨(hr1).tr hx9, hm9_0.1, _, hm9_0.2⟩, ⟨by omega, by omega, by omega, by omega, by omega, by omega⟩, ⟨by omega, fun _ => rfl⟩, (fun _ => ⟨by omega, by omega, isN_B hm9_0.1 hm9_1.1 hm9_0.2 hm9_1.2 (by omega) (by omega) (chN_im (fun y p q b c v w z => isN_im hx9 _ (Nat.le_refl _) z) hr3)⟩), by rw [ht]; exact ⟨by omega, by omega⟩, by rw [ht]; exact hP9, va_K.moved hW.alike hK9, hD9⟩, hS.F ht⟩) hS.2.2 dX23_block_186
          · replace hPc := hP.subF (f' := [(m9, .inr (23, mA mr mv vf xl (nI zs) 0 xa1 (nI T) (nI pp1) xi xt xn (nI (ns + 1)) (nI vv1) (nI bb1))), (mr 5, .inl (kI, 3002, .inl fk))]) [5, 2] rfl
            replace hDc := hD.subF (f' := [(m9, .inr (23, mA mr mv vf xl (nI zs) 0 xa1 (nI T) (nI pp1) xi xt xn (nI (ns + 1)) (nI vv1) (nI bb1))), (mr 5, .inl (kI, 3002, .inl fk))]) [5, 2] (by decide) rfl
            replace hKc := hK.sub (tys' := [(kI, .int)]) [0] rfl
            replace hFc := va_freeT (wc := [(m9, .inr (23, mA mr mv vf xl (nI zs) 0 xa1 (nI T) (nI pp1) xi xt xn (nI (ns + 1)) (nI vv1) (nI bb1))), (mr 5, .inl (kI, 3002, .inl fk))]) hD hS hA [5, 2] rfl
            refine va_calli (va_runV (As := [.int 64]) (rest := []) ⟨hx, hb, hml, hown, hts⟩ (c_risN l dC dI m9 mr mv vf xl xa1 xi xt xn zs T pp1 (ns + 1) vv1 bb1 kI fk fa 0 64 H.size hT hr0.2.2.1 hk_14) (cwV 1 hts g_c_vbl_c_risN_71 rfl rfl rfl (by decide +kernel) ⟨by show 0 + 1 ≤ 2 + 14 * k; omega, by show 8 + (2 + 11) + (0) ≤ 43 + 323 * k; omega⟩) ⟨fun a U g mk q => by obtain ⟨q0, q1, qP, qK, qD⟩ := q; exact ⟨q0, q1, qP, va_K.moved (u := U) (U := U.calling g mk a) (Vm.Alike.refl U.vm) qK, qD⟩, va_recv hKc hPc (ci := 23) (q0 := 0) rfl rfl, fun U hU hW => ⟨rfl, by rw [hU], by rw [hU]; exact hPc, va_K.moved hW.alike hKc, hDc.weaken (fun _ _ _ _ => trivial)⟩⟩ rfl rfl hl.1 rfl (lv_room (Nat.le_of_ble_eq_true rfl)) dX23_block_71 ⟨(show (8 * (pp1 - pp) - 6 - 2 * n) + 0 ≤ (8 * (T - pp) + 12) by omega), (show (120 * (pp1 - pp) + 2 * cp - 116 - 50 * n) + 0 ≤ (120 * (T - pp) + 460) by omega)⟩) hS (fun q _ h => hFc q h) hFc (fun r_15 u tS H1 locs ht hvm hw hB hz1 hk1 hS => ?_)
            obtain ⟨hP1, hK1, hD1⟩ := hB
            rw [ht] at hP1
            replace hK1 := va_K.moved hvm.symm hK1
            obtain ⟨hPj, hDj⟩ := va_joinT (wr := [(q_1, .inr (14, [.int (nI pp), .int 0, .ref la, .int (nI n)])), (la, .inl (kS, cp, .inr (.inr (.inr (.inr f))))), (mr 6, .inl (kI, 3002, .inl fa)), (mr 8, .inl (kL, 3002, .inr (.inl fn)))]) (w1 := [(m9, .inr (23, mA mr mv vf xl (nI zs) 0 xa1 (nI T) (nI pp1) xi xt xn (nI (ns + 1)) (nI vv1) (nI bb1))), (mr 5, .inl (kI, 3002, .inl fk))]) hP hD [5, 2] [0, 1, 3, 4] rfl rfl (by decide) (by decide) hk1 hFc hP1 hD1
            replace hP := hPj
            replace hD := hDj
            clear hPj hDj
            replace hK := hK.app hK1
            generalize H1 = H at hP hS ⊢
            replace hP : va_P (dC, dI) vwCl (([(q_1, .inr (14, [.int (nI pp), .int 0, .ref la, .int (nI n)])), (la, .inl (kS, cp, .inr (.inr (.inr (.inr f))))), (mr 6, .inl (kI, 3002, .inl fa)), (mr 8, .inl (kL, 3002, .inr (.inl fn))), (m9, .inr (23, mA mr mv vf xl (nI zs) 0 xa1 (nI T) (nI pp1) xi xt xn (nI (ns + 1)) (nI vv1) (nI bb1))), (mr 5, .inl (kI, 3002, .inl fk))] : va_W) ++ (sT L1 F1)) H := hP
            replace hD : va_D A (([(q_1, .inr (14, [.int (nI pp), .int 0, .ref la, .int (nI n)])), (la, .inl (kS, cp, .inr (.inr (.inr (.inr f))))), (mr 6, .inl (kI, 3002, .inl fa)), (mr 8, .inl (kL, 3002, .inr (.inl fn))), (m9, .inr (23, mA mr mv vf xl (nI zs) 0 xa1 (nI T) (nI pp1) xi xt xn (nI (ns + 1)) (nI vv1) (nI bb1))), (mr 5, .inl (kI, 3002, .inl fk))] : va_W) ++ (sT L1 F1)) := hD
            replace hK : va_K (dC, dI) vwCl [(kI, .int), (kL, .long), (kE, .object RX15), (kS, .object RX19), (kB, .object RX14), (kA, .object RX13), (kV, .object RX21), (kI, .int)] s := hK
            replace hK := hK.sub (tys' := [(kI, .int), (kL, .long), (kE, .object RX15), (kS, .object RX19), (kB, .object RX14), (kA, .object RX13), (kV, .object RX21)]) [0, 1, 2, 3, 4, 5, 6] rfl
            clear hz1 hk1 hPc hDc hKc hFc hP1 hD1 hK1
            obtain rfl : r_15 = 0 := hw
            refine lv_if_ne (tgt := 161) hx hb dX23_block_74 (by decide) (fun c_16 => absurd c_16 (by decide)) (fun _ => ?_)
            refine lv_aload_n hx hb dX23_block_77 rfl (lv_at hl 0 rfl) ?_
            obtain ⟨k1, hkL⟩ : ∃ k1 : Nat, k = k1 + 1 := ⟨k - 1, by omega⟩
            replace hPc := hP.subT (f' := [(m9, .inr (23, mA mr mv vf xl (nI zs) 0 xa1 (nI T) (nI pp1) xi xt xn (nI (ns + 1)) (nI vv1) (nI bb1))), (mr 5, .inl (kI, 3002, .inl fk)), (mr 6, .inl (kI, 3002, .inl fa)), (mr 8, .inl (kL, 3002, .inr (.inl fn)))]) [4, 5, 2, 3] rfl
            replace hDc := hD.subT (f' := [(m9, .inr (23, mA mr mv vf xl (nI zs) 0 xa1 (nI T) (nI pp1) xi xt xn (nI (ns + 1)) (nI vv1) (nI bb1))), (mr 5, .inl (kI, 3002, .inl fk)), (mr 6, .inl (kI, 3002, .inl fa)), (mr 8, .inl (kL, 3002, .inr (.inl fn)))]) [4, 5, 2, 3] (by decide) rfl
            replace hKc := hK.sub (tys' := [(kI, .int), (kL, .long), (kE, .object RX15), (kS, .object RX19), (kB, .object RX14), (kA, .object RX13), (kV, .object RX21)]) [0, 1, 2, 3, 4, 5, 6] rfl
            replace hFc := va_freeB (wc := [(m9, .inr (23, mA mr mv vf xl (nI zs) 0 xa1 (nI T) (nI pp1) xi xt xn (nI (ns + 1)) (nI vv1) (nI bb1))), (mr 5, .inl (kI, 3002, .inl fk)), (mr 6, .inl (kI, 3002, .inl fa)), (mr 8, .inl (kL, 3002, .inr (.inl fn)))]) hD hS hA [4, 5, 2, 3] rfl
            refine W.grow (fun hgs0 hgs1 => ?_)
            refine va_callr (va_runV (As := []) (rest := []) ⟨hx, hb, hml, hown, hts⟩ ((ih k1 hkL).1 m9 mr mv vf xl xa1 xi xt xn zs T pp1 (ns + 1) vv1 bb1 kI fk fa kL kE fn L1 F1 kS kB kA kV (slN H) H.size hT hr0.2.2.1 hk0 (by omega) (by omega) (by omega)) (cwV 0 hts g_c_vbl_c_vst_78 rfl rfl rfl (by decide +kernel) ⟨by show 15 + 14 * k1 + 1 ≤ 2 + 14 * k; omega, by show 8 + (2 + 11) + (345 + 323 * k1) ≤ 43 + 323 * k; omega⟩) ⟨fun a U g mk q => by obtain ⟨q0, q1, qP, qK, qD, qx0, qx1⟩ := q; exact ⟨q0, q1, qP, va_K.moved (u := U) (U := U.calling g mk a) (Vm.Alike.refl U.vm) qK, qD, nsM.same (u := U) (U := U.calling g mk a) rfl qx0, qx1⟩, va_recv hKc hPc (ci := 23) (q0 := 0) rfl rfl, fun U hU hW => ⟨rfl, by rw [hU], by rw [hU]; exact hPc, va_K.moved hW.alike hKc, hDc.weaken (fun _ _ _ _ => trivial), nsM.warm hW hns, by rw [hU]⟩⟩ rfl rfl hl.1 rfl (lv_room (Nat.le_of_ble_eq_true rfl)) dX23_block_78 ⟨(show (8 * (pp1 - pp) - 6 - 2 * n) + (8 * (T - pp1) + 16) ≤ (8 * (T - pp) + 12) by omega), (show (120 * (pp1 - pp) + 2 * cp - 116 - 50 * n) + (120 * (T - pp1) + 520) ≤ (120 * (T - pp) + 460) by omega)⟩) hS (fun q _ h => hFc q h) hFc (fun u r_17 tS H1 locs ht hvm hw hB hz1 hk1 hS => ?_)
            obtain ⟨L16, F16, ff16, xa16, pp16, bb16, vv16, xg16, hf17_0, hf17_1, hf17_2, hf17_3, hf17_4, hP1, hK1, hD1⟩ := hB
            rw [ht] at hP1
            replace hK1 := va_K.moved hvm.symm hK1
            rw [ht] at hf17_4
            have hgz : H1.size ≤ s.heap.size + (((8 * (pp1 - pp) - 6 - 2 * n) + (8 * (pp16 - pp1) + 10 * xg16 - 3))) ∧ slN H1 ≤ slN s.heap + (((120 * (pp1 - pp) + 2 * cp - 116 - 50 * n) + (120 * (pp16 - pp1) + 160 * xg16 - 50))) := ⟨by have := hf17_4.1; omega, by have := hf17_4.2; omega⟩
            obtain ⟨hPj, hDj⟩ := va_joinB (wr := [(q_1, .inr (14, [.int (nI pp), .int 0, .ref la, .int (nI n)])), (la, .inl (kS, cp, .inr (.inr (.inr (.inr f)))))]) (w1 := [(m9, .inr (23, mA mr mv vf xl (nI zs) ff16 xa16 (nI T) (nI pp16) xi xt xn (nI (ns + 1)) (nI vv16) (nI bb16))), (mr 5, .inl (kI, 3002, .inl fk)), (mr 6, .inl (kI, 3002, .inl fa)), (mr 8, .inl (kL, 3002, .inr (.inl fn)))]) hP hD [4, 5, 2, 3] [0, 1] rfl rfl (by decide) (by decide) hk1 hFc hP1 hD1
            replace hP := hPj
            replace hD := hDj
            clear hPj hDj
            replace hK := hK.app hK1
            generalize H1 = H at hP hS hgz ⊢
            replace hP : va_P (dC, dI) vwCl (([(q_1, .inr (14, [.int (nI pp), .int 0, .ref la, .int (nI n)])), (la, .inl (kS, cp, .inr (.inr (.inr (.inr f))))), (m9, .inr (23, mA mr mv vf xl (nI zs) ff16 xa16 (nI T) (nI pp16) xi xt xn (nI (ns + 1)) (nI vv16) (nI bb16))), (mr 5, .inl (kI, 3002, .inl fk)), (mr 6, .inl (kI, 3002, .inl fa)), (mr 8, .inl (kL, 3002, .inr (.inl fn)))] : va_W) ++ (sT L16 F16)) H := hP
            replace hD : va_D A (([(q_1, .inr (14, [.int (nI pp), .int 0, .ref la, .int (nI n)])), (la, .inl (kS, cp, .inr (.inr (.inr (.inr f))))), (m9, .inr (23, mA mr mv vf xl (nI zs) ff16 xa16 (nI T) (nI pp16) xi xt xn (nI (ns + 1)) (nI vv16) (nI bb16))), (mr 5, .inl (kI, 3002, .inl fk)), (mr 6, .inl (kI, 3002, .inl fa)), (mr 8, .inl (kL, 3002, .inr (.inl fn)))] : va_W) ++ (sT L16 F16)) := hD
            replace hK : va_K (dC, dI) vwCl [(kI, .int), (kL, .long), (kE, .object RX15), (kS, .object RX19), (kB, .object RX14), (kA, .object RX13), (kV, .object RX21), (kI, .int), (kL, .long), (kE, .object RX15), (kS, .object RX19), (kB, .object RX14), (kA, .object RX13), (kV, .object RX21)] s := hK
            replace hK := hK.sub (tys' := [(kI, .int), (kL, .long), (kE, .object RX15), (kS, .object RX19), (kB, .object RX14), (kA, .object RX13), (kV, .object RX21)]) [0, 1, 2, 3, 4, 5, 6] rfl
            refine W.tight (k := ((8 * (pp1 - pp) - 6 - 2 * n) + (8 * (pp16 - pp1) + 10 * xg16 - 3))) (n := ((120 * (pp1 - pp) + 2 * cp - 116 - 50 * n) + (120 * (pp16 - pp1) + 160 * xg16 - 50))) hgz.1 hgz.2 ?_
            clear hz1 hk1 hPc hDc hKc hFc hP1 hD1 hK1
            have hxg16 := hf17_2.1
            refine lv_astore_n (lv' := [(2, .ref r_17), (0, .ref m9), (1, .ref q_1)]) hx hb dX23_block_81 rfl hl (by decide) rfl (fun ls hl => ?_)
            refine lv_aload_n hx hb dX23_block_82 rfl (lv_at hl 2 rfl) ?_
            refine va_get (D := (dC, dI)) (ci := 14) (v := .int (nI n)) (C := RX14) (T := TX14) (N := 4) hx hb hts in_c_vbl_X14 hown hK hP 0 rfl rfl 3 (by decide) (hts (.fieldLink RX23 244 "OwnedPlacesModel$Block" "many" "I") (wm_c_vbl 172 rfl)) (fun _ h9 => h9) rfl dX23_block_83 ?_
            refine lv_aload_n hx hb dX23_block_86 rfl (lv_at hl 2 rfl) ?_
            refine va_get (D := (dC, dI)) (ci := 14) (v := .ref la) (C := RX14) (T := TX14) (N := 4) hx hb hts in_c_vbl_X14 hown hK hP 0 rfl rfl 2 (by decide) (hts (.fieldLink RX23 245 "OwnedPlacesModel$Block" "list" "[LOwnedPlacesModel$Statement;") (wm_c_vbl 173 rfl)) (fun _ h9 => h9) rfl dX23_block_87 ?_
            refine va_alen (v := nI cp) hx hb hK hP 1 3 rfl rfl rfl dX23_block_90 ?_
            by_cases hcp_18 : n = cp
            · have hnc : nI n = nI cp := by rw [hcp_18]
              refine lv_icmp_ne (tgt := 138) hx hb dX23_block_91 (by decide) (fun c_19 => absurd c_19 (fun q9 => q9 hnc)) (fun _ => ?_)
              have hxs9 : ∀ i : Nat, i < n → ∃ x : Nat, f i = some x ∧ oN 19 L16 F16 x := fun i hi => by
                obtain ⟨x9, y9, z9⟩ := hr2 i hi
                exact ⟨x9, y9, oN_ex hf17_0.1 z9⟩
              refine lv_iconst (v := 2) hx hb dX23_block_94 (by decide) ?_
              refine lv_aload_n hx hb dX23_block_95 rfl (lv_at hl 2 rfl) ?_
              refine va_get (D := (dC, dI)) (ci := 14) (v := .int (nI n)) (C := RX14) (T := TX14) (N := 4) hx hb hts in_c_vbl_X14 hown hK hP 0 rfl rfl 3 (by decide) (hts (.fieldLink RX23 244 "OwnedPlacesModel$Block" "many" "I") (wm_c_vbl 172 rfl)) (fun _ h9 => h9) rfl dX23_block_96 ?_
              refine lv_imul hx hb dX23_block_99 ?_
              refine lv_topi (fun f_20 ef_20 => ?_)
              obtain rfl : f_20 = nI (2 * n) := ef_20.trans (nI_2 n)
              refine va_newq (C := RX19) hx hb hown (hts (.classLink RX23 249 RX19) (wm_c_vbl 41 rfl)) hns.2.2.1 hK hP hD hS hA (nI_pos (by omega)) (nI_clamp (by omega)) (show (2 * n) * 4 ≤ 536870912 by omega) (show ((8 * (pp1 - pp) - 6 - 2 * n) + (8 * (pp16 - pp1) + 10 * xg16 - 3)) + 1 ≤ (8 * (T - pp) + 12) by omega) (show ((120 * (pp1 - pp) + 2 * cp - 116 - 50 * n) + (120 * (pp16 - pp1) + 160 * xg16 - 50)) + (2 * n) ≤ (120 * (T - pp) + 460) by omega) dX23_block_100 (fun q_21 k_22 H hK hP hD hS => ?_)
              replace hP := va_P.nt hP
              replace hD := va_D.nt hD
              replace hP : va_P (dC, dI) vwCl (([(q_1, .inr (14, [.int (nI pp), .int 0, .ref la, .int (nI n)])), (la, .inl (kS, cp, .inr (.inr (.inr (.inr f))))), (m9, .inr (23, mA mr mv vf xl (nI zs) ff16 xa16 (nI T) (nI pp16) xi xt xn (nI (ns + 1)) (nI vv16) (nI bb16))), (mr 5, .inl (kI, 3002, .inl fk)), (mr 6, .inl (kI, 3002, .inl fa)), (mr 8, .inl (kL, 3002, .inr (.inl fn))), (q_21, .inl (k_22, 2 * n, .inr (.inr (.inr (.inr (fun _ => none))))))] : va_W) ++ (sT L16 F16)) H := hP
              replace hD : va_D A (([(q_1, .inr (14, [.int (nI pp), .int 0, .ref la, .int (nI n)])), (la, .inl (kS, cp, .inr (.inr (.inr (.inr f))))), (m9, .inr (23, mA mr mv vf xl (nI zs) ff16 xa16 (nI T) (nI pp16) xi xt xn (nI (ns + 1)) (nI vv16) (nI bb16))), (mr 5, .inl (kI, 3002, .inl fk)), (mr 6, .inl (kI, 3002, .inl fa)), (mr 8, .inl (kL, 3002, .inr (.inl fn))), (q_21, .inl (k_22, 2 * n, .inr (.inr (.inr (.inr (fun _ => none))))))] : va_W) ++ (sT L16 F16)) := hD
              replace hK : va_K (dC, dI) vwCl [(kI, .int), (kL, .long), (kE, .object RX15), (kS, .object RX19), (kB, .object RX14), (kA, .object RX13), (kV, .object RX21), (k_22, .object RX19)] s := hK
              obtain rfl : kS = k_22 := kEqO hK 3 7 rfl rfl
              replace hK := hK.sub (tys' := [(kI, .int), (kL, .long), (kE, .object RX15), (kS, .object RX19), (kB, .object RX14), (kA, .object RX13), (kV, .object RX21)]) [0, 1, 2, 3, 4, 5, 6] rfl
              replace hP : va_P (dC, dI) vwCl (([(q_1, .inr (14, [.int (nI pp), .int 0, .ref la, .int (nI n)])), (la, .inl (kS, cp, .inr (.inr (.inr (.inr f))))), (m9, .inr (23, mA mr mv vf xl (nI zs) ff16 xa16 (nI T) (nI pp16) xi xt xn (nI (ns + 1)) (nI vv16) (nI bb16))), (mr 5, .inl (kI, 3002, .inl fk)), (mr 6, .inl (kI, 3002, .inl fa)), (mr 8, .inl (kL, 3002, .inr (.inl fn))), (q_21, .inl (kS, 2 * n, .inr (.inr (.inr (.inr (fun _ => none))))))] : va_W) ++ (sT L16 F16)) H := hP
              replace hD : va_D A (([(q_1, .inr (14, [.int (nI pp), .int 0, .ref la, .int (nI n)])), (la, .inl (kS, cp, .inr (.inr (.inr (.inr f))))), (m9, .inr (23, mA mr mv vf xl (nI zs) ff16 xa16 (nI T) (nI pp16) xi xt xn (nI (ns + 1)) (nI vv16) (nI bb16))), (mr 5, .inl (kI, 3002, .inl fk)), (mr 6, .inl (kI, 3002, .inl fa)), (mr 8, .inl (kL, 3002, .inr (.inl fn))), (q_21, .inl (kS, 2 * n, .inr (.inr (.inr (.inr (fun _ => none))))))] : va_W) ++ (sT L16 F16)) := hD
              refine W.widen (k := (((8 * (pp1 - pp) - 6 - 2 * n) + (8 * (pp16 - pp1) + 10 * xg16 - 3)) + 1)) (n := (((120 * (pp1 - pp) + 2 * cp - 116 - 50 * n) + (120 * (pp16 - pp1) + 160 * xg16 - 50)) + (2 * n))) (by omega) (by omega) ?_
              refine lv_astore_n (lv' := [(3, .ref q_21), (2, .ref r_17), (0, .ref m9), (1, .ref q_1)]) hx hb dX23_block_103 rfl hl (by decide) rfl (fun ls hl => ?_)
              refine lv_iconst (v := 0) hx hb dX23_block_104 (by decide) ?_
              refine lv_istore (lv' := [(4, .int 0), (3, .ref q_21), (2, .ref r_17), (0, .ref m9), (1, .ref q_1)]) hx hb dX23_block_105 hl (by decide) rfl (fun ls hl => ?_)
              refine W_q (fun Q2 hQ2 => ?_)
              have key2 : ∀ (n2 : Nat) (i : Nat) (h1 : Nat → Option Nat) (H : Heap) (locs : List Loc) (ls : Array Slot), (i + n2 = n + 1 ∧ i ≤ n) → (∀ j : Nat, j < i → h1 j = f j) → va_P (dC, dI) vwCl (([(q_1, .inr (14, [.int (nI pp), .int 0, .ref la, .int (nI n)])), (la, .inl (kS, cp, .inr (.inr (.inr (.inr f))))), (m9, .inr (23, mA mr mv vf xl (nI zs) ff16 xa16 (nI T) (nI pp16) xi xt xn (nI (ns + 1)) (nI vv16) (nI bb16))), (mr 5, .inl (kI, 3002, .inl fk)), (mr 6, .inl (kI, 3002, .inl fa)), (mr 8, .inl (kL, 3002, .inr (.inl fn))), (q_21, .inl (kS, 2 * n, .inr (.inr (.inr (.inr h1)))))] : va_W) ++ (sT L16 F16)) H → va_D A (([(q_1, .inr (14, [.int (nI pp), .int 0, .ref la, .int (nI n)])), (la, .inl (kS, cp, .inr (.inr (.inr (.inr f))))), (m9, .inr (23, mA mr mv vf xl (nI zs) ff16 xa16 (nI T) (nI pp16) xi xt xn (nI (ns + 1)) (nI vv16) (nI bb16))), (mr 5, .inl (kI, 3002, .inl fk)), (mr 6, .inl (kI, 3002, .inl fa)), (mr 8, .inl (kL, 3002, .inr (.inl fn))), (q_21, .inl (kS, 2 * n, .inr (.inr (.inr (.inr h1)))))] : va_W) ++ (sT L16 F16)) → va_S A s.heap H locs → lv_has ls 5 [(4, .int (nI i)), (3, .ref q_21), (2, .ref r_17), (0, .ref m9), (1, .ref q_1)] → W p l e (headSpec wp_c_vbl ({ frames := 2 + 14 * k, cells := (8 * (T - pp) + 12), slots := (120 * (T - pp) + 460), locals := 43 + 323 * k })).room s m ([.ref m9] : List Value).toArray below meth c H locs (((8 * (pp1 - pp) - 6 - 2 * n) + (8 * (pp16 - pp1) + 10 * xg16 - 3)) + 1) (((120 * (pp1 - pp) + 2 * cp - 116 - 50 * n) + (120 * (pp16 - pp1) + 160 * xg16 - 50)) + (2 * n)) Q2 (F0 m 107 ls []) := by
                intro n2
                induction n2 with
                | zero => intro i h1 H locs ls hb0 hb1; exact absurd hb0 (by omega)
                | succ n2 ih2 =>
                  intro i h1 H locs ls hb0 hb1 hP hD hS hl
                  refine lv_iload hx hb dX23_block_107 (lv_at hl 0 rfl) ?_
                  refine lv_aload_n hx hb dX23_block_109 rfl (lv_at hl 4 rfl) ?_
                  refine va_get (D := (dC, dI)) (ci := 14) (v := .int (nI n)) (C := RX14) (T := TX14) (N := 4) hx hb hts in_c_vbl_X14 hown hK hP 0 rfl rfl 3 (by decide) (hts (.fieldLink RX23 244 "OwnedPlacesModel$Block" "many" "I") (wm_c_vbl 172 rfl)) (fun _ h9 => h9) rfl dX23_block_110 ?_
                  refine lv_icmp_ge (tgt := 133) hx hb dX23_block_113 (by decide) (fun hk => ?_) (fun hk => ?_)
                  · have hin : n = i := by have := (nI_leI (a := n) (b := i) (by omega) (by omega)).mp hk; omega
                    subst hin
                    replace hl : lv_has ls 5 [(4, .int (nI n)), (3, .ref q_21), (2, .ref r_17), (0, .ref m9), (1, .ref q_1)] := hl
                    have hcap : n < 2 * n := by omega
                    refine lv_aload_n hx hb dX23_block_133 rfl (lv_at hl 4 rfl) ?_
                    refine lv_aload_n hx hb dX23_block_134 rfl (lv_at hl 1 rfl) ?_
                    refine va_put (D := (dC, dI)) (ci := 14) (v := .ref q_21) (ty := (.array (.object "OwnedPlacesModel$Statement"))) (C := RX14) (T := TX14) (N := 4) hx hb hts in_c_vbl_X14 tyX14 tyX14_ok nmX14 hown hK hP hD hS 0 rfl rfl 2 (by decide) (hts (.fieldLink RX23 245 "OwnedPlacesModel$Block" "list" "[LOwnedPlacesModel$Statement;") (wm_c_vbl 173 rfl)) (fun _ h9 => h9) rfl (by decide +kernel) rfl rfl (Nat.le_of_ble_eq_true rfl) dX23_block_135 (fun H locs hP hD hS => ?_)
                    replace hP : va_P (dC, dI) vwCl (([(q_1, .inr (14, [.int (nI pp), .int 0, .ref q_21, .int (nI n)])), (la, .inl (kS, cp, .inr (.inr (.inr (.inr f))))), (m9, .inr (23, mA mr mv vf xl (nI zs) ff16 xa16 (nI T) (nI pp16) xi xt xn (nI (ns + 1)) (nI vv16) (nI bb16))), (mr 5, .inl (kI, 3002, .inl fk)), (mr 6, .inl (kI, 3002, .inl fa)), (mr 8, .inl (kL, 3002, .inr (.inl fn))), (q_21, .inl (kS, 2 * n, .inr (.inr (.inr (.inr h1)))))] : va_W) ++ (sT L16 F16)) H := hP
                    replace hD : va_D A (([(q_1, .inr (14, [.int (nI pp), .int 0, .ref q_21, .int (nI n)])), (la, .inl (kS, cp, .inr (.inr (.inr (.inr f))))), (m9, .inr (23, mA mr mv vf xl (nI zs) ff16 xa16 (nI T) (nI pp16) xi xt xn (nI (ns + 1)) (nI vv16) (nI bb16))), (mr 5, .inl (kI, 3002, .inl fk)), (mr 6, .inl (kI, 3002, .inl fa)), (mr 8, .inl (kL, 3002, .inr (.inl fn))), (q_21, .inl (kS, 2 * n, .inr (.inr (.inr (.inr h1)))))] : va_W) ++ (sT L16 F16)) := hD
                    refine lv_aload_n hx hb dX23_block_138 rfl (lv_at hl 4 rfl) ?_
                    refine va_get (D := (dC, dI)) (ci := 14) (v := .ref q_21) (C := RX14) (T := TX14) (N := 4) hx hb hts in_c_vbl_X14 hown hK hP 0 rfl rfl 2 (by decide) (hts (.fieldLink RX23 245 "OwnedPlacesModel$Block" "list" "[LOwnedPlacesModel$Statement;") (wm_c_vbl 173 rfl)) (fun _ h9 => h9) rfl dX23_block_139 ?_
                    refine lv_aload_n hx hb dX23_block_142 rfl (lv_at hl 4 rfl) ?_
                    refine va_get (D := (dC, dI)) (ci := 14) (v := .int (nI n)) (C := RX14) (T := TX14) (N := 4) hx hb hts in_c_vbl_X14 hown hK hP 0 rfl rfl 3 (by decide) (hts (.fieldLink RX23 244 "OwnedPlacesModel$Block" "many" "I") (wm_c_vbl 172 rfl)) (fun _ h9 => h9) rfl dX23_block_143 ?_
                    refine lv_aload_n hx hb dX23_block_146 rfl (lv_at hl 2 rfl) ?_
                    obtain ⟨vs9, hvs9⟩ := (hf17_0.2).2
                    obtain ⟨qk9, hqk9⟩ := List.mem_iff_getElem?.mp (List.mem_append_right ([(q_1, .inr (14, [.int (nI pp), .int 0, .ref q_21, .int (nI n)])), (la, .inl (kS, cp, .inr (.inr (.inr (.inr f))))), (m9, .inr (23, mA mr mv vf xl (nI zs) ff16 xa16 (nI T) (nI pp16) xi xt xn (nI (ns + 1)) (nI vv16) (nI bb16))), (mr 5, .inl (kI, 3002, .inl fk)), (mr 6, .inl (kI, 3002, .inl fa)), (mr 8, .inl (kL, 3002, .inr (.inl fn))), (q_21, .inl (kS, 2 * n, .inr (.inr (.inr (.inr h1)))))]) (sT_mem (F := F16) (hf17_0.2).1))
                    rw [hvs9] at hqk9
                    refine va_astq (r := (RX19, TX19, 14)) hx hb hK hP hD hS 6 3 qk9 19 rfl rfl hqk9 rfl (vp_in_nI (n := n) hcap (by omega)) dX23_block_147 (fun H locs hP hD hS => ?_)
                    replace hP : va_P (dC, dI) vwCl (([(q_1, .inr (14, [.int (nI pp), .int 0, .ref q_21, .int (nI n)])), (la, .inl (kS, cp, .inr (.inr (.inr (.inr f))))), (m9, .inr (23, mA mr mv vf xl (nI zs) ff16 xa16 (nI T) (nI pp16) xi xt xn (nI (ns + 1)) (nI vv16) (nI bb16))), (mr 5, .inl (kI, 3002, .inl fk)), (mr 6, .inl (kI, 3002, .inl fa)), (mr 8, .inl (kL, 3002, .inr (.inl fn))), (q_21, .inl (kS, 2 * n, .inr (.inr (.inr (.inr (va_up h1 (nI n : Int32).toNatClampNeg (some r_17)))))))] : va_W) ++ (sT L16 F16)) H := hP
                    replace hD : va_D A (([(q_1, .inr (14, [.int (nI pp), .int 0, .ref q_21, .int (nI n)])), (la, .inl (kS, cp, .inr (.inr (.inr (.inr f))))), (m9, .inr (23, mA mr mv vf xl (nI zs) ff16 xa16 (nI T) (nI pp16) xi xt xn (nI (ns + 1)) (nI vv16) (nI bb16))), (mr 5, .inl (kI, 3002, .inl fk)), (mr 6, .inl (kI, 3002, .inl fa)), (mr 8, .inl (kL, 3002, .inr (.inl fn))), (q_21, .inl (kS, 2 * n, .inr (.inr (.inr (.inr (va_up h1 (nI n : Int32).toNatClampNeg (some r_17)))))))] : va_W) ++ (sT L16 F16)) := hD
                    obtain ⟨fA, efA⟩ : ∃ zZ : Nat → Option Nat, zZ = va_up h1 (nI n : Int32).toNatClampNeg (some r_17) := ⟨_, rfl⟩
                    rw [← efA] at hP hD
                    have hfA : fA = va_up h1 n (some r_17) := by rw [efA, nI_clamp (by omega)]
                    refine lv_aload_n hx hb dX23_block_148 rfl (lv_at hl 4 rfl) ?_
                    refine lv_dup hx hb dX23_block_149 rfl ?_
                    refine va_get (D := (dC, dI)) (ci := 14) (v := .int (nI n)) (C := RX14) (T := TX14) (N := 4) hx hb hts in_c_vbl_X14 hown hK hP 0 rfl rfl 3 (by decide) (hts (.fieldLink RX23 244 "OwnedPlacesModel$Block" "many" "I") (wm_c_vbl 172 rfl)) (fun _ h9 => h9) rfl dX23_block_150 ?_
                    refine lv_iconst (v := 1) hx hb dX23_block_153 (by decide) ?_
                    refine lv_iadd hx hb dX23_block_154 ?_
                    refine lv_topi (fun f_23 ef_23 => ?_)
                    obtain rfl : f_23 = nI (n + 1) := ef_23.trans (nI_1 _)
                    refine va_put (D := (dC, dI)) (ci := 14) (v := .int (nI (n + 1))) (ty := .int) (C := RX14) (T := TX14) (N := 4) hx hb hts in_c_vbl_X14 tyX14 tyX14_ok nmX14 hown hK hP hD hS 0 rfl rfl 3 (by decide) (hts (.fieldLink RX23 244 "OwnedPlacesModel$Block" "many" "I") (wm_c_vbl 172 rfl)) (fun _ h9 => h9) rfl (by decide +kernel) rfl rfl (Nat.le_of_ble_eq_true rfl) dX23_block_155 (fun H locs hP hD hS => ?_)
                    replace hP : va_P (dC, dI) vwCl (([(q_1, .inr (14, [.int (nI pp), .int 0, .ref q_21, .int (nI (n + 1))])), (la, .inl (kS, cp, .inr (.inr (.inr (.inr f))))), (m9, .inr (23, mA mr mv vf xl (nI zs) ff16 xa16 (nI T) (nI pp16) xi xt xn (nI (ns + 1)) (nI vv16) (nI bb16))), (mr 5, .inl (kI, 3002, .inl fk)), (mr 6, .inl (kI, 3002, .inl fa)), (mr 8, .inl (kL, 3002, .inr (.inl fn))), (q_21, .inl (kS, 2 * n, .inr (.inr (.inr (.inr fA)))))] : va_W) ++ (sT L16 F16)) H := hP
                    replace hD : va_D A (([(q_1, .inr (14, [.int (nI pp), .int 0, .ref q_21, .int (nI (n + 1))])), (la, .inl (kS, cp, .inr (.inr (.inr (.inr f))))), (m9, .inr (23, mA mr mv vf xl (nI zs) ff16 xa16 (nI T) (nI pp16) xi xt xn (nI (ns + 1)) (nI vv16) (nI bb16))), (mr 5, .inl (kI, 3002, .inl fk)), (mr 6, .inl (kI, 3002, .inl fa)), (mr 8, .inl (kL, 3002, .inr (.inl fn))), (q_21, .inl (kS, 2 * n, .inr (.inr (.inr (.inr fA)))))] : va_W) ++ (sT L16 F16)) := hD
                    refine lv_goto (tgt := 61) hx hb dX23_block_158 (by decide) ?_
                    by_cases hz_24 : ff16 = 0
                    · subst hz_24
                      have hg16 := hf17_3 rfl
                      have hlthg16 := (isN_lt hg16.2.2).2
                      have ezxg16 : xg16 = 0 := hf17_2.2 rfl
                      subst hQ2
                      refine W.widen (k := (8 * (pp16 - pp) - 6 - 2 * (n + 1))) (n := (120 * (pp16 - pp) + 2 * (2 * n) - 116 - 50 * (n + 1))) (by omega) (by omega) ?_
                      exact ih1 pp16 bb16 vv16 q_21 (2 * n) (n + 1) xa16 L16 F16 fA _ _ _ (⟨by omega, by omega, by omega, by omega, by omega, by omega, by omega, by omega, by omega, by omega, hT, hg16.1, hg16.2.1⟩) (hr1.tr hf17_0.1) (fun i hi => by
                          by_cases e9 : i = n
                          · subst e9; exact ⟨_, by rw [hfA]; exact vu_s, hf17_0.2⟩
                          · obtain ⟨x9, y9, z9⟩ := hr2 i (by omega); exact ⟨x9, (show fA i = h1 i by rw [hfA]; exact vu_n e9).trans ((hb1 i (by omega)).trans y9), oN_ex hf17_0.1 z9⟩) (chN_add (chN_im (fun y p q b c v w z => isN_im hf17_0.1 _ (Nat.le_refl _) z) hr3) (fun i hi => (show fA i = h1 i by rw [hfA]; exact vu_n (by omega)).trans (hb1 i hi)) (by rw [hfA]; exact vu_s) (isN_im exS.rf _ (by omega) hg16.2.2)) (hP.subT [0, 6, 2, 3, 4, 5] rfl) (hD.subT [0, 6, 2, 3, 4, 5] (by decide) rfl) hS (lv_sub hl [3, 4] rfl)
                    · refine lv_aload_n hx hb dX23_block_61 rfl (lv_at hl 3 rfl) ?_
                      replace hPc := hP.subF (f' := [(m9, .inr (23, mA mr mv vf xl (nI zs) ff16 xa16 (nI T) (nI pp16) xi xt xn (nI (ns + 1)) (nI vv16) (nI bb16)))]) [2] rfl
                      replace hDc := hD.subF (f' := [(m9, .inr (23, mA mr mv vf xl (nI zs) ff16 xa16 (nI T) (nI pp16) xi xt xn (nI (ns + 1)) (nI vv16) (nI bb16)))]) [2] (by decide) rfl
                      replace hKc := hK.sub (tys' := []) [] rfl
                      replace hFc := va_freeT (wc := [(m9, .inr (23, mA mr mv vf xl (nI zs) ff16 xa16 (nI T) (nI pp16) xi xt xn (nI (ns + 1)) (nI vv16) (nI bb16)))]) hD hS hA [2] rfl
                      refine va_calli (va_runV (As := []) (rest := []) ⟨hx, hb, hml, hown, hts⟩ (c_rokB l dC dI m9 mr mv vf xl xa16 xi xt xn zs T pp16 (ns + 1) vv16 bb16 kI fk fa ff16 H.size hz_24) (cwV 0 hts g_c_vbl_c_rokB_62 rfl rfl rfl (by decide +kernel) ⟨by show 0 + 1 ≤ 2 + 14 * k; omega, by show 8 + (1 + 11) + (0) ≤ 43 + 323 * k; omega⟩) ⟨fun a U g mk q => by obtain ⟨q0, q1, qP, qK, qD⟩ := q; exact ⟨q0, q1, qP, va_K.moved (u := U) (U := U.calling g mk a) (Vm.Alike.refl U.vm) qK, qD⟩, va_recv hKc hPc (ci := 23) (q0 := 0) rfl rfl, fun U hU hW => ⟨rfl, by rw [hU], by rw [hU]; exact hPc, va_K.moved hW.alike hKc, hDc.weaken (fun _ _ _ _ => trivial)⟩⟩ rfl rfl hl.1 rfl (lv_room (Nat.le_of_ble_eq_true rfl)) dX23_block_62 ⟨(show (((8 * (pp1 - pp) - 6 - 2 * n) + (8 * (pp16 - pp1) + 10 * xg16 - 3)) + 1) + 0 ≤ (8 * (T - pp) + 12) by omega), (show (((120 * (pp1 - pp) + 2 * cp - 116 - 50 * n) + (120 * (pp16 - pp1) + 160 * xg16 - 50)) + (2 * n)) + 0 ≤ (120 * (T - pp) + 460) by omega)⟩) hS (fun q _ h => hFc q h) hFc (fun r_25 u tS H1 locs ht hvm hw hB hz1 hk1 hS => ?_)
                      obtain ⟨hP1, hK1, hD1⟩ := hB
                      rw [ht] at hP1
                      replace hK1 := va_K.moved hvm.symm hK1
                      obtain ⟨hPj, hDj⟩ := va_joinT (wr := [(q_1, .inr (14, [.int (nI pp), .int 0, .ref q_21, .int (nI (n + 1))])), (la, .inl (kS, cp, .inr (.inr (.inr (.inr f))))), (mr 5, .inl (kI, 3002, .inl fk)), (mr 6, .inl (kI, 3002, .inl fa)), (mr 8, .inl (kL, 3002, .inr (.inl fn))), (q_21, .inl (kS, 2 * n, .inr (.inr (.inr (.inr fA)))))]) (w1 := [(m9, .inr (23, mA mr mv vf xl (nI zs) ff16 xa16 (nI T) (nI pp16) xi xt xn (nI (ns + 1)) (nI vv16) (nI bb16)))]) hP hD [2] [0, 1, 3, 4, 5, 6] rfl rfl (by decide) (by decide) hk1 hFc hP1 hD1
                      replace hP := hPj
                      replace hD := hDj
                      clear hPj hDj
                      generalize H1 = H at hP hS ⊢
                      replace hP : va_P (dC, dI) vwCl (([(q_1, .inr (14, [.int (nI pp), .int 0, .ref q_21, .int (nI (n + 1))])), (la, .inl (kS, cp, .inr (.inr (.inr (.inr f))))), (mr 5, .inl (kI, 3002, .inl fk)), (mr 6, .inl (kI, 3002, .inl fa)), (mr 8, .inl (kL, 3002, .inr (.inl fn))), (q_21, .inl (kS, 2 * n, .inr (.inr (.inr (.inr fA))))), (m9, .inr (23, mA mr mv vf xl (nI zs) ff16 xa16 (nI T) (nI pp16) xi xt xn (nI (ns + 1)) (nI vv16) (nI bb16)))] : va_W) ++ (sT L16 F16)) H := hP
                      replace hD : va_D A (([(q_1, .inr (14, [.int (nI pp), .int 0, .ref q_21, .int (nI (n + 1))])), (la, .inl (kS, cp, .inr (.inr (.inr (.inr f))))), (mr 5, .inl (kI, 3002, .inl fk)), (mr 6, .inl (kI, 3002, .inl fa)), (mr 8, .inl (kL, 3002, .inr (.inl fn))), (q_21, .inl (kS, 2 * n, .inr (.inr (.inr (.inr fA))))), (m9, .inr (23, mA mr mv vf xl (nI zs) ff16 xa16 (nI T) (nI pp16) xi xt xn (nI (ns + 1)) (nI vv16) (nI bb16)))] : va_W) ++ (sT L16 F16)) := hD
                      replace hK : va_K (dC, dI) vwCl [(kI, .int), (kL, .long), (kE, .object RX15), (kS, .object RX19), (kB, .object RX14), (kA, .object RX13), (kV, .object RX21)] s := hK
                      clear hz1 hk1 hPc hDc hKc hFc hP1 hD1 hK1
                      obtain rfl : r_25 = 0 := hw
                      refine lv_if_eq (tgt := 161) hx hb dX23_block_65 (by decide) (fun _ => ?_) (fun c_26 => absurd (by decide) c_26)
                      refine lv_aload_n hx hb dX23_block_161 rfl (lv_at hl 3 rfl) ?_
                      refine lv_dup hx hb dX23_block_162 rfl ?_
                      refine va_get (D := (dC, dI)) (ci := 23) (v := .int (nI (ns + 1))) (C := RX23) (T := TX23) (N := 89) hx hb hts in_c_vbl_X23 hown hK hP 6 rfl rfl 15 (by decide) (hts (.fieldLink RX23 104 "OwnedPlacesModel" "nest" "I") (wm_c_vbl 25 rfl)) (fun _ h9 => h9) rfl dX23_block_163 ?_
                      refine lv_iconst (v := 1) hx hb dX23_block_166 (by decide) ?_
                      refine lv_isub hx hb dX23_block_167 ?_
                      refine lv_topi (fun f_27 ef_27 => ?_)
                      obtain rfl : f_27 = nI ns := ef_27.trans (nI_pred _)
                      refine va_put (D := (dC, dI)) (ci := 23) (v := .int (nI ns)) (ty := .int) (C := RX23) (T := TX23) (N := 89) hx hb hts in_c_vbl_X23 tyX23 tyX23_ok nmX23 hown hK hP hD hS 6 rfl rfl 15 (by decide) (hts (.fieldLink RX23 104 "OwnedPlacesModel" "nest" "I") (wm_c_vbl 25 rfl)) (fun _ h9 => h9) rfl (by decide +kernel) rfl rfl (Nat.le_of_ble_eq_true rfl) dX23_block_168 (fun H locs hP hD hS => ?_)
                      replace hP : va_P (dC, dI) vwCl (([(q_1, .inr (14, [.int (nI pp), .int 0, .ref q_21, .int (nI (n + 1))])), (la, .inl (kS, cp, .inr (.inr (.inr (.inr f))))), (mr 5, .inl (kI, 3002, .inl fk)), (mr 6, .inl (kI, 3002, .inl fa)), (mr 8, .inl (kL, 3002, .inr (.inl fn))), (q_21, .inl (kS, 2 * n, .inr (.inr (.inr (.inr fA))))), (m9, .inr (23, mA mr mv vf xl (nI zs) ff16 xa16 (nI T) (nI pp16) xi xt xn (nI ns) (nI vv16) (nI bb16)))] : va_W) ++ (sT L16 F16)) H := hP
                      replace hD : va_D A (([(q_1, .inr (14, [.int (nI pp), .int 0, .ref q_21, .int (nI (n + 1))])), (la, .inl (kS, cp, .inr (.inr (.inr (.inr f))))), (mr 5, .inl (kI, 3002, .inl fk)), (mr 6, .inl (kI, 3002, .inl fa)), (mr 8, .inl (kL, 3002, .inr (.inl fn))), (q_21, .inl (kS, 2 * n, .inr (.inr (.inr (.inr fA))))), (m9, .inr (23, mA mr mv vf xl (nI zs) ff16 xa16 (nI T) (nI pp16) xi xt xn (nI ns) (nI vv16) (nI bb16)))] : va_W) ++ (sT L16 F16)) := hD
                      refine lv_aload_n hx hb dX23_block_171 rfl (lv_at hl 4 rfl) ?_
                      refine lv_aload_n hx hb dX23_block_172 rfl (lv_at hl 3 rfl) ?_
                      refine va_get (D := (dC, dI)) (ci := 23) (v := .int (nI pp16)) (C := RX23) (T := TX23) (N := 89) hx hb hts in_c_vbl_X23 hown hK hP 6 rfl rfl 10 (by decide) (hts (.fieldLink RX23 86 "OwnedPlacesModel" "p" "I") (wm_c_vbl 17 rfl)) (fun _ h9 => h9) rfl dX23_block_173 ?_
                      refine va_put (D := (dC, dI)) (ci := 14) (v := .int (nI pp16)) (ty := .int) (C := RX14) (T := TX14) (N := 4) hx hb hts in_c_vbl_X14 tyX14 tyX14_ok nmX14 hown hK hP hD hS 0 rfl rfl 1 (by decide) (hts (.fieldLink RX23 251 "OwnedPlacesModel$Block" "end" "I") (wm_c_vbl 39 rfl)) (fun _ h9 => h9) rfl (by decide +kernel) rfl rfl (Nat.le_of_ble_eq_true rfl) dX23_block_176 (fun H locs hP hD hS => ?_)
                      replace hP : va_P (dC, dI) vwCl (([(q_1, .inr (14, [.int (nI pp), .int (nI pp16), .ref q_21, .int (nI (n + 1))])), (la, .inl (kS, cp, .inr (.inr (.inr (.inr f))))), (mr 5, .inl (kI, 3002, .inl fk)), (mr 6, .inl (kI, 3002, .inl fa)), (mr 8, .inl (kL, 3002, .inr (.inl fn))), (q_21, .inl (kS, 2 * n, .inr (.inr (.inr (.inr fA))))), (m9, .inr (23, mA mr mv vf xl (nI zs) ff16 xa16 (nI T) (nI pp16) xi xt xn (nI ns) (nI vv16) (nI bb16)))] : va_W) ++ (sT L16 F16)) H := hP
                      replace hD : va_D A (([(q_1, .inr (14, [.int (nI pp), .int (nI pp16), .ref q_21, .int (nI (n + 1))])), (la, .inl (kS, cp, .inr (.inr (.inr (.inr f))))), (mr 5, .inl (kI, 3002, .inl fk)), (mr 6, .inl (kI, 3002, .inl fa)), (mr 8, .inl (kL, 3002, .inr (.inl fn))), (q_21, .inl (kS, 2 * n, .inr (.inr (.inr (.inr fA))))), (m9, .inr (23, mA mr mv vf xl (nI zs) ff16 xa16 (nI T) (nI pp16) xi xt xn (nI ns) (nI vv16) (nI bb16)))] : va_W) ++ (sT L16 F16)) := hD
                      refine lv_aload_n hx hb dX23_block_179 rfl (lv_at hl 3 rfl) ?_
                      refine lv_bipush (v := 64) hx hb dX23_block_180 (by decide) ?_
                      replace hPc := hP.subF (f' := [(m9, .inr (23, mA mr mv vf xl (nI zs) ff16 xa16 (nI T) (nI pp16) xi xt xn (nI ns) (nI vv16) (nI bb16))), (mr 5, .inl (kI, 3002, .inl fk)), (mr 6, .inl (kI, 3002, .inl fa))]) [6, 2, 3] rfl
                      replace hDc := hD.subF (f' := [(m9, .inr (23, mA mr mv vf xl (nI zs) ff16 xa16 (nI T) (nI pp16) xi xt xn (nI ns) (nI vv16) (nI bb16))), (mr 5, .inl (kI, 3002, .inl fk)), (mr 6, .inl (kI, 3002, .inl fa))]) [6, 2, 3] (by decide) rfl
                      replace hKc := hK.sub (tys' := [(kI, .int)]) [0] rfl
                      replace hFc := va_freeT (wc := [(m9, .inr (23, mA mr mv vf xl (nI zs) ff16 xa16 (nI T) (nI pp16) xi xt xn (nI ns) (nI vv16) (nI bb16))), (mr 5, .inl (kI, 3002, .inl fk)), (mr 6, .inl (kI, 3002, .inl fa))]) hD hS hA [6, 2, 3] rfl
                      refine va_callv (va_runV (As := [.int 64]) (rest := []) ⟨hx, hb, hml, hown, hts⟩ (c_rtkB l dC dI m9 mr mv vf xl xa16 xi xt xn zs T pp16 ns vv16 bb16 kI fk fa ff16 64 H.size hz_24) (cwV 1 hts g_c_vbl_c_rtkB_182 rfl rfl rfl (by decide +kernel) ⟨by show 1 + 1 ≤ 2 + 14 * k; omega, by show 8 + (2 + 11) + (20) ≤ 43 + 323 * k; omega⟩) ⟨fun a U g mk q => by obtain ⟨q0, q1, qP, qK, qD⟩ := q; exact ⟨q0, q1, qP, va_K.moved (u := U) (U := U.calling g mk a) (Vm.Alike.refl U.vm) qK, qD⟩, va_recv hKc hPc (ci := 23) (q0 := 0) rfl rfl, fun U hU hW => ⟨rfl, by rw [hU], by rw [hU]; exact hPc, va_K.moved hW.alike hKc, hDc.weaken (fun _ _ _ _ => trivial)⟩⟩ rfl rfl hl.1 rfl (lv_room (Nat.le_of_ble_eq_true rfl)) dX23_block_182 ⟨(show (((8 * (pp1 - pp) - 6 - 2 * n) + (8 * (pp16 - pp1) + 10 * xg16 - 3)) + 1) + 0 ≤ (8 * (T - pp) + 12) by omega), (show (((120 * (pp1 - pp) + 2 * cp - 116 - 50 * n) + (120 * (pp16 - pp1) + 160 * xg16 - 50)) + (2 * n)) + 0 ≤ (120 * (T - pp) + 460) by omega)⟩) hS (fun q _ h => hFc q h) hFc (fun u tS H1 locs ht hvm hw hB hz1 hk1 hS => ?_)
                      obtain ⟨hP1, hK1, hD1⟩ := hB
                      rw [ht] at hP1
                      replace hK1 := va_K.moved hvm.symm hK1
                      obtain ⟨hPj, hDj⟩ := va_joinT (wr := [(q_1, .inr (14, [.int (nI pp), .int (nI pp16), .ref q_21, .int (nI (n + 1))])), (la, .inl (kS, cp, .inr (.inr (.inr (.inr f))))), (mr 8, .inl (kL, 3002, .inr (.inl fn))), (q_21, .inl (kS, 2 * n, .inr (.inr (.inr (.inr fA)))))]) (w1 := [(m9, .inr (23, mA mr mv vf xl (nI zs) ff16 xa16 (nI T) (nI pp16) xi xt xn (nI ns) (nI vv16) (nI bb16))), (mr 5, .inl (kI, 3002, .inl fk)), (mr 6, .inl (kI, 3002, .inl fa))]) hP hD [6, 2, 3] [0, 1, 4, 5] rfl rfl (by decide) (by decide) hk1 hFc hP1 hD1
                      replace hP := hPj
                      replace hD := hDj
                      clear hPj hDj
                      replace hK := hK.app hK1
                      generalize H1 = H at hP hS ⊢
                      replace hP : va_P (dC, dI) vwCl (([(q_1, .inr (14, [.int (nI pp), .int (nI pp16), .ref q_21, .int (nI (n + 1))])), (la, .inl (kS, cp, .inr (.inr (.inr (.inr f))))), (mr 8, .inl (kL, 3002, .inr (.inl fn))), (q_21, .inl (kS, 2 * n, .inr (.inr (.inr (.inr fA))))), (m9, .inr (23, mA mr mv vf xl (nI zs) ff16 xa16 (nI T) (nI pp16) xi xt xn (nI ns) (nI vv16) (nI bb16))), (mr 5, .inl (kI, 3002, .inl fk)), (mr 6, .inl (kI, 3002, .inl fa))] : va_W) ++ (sT L16 F16)) H := hP
                      replace hD : va_D A (([(q_1, .inr (14, [.int (nI pp), .int (nI pp16), .ref q_21, .int (nI (n + 1))])), (la, .inl (kS, cp, .inr (.inr (.inr (.inr f))))), (mr 8, .inl (kL, 3002, .inr (.inl fn))), (q_21, .inl (kS, 2 * n, .inr (.inr (.inr (.inr fA))))), (m9, .inr (23, mA mr mv vf xl (nI zs) ff16 xa16 (nI T) (nI pp16) xi xt xn (nI ns) (nI vv16) (nI bb16))), (mr 5, .inl (kI, 3002, .inl fk)), (mr 6, .inl (kI, 3002, .inl fa))] : va_W) ++ (sT L16 F16)) := hD
                      replace hK : va_K (dC, dI) vwCl [(kI, .int), (kL, .long), (kE, .object RX15), (kS, .object RX19), (kB, .object RX14), (kA, .object RX13), (kV, .object RX21), (kI, .int)] s := hK
                      replace hK := hK.sub (tys' := [(kI, .int), (kL, .long), (kE, .object RX15), (kS, .object RX19), (kB, .object RX14), (kA, .object RX13), (kV, .object RX21)]) [0, 1, 2, 3, 4, 5, 6] rfl
                      clear hz1 hk1 hPc hDc hKc hFc hP1 hD1 hK1
                      refine lv_aload_n hx hb dX23_block_185 rfl (lv_at hl 4 rfl) ?_
                      replace hP : va_P (dC, dI) vwCl ((([(la, .inl (kS, cp, .inr (.inr (.inr (.inr f))))), (mr 8, .inl (kL, 3002, .inr (.inl fn))), (m9, .inr (23, mA mr mv vf xl (nI zs) ff16 xa16 (nI T) (nI pp16) xi xt xn (nI ns) (nI vv16) (nI bb16))), (mr 5, .inl (kI, 3002, .inl fk)), (mr 6, .inl (kI, 3002, .inl fa))] : va_W) ++ ([(q_1, .inr (14, [.int (nI pp), .int (nI pp16), .ref q_21, .int (nI (n + 1))])), (q_21, .inl (kS, 2 * n, .inr (.inr (.inr (.inr fA)))))] : va_W)) ++ sT L16 F16) H := hP.subT (f' := [(la, .inl (kS, cp, .inr (.inr (.inr (.inr f))))), (mr 8, .inl (kL, 3002, .inr (.inl fn))), (m9, .inr (23, mA mr mv vf xl (nI zs) ff16 xa16 (nI T) (nI pp16) xi xt xn (nI ns) (nI vv16) (nI bb16))), (mr 5, .inl (kI, 3002, .inl fk)), (mr 6, .inl (kI, 3002, .inl fa)), (q_1, .inr (14, [.int (nI pp), .int (nI pp16), .ref q_21, .int (nI (n + 1))])), (q_21, .inl (kS, 2 * n, .inr (.inr (.inr (.inr fA)))))]) [1, 2, 4, 5, 6, 0, 3] rfl
                      replace hD : va_D A ((([(la, .inl (kS, cp, .inr (.inr (.inr (.inr f))))), (mr 8, .inl (kL, 3002, .inr (.inl fn))), (m9, .inr (23, mA mr mv vf xl (nI zs) ff16 xa16 (nI T) (nI pp16) xi xt xn (nI ns) (nI vv16) (nI bb16))), (mr 5, .inl (kI, 3002, .inl fk)), (mr 6, .inl (kI, 3002, .inl fa))] : va_W) ++ ([(q_1, .inr (14, [.int (nI pp), .int (nI pp16), .ref q_21, .int (nI (n + 1))])), (q_21, .inl (kS, 2 * n, .inr (.inr (.inr (.inr fA)))))] : va_W)) ++ sT L16 F16) := hD.subT (f' := [(la, .inl (kS, cp, .inr (.inr (.inr (.inr f))))), (mr 8, .inl (kL, 3002, .inr (.inl fn))), (m9, .inr (23, mA mr mv vf xl (nI zs) ff16 xa16 (nI T) (nI pp16) xi xt xn (nI ns) (nI vv16) (nI bb16))), (mr 5, .inl (kI, 3002, .inl fk)), (mr 6, .inl (kI, 3002, .inl fa)), (q_1, .inr (14, [.int (nI pp), .int (nI pp16), .ref q_21, .int (nI (n + 1))])), (q_21, .inl (kS, 2 * n, .inr (.inr (.inr (.inr fA)))))]) [1, 2, 4, 5, 6, 0, 3] (by decide) rfl
                      obtain ⟨L9, F9, hx9, hm9, hP, hD⟩ := st_fileL [(q_1, .inr (14, [.int (nI pp), .int (nI pp16), .ref q_21, .int (nI (n + 1))])), (q_21, .inl (kS, 2 * n, .inr (.inr (.inr (.inr fA)))))] hP hD
                      have hm9_0 := hm9 _ (List.mem_of_getElem? (i := 0) rfl)
                      have hm9_1 := hm9 _ (List.mem_of_getElem? (i := 1) rfl)
                      refine W.grow (fun hgs0 hgs1 => ?_)
                      have hP9 := hP.subT (f' := [(m9, .inr (23, mA mr mv vf xl (nI zs) ff16 xa16 (nI T) (nI pp16) xi xt xn (nI ns) (nI vv16) (nI bb16))), (mr 5, .inl (kI, 3002, .inl fk)), (mr 6, .inl (kI, 3002, .inl fa)), (mr 8, .inl (kL, 3002, .inr (.inl fn)))]) [2, 3, 4, 1] rfl
                      have hD9 := hD.subT (f' := [(m9, .inr (23, mA mr mv vf xl (nI zs) ff16 xa16 (nI T) (nI pp16) xi xt xn (nI ns) (nI vv16) (nI bb16))), (mr 5, .inl (kI, 3002, .inl fk)), (mr 6, .inl (kI, 3002, .inl fa)), (mr 8, .inl (kL, 3002, .inr (.inl fn)))]) [2, 3, 4, 1] (by decide) rfl
                      have hK9 := hK.sub (tys' := [(kI, .int), (kL, .long), (kE, .object RX15), (kS, .object RX19), (kB, .object RX14), (kA, .object RX13), (kV, .object RX21)]) [0, 1, 2, 3, 4, 5, 6] rfl
                      refine W.widen (k := (8 * (T - pp) + 12)) (n := (120 * (T - pp) + 460)) (by omega) (by omega) ?_
                      subst hQ2
                      subst hQ1
                      exact W.aret hx hb hr (Or.inl ⟨_, rfl⟩) (Or.inr ⟨q_1, rfl⟩) (fun tS ht hW => ⟨⟨(), q_1, rfl, trivial, L9, F9, ff16, xa16, pp16, bb16, vv16, 1, ⟨((hr1).tr hf17_0.1).tr hx9, hm9_0.1, _, hm9_0.2⟩, ⟨by omega, by omega, by omega, by omega, by omega, by omega⟩, ⟨by omega, fun q9 => absurd q9 hz_24⟩, (fun q9 => absurd q9 hz_24), by rw [ht]; exact ⟨by omega, by omega⟩, by rw [ht]; exact hP9, va_K.moved hW.alike hK9, hD9⟩, hS.F ht⟩) hS.2.2 dX23_block_186
                  · have hin : i < n := by rcases Nat.lt_or_ge i n with z9 | z9; exact z9; exact absurd (nI_le z9 (by omega)) hk
                    obtain ⟨x8i, hx8i, hx8o⟩ := hxs9 i hin
                    refine lv_aload_n hx hb dX23_block_116 rfl (lv_at hl 1 rfl) ?_
                    refine lv_iload hx hb dX23_block_117 (lv_at hl 0 rfl) ?_
                    refine lv_aload_n hx hb dX23_block_119 rfl (lv_at hl 4 rfl) ?_
                    refine va_get (D := (dC, dI)) (ci := 14) (v := .ref la) (C := RX14) (T := TX14) (N := 4) hx hb hts in_c_vbl_X14 hown hK hP 0 rfl rfl 2 (by decide) (hts (.fieldLink RX23 245 "OwnedPlacesModel$Block" "list" "[LOwnedPlacesModel$Statement;") (wm_c_vbl 173 rfl)) (fun _ h9 => h9) rfl dX23_block_120 ?_
                    refine lv_iload hx hb dX23_block_123 (lv_at hl 0 rfl) ?_
                    refine va_aldq hx hb hK hP 1 3 rfl rfl (vp_in_nI (show i < cp by omega) (by omega)) dX23_block_125 ?_
                    refine W.eq (g2 := F0 m 126 ls (.ref x8i :: [.int (nI i), .ref q_21])) (by show F0 m _ ls (va_rf _ :: _) = _; rw [nI_clamp (show i < 2 ^ 31 by omega), hx8i]; rfl) ?_
                    obtain ⟨vs9, hvs9⟩ := (hx8o).2
                    obtain ⟨qk9, hqk9⟩ := List.mem_iff_getElem?.mp (List.mem_append_right ([(q_1, .inr (14, [.int (nI pp), .int 0, .ref la, .int (nI n)])), (la, .inl (kS, cp, .inr (.inr (.inr (.inr f))))), (m9, .inr (23, mA mr mv vf xl (nI zs) ff16 xa16 (nI T) (nI pp16) xi xt xn (nI (ns + 1)) (nI vv16) (nI bb16))), (mr 5, .inl (kI, 3002, .inl fk)), (mr 6, .inl (kI, 3002, .inl fa)), (mr 8, .inl (kL, 3002, .inr (.inl fn))), (q_21, .inl (kS, 2 * n, .inr (.inr (.inr (.inr h1)))))]) (sT_mem (F := F16) (hx8o).1))
                    rw [hvs9] at hqk9
                    refine va_astq (r := (RX19, TX19, 14)) hx hb hK hP hD hS 6 3 qk9 19 rfl rfl hqk9 rfl (vp_in_nI (show i < 2 * n by omega) (by omega)) dX23_block_126 (fun H locs hP hD hS => ?_)
                    replace hP : va_P (dC, dI) vwCl (([(q_1, .inr (14, [.int (nI pp), .int 0, .ref la, .int (nI n)])), (la, .inl (kS, cp, .inr (.inr (.inr (.inr f))))), (m9, .inr (23, mA mr mv vf xl (nI zs) ff16 xa16 (nI T) (nI pp16) xi xt xn (nI (ns + 1)) (nI vv16) (nI bb16))), (mr 5, .inl (kI, 3002, .inl fk)), (mr 6, .inl (kI, 3002, .inl fa)), (mr 8, .inl (kL, 3002, .inr (.inl fn))), (q_21, .inl (kS, 2 * n, .inr (.inr (.inr (.inr (va_up h1 (nI i : Int32).toNatClampNeg (some x8i)))))))] : va_W) ++ (sT L16 F16)) H := hP
                    replace hD : va_D A (([(q_1, .inr (14, [.int (nI pp), .int 0, .ref la, .int (nI n)])), (la, .inl (kS, cp, .inr (.inr (.inr (.inr f))))), (m9, .inr (23, mA mr mv vf xl (nI zs) ff16 xa16 (nI T) (nI pp16) xi xt xn (nI (ns + 1)) (nI vv16) (nI bb16))), (mr 5, .inl (kI, 3002, .inl fk)), (mr 6, .inl (kI, 3002, .inl fa)), (mr 8, .inl (kL, 3002, .inr (.inl fn))), (q_21, .inl (kS, 2 * n, .inr (.inr (.inr (.inr (va_up h1 (nI i : Int32).toNatClampNeg (some x8i)))))))] : va_W) ++ (sT L16 F16)) := hD
                    obtain ⟨h3, eh3⟩ : ∃ zZ : Nat → Option Nat, zZ = va_up h1 (nI i : Int32).toNatClampNeg (some x8i) := ⟨_, rfl⟩
                    rw [← eh3] at hP hD
                    have hs9 : ∀ j : Nat, j < i + 1 → h3 j = f j := fun j hj => by
                      rw [eh3, nI_clamp (by omega)]
                      by_cases e : j = i
                      · subst e; rw [vu_s]; exact hx8i.symm
                      · rw [vu_n e]; exact hb1 j (by omega)
                    obtain ⟨x_23, ex_23⟩ : ∃ yY : Int32, yY = (nI i) + 1 := ⟨_, rfl⟩
                    refine lv_iinc (v := x_23) (lv' := [(4, .int x_23), (3, .ref q_21), (2, .ref r_17), (0, .ref m9), (1, .ref q_1)]) hx hb dX23_block_127 hl (k := 0) rfl (by rw [ex_23]; rfl) (by decide) rfl (fun ls hl => ?_)
                    obtain rfl : x_23 = nI (i + 1) := by rw [ex_23]; exact nI_1 i
                    replace hl : lv_has ls 5 [(4, .int (nI (i + 1))), (3, .ref q_21), (2, .ref r_17), (0, .ref m9), (1, .ref q_1)] := hl
                    refine lv_goto (tgt := 107) hx hb dX23_block_130 (by decide) ?_
                    exact ih2 (i + 1) h3 _ _ _ (by omega) hs9 (hP.subT [0, 1, 2, 3, 4, 5, 6] rfl) (hD.subT [0, 1, 2, 3, 4, 5, 6] (by decide) rfl) hS (lv_sub hl [0, 1, 2, 3, 4] rfl)
              exact key2 (n + 1) 0 (fun _ => none) _ _ _ (by omega) (fun j hj => absurd hj (by omega)) (hP.subT [0, 1, 2, 3, 4, 5, 6] rfl) (hD.subT [0, 1, 2, 3, 4, 5, 6] (by decide) rfl) hS (lv_sub hl [0, 1, 2, 3, 4] rfl)
            · have hnc : ¬ nI n = nI cp := fun q9 => hcp_18 ((nI_eq (by omega) (by omega)).mp q9)
              refine lv_icmp_ne (tgt := 138) hx hb dX23_block_91 (by decide) (fun _ => ?_) (fun c_19 => absurd c_19 hnc)
              have hsm9 : ∀ i : Nat, i < n → f i = f i := fun _ _ => rfl
              have hcap : n < cp := by omega
              refine lv_aload_n hx hb dX23_block_138 rfl (lv_at hl 2 rfl) ?_
              refine va_get (D := (dC, dI)) (ci := 14) (v := .ref la) (C := RX14) (T := TX14) (N := 4) hx hb hts in_c_vbl_X14 hown hK hP 0 rfl rfl 2 (by decide) (hts (.fieldLink RX23 245 "OwnedPlacesModel$Block" "list" "[LOwnedPlacesModel$Statement;") (wm_c_vbl 173 rfl)) (fun _ h9 => h9) rfl dX23_block_139 ?_
              refine lv_aload_n hx hb dX23_block_142 rfl (lv_at hl 2 rfl) ?_
              refine va_get (D := (dC, dI)) (ci := 14) (v := .int (nI n)) (C := RX14) (T := TX14) (N := 4) hx hb hts in_c_vbl_X14 hown hK hP 0 rfl rfl 3 (by decide) (hts (.fieldLink RX23 244 "OwnedPlacesModel$Block" "many" "I") (wm_c_vbl 172 rfl)) (fun _ h9 => h9) rfl dX23_block_143 ?_
              refine lv_aload_n hx hb dX23_block_146 rfl (lv_at hl 0 rfl) ?_
              obtain ⟨vs9, hvs9⟩ := (hf17_0.2).2
              obtain ⟨qk9, hqk9⟩ := List.mem_iff_getElem?.mp (List.mem_append_right ([(q_1, .inr (14, [.int (nI pp), .int 0, .ref la, .int (nI n)])), (la, .inl (kS, cp, .inr (.inr (.inr (.inr f))))), (m9, .inr (23, mA mr mv vf xl (nI zs) ff16 xa16 (nI T) (nI pp16) xi xt xn (nI (ns + 1)) (nI vv16) (nI bb16))), (mr 5, .inl (kI, 3002, .inl fk)), (mr 6, .inl (kI, 3002, .inl fa)), (mr 8, .inl (kL, 3002, .inr (.inl fn)))]) (sT_mem (F := F16) (hf17_0.2).1))
              rw [hvs9] at hqk9
              refine va_astq (r := (RX19, TX19, 14)) hx hb hK hP hD hS 1 3 qk9 19 rfl rfl hqk9 rfl (vp_in_nI (n := n) hcap (by omega)) dX23_block_147 (fun H locs hP hD hS => ?_)
              replace hP : va_P (dC, dI) vwCl (([(q_1, .inr (14, [.int (nI pp), .int 0, .ref la, .int (nI n)])), (la, .inl (kS, cp, .inr (.inr (.inr (.inr (va_up f (nI n : Int32).toNatClampNeg (some r_17))))))), (m9, .inr (23, mA mr mv vf xl (nI zs) ff16 xa16 (nI T) (nI pp16) xi xt xn (nI (ns + 1)) (nI vv16) (nI bb16))), (mr 5, .inl (kI, 3002, .inl fk)), (mr 6, .inl (kI, 3002, .inl fa)), (mr 8, .inl (kL, 3002, .inr (.inl fn)))] : va_W) ++ (sT L16 F16)) H := hP
              replace hD : va_D A (([(q_1, .inr (14, [.int (nI pp), .int 0, .ref la, .int (nI n)])), (la, .inl (kS, cp, .inr (.inr (.inr (.inr (va_up f (nI n : Int32).toNatClampNeg (some r_17))))))), (m9, .inr (23, mA mr mv vf xl (nI zs) ff16 xa16 (nI T) (nI pp16) xi xt xn (nI (ns + 1)) (nI vv16) (nI bb16))), (mr 5, .inl (kI, 3002, .inl fk)), (mr 6, .inl (kI, 3002, .inl fa)), (mr 8, .inl (kL, 3002, .inr (.inl fn)))] : va_W) ++ (sT L16 F16)) := hD
              obtain ⟨fA, efA⟩ : ∃ zZ : Nat → Option Nat, zZ = va_up f (nI n : Int32).toNatClampNeg (some r_17) := ⟨_, rfl⟩
              rw [← efA] at hP hD
              have hfA : fA = va_up f n (some r_17) := by rw [efA, nI_clamp (by omega)]
              refine lv_aload_n hx hb dX23_block_148 rfl (lv_at hl 2 rfl) ?_
              refine lv_dup hx hb dX23_block_149 rfl ?_
              refine va_get (D := (dC, dI)) (ci := 14) (v := .int (nI n)) (C := RX14) (T := TX14) (N := 4) hx hb hts in_c_vbl_X14 hown hK hP 0 rfl rfl 3 (by decide) (hts (.fieldLink RX23 244 "OwnedPlacesModel$Block" "many" "I") (wm_c_vbl 172 rfl)) (fun _ h9 => h9) rfl dX23_block_150 ?_
              refine lv_iconst (v := 1) hx hb dX23_block_153 (by decide) ?_
              refine lv_iadd hx hb dX23_block_154 ?_
              refine lv_topi (fun f_20 ef_20 => ?_)
              obtain rfl : f_20 = nI (n + 1) := ef_20.trans (nI_1 _)
              refine va_put (D := (dC, dI)) (ci := 14) (v := .int (nI (n + 1))) (ty := .int) (C := RX14) (T := TX14) (N := 4) hx hb hts in_c_vbl_X14 tyX14 tyX14_ok nmX14 hown hK hP hD hS 0 rfl rfl 3 (by decide) (hts (.fieldLink RX23 244 "OwnedPlacesModel$Block" "many" "I") (wm_c_vbl 172 rfl)) (fun _ h9 => h9) rfl (by decide +kernel) rfl rfl (Nat.le_of_ble_eq_true rfl) dX23_block_155 (fun H locs hP hD hS => ?_)
              replace hP : va_P (dC, dI) vwCl (([(q_1, .inr (14, [.int (nI pp), .int 0, .ref la, .int (nI (n + 1))])), (la, .inl (kS, cp, .inr (.inr (.inr (.inr fA))))), (m9, .inr (23, mA mr mv vf xl (nI zs) ff16 xa16 (nI T) (nI pp16) xi xt xn (nI (ns + 1)) (nI vv16) (nI bb16))), (mr 5, .inl (kI, 3002, .inl fk)), (mr 6, .inl (kI, 3002, .inl fa)), (mr 8, .inl (kL, 3002, .inr (.inl fn)))] : va_W) ++ (sT L16 F16)) H := hP
              replace hD : va_D A (([(q_1, .inr (14, [.int (nI pp), .int 0, .ref la, .int (nI (n + 1))])), (la, .inl (kS, cp, .inr (.inr (.inr (.inr fA))))), (m9, .inr (23, mA mr mv vf xl (nI zs) ff16 xa16 (nI T) (nI pp16) xi xt xn (nI (ns + 1)) (nI vv16) (nI bb16))), (mr 5, .inl (kI, 3002, .inl fk)), (mr 6, .inl (kI, 3002, .inl fa)), (mr 8, .inl (kL, 3002, .inr (.inl fn)))] : va_W) ++ (sT L16 F16)) := hD
              refine lv_goto (tgt := 61) hx hb dX23_block_158 (by decide) ?_
              by_cases hz_21 : ff16 = 0
              · subst hz_21
                have hg16 := hf17_3 rfl
                have hlthg16 := (isN_lt hg16.2.2).2
                have ezxg16 : xg16 = 0 := hf17_2.2 rfl
                refine W.widen (k := (8 * (pp16 - pp) - 6 - 2 * (n + 1))) (n := (120 * (pp16 - pp) + 2 * cp - 116 - 50 * (n + 1))) (by omega) (by omega) ?_
                exact ih1 pp16 bb16 vv16 la cp (n + 1) xa16 L16 F16 fA _ _ _ (⟨by omega, by omega, by omega, by omega, by omega, by omega, by omega, by omega, by omega, by omega, hT, hg16.1, hg16.2.1⟩) (hr1.tr hf17_0.1) (fun i hi => by
                    by_cases e9 : i = n
                    · subst e9; exact ⟨_, by rw [hfA]; exact vu_s, hf17_0.2⟩
                    · obtain ⟨x9, y9, z9⟩ := hr2 i (by omega); exact ⟨x9, (show fA i = f i by rw [hfA]; exact vu_n e9).trans ((hsm9 i (by omega)).trans y9), oN_ex hf17_0.1 z9⟩) (chN_add (chN_im (fun y p q b c v w z => isN_im hf17_0.1 _ (Nat.le_refl _) z) hr3) (fun i hi => (show fA i = f i by rw [hfA]; exact vu_n (by omega)).trans (hsm9 i hi)) (by rw [hfA]; exact vu_s) (isN_im exS.rf _ (by omega) hg16.2.2)) (hP.subT [0, 1, 2, 3, 4, 5] rfl) (hD.subT [0, 1, 2, 3, 4, 5] (by decide) rfl) hS (lv_sub hl [1, 2] rfl)
              · refine lv_aload_n hx hb dX23_block_61 rfl (lv_at hl 1 rfl) ?_
                replace hPc := hP.subF (f' := [(m9, .inr (23, mA mr mv vf xl (nI zs) ff16 xa16 (nI T) (nI pp16) xi xt xn (nI (ns + 1)) (nI vv16) (nI bb16)))]) [2] rfl
                replace hDc := hD.subF (f' := [(m9, .inr (23, mA mr mv vf xl (nI zs) ff16 xa16 (nI T) (nI pp16) xi xt xn (nI (ns + 1)) (nI vv16) (nI bb16)))]) [2] (by decide) rfl
                replace hKc := hK.sub (tys' := []) [] rfl
                replace hFc := va_freeT (wc := [(m9, .inr (23, mA mr mv vf xl (nI zs) ff16 xa16 (nI T) (nI pp16) xi xt xn (nI (ns + 1)) (nI vv16) (nI bb16)))]) hD hS hA [2] rfl
                refine va_calli (va_runV (As := []) (rest := []) ⟨hx, hb, hml, hown, hts⟩ (c_rokB l dC dI m9 mr mv vf xl xa16 xi xt xn zs T pp16 (ns + 1) vv16 bb16 kI fk fa ff16 H.size hz_21) (cwV 0 hts g_c_vbl_c_rokB_62 rfl rfl rfl (by decide +kernel) ⟨by show 0 + 1 ≤ 2 + 14 * k; omega, by show 8 + (1 + 11) + (0) ≤ 43 + 323 * k; omega⟩) ⟨fun a U g mk q => by obtain ⟨q0, q1, qP, qK, qD⟩ := q; exact ⟨q0, q1, qP, va_K.moved (u := U) (U := U.calling g mk a) (Vm.Alike.refl U.vm) qK, qD⟩, va_recv hKc hPc (ci := 23) (q0 := 0) rfl rfl, fun U hU hW => ⟨rfl, by rw [hU], by rw [hU]; exact hPc, va_K.moved hW.alike hKc, hDc.weaken (fun _ _ _ _ => trivial)⟩⟩ rfl rfl hl.1 rfl (lv_room (Nat.le_of_ble_eq_true rfl)) dX23_block_62 ⟨(show ((8 * (pp1 - pp) - 6 - 2 * n) + (8 * (pp16 - pp1) + 10 * xg16 - 3)) + 0 ≤ (8 * (T - pp) + 12) by omega), (show ((120 * (pp1 - pp) + 2 * cp - 116 - 50 * n) + (120 * (pp16 - pp1) + 160 * xg16 - 50)) + 0 ≤ (120 * (T - pp) + 460) by omega)⟩) hS (fun q _ h => hFc q h) hFc (fun r_22 u tS H1 locs ht hvm hw hB hz1 hk1 hS => ?_)
                obtain ⟨hP1, hK1, hD1⟩ := hB
                rw [ht] at hP1
                replace hK1 := va_K.moved hvm.symm hK1
                obtain ⟨hPj, hDj⟩ := va_joinT (wr := [(q_1, .inr (14, [.int (nI pp), .int 0, .ref la, .int (nI (n + 1))])), (la, .inl (kS, cp, .inr (.inr (.inr (.inr fA))))), (mr 5, .inl (kI, 3002, .inl fk)), (mr 6, .inl (kI, 3002, .inl fa)), (mr 8, .inl (kL, 3002, .inr (.inl fn)))]) (w1 := [(m9, .inr (23, mA mr mv vf xl (nI zs) ff16 xa16 (nI T) (nI pp16) xi xt xn (nI (ns + 1)) (nI vv16) (nI bb16)))]) hP hD [2] [0, 1, 3, 4, 5] rfl rfl (by decide) (by decide) hk1 hFc hP1 hD1
                replace hP := hPj
                replace hD := hDj
                clear hPj hDj
                generalize H1 = H at hP hS ⊢
                replace hP : va_P (dC, dI) vwCl (([(q_1, .inr (14, [.int (nI pp), .int 0, .ref la, .int (nI (n + 1))])), (la, .inl (kS, cp, .inr (.inr (.inr (.inr fA))))), (mr 5, .inl (kI, 3002, .inl fk)), (mr 6, .inl (kI, 3002, .inl fa)), (mr 8, .inl (kL, 3002, .inr (.inl fn))), (m9, .inr (23, mA mr mv vf xl (nI zs) ff16 xa16 (nI T) (nI pp16) xi xt xn (nI (ns + 1)) (nI vv16) (nI bb16)))] : va_W) ++ (sT L16 F16)) H := hP
                replace hD : va_D A (([(q_1, .inr (14, [.int (nI pp), .int 0, .ref la, .int (nI (n + 1))])), (la, .inl (kS, cp, .inr (.inr (.inr (.inr fA))))), (mr 5, .inl (kI, 3002, .inl fk)), (mr 6, .inl (kI, 3002, .inl fa)), (mr 8, .inl (kL, 3002, .inr (.inl fn))), (m9, .inr (23, mA mr mv vf xl (nI zs) ff16 xa16 (nI T) (nI pp16) xi xt xn (nI (ns + 1)) (nI vv16) (nI bb16)))] : va_W) ++ (sT L16 F16)) := hD
                replace hK : va_K (dC, dI) vwCl [(kI, .int), (kL, .long), (kE, .object RX15), (kS, .object RX19), (kB, .object RX14), (kA, .object RX13), (kV, .object RX21)] s := hK
                clear hz1 hk1 hPc hDc hKc hFc hP1 hD1 hK1
                obtain rfl : r_22 = 0 := hw
                refine lv_if_eq (tgt := 161) hx hb dX23_block_65 (by decide) (fun _ => ?_) (fun c_23 => absurd (by decide) c_23)
                refine lv_aload_n hx hb dX23_block_161 rfl (lv_at hl 1 rfl) ?_
                refine lv_dup hx hb dX23_block_162 rfl ?_
                refine va_get (D := (dC, dI)) (ci := 23) (v := .int (nI (ns + 1))) (C := RX23) (T := TX23) (N := 89) hx hb hts in_c_vbl_X23 hown hK hP 5 rfl rfl 15 (by decide) (hts (.fieldLink RX23 104 "OwnedPlacesModel" "nest" "I") (wm_c_vbl 25 rfl)) (fun _ h9 => h9) rfl dX23_block_163 ?_
                refine lv_iconst (v := 1) hx hb dX23_block_166 (by decide) ?_
                refine lv_isub hx hb dX23_block_167 ?_
                refine lv_topi (fun f_24 ef_24 => ?_)
                obtain rfl : f_24 = nI ns := ef_24.trans (nI_pred _)
                refine va_put (D := (dC, dI)) (ci := 23) (v := .int (nI ns)) (ty := .int) (C := RX23) (T := TX23) (N := 89) hx hb hts in_c_vbl_X23 tyX23 tyX23_ok nmX23 hown hK hP hD hS 5 rfl rfl 15 (by decide) (hts (.fieldLink RX23 104 "OwnedPlacesModel" "nest" "I") (wm_c_vbl 25 rfl)) (fun _ h9 => h9) rfl (by decide +kernel) rfl rfl (Nat.le_of_ble_eq_true rfl) dX23_block_168 (fun H locs hP hD hS => ?_)
                replace hP : va_P (dC, dI) vwCl (([(q_1, .inr (14, [.int (nI pp), .int 0, .ref la, .int (nI (n + 1))])), (la, .inl (kS, cp, .inr (.inr (.inr (.inr fA))))), (mr 5, .inl (kI, 3002, .inl fk)), (mr 6, .inl (kI, 3002, .inl fa)), (mr 8, .inl (kL, 3002, .inr (.inl fn))), (m9, .inr (23, mA mr mv vf xl (nI zs) ff16 xa16 (nI T) (nI pp16) xi xt xn (nI ns) (nI vv16) (nI bb16)))] : va_W) ++ (sT L16 F16)) H := hP
                replace hD : va_D A (([(q_1, .inr (14, [.int (nI pp), .int 0, .ref la, .int (nI (n + 1))])), (la, .inl (kS, cp, .inr (.inr (.inr (.inr fA))))), (mr 5, .inl (kI, 3002, .inl fk)), (mr 6, .inl (kI, 3002, .inl fa)), (mr 8, .inl (kL, 3002, .inr (.inl fn))), (m9, .inr (23, mA mr mv vf xl (nI zs) ff16 xa16 (nI T) (nI pp16) xi xt xn (nI ns) (nI vv16) (nI bb16)))] : va_W) ++ (sT L16 F16)) := hD
                refine lv_aload_n hx hb dX23_block_171 rfl (lv_at hl 2 rfl) ?_
                refine lv_aload_n hx hb dX23_block_172 rfl (lv_at hl 1 rfl) ?_
                refine va_get (D := (dC, dI)) (ci := 23) (v := .int (nI pp16)) (C := RX23) (T := TX23) (N := 89) hx hb hts in_c_vbl_X23 hown hK hP 5 rfl rfl 10 (by decide) (hts (.fieldLink RX23 86 "OwnedPlacesModel" "p" "I") (wm_c_vbl 17 rfl)) (fun _ h9 => h9) rfl dX23_block_173 ?_
                refine va_put (D := (dC, dI)) (ci := 14) (v := .int (nI pp16)) (ty := .int) (C := RX14) (T := TX14) (N := 4) hx hb hts in_c_vbl_X14 tyX14 tyX14_ok nmX14 hown hK hP hD hS 0 rfl rfl 1 (by decide) (hts (.fieldLink RX23 251 "OwnedPlacesModel$Block" "end" "I") (wm_c_vbl 39 rfl)) (fun _ h9 => h9) rfl (by decide +kernel) rfl rfl (Nat.le_of_ble_eq_true rfl) dX23_block_176 (fun H locs hP hD hS => ?_)
                replace hP : va_P (dC, dI) vwCl (([(q_1, .inr (14, [.int (nI pp), .int (nI pp16), .ref la, .int (nI (n + 1))])), (la, .inl (kS, cp, .inr (.inr (.inr (.inr fA))))), (mr 5, .inl (kI, 3002, .inl fk)), (mr 6, .inl (kI, 3002, .inl fa)), (mr 8, .inl (kL, 3002, .inr (.inl fn))), (m9, .inr (23, mA mr mv vf xl (nI zs) ff16 xa16 (nI T) (nI pp16) xi xt xn (nI ns) (nI vv16) (nI bb16)))] : va_W) ++ (sT L16 F16)) H := hP
                replace hD : va_D A (([(q_1, .inr (14, [.int (nI pp), .int (nI pp16), .ref la, .int (nI (n + 1))])), (la, .inl (kS, cp, .inr (.inr (.inr (.inr fA))))), (mr 5, .inl (kI, 3002, .inl fk)), (mr 6, .inl (kI, 3002, .inl fa)), (mr 8, .inl (kL, 3002, .inr (.inl fn))), (m9, .inr (23, mA mr mv vf xl (nI zs) ff16 xa16 (nI T) (nI pp16) xi xt xn (nI ns) (nI vv16) (nI bb16)))] : va_W) ++ (sT L16 F16)) := hD
                refine lv_aload_n hx hb dX23_block_179 rfl (lv_at hl 1 rfl) ?_
                refine lv_bipush (v := 64) hx hb dX23_block_180 (by decide) ?_
                replace hPc := hP.subF (f' := [(m9, .inr (23, mA mr mv vf xl (nI zs) ff16 xa16 (nI T) (nI pp16) xi xt xn (nI ns) (nI vv16) (nI bb16))), (mr 5, .inl (kI, 3002, .inl fk)), (mr 6, .inl (kI, 3002, .inl fa))]) [5, 2, 3] rfl
                replace hDc := hD.subF (f' := [(m9, .inr (23, mA mr mv vf xl (nI zs) ff16 xa16 (nI T) (nI pp16) xi xt xn (nI ns) (nI vv16) (nI bb16))), (mr 5, .inl (kI, 3002, .inl fk)), (mr 6, .inl (kI, 3002, .inl fa))]) [5, 2, 3] (by decide) rfl
                replace hKc := hK.sub (tys' := [(kI, .int)]) [0] rfl
                replace hFc := va_freeT (wc := [(m9, .inr (23, mA mr mv vf xl (nI zs) ff16 xa16 (nI T) (nI pp16) xi xt xn (nI ns) (nI vv16) (nI bb16))), (mr 5, .inl (kI, 3002, .inl fk)), (mr 6, .inl (kI, 3002, .inl fa))]) hD hS hA [5, 2, 3] rfl
                refine va_callv (va_runV (As := [.int 64]) (rest := []) ⟨hx, hb, hml, hown, hts⟩ (c_rtkB l dC dI m9 mr mv vf xl xa16 xi xt xn zs T pp16 ns vv16 bb16 kI fk fa ff16 64 H.size hz_21) (cwV 1 hts g_c_vbl_c_rtkB_182 rfl rfl rfl (by decide +kernel) ⟨by show 1 + 1 ≤ 2 + 14 * k; omega, by show 8 + (2 + 11) + (20) ≤ 43 + 323 * k; omega⟩) ⟨fun a U g mk q => by obtain ⟨q0, q1, qP, qK, qD⟩ := q; exact ⟨q0, q1, qP, va_K.moved (u := U) (U := U.calling g mk a) (Vm.Alike.refl U.vm) qK, qD⟩, va_recv hKc hPc (ci := 23) (q0 := 0) rfl rfl, fun U hU hW => ⟨rfl, by rw [hU], by rw [hU]; exact hPc, va_K.moved hW.alike hKc, hDc.weaken (fun _ _ _ _ => trivial)⟩⟩ rfl rfl hl.1 rfl (lv_room (Nat.le_of_ble_eq_true rfl)) dX23_block_182 ⟨(show ((8 * (pp1 - pp) - 6 - 2 * n) + (8 * (pp16 - pp1) + 10 * xg16 - 3)) + 0 ≤ (8 * (T - pp) + 12) by omega), (show ((120 * (pp1 - pp) + 2 * cp - 116 - 50 * n) + (120 * (pp16 - pp1) + 160 * xg16 - 50)) + 0 ≤ (120 * (T - pp) + 460) by omega)⟩) hS (fun q _ h => hFc q h) hFc (fun u tS H1 locs ht hvm hw hB hz1 hk1 hS => ?_)
                obtain ⟨hP1, hK1, hD1⟩ := hB
                rw [ht] at hP1
                replace hK1 := va_K.moved hvm.symm hK1
                obtain ⟨hPj, hDj⟩ := va_joinT (wr := [(q_1, .inr (14, [.int (nI pp), .int (nI pp16), .ref la, .int (nI (n + 1))])), (la, .inl (kS, cp, .inr (.inr (.inr (.inr fA))))), (mr 8, .inl (kL, 3002, .inr (.inl fn)))]) (w1 := [(m9, .inr (23, mA mr mv vf xl (nI zs) ff16 xa16 (nI T) (nI pp16) xi xt xn (nI ns) (nI vv16) (nI bb16))), (mr 5, .inl (kI, 3002, .inl fk)), (mr 6, .inl (kI, 3002, .inl fa))]) hP hD [5, 2, 3] [0, 1, 4] rfl rfl (by decide) (by decide) hk1 hFc hP1 hD1
                replace hP := hPj
                replace hD := hDj
                clear hPj hDj
                replace hK := hK.app hK1
                generalize H1 = H at hP hS ⊢
                replace hP : va_P (dC, dI) vwCl (([(q_1, .inr (14, [.int (nI pp), .int (nI pp16), .ref la, .int (nI (n + 1))])), (la, .inl (kS, cp, .inr (.inr (.inr (.inr fA))))), (mr 8, .inl (kL, 3002, .inr (.inl fn))), (m9, .inr (23, mA mr mv vf xl (nI zs) ff16 xa16 (nI T) (nI pp16) xi xt xn (nI ns) (nI vv16) (nI bb16))), (mr 5, .inl (kI, 3002, .inl fk)), (mr 6, .inl (kI, 3002, .inl fa))] : va_W) ++ (sT L16 F16)) H := hP
                replace hD : va_D A (([(q_1, .inr (14, [.int (nI pp), .int (nI pp16), .ref la, .int (nI (n + 1))])), (la, .inl (kS, cp, .inr (.inr (.inr (.inr fA))))), (mr 8, .inl (kL, 3002, .inr (.inl fn))), (m9, .inr (23, mA mr mv vf xl (nI zs) ff16 xa16 (nI T) (nI pp16) xi xt xn (nI ns) (nI vv16) (nI bb16))), (mr 5, .inl (kI, 3002, .inl fk)), (mr 6, .inl (kI, 3002, .inl fa))] : va_W) ++ (sT L16 F16)) := hD
                replace hK : va_K (dC, dI) vwCl [(kI, .int), (kL, .long), (kE, .object RX15), (kS, .object RX19), (kB, .object RX14), (kA, .object RX13), (kV, .object RX21), (kI, .int)] s := hK
                replace hK := hK.sub (tys' := [(kI, .int), (kL, .long), (kE, .object RX15), (kS, .object RX19), (kB, .object RX14), (kA, .object RX13), (kV, .object RX21)]) [0, 1, 2, 3, 4, 5, 6] rfl
                clear hz1 hk1 hPc hDc hKc hFc hP1 hD1 hK1
                refine lv_aload_n hx hb dX23_block_185 rfl (lv_at hl 2 rfl) ?_
                replace hP : va_P (dC, dI) vwCl ((([(mr 8, .inl (kL, 3002, .inr (.inl fn))), (m9, .inr (23, mA mr mv vf xl (nI zs) ff16 xa16 (nI T) (nI pp16) xi xt xn (nI ns) (nI vv16) (nI bb16))), (mr 5, .inl (kI, 3002, .inl fk)), (mr 6, .inl (kI, 3002, .inl fa))] : va_W) ++ ([(q_1, .inr (14, [.int (nI pp), .int (nI pp16), .ref la, .int (nI (n + 1))])), (la, .inl (kS, cp, .inr (.inr (.inr (.inr fA)))))] : va_W)) ++ sT L16 F16) H := hP.subT (f' := [(mr 8, .inl (kL, 3002, .inr (.inl fn))), (m9, .inr (23, mA mr mv vf xl (nI zs) ff16 xa16 (nI T) (nI pp16) xi xt xn (nI ns) (nI vv16) (nI bb16))), (mr 5, .inl (kI, 3002, .inl fk)), (mr 6, .inl (kI, 3002, .inl fa)), (q_1, .inr (14, [.int (nI pp), .int (nI pp16), .ref la, .int (nI (n + 1))])), (la, .inl (kS, cp, .inr (.inr (.inr (.inr fA)))))]) [2, 3, 4, 5, 0, 1] rfl
                replace hD : va_D A ((([(mr 8, .inl (kL, 3002, .inr (.inl fn))), (m9, .inr (23, mA mr mv vf xl (nI zs) ff16 xa16 (nI T) (nI pp16) xi xt xn (nI ns) (nI vv16) (nI bb16))), (mr 5, .inl (kI, 3002, .inl fk)), (mr 6, .inl (kI, 3002, .inl fa))] : va_W) ++ ([(q_1, .inr (14, [.int (nI pp), .int (nI pp16), .ref la, .int (nI (n + 1))])), (la, .inl (kS, cp, .inr (.inr (.inr (.inr fA)))))] : va_W)) ++ sT L16 F16) := hD.subT (f' := [(mr 8, .inl (kL, 3002, .inr (.inl fn))), (m9, .inr (23, mA mr mv vf xl (nI zs) ff16 xa16 (nI T) (nI pp16) xi xt xn (nI ns) (nI vv16) (nI bb16))), (mr 5, .inl (kI, 3002, .inl fk)), (mr 6, .inl (kI, 3002, .inl fa)), (q_1, .inr (14, [.int (nI pp), .int (nI pp16), .ref la, .int (nI (n + 1))])), (la, .inl (kS, cp, .inr (.inr (.inr (.inr fA)))))]) [2, 3, 4, 5, 0, 1] (by decide) rfl
                obtain ⟨L9, F9, hx9, hm9, hP, hD⟩ := st_fileL [(q_1, .inr (14, [.int (nI pp), .int (nI pp16), .ref la, .int (nI (n + 1))])), (la, .inl (kS, cp, .inr (.inr (.inr (.inr fA)))))] hP hD
                have hm9_0 := hm9 _ (List.mem_of_getElem? (i := 0) rfl)
                have hm9_1 := hm9 _ (List.mem_of_getElem? (i := 1) rfl)
                refine W.grow (fun hgs0 hgs1 => ?_)
                have hP9 := hP.subT (f' := [(m9, .inr (23, mA mr mv vf xl (nI zs) ff16 xa16 (nI T) (nI pp16) xi xt xn (nI ns) (nI vv16) (nI bb16))), (mr 5, .inl (kI, 3002, .inl fk)), (mr 6, .inl (kI, 3002, .inl fa)), (mr 8, .inl (kL, 3002, .inr (.inl fn)))]) [1, 2, 3, 0] rfl
                have hD9 := hD.subT (f' := [(m9, .inr (23, mA mr mv vf xl (nI zs) ff16 xa16 (nI T) (nI pp16) xi xt xn (nI ns) (nI vv16) (nI bb16))), (mr 5, .inl (kI, 3002, .inl fk)), (mr 6, .inl (kI, 3002, .inl fa)), (mr 8, .inl (kL, 3002, .inr (.inl fn)))]) [1, 2, 3, 0] (by decide) rfl
                have hK9 := hK.sub (tys' := [(kI, .int), (kL, .long), (kE, .object RX15), (kS, .object RX19), (kB, .object RX14), (kA, .object RX13), (kV, .object RX21)]) [0, 1, 2, 3, 4, 5, 6] rfl
                refine W.widen (k := (8 * (T - pp) + 12)) (n := (120 * (T - pp) + 460)) (by omega) (by omega) ?_
                subst hQ1
                exact W.aret hx hb hr (Or.inl ⟨_, rfl⟩) (Or.inr ⟨q_1, rfl⟩) (fun tS ht hW => ⟨⟨(), q_1, rfl, trivial, L9, F9, ff16, xa16, pp16, bb16, vv16, 1, ⟨((hr1).tr hf17_0.1).tr hx9, hm9_0.1, _, hm9_0.2⟩, ⟨by omega, by omega, by omega, by omega, by omega, by omega⟩, ⟨by omega, fun q9 => absurd q9 hz_21⟩, (fun q9 => absurd q9 hz_21), by rw [ht]; exact ⟨by omega, by omega⟩, by rw [ht]; exact hP9, va_K.moved hW.alike hK9, hD9⟩, hS.F ht⟩) hS.2.2 dX23_block_186
      refine W.widen (k := (8 * ((pp + 1) - pp) - 6 - 2 * 0)) (n := (120 * ((pp + 1) - pp) + 2 * 4 - 116 - 50 * 0)) (by omega) (by omega) ?_
      exact key1 (T + 1) (pp + 1) bb vv la0 4 0 xa L F (fun _ => none) _ _ _ (⟨by omega, by omega, by omega, by omega, by omega, by omega, by omega, by omega, by omega, by omega, hT, hbb, hvv⟩) exS.rf (fun i hi => absurd hi (by omega)) chN_0 (hP.subT [1, 2, 3, 4, 5, 0] rfl) (hD.subT [1, 2, 3, 4, 5, 0] (by decide) rfl) hS (lv_sub hl [1, 0] rfl)
  · replace hPc := hP.subF (f' := [(m9, .inr (23, mA mr mv vf xl (nI zs) 0 xa (nI T) (nI pp) xi xt xn (nI ns) (nI vv) (nI bb))), (mr 5, .inl (kI, 3002, .inl fk))]) [5, 0] rfl
    replace hDc := hD.subF (f' := [(m9, .inr (23, mA mr mv vf xl (nI zs) 0 xa (nI T) (nI pp) xi xt xn (nI ns) (nI vv) (nI bb))), (mr 5, .inl (kI, 3002, .inl fk))]) [5, 0] (by decide) rfl
    replace hKc := hK.sub (tys' := [(kI, .int)]) [0] rfl
    replace hFc := va_freeT (wc := [(m9, .inr (23, mA mr mv vf xl (nI zs) 0 xa (nI T) (nI pp) xi xt xn (nI ns) (nI vv) (nI bb))), (mr 5, .inl (kI, 3002, .inl fk))]) hD hS hA [5, 0] rfl
    refine va_calli (va_runV (As := [.int 63]) (rest := []) ⟨hx, hb, hml, hown, hts⟩ (c_risN l dC dI m9 mr mv vf xl xa xi xt xn zs T pp ns vv bb kI fk fa 0 63 H.size hT hp hk_5) (cwV 1 hts g_c_vbl_c_risN_28 rfl rfl rfl (by decide +kernel) ⟨by show 0 + 1 ≤ 2 + 14 * k; omega, by show 8 + (2 + 11) + (0) ≤ 43 + 323 * k; omega⟩) ⟨fun a U g mk q => by obtain ⟨q0, q1, qP, qK, qD⟩ := q; exact ⟨q0, q1, qP, va_K.moved (u := U) (U := U.calling g mk a) (Vm.Alike.refl U.vm) qK, qD⟩, va_recv hKc hPc (ci := 23) (q0 := 0) rfl rfl, fun U hU hW => ⟨rfl, by rw [hU], by rw [hU]; exact hPc, va_K.moved hW.alike hKc, hDc.weaken (fun _ _ _ _ => trivial)⟩⟩ rfl rfl hl.1 rfl (lv_room (Nat.le_of_ble_eq_true rfl)) dX23_block_28 ⟨(show (1 + 1) + 0 ≤ (8 * (T - pp) + 12) by omega), (show (4 + 4) + 0 ≤ (120 * (T - pp) + 460) by omega)⟩) hS (fun q _ h => hFc q h) hFc (fun r_6 u tS H1 locs ht hvm hw hB hz1 hk1 hS => ?_)
    obtain ⟨hP1, hK1, hD1⟩ := hB
    rw [ht] at hP1
    replace hK1 := va_K.moved hvm.symm hK1
    obtain ⟨hPj, hDj⟩ := va_joinT (wr := [(mr 6, .inl (kI, 3002, .inl fa)), (mr 8, .inl (kL, 3002, .inr (.inl fn))), (q_1, .inr (14, [.int (nI pp), .int 0, .ref la0, .int 0])), (la0, .inl (kS, 4, .inr (.inr (.inr (.inr (fun _ => none))))))]) (w1 := [(m9, .inr (23, mA mr mv vf xl (nI zs) 0 xa (nI T) (nI pp) xi xt xn (nI ns) (nI vv) (nI bb))), (mr 5, .inl (kI, 3002, .inl fk))]) hP hD [5, 0] [1, 2, 3, 4] rfl rfl (by decide) (by decide) hk1 hFc hP1 hD1
    replace hP := hPj
    replace hD := hDj
    clear hPj hDj
    replace hK := hK.app hK1
    generalize H1 = H at hP hS ⊢
    replace hP : va_P (dC, dI) vwCl (([(mr 6, .inl (kI, 3002, .inl fa)), (mr 8, .inl (kL, 3002, .inr (.inl fn))), (q_1, .inr (14, [.int (nI pp), .int 0, .ref la0, .int 0])), (la0, .inl (kS, 4, .inr (.inr (.inr (.inr (fun _ => none)))))), (m9, .inr (23, mA mr mv vf xl (nI zs) 0 xa (nI T) (nI pp) xi xt xn (nI ns) (nI vv) (nI bb))), (mr 5, .inl (kI, 3002, .inl fk))] : va_W) ++ (sT L F)) H := hP
    replace hD : va_D A (([(mr 6, .inl (kI, 3002, .inl fa)), (mr 8, .inl (kL, 3002, .inr (.inl fn))), (q_1, .inr (14, [.int (nI pp), .int 0, .ref la0, .int 0])), (la0, .inl (kS, 4, .inr (.inr (.inr (.inr (fun _ => none)))))), (m9, .inr (23, mA mr mv vf xl (nI zs) 0 xa (nI T) (nI pp) xi xt xn (nI ns) (nI vv) (nI bb))), (mr 5, .inl (kI, 3002, .inl fk))] : va_W) ++ (sT L F)) := hD
    replace hK : va_K (dC, dI) vwCl [(kI, .int), (kL, .long), (kE, .object RX15), (kS, .object RX19), (kB, .object RX14), (kA, .object RX13), (kV, .object RX21), (kI, .int)] s := hK
    replace hK := hK.sub (tys' := [(kI, .int), (kL, .long), (kE, .object RX15), (kS, .object RX19), (kB, .object RX14), (kA, .object RX13), (kV, .object RX21)]) [0, 1, 2, 3, 4, 5, 6] rfl
    clear hz1 hk1 hPc hDc hKc hFc hP1 hD1 hK1
    obtain rfl : r_6 = 0 := hw
    refine lv_if_eq (tgt := 45) hx hb dX23_block_31 (by decide) (fun _ => ?_) (fun c_7 => absurd (by decide) c_7)
    refine lv_aload_n hx hb dX23_block_45 rfl (lv_at hl 1 rfl) ?_
    refine lv_dup hx hb dX23_block_46 rfl ?_
    refine va_get (D := (dC, dI)) (ci := 23) (v := .int (nI ns)) (C := RX23) (T := TX23) (N := 89) hx hb hts in_c_vbl_X23 hown hK hP 4 rfl rfl 15 (by decide) (hts (.fieldLink RX23 104 "OwnedPlacesModel" "nest" "I") (wm_c_vbl 25 rfl)) (fun _ h9 => h9) rfl dX23_block_47 ?_
    refine lv_iconst (v := 1) hx hb dX23_block_50 (by decide) ?_
    refine lv_iadd hx hb dX23_block_51 ?_
    refine lv_topi (fun f_8 ef_8 => ?_)
    obtain rfl : f_8 = nI (ns + 1) := ef_8.trans (nI_1 _)
    refine va_put (D := (dC, dI)) (ci := 23) (v := .int (nI (ns + 1))) (ty := .int) (C := RX23) (T := TX23) (N := 89) hx hb hts in_c_vbl_X23 tyX23 tyX23_ok nmX23 hown hK hP hD hS 4 rfl rfl 15 (by decide) (hts (.fieldLink RX23 104 "OwnedPlacesModel" "nest" "I") (wm_c_vbl 25 rfl)) (fun _ h9 => h9) rfl (by decide +kernel) rfl rfl (Nat.le_of_ble_eq_true rfl) dX23_block_52 (fun H locs hP hD hS => ?_)
    replace hP : va_P (dC, dI) vwCl (([(mr 6, .inl (kI, 3002, .inl fa)), (mr 8, .inl (kL, 3002, .inr (.inl fn))), (q_1, .inr (14, [.int (nI pp), .int 0, .ref la0, .int 0])), (la0, .inl (kS, 4, .inr (.inr (.inr (.inr (fun _ => none)))))), (m9, .inr (23, mA mr mv vf xl (nI zs) 0 xa (nI T) (nI pp) xi xt xn (nI (ns + 1)) (nI vv) (nI bb))), (mr 5, .inl (kI, 3002, .inl fk))] : va_W) ++ (sT L F)) H := hP
    replace hD : va_D A (([(mr 6, .inl (kI, 3002, .inl fa)), (mr 8, .inl (kL, 3002, .inr (.inl fn))), (q_1, .inr (14, [.int (nI pp), .int 0, .ref la0, .int 0])), (la0, .inl (kS, 4, .inr (.inr (.inr (.inr (fun _ => none)))))), (m9, .inr (23, mA mr mv vf xl (nI zs) 0 xa (nI T) (nI pp) xi xt xn (nI (ns + 1)) (nI vv) (nI bb))), (mr 5, .inl (kI, 3002, .inl fk))] : va_W) ++ (sT L F)) := hD
    refine lv_aload_n hx hb dX23_block_55 rfl (lv_at hl 1 rfl) ?_
    refine lv_bipush (v := 63) hx hb dX23_block_56 (by decide) ?_
    replace hPc := hP.subF (f' := [(m9, .inr (23, mA mr mv vf xl (nI zs) 0 xa (nI T) (nI pp) xi xt xn (nI (ns + 1)) (nI vv) (nI bb))), (mr 5, .inl (kI, 3002, .inl fk)), (mr 6, .inl (kI, 3002, .inl fa))]) [4, 5, 0] rfl
    replace hDc := hD.subF (f' := [(m9, .inr (23, mA mr mv vf xl (nI zs) 0 xa (nI T) (nI pp) xi xt xn (nI (ns + 1)) (nI vv) (nI bb))), (mr 5, .inl (kI, 3002, .inl fk)), (mr 6, .inl (kI, 3002, .inl fa))]) [4, 5, 0] (by decide) rfl
    replace hKc := hK.sub (tys' := [(kI, .int)]) [0] rfl
    replace hFc := va_freeT (wc := [(m9, .inr (23, mA mr mv vf xl (nI zs) 0 xa (nI T) (nI pp) xi xt xn (nI (ns + 1)) (nI vv) (nI bb))), (mr 5, .inl (kI, 3002, .inl fk)), (mr 6, .inl (kI, 3002, .inl fa))]) hD hS hA [4, 5, 0] rfl
    refine va_callv (va_runV (As := [.int 63]) (rest := []) ⟨hx, hb, hml, hown, hts⟩ (c_rtkN l dC dI m9 mr mv vf xl xa xi xt xn zs T pp (ns + 1) vv bb kI fk fa 63 H.size hT hp hk0 (by decide) hk_5) (cwV 1 hts g_c_vbl_c_rtkN_58 rfl rfl rfl (by decide +kernel) ⟨by show 1 + 1 ≤ 2 + 14 * k; omega, by show 8 + (2 + 11) + (22) ≤ 43 + 323 * k; omega⟩) ⟨fun a U g mk q => by obtain ⟨q0, q1, qP, qK, qD⟩ := q; exact ⟨q0, q1, qP, va_K.moved (u := U) (U := U.calling g mk a) (Vm.Alike.refl U.vm) qK, qD⟩, va_recv hKc hPc (ci := 23) (q0 := 0) rfl rfl, fun U hU hW => ⟨rfl, by rw [hU], by rw [hU]; exact hPc, va_K.moved hW.alike hKc, hDc.weaken (fun _ _ _ _ => trivial)⟩⟩ rfl rfl hl.1 rfl (lv_room (Nat.le_of_ble_eq_true rfl)) dX23_block_58 ⟨(show (1 + 1) + 0 ≤ (8 * (T - pp) + 12) by omega), (show (4 + 4) + 0 ≤ (120 * (T - pp) + 460) by omega)⟩) hS (fun q _ h => hFc q h) hFc (fun u tS H1 locs ht hvm hw hB hz1 hk1 hS => ?_)
    obtain ⟨ff_9, xa_10, hf11_0, hP1, hK1, hD1⟩ := hB
    rw [ht] at hP1
    replace hK1 := va_K.moved hvm.symm hK1
    obtain ⟨hPj, hDj⟩ := va_joinT (wr := [(mr 8, .inl (kL, 3002, .inr (.inl fn))), (q_1, .inr (14, [.int (nI pp), .int 0, .ref la0, .int 0])), (la0, .inl (kS, 4, .inr (.inr (.inr (.inr (fun _ => none))))))]) (w1 := [(m9, .inr (23, mA mr mv vf xl (nI zs) ff_9 xa_10 (nI T) (nI pp) xi xt xn (nI (ns + 1)) (nI vv) (nI bb))), (mr 5, .inl (kI, 3002, .inl fk)), (mr 6, .inl (kI, 3002, .inl fa))]) hP hD [4, 5, 0] [1, 2, 3] rfl rfl (by decide) (by decide) hk1 hFc hP1 hD1
    replace hP := hPj
    replace hD := hDj
    clear hPj hDj
    replace hK := hK.app hK1
    generalize H1 = H at hP hS ⊢
    replace hP : va_P (dC, dI) vwCl (([(mr 8, .inl (kL, 3002, .inr (.inl fn))), (q_1, .inr (14, [.int (nI pp), .int 0, .ref la0, .int 0])), (la0, .inl (kS, 4, .inr (.inr (.inr (.inr (fun _ => none)))))), (m9, .inr (23, mA mr mv vf xl (nI zs) ff_9 xa_10 (nI T) (nI pp) xi xt xn (nI (ns + 1)) (nI vv) (nI bb))), (mr 5, .inl (kI, 3002, .inl fk)), (mr 6, .inl (kI, 3002, .inl fa))] : va_W) ++ (sT L F)) H := hP
    replace hD : va_D A (([(mr 8, .inl (kL, 3002, .inr (.inl fn))), (q_1, .inr (14, [.int (nI pp), .int 0, .ref la0, .int 0])), (la0, .inl (kS, 4, .inr (.inr (.inr (.inr (fun _ => none)))))), (m9, .inr (23, mA mr mv vf xl (nI zs) ff_9 xa_10 (nI T) (nI pp) xi xt xn (nI (ns + 1)) (nI vv) (nI bb))), (mr 5, .inl (kI, 3002, .inl fk)), (mr 6, .inl (kI, 3002, .inl fa))] : va_W) ++ (sT L F)) := hD
    replace hK : va_K (dC, dI) vwCl [(kI, .int), (kL, .long), (kE, .object RX15), (kS, .object RX19), (kB, .object RX14), (kA, .object RX13), (kV, .object RX21), (kI, .int)] s := hK
    replace hK := hK.sub (tys' := [(kI, .int), (kL, .long), (kE, .object RX15), (kS, .object RX19), (kB, .object RX14), (kA, .object RX13), (kV, .object RX21)]) [0, 1, 2, 3, 4, 5, 6] rfl
    clear hz1 hk1 hPc hDc hKc hFc hP1 hD1 hK1
    refine lv_aload_n hx hb dX23_block_61 rfl (lv_at hl 1 rfl) ?_
    replace hPc := hP.subF (f' := [(m9, .inr (23, mA mr mv vf xl (nI zs) ff_9 xa_10 (nI T) (nI pp) xi xt xn (nI (ns + 1)) (nI vv) (nI bb)))]) [3] rfl
    replace hDc := hD.subF (f' := [(m9, .inr (23, mA mr mv vf xl (nI zs) ff_9 xa_10 (nI T) (nI pp) xi xt xn (nI (ns + 1)) (nI vv) (nI bb)))]) [3] (by decide) rfl
    replace hKc := hK.sub (tys' := []) [] rfl
    replace hFc := va_freeT (wc := [(m9, .inr (23, mA mr mv vf xl (nI zs) ff_9 xa_10 (nI T) (nI pp) xi xt xn (nI (ns + 1)) (nI vv) (nI bb)))]) hD hS hA [3] rfl
    refine va_calli (va_runV (As := []) (rest := []) ⟨hx, hb, hml, hown, hts⟩ (c_rokB l dC dI m9 mr mv vf xl xa_10 xi xt xn zs T pp (ns + 1) vv bb kI fk fa ff_9 H.size hf11_0) (cwV 0 hts g_c_vbl_c_rokB_62 rfl rfl rfl (by decide +kernel) ⟨by show 0 + 1 ≤ 2 + 14 * k; omega, by show 8 + (1 + 11) + (0) ≤ 43 + 323 * k; omega⟩) ⟨fun a U g mk q => by obtain ⟨q0, q1, qP, qK, qD⟩ := q; exact ⟨q0, q1, qP, va_K.moved (u := U) (U := U.calling g mk a) (Vm.Alike.refl U.vm) qK, qD⟩, va_recv hKc hPc (ci := 23) (q0 := 0) rfl rfl, fun U hU hW => ⟨rfl, by rw [hU], by rw [hU]; exact hPc, va_K.moved hW.alike hKc, hDc.weaken (fun _ _ _ _ => trivial)⟩⟩ rfl rfl hl.1 rfl (lv_room (Nat.le_of_ble_eq_true rfl)) dX23_block_62 ⟨(show (1 + 1) + 0 ≤ (8 * (T - pp) + 12) by omega), (show (4 + 4) + 0 ≤ (120 * (T - pp) + 460) by omega)⟩) hS (fun q _ h => hFc q h) hFc (fun r_12 u tS H1 locs ht hvm hw hB hz1 hk1 hS => ?_)
    obtain ⟨hP1, hK1, hD1⟩ := hB
    rw [ht] at hP1
    replace hK1 := va_K.moved hvm.symm hK1
    obtain ⟨hPj, hDj⟩ := va_joinT (wr := [(mr 8, .inl (kL, 3002, .inr (.inl fn))), (q_1, .inr (14, [.int (nI pp), .int 0, .ref la0, .int 0])), (la0, .inl (kS, 4, .inr (.inr (.inr (.inr (fun _ => none)))))), (mr 5, .inl (kI, 3002, .inl fk)), (mr 6, .inl (kI, 3002, .inl fa))]) (w1 := [(m9, .inr (23, mA mr mv vf xl (nI zs) ff_9 xa_10 (nI T) (nI pp) xi xt xn (nI (ns + 1)) (nI vv) (nI bb)))]) hP hD [3] [0, 1, 2, 4, 5] rfl rfl (by decide) (by decide) hk1 hFc hP1 hD1
    replace hP := hPj
    replace hD := hDj
    clear hPj hDj
    generalize H1 = H at hP hS ⊢
    replace hP : va_P (dC, dI) vwCl (([(mr 8, .inl (kL, 3002, .inr (.inl fn))), (q_1, .inr (14, [.int (nI pp), .int 0, .ref la0, .int 0])), (la0, .inl (kS, 4, .inr (.inr (.inr (.inr (fun _ => none)))))), (mr 5, .inl (kI, 3002, .inl fk)), (mr 6, .inl (kI, 3002, .inl fa)), (m9, .inr (23, mA mr mv vf xl (nI zs) ff_9 xa_10 (nI T) (nI pp) xi xt xn (nI (ns + 1)) (nI vv) (nI bb)))] : va_W) ++ (sT L F)) H := hP
    replace hD : va_D A (([(mr 8, .inl (kL, 3002, .inr (.inl fn))), (q_1, .inr (14, [.int (nI pp), .int 0, .ref la0, .int 0])), (la0, .inl (kS, 4, .inr (.inr (.inr (.inr (fun _ => none)))))), (mr 5, .inl (kI, 3002, .inl fk)), (mr 6, .inl (kI, 3002, .inl fa)), (m9, .inr (23, mA mr mv vf xl (nI zs) ff_9 xa_10 (nI T) (nI pp) xi xt xn (nI (ns + 1)) (nI vv) (nI bb)))] : va_W) ++ (sT L F)) := hD
    replace hK : va_K (dC, dI) vwCl [(kI, .int), (kL, .long), (kE, .object RX15), (kS, .object RX19), (kB, .object RX14), (kA, .object RX13), (kV, .object RX21)] s := hK
    clear hz1 hk1 hPc hDc hKc hFc hP1 hD1 hK1
    obtain rfl : r_12 = 0 := hw
    refine lv_if_eq (tgt := 161) hx hb dX23_block_65 (by decide) (fun _ => ?_) (fun c_13 => absurd (by decide) c_13)
    refine lv_aload_n hx hb dX23_block_161 rfl (lv_at hl 1 rfl) ?_
    refine lv_dup hx hb dX23_block_162 rfl ?_
    refine va_get (D := (dC, dI)) (ci := 23) (v := .int (nI (ns + 1))) (C := RX23) (T := TX23) (N := 89) hx hb hts in_c_vbl_X23 hown hK hP 5 rfl rfl 15 (by decide) (hts (.fieldLink RX23 104 "OwnedPlacesModel" "nest" "I") (wm_c_vbl 25 rfl)) (fun _ h9 => h9) rfl dX23_block_163 ?_
    refine lv_iconst (v := 1) hx hb dX23_block_166 (by decide) ?_
    refine lv_isub hx hb dX23_block_167 ?_
    refine lv_topi (fun f_14 ef_14 => ?_)
    obtain rfl : f_14 = nI ns := ef_14.trans (nI_pred _)
    refine va_put (D := (dC, dI)) (ci := 23) (v := .int (nI ns)) (ty := .int) (C := RX23) (T := TX23) (N := 89) hx hb hts in_c_vbl_X23 tyX23 tyX23_ok nmX23 hown hK hP hD hS 5 rfl rfl 15 (by decide) (hts (.fieldLink RX23 104 "OwnedPlacesModel" "nest" "I") (wm_c_vbl 25 rfl)) (fun _ h9 => h9) rfl (by decide +kernel) rfl rfl (Nat.le_of_ble_eq_true rfl) dX23_block_168 (fun H locs hP hD hS => ?_)
    replace hP : va_P (dC, dI) vwCl (([(mr 8, .inl (kL, 3002, .inr (.inl fn))), (q_1, .inr (14, [.int (nI pp), .int 0, .ref la0, .int 0])), (la0, .inl (kS, 4, .inr (.inr (.inr (.inr (fun _ => none)))))), (mr 5, .inl (kI, 3002, .inl fk)), (mr 6, .inl (kI, 3002, .inl fa)), (m9, .inr (23, mA mr mv vf xl (nI zs) ff_9 xa_10 (nI T) (nI pp) xi xt xn (nI ns) (nI vv) (nI bb)))] : va_W) ++ (sT L F)) H := hP
    replace hD : va_D A (([(mr 8, .inl (kL, 3002, .inr (.inl fn))), (q_1, .inr (14, [.int (nI pp), .int 0, .ref la0, .int 0])), (la0, .inl (kS, 4, .inr (.inr (.inr (.inr (fun _ => none)))))), (mr 5, .inl (kI, 3002, .inl fk)), (mr 6, .inl (kI, 3002, .inl fa)), (m9, .inr (23, mA mr mv vf xl (nI zs) ff_9 xa_10 (nI T) (nI pp) xi xt xn (nI ns) (nI vv) (nI bb)))] : va_W) ++ (sT L F)) := hD
    refine lv_aload_n hx hb dX23_block_171 rfl (lv_at hl 0 rfl) ?_
    refine lv_aload_n hx hb dX23_block_172 rfl (lv_at hl 1 rfl) ?_
    refine va_get (D := (dC, dI)) (ci := 23) (v := .int (nI pp)) (C := RX23) (T := TX23) (N := 89) hx hb hts in_c_vbl_X23 hown hK hP 5 rfl rfl 10 (by decide) (hts (.fieldLink RX23 86 "OwnedPlacesModel" "p" "I") (wm_c_vbl 17 rfl)) (fun _ h9 => h9) rfl dX23_block_173 ?_
    refine va_put (D := (dC, dI)) (ci := 14) (v := .int (nI pp)) (ty := .int) (C := RX14) (T := TX14) (N := 4) hx hb hts in_c_vbl_X14 tyX14 tyX14_ok nmX14 hown hK hP hD hS 1 rfl rfl 1 (by decide) (hts (.fieldLink RX23 251 "OwnedPlacesModel$Block" "end" "I") (wm_c_vbl 39 rfl)) (fun _ h9 => h9) rfl (by decide +kernel) rfl rfl (Nat.le_of_ble_eq_true rfl) dX23_block_176 (fun H locs hP hD hS => ?_)
    replace hP : va_P (dC, dI) vwCl (([(mr 8, .inl (kL, 3002, .inr (.inl fn))), (q_1, .inr (14, [.int (nI pp), .int (nI pp), .ref la0, .int 0])), (la0, .inl (kS, 4, .inr (.inr (.inr (.inr (fun _ => none)))))), (mr 5, .inl (kI, 3002, .inl fk)), (mr 6, .inl (kI, 3002, .inl fa)), (m9, .inr (23, mA mr mv vf xl (nI zs) ff_9 xa_10 (nI T) (nI pp) xi xt xn (nI ns) (nI vv) (nI bb)))] : va_W) ++ (sT L F)) H := hP
    replace hD : va_D A (([(mr 8, .inl (kL, 3002, .inr (.inl fn))), (q_1, .inr (14, [.int (nI pp), .int (nI pp), .ref la0, .int 0])), (la0, .inl (kS, 4, .inr (.inr (.inr (.inr (fun _ => none)))))), (mr 5, .inl (kI, 3002, .inl fk)), (mr 6, .inl (kI, 3002, .inl fa)), (m9, .inr (23, mA mr mv vf xl (nI zs) ff_9 xa_10 (nI T) (nI pp) xi xt xn (nI ns) (nI vv) (nI bb)))] : va_W) ++ (sT L F)) := hD
    refine lv_aload_n hx hb dX23_block_179 rfl (lv_at hl 1 rfl) ?_
    refine lv_bipush (v := 64) hx hb dX23_block_180 (by decide) ?_
    replace hPc := hP.subF (f' := [(m9, .inr (23, mA mr mv vf xl (nI zs) ff_9 xa_10 (nI T) (nI pp) xi xt xn (nI ns) (nI vv) (nI bb))), (mr 5, .inl (kI, 3002, .inl fk)), (mr 6, .inl (kI, 3002, .inl fa))]) [5, 3, 4] rfl
    replace hDc := hD.subF (f' := [(m9, .inr (23, mA mr mv vf xl (nI zs) ff_9 xa_10 (nI T) (nI pp) xi xt xn (nI ns) (nI vv) (nI bb))), (mr 5, .inl (kI, 3002, .inl fk)), (mr 6, .inl (kI, 3002, .inl fa))]) [5, 3, 4] (by decide) rfl
    replace hKc := hK.sub (tys' := [(kI, .int)]) [0] rfl
    replace hFc := va_freeT (wc := [(m9, .inr (23, mA mr mv vf xl (nI zs) ff_9 xa_10 (nI T) (nI pp) xi xt xn (nI ns) (nI vv) (nI bb))), (mr 5, .inl (kI, 3002, .inl fk)), (mr 6, .inl (kI, 3002, .inl fa))]) hD hS hA [5, 3, 4] rfl
    refine va_callv (va_runV (As := [.int 64]) (rest := []) ⟨hx, hb, hml, hown, hts⟩ (c_rtkB l dC dI m9 mr mv vf xl xa_10 xi xt xn zs T pp ns vv bb kI fk fa ff_9 64 H.size hf11_0) (cwV 1 hts g_c_vbl_c_rtkB_182 rfl rfl rfl (by decide +kernel) ⟨by show 1 + 1 ≤ 2 + 14 * k; omega, by show 8 + (2 + 11) + (20) ≤ 43 + 323 * k; omega⟩) ⟨fun a U g mk q => by obtain ⟨q0, q1, qP, qK, qD⟩ := q; exact ⟨q0, q1, qP, va_K.moved (u := U) (U := U.calling g mk a) (Vm.Alike.refl U.vm) qK, qD⟩, va_recv hKc hPc (ci := 23) (q0 := 0) rfl rfl, fun U hU hW => ⟨rfl, by rw [hU], by rw [hU]; exact hPc, va_K.moved hW.alike hKc, hDc.weaken (fun _ _ _ _ => trivial)⟩⟩ rfl rfl hl.1 rfl (lv_room (Nat.le_of_ble_eq_true rfl)) dX23_block_182 ⟨(show (1 + 1) + 0 ≤ (8 * (T - pp) + 12) by omega), (show (4 + 4) + 0 ≤ (120 * (T - pp) + 460) by omega)⟩) hS (fun q _ h => hFc q h) hFc (fun u tS H1 locs ht hvm hw hB hz1 hk1 hS => ?_)
    obtain ⟨hP1, hK1, hD1⟩ := hB
    rw [ht] at hP1
    replace hK1 := va_K.moved hvm.symm hK1
    obtain ⟨hPj, hDj⟩ := va_joinT (wr := [(mr 8, .inl (kL, 3002, .inr (.inl fn))), (q_1, .inr (14, [.int (nI pp), .int (nI pp), .ref la0, .int 0])), (la0, .inl (kS, 4, .inr (.inr (.inr (.inr (fun _ => none))))))]) (w1 := [(m9, .inr (23, mA mr mv vf xl (nI zs) ff_9 xa_10 (nI T) (nI pp) xi xt xn (nI ns) (nI vv) (nI bb))), (mr 5, .inl (kI, 3002, .inl fk)), (mr 6, .inl (kI, 3002, .inl fa))]) hP hD [5, 3, 4] [0, 1, 2] rfl rfl (by decide) (by decide) hk1 hFc hP1 hD1
    replace hP := hPj
    replace hD := hDj
    clear hPj hDj
    replace hK := hK.app hK1
    generalize H1 = H at hP hS ⊢
    replace hP : va_P (dC, dI) vwCl (([(mr 8, .inl (kL, 3002, .inr (.inl fn))), (q_1, .inr (14, [.int (nI pp), .int (nI pp), .ref la0, .int 0])), (la0, .inl (kS, 4, .inr (.inr (.inr (.inr (fun _ => none)))))), (m9, .inr (23, mA mr mv vf xl (nI zs) ff_9 xa_10 (nI T) (nI pp) xi xt xn (nI ns) (nI vv) (nI bb))), (mr 5, .inl (kI, 3002, .inl fk)), (mr 6, .inl (kI, 3002, .inl fa))] : va_W) ++ (sT L F)) H := hP
    replace hD : va_D A (([(mr 8, .inl (kL, 3002, .inr (.inl fn))), (q_1, .inr (14, [.int (nI pp), .int (nI pp), .ref la0, .int 0])), (la0, .inl (kS, 4, .inr (.inr (.inr (.inr (fun _ => none)))))), (m9, .inr (23, mA mr mv vf xl (nI zs) ff_9 xa_10 (nI T) (nI pp) xi xt xn (nI ns) (nI vv) (nI bb))), (mr 5, .inl (kI, 3002, .inl fk)), (mr 6, .inl (kI, 3002, .inl fa))] : va_W) ++ (sT L F)) := hD
    replace hK : va_K (dC, dI) vwCl [(kI, .int), (kL, .long), (kE, .object RX15), (kS, .object RX19), (kB, .object RX14), (kA, .object RX13), (kV, .object RX21), (kI, .int)] s := hK
    replace hK := hK.sub (tys' := [(kI, .int), (kL, .long), (kE, .object RX15), (kS, .object RX19), (kB, .object RX14), (kA, .object RX13), (kV, .object RX21)]) [0, 1, 2, 3, 4, 5, 6] rfl
    clear hz1 hk1 hPc hDc hKc hFc hP1 hD1 hK1
    refine lv_aload_n hx hb dX23_block_185 rfl (lv_at hl 0 rfl) ?_
    replace hP : va_P (dC, dI) vwCl ((([(mr 8, .inl (kL, 3002, .inr (.inl fn))), (m9, .inr (23, mA mr mv vf xl (nI zs) ff_9 xa_10 (nI T) (nI pp) xi xt xn (nI ns) (nI vv) (nI bb))), (mr 5, .inl (kI, 3002, .inl fk)), (mr 6, .inl (kI, 3002, .inl fa))] : va_W) ++ ([(q_1, .inr (14, [.int (nI pp), .int (nI pp), .ref la0, .int 0])), (la0, .inl (kS, 4, .inr (.inr (.inr (.inr (fun _ => none))))))] : va_W)) ++ sT L F) H := hP.subT (f' := [(mr 8, .inl (kL, 3002, .inr (.inl fn))), (m9, .inr (23, mA mr mv vf xl (nI zs) ff_9 xa_10 (nI T) (nI pp) xi xt xn (nI ns) (nI vv) (nI bb))), (mr 5, .inl (kI, 3002, .inl fk)), (mr 6, .inl (kI, 3002, .inl fa)), (q_1, .inr (14, [.int (nI pp), .int (nI pp), .ref la0, .int 0])), (la0, .inl (kS, 4, .inr (.inr (.inr (.inr (fun _ => none))))))]) [0, 3, 4, 5, 1, 2] rfl
    replace hD : va_D A ((([(mr 8, .inl (kL, 3002, .inr (.inl fn))), (m9, .inr (23, mA mr mv vf xl (nI zs) ff_9 xa_10 (nI T) (nI pp) xi xt xn (nI ns) (nI vv) (nI bb))), (mr 5, .inl (kI, 3002, .inl fk)), (mr 6, .inl (kI, 3002, .inl fa))] : va_W) ++ ([(q_1, .inr (14, [.int (nI pp), .int (nI pp), .ref la0, .int 0])), (la0, .inl (kS, 4, .inr (.inr (.inr (.inr (fun _ => none))))))] : va_W)) ++ sT L F) := hD.subT (f' := [(mr 8, .inl (kL, 3002, .inr (.inl fn))), (m9, .inr (23, mA mr mv vf xl (nI zs) ff_9 xa_10 (nI T) (nI pp) xi xt xn (nI ns) (nI vv) (nI bb))), (mr 5, .inl (kI, 3002, .inl fk)), (mr 6, .inl (kI, 3002, .inl fa)), (q_1, .inr (14, [.int (nI pp), .int (nI pp), .ref la0, .int 0])), (la0, .inl (kS, 4, .inr (.inr (.inr (.inr (fun _ => none))))))]) [0, 3, 4, 5, 1, 2] (by decide) rfl
    obtain ⟨L9, F9, hx9, hm9, hP, hD⟩ := st_fileL [(q_1, .inr (14, [.int (nI pp), .int (nI pp), .ref la0, .int 0])), (la0, .inl (kS, 4, .inr (.inr (.inr (.inr (fun _ => none))))))] hP hD
    have hm9_0 := hm9 _ (List.mem_of_getElem? (i := 0) rfl)
    have hm9_1 := hm9 _ (List.mem_of_getElem? (i := 1) rfl)
    refine W.grow (fun hgs0 hgs1 => ?_)
    have hP9 := hP.subT (f' := [(m9, .inr (23, mA mr mv vf xl (nI zs) ff_9 xa_10 (nI T) (nI pp) xi xt xn (nI ns) (nI vv) (nI bb))), (mr 5, .inl (kI, 3002, .inl fk)), (mr 6, .inl (kI, 3002, .inl fa)), (mr 8, .inl (kL, 3002, .inr (.inl fn)))]) [1, 2, 3, 0] rfl
    have hD9 := hD.subT (f' := [(m9, .inr (23, mA mr mv vf xl (nI zs) ff_9 xa_10 (nI T) (nI pp) xi xt xn (nI ns) (nI vv) (nI bb))), (mr 5, .inl (kI, 3002, .inl fk)), (mr 6, .inl (kI, 3002, .inl fa)), (mr 8, .inl (kL, 3002, .inr (.inl fn)))]) [1, 2, 3, 0] (by decide) rfl
    have hK9 := hK.sub (tys' := [(kI, .int), (kL, .long), (kE, .object RX15), (kS, .object RX19), (kB, .object RX14), (kA, .object RX13), (kV, .object RX21)]) [0, 1, 2, 3, 4, 5, 6] rfl
    refine W.widen (k := (8 * (T - pp) + 12)) (n := (120 * (T - pp) + 460)) (by omega) (by omega) ?_
    exact W.aret hx hb hr (Or.inl ⟨_, rfl⟩) (Or.inr ⟨q_1, rfl⟩) (fun tS ht hW => ⟨⟨(), q_1, rfl, trivial, L9, F9, ff_9, xa_10, pp, bb, vv, 1, ⟨hx9, hm9_0.1, _, hm9_0.2⟩, ⟨by omega, by omega, by omega, by omega, by omega, by omega⟩, ⟨by omega, fun q9 => absurd q9 hf11_0⟩, (fun q9 => absurd q9 hf11_0), by rw [ht]; exact ⟨by omega, by omega⟩, by rw [ht]; exact hP9, va_K.moved hW.alike hK9, hD9⟩, hS.F ht⟩) hS.2.2 dX23_block_186
