set_option maxRecDepth 20000 in
theorem g_c_xuy_c_nX_4 : GoodIn wp_c_xuy wp_c_nX := goodIn_app (goodIn_f (wf_c_nX) [4, 5, 6, 7] rfl wg_c_nX) (goodIn_n)
set_option maxRecDepth 20000 in
theorem g_c_xuy_c_rok0_9 : GoodIn wp_c_xuy (wsV RX23 89 RX23 yX23_ok wp_c_rok0) := goodIn_app (goodIn_f [.methodLink RX23 89 yX23_ok, .instanceMethod yX23_ok, .selects RX23 yX23_ok yX23_ok, .initialized RX23] [11, 12, 13, 14] rfl (by decide +kernel)) (goodIn_app (goodIn_f (wf_c_rok0) [9, 10] rfl wg_c_rok0) (goodIn_app (goodIn_sub in_c_xuy_X23 gd_X23) (goodIn_n)))
set_option maxRecDepth 20000 in
theorem g_c_xuy_c_renN_125 : GoodIn wp_c_xuy (wsV RX23 119 RX23 yX23_enter wp_c_renY) := goodIn_app (goodIn_f [.methodLink RX23 119 yX23_enter, .instanceMethod yX23_enter, .selects RX23 yX23_enter yX23_enter, .initialized RX23] [27, 28, 29, 14] rfl (by decide +kernel)) (goodIn_app (goodIn_f (wf_c_renY) [19, 9, 10, 11, 12, 13, 14, 20, 21, 22, 23, 24, 25, 26] rfl wg_c_renY) (goodIn_app (goodIn_sub in_c_xuy_X23 gd_X23) (goodIn_n)))
set_option maxRecDepth 20000 in
theorem g_c_xuy_c_renY_125 : GoodIn wp_c_xuy (wsV RX23 119 RX23 yX23_enter wp_c_renY) := goodIn_app (goodIn_f [.methodLink RX23 119 yX23_enter, .instanceMethod yX23_enter, .selects RX23 yX23_enter yX23_enter, .initialized RX23] [27, 28, 29, 14] rfl (by decide +kernel)) (goodIn_app (goodIn_f (wf_c_renY) [19, 9, 10, 11, 12, 13, 14, 20, 21, 22, 23, 24, 25, 26] rfl wg_c_renY) (goodIn_app (goodIn_sub in_c_xuy_X23 gd_X23) (goodIn_n)))
set_option maxRecDepth 20000 in
theorem g_c_xuy_c_xunB_166 : GoodIn wp_c_xuy (wsV RX23 343 RX23 yX23_unary wp_c_xunB) := goodIn_app (goodIn_f [.methodLink RX23 343 yX23_unary, .instanceMethod yX23_unary, .selects RX23 yX23_unary yX23_unary, .initialized RX23] [30, 31, 32, 14] rfl (by decide +kernel)) (goodIn_app (goodIn_f (wf_c_xunB) [0, 1, 2, 3, 4, 5, 6, 7, 8, 9, 10, 11, 12, 13, 14] rfl wg_c_xunB) (goodIn_app (goodIn_sub in_c_xuy_X15 gd_X15) (goodIn_app (goodIn_sub in_c_xuy_X23 gd_X23) (goodIn_n))))
set_option maxRecDepth 20000 in
theorem g_c_xuy_c_xuy_166 : GoodIn wp_c_xuy (wsV RX23 343 RX23 yX23_unary wp_c_xuy) := goodIn_app (goodIn_f [.methodLink RX23 343 yX23_unary, .instanceMethod yX23_unary, .selects RX23 yX23_unary yX23_unary, .initialized RX23] [30, 31, 32, 14] rfl (by decide +kernel)) (goodIn_app (goodIn_f (wf_c_xuy) [0, 1, 2, 3, 4, 5, 6, 7, 8, 9, 10, 11, 12, 13, 14, 15, 16, 17, 18, 19, 20, 21, 22, 23, 24, 25, 26, 27, 28, 29, 30, 31, 32, 33, 34, 35, 36, 37, 38, 39, 40, 41, 42, 43, 44, 45, 46, 47, 48, 49, 50, 51, 52, 53, 54, 55, 56, 57, 58, 59, 60, 61, 62, 63, 64, 65, 66, 67, 68, 69, 70, 71, 72, 73, 74, 75, 76, 77, 78, 79, 80, 81, 82, 83, 84, 85, 86, 87, 88, 89, 90, 91, 92, 93, 94, 95, 96, 97, 98, 99, 100, 101] rfl wg_c_xuy) (goodIn_app (goodIn_sub in_c_xuy_X15 gd_X15) (goodIn_app (goodIn_sub in_c_xuy_X23 gd_X23) (goodIn_n))))
set_option maxRecDepth 20000 in
theorem g_c_xuy_c_rboB_135 : GoodIn wp_c_xuy (wsV RX23 309 RX23 yX23_borrow wp_c_rboY) := goodIn_app (goodIn_f [.methodLink RX23 309 yX23_borrow, .instanceMethod yX23_borrow, .selects RX23 yX23_borrow yX23_borrow, .initialized RX23] [36, 37, 38, 14] rfl (by decide +kernel)) (goodIn_app (goodIn_f (wf_c_rboY) [34, 9, 10, 11, 12, 13, 14, 35, 16, 21, 22, 23, 24, 25, 26] rfl wg_c_rboY) (goodIn_app (goodIn_sub in_c_xuy_X23 gd_X23) (goodIn_n)))
set_option maxRecDepth 20000 in
theorem g_c_xuy_c_rtsB_158 : GoodIn wp_c_xuy (wsV RX23 125 RX23 yX23_takes wp_c_rtsY) := goodIn_app (goodIn_f [.methodLink RX23 125 yX23_takes, .instanceMethod yX23_takes, .selects RX23 yX23_takes yX23_takes, .initialized RX23] [44, 45, 46, 14] rfl (by decide +kernel)) (goodIn_app (goodIn_f (wf_c_rtsY) [39, 9, 10, 11, 12, 13, 14, 40, 15, 16, 41, 42, 43] rfl wg_c_rtsY) (goodIn_app (goodIn_sub in_c_xuy_X23 gd_X23) (goodIn_n)))
set_option maxRecDepth 20000 in
theorem g_c_xuy_c_rboN_135 : GoodIn wp_c_xuy (wsV RX23 309 RX23 yX23_borrow wp_c_rboY) := goodIn_app (goodIn_f [.methodLink RX23 309 yX23_borrow, .instanceMethod yX23_borrow, .selects RX23 yX23_borrow yX23_borrow, .initialized RX23] [36, 37, 38, 14] rfl (by decide +kernel)) (goodIn_app (goodIn_f (wf_c_rboY) [34, 9, 10, 11, 12, 13, 14, 35, 16, 21, 22, 23, 24, 25, 26] rfl wg_c_rboY) (goodIn_app (goodIn_sub in_c_xuy_X23 gd_X23) (goodIn_n)))
set_option maxRecDepth 20000 in
theorem g_c_xuy_c_rboY_135 : GoodIn wp_c_xuy (wsV RX23 309 RX23 yX23_borrow wp_c_rboY) := goodIn_app (goodIn_f [.methodLink RX23 309 yX23_borrow, .instanceMethod yX23_borrow, .selects RX23 yX23_borrow yX23_borrow, .initialized RX23] [36, 37, 38, 14] rfl (by decide +kernel)) (goodIn_app (goodIn_f (wf_c_rboY) [34, 9, 10, 11, 12, 13, 14, 35, 16, 21, 22, 23, 24, 25, 26] rfl wg_c_rboY) (goodIn_app (goodIn_sub in_c_xuy_X23 gd_X23) (goodIn_n)))
set_option maxRecDepth 20000 in
theorem g_c_xuy_c_rtsY_158 : GoodIn wp_c_xuy (wsV RX23 125 RX23 yX23_takes wp_c_rtsY) := goodIn_app (goodIn_f [.methodLink RX23 125 yX23_takes, .instanceMethod yX23_takes, .selects RX23 yX23_takes yX23_takes, .initialized RX23] [44, 45, 46, 14] rfl (by decide +kernel)) (goodIn_app (goodIn_f (wf_c_rtsY) [39, 9, 10, 11, 12, 13, 14, 40, 15, 16, 41, 42, 43] rfl wg_c_rtsY) (goodIn_app (goodIn_sub in_c_xuy_X23 gd_X23) (goodIn_n)))
set_option maxRecDepth 20000 in
theorem g_c_xuy_c_rtsN_158 : GoodIn wp_c_xuy (wsV RX23 125 RX23 yX23_takes wp_c_rtsY) := goodIn_app (goodIn_f [.methodLink RX23 125 yX23_takes, .instanceMethod yX23_takes, .selects RX23 yX23_takes yX23_takes, .initialized RX23] [44, 45, 46, 14] rfl (by decide +kernel)) (goodIn_app (goodIn_f (wf_c_rtsY) [39, 9, 10, 11, 12, 13, 14, 40, 15, 16, 41, 42, 43] rfl wg_c_rtsY) (goodIn_app (goodIn_sub in_c_xuy_X23 gd_X23) (goodIn_n)))
set_option maxRecDepth 20000 in
theorem g_c_xuy_c_xsu_58 : GoodIn wp_c_xuy (wsV RX23 355 RX23 yX23_suffixed wp_c_xsu) := goodIn_app (goodIn_f [.methodLink RX23 355 yX23_suffixed, .instanceMethod yX23_suffixed, .selects RX23 yX23_suffixed yX23_suffixed, .initialized RX23] [95, 96, 97, 14] rfl (by decide +kernel)) (goodIn_app (goodIn_f (wf_c_xsu) [48, 49, 1, 2, 3, 4, 5, 6, 7, 8, 16, 17, 15, 50, 51, 40, 41, 42, 43, 14, 18, 52, 9, 10, 11, 12, 13, 19, 20, 21, 22, 23, 24, 25, 26, 27, 28, 29, 53, 54, 55, 56, 57, 58, 59, 60, 61, 62, 63, 64, 65, 66, 67, 68, 69, 70, 39, 44, 45, 46, 71, 72, 73, 74, 75, 76, 77, 78, 79, 80, 81, 82, 83, 84, 85, 86, 87, 88, 33, 89, 90, 91, 92, 93, 94, 0, 30, 31, 32, 34, 35, 36, 37, 38, 47, 95, 96, 97, 98, 99, 100, 101] rfl wg_c_xsu) (goodIn_app (goodIn_sub in_c_xuy_X15 gd_X15) (goodIn_app (goodIn_sub in_c_xuy_X23 gd_X23) (goodIn_n))))
set_option maxHeartbeats 4000000 in
set_option maxRecDepth 100000 in
theorem c_xuy (l : Launch) (dC : Nat → ClassId) (dI : Nat → Nat → Nat) (k : Nat) (ih : ∀ k1 : Nat, k = k1 + 1 → IH_gx l dC dI k1) : st_c_xuy l dC dI k := by
  intro m9 mr mv vf xl xa xi xt xn zs T pp ns vv bb kI fk fa kL kE fn L F sl sz hT hp hk0 hbb hnk
  refine Met.ofW (cc := cX23_unary) (maxL := 3) (ret := (some (.object "OwnedPlacesModel$Exp"))) (by decide) rfl ?_
  intro p e s m args below meth c s₁ B hml hv
  obtain ⟨rfl, hsz, hP, hK, hD0, hpre0, hpre1⟩ := hv
  have hx := B.exec
  have hb := B.bytes
  have hr := B.returns
  have hts := atoms_spec (ws := wp_c_xuy) B.pre
  have hown : s.vm.findClass RX23 = some m.cls := findClass_of_methodNamed B.named
  have hlocks := B.notSynchronized
  subst hsz
  replace hD := hD0.self (sz := s.heap.size)
  generalize hAe : va_A (([(m9, .inr (23, mA mr mv vf xl (nI zs) 0 xa (nI T) (nI pp) xi xt xn (nI ns) (nI vv) (nI bb))), (mr 5, .inl (kI, 3002, .inl fk)), (mr 6, .inl (kI, 3002, .inl fa)), (mr 8, .inl (kL, 3002, .inr (.inl fn)))] : va_W) ++ (sT L F)) s.heap.size = A at hD ⊢
  have hA : ∀ q : Nat, s.heap.size ≤ q → A q := fun q h => by rw [← hAe]; exact Or.inr h
  have hS : va_S A s.heap s.heap [] := va_S.rf
  replace hP : va_P (dC, dI) vwCl (([(m9, .inr (23, mA mr mv vf xl (nI zs) 0 xa (nI T) (nI pp) xi xt xn (nI ns) (nI vv) (nI bb))), (mr 5, .inl (kI, 3002, .inl fk)), (mr 6, .inl (kI, 3002, .inl fa)), (mr 8, .inl (kL, 3002, .inr (.inl fn)))] : va_W) ++ (sT L F)) s.heap := hP
  replace hl := lv_entry ([.ref m9]) (n := 3) (Nat.le_of_ble_eq_true rfl)
  rw [lg_entry_eq]
  generalize (lg_sl ([.ref m9]) ++ List.replicate (3 - (lg_sl ([.ref m9])).length) Slot.unset).toArray = ls at hl ⊢
  replace hl : lv_has ls 3 [(0, .ref m9)] := hl
  have hns := hpre0
  subst hpre1
  refine va_new (ci := 15) (fs := [.int 0, .int 0, .int 0, .int 0, .int 0, .int 0, .long 0, .int 0, .null, .null, .null, .int 0, .null, .null]) (C := RX15) (T := TX15) (N := 14) hx hb hts in_c_xuy_X15 tyX15 tyX15_ok hown (hts (.classLink RX23 295 RX15) (wm_c_xuy 1 rfl)) (hts (.instantiable RX15 14) (wm_c_xuy 2 rfl)) (hts (.initialized RX15) (wm_c_xuy 3 rfl)) hK hP hD hS hA rfl dv_X15 (show 0 + 1 ≤ (8 * (T - pp) + 7) by omega) (show 0 + 14 ≤ (120 * (T - pp) + 340) by omega) dX23_unary_0 (fun q_1 H hP hD hS => ?_)
  replace hP := va_P.nt hP
  replace hD := va_D.nt hD
  replace hP : va_P (dC, dI) vwCl (([(m9, .inr (23, mA mr mv vf xl (nI zs) 0 xa (nI T) (nI pp) xi xt xn (nI ns) (nI vv) (nI bb))), (mr 5, .inl (kI, 3002, .inl fk)), (mr 6, .inl (kI, 3002, .inl fa)), (mr 8, .inl (kL, 3002, .inr (.inl fn))), (q_1, .inr (15, [.int 0, .int 0, .int 0, .int 0, .int 0, .int 0, .long 0, .int 0, .null, .null, .null, .int 0, .null, .null]))] : va_W) ++ (sT L F)) H := hP
  replace hD : va_D A (([(m9, .inr (23, mA mr mv vf xl (nI zs) 0 xa (nI T) (nI pp) xi xt xn (nI ns) (nI vv) (nI bb))), (mr 5, .inl (kI, 3002, .inl fk)), (mr 6, .inl (kI, 3002, .inl fa)), (mr 8, .inl (kL, 3002, .inr (.inl fn))), (q_1, .inr (15, [.int 0, .int 0, .int 0, .int 0, .int 0, .int 0, .long 0, .int 0, .null, .null, .null, .int 0, .null, .null]))] : va_W) ++ (sT L F)) := hD
  refine W.widen (k := 1) (n := 14) (by omega) (by omega) ?_
  refine lv_dup hx hb dX23_unary_3 rfl ?_
  replace hPc := hP.subF (f' := [(q_1, .inr (15, [.int 0, .int 0, .int 0, .int 0, .int 0, .int 0, .long 0, .int 0, .null, .null, .null, .int 0, .null, .null]))]) [4] rfl
  replace hDc := hD.subF (f' := [(q_1, .inr (15, [.int 0, .int 0, .int 0, .int 0, .int 0, .int 0, .long 0, .int 0, .null, .null, .null, .int 0, .null, .null]))]) [4] (by decide) rfl
  replace hKc := hK.sub (tys' := []) [] rfl
  replace hFc := va_freeT (wc := [(q_1, .inr (15, [.int 0, .int 0, .int 0, .int 0, .int 0, .int 0, .long 0, .int 0, .null, .null, .null, .int 0, .null, .null]))]) hD hS hA [4] rfl
  refine va_callv (va_runIN (As := []) (rest := [.ref q_1]) ⟨hx, hb, hml, hown, hts⟩ (c_nX l dC dI q_1 H.size) ⟨va_cnB 0 hts g_c_xuy_c_nX_4 rfl rfl rfl hns.1.2.2.2.2.2.2.1 (hts (.initialized RX15) (wm_c_xuy 3 rfl)) (by decide +kernel) ⟨by show 1 + 1 ≤ 6 + 12 * k; omega, by show 8 + (1 + 11) + (12) ≤ 130 + 279 * k; omega⟩, rfl, (hts (.instanceMethod yX15_init) (wm_c_xuy 8 rfl))⟩ ⟨fun a U g mk q => by obtain ⟨q0, q1, qP, qK, qD⟩ := q; exact ⟨q0, q1, qP, va_K.moved (u := U) (U := U.calling g mk a) (Vm.Alike.refl U.vm) qK, qD⟩, fun U hU hW => ⟨rfl, by rw [hU], by rw [hU]; exact hPc, va_K.moved hW.alike hKc, hDc.weaken (fun _ _ _ _ => trivial)⟩⟩ rfl rfl hl.1 rfl (lv_room (Nat.le_of_ble_eq_true rfl)) dX23_unary_4 ⟨(show 1 + 0 ≤ (8 * (T - pp) + 7) by omega), (show 14 + 0 ≤ (120 * (T - pp) + 340) by omega)⟩) hS (fun q _ h => hFc q h) hFc (fun u tS H1 locs ht hvm hw hB hz1 hk1 hS => ?_)
  obtain ⟨hP1, hK1, hD1⟩ := hB
  rw [ht] at hP1
  replace hK1 := va_K.moved hvm.symm hK1
  obtain ⟨hPj, hDj⟩ := va_joinT (wr := [(m9, .inr (23, mA mr mv vf xl (nI zs) 0 xa (nI T) (nI pp) xi xt xn (nI ns) (nI vv) (nI bb))), (mr 5, .inl (kI, 3002, .inl fk)), (mr 6, .inl (kI, 3002, .inl fa)), (mr 8, .inl (kL, 3002, .inr (.inl fn)))]) (w1 := [(q_1, .inr (15, [.int 0, .int 0, .int 0, .int 0, .int 0, .int 0, .long 0, .int 0, .null, .null, .null, .int 0, .null, .null]))]) hP hD [4] [0, 1, 2, 3] rfl rfl (by decide) (by decide) hk1 hFc hP1 hD1
  replace hP := hPj
  replace hD := hDj
  clear hPj hDj
  generalize H1 = H at hP hS ⊢
  replace hP : va_P (dC, dI) vwCl (([(m9, .inr (23, mA mr mv vf xl (nI zs) 0 xa (nI T) (nI pp) xi xt xn (nI ns) (nI vv) (nI bb))), (mr 5, .inl (kI, 3002, .inl fk)), (mr 6, .inl (kI, 3002, .inl fa)), (mr 8, .inl (kL, 3002, .inr (.inl fn))), (q_1, .inr (15, [.int 0, .int 0, .int 0, .int 0, .int 0, .int 0, .long 0, .int 0, .null, .null, .null, .int 0, .null, .null]))] : va_W) ++ (sT L F)) H := hP
  replace hD : va_D A (([(m9, .inr (23, mA mr mv vf xl (nI zs) 0 xa (nI T) (nI pp) xi xt xn (nI ns) (nI vv) (nI bb))), (mr 5, .inl (kI, 3002, .inl fk)), (mr 6, .inl (kI, 3002, .inl fa)), (mr 8, .inl (kL, 3002, .inr (.inl fn))), (q_1, .inr (15, [.int 0, .int 0, .int 0, .int 0, .int 0, .int 0, .long 0, .int 0, .null, .null, .null, .int 0, .null, .null]))] : va_W) ++ (sT L F)) := hD
  replace hK : va_K (dC, dI) vwCl [(kI, .int), (kL, .long), (kE, .object RX15)] s := hK
  clear hz1 hk1 hPc hDc hKc hFc hP1 hD1 hK1
  refine lv_astore_n (lv' := [(1, .ref q_1), (0, .ref m9)]) hx hb dX23_unary_7 rfl hl (by decide) rfl (fun ls hl => ?_)
  refine lv_aload_n hx hb dX23_unary_8 rfl (lv_at hl 1 rfl) ?_
  replace hPc := hP.subF (f' := [(m9, .inr (23, mA mr mv vf xl (nI zs) 0 xa (nI T) (nI pp) xi xt xn (nI ns) (nI vv) (nI bb)))]) [0] rfl
  replace hDc := hD.subF (f' := [(m9, .inr (23, mA mr mv vf xl (nI zs) 0 xa (nI T) (nI pp) xi xt xn (nI ns) (nI vv) (nI bb)))]) [0] (by decide) rfl
  replace hKc := hK.sub (tys' := []) [] rfl
  replace hFc := va_freeT (wc := [(m9, .inr (23, mA mr mv vf xl (nI zs) 0 xa (nI T) (nI pp) xi xt xn (nI ns) (nI vv) (nI bb)))]) hD hS hA [0] rfl
  refine va_calli (va_runV (As := []) (rest := []) ⟨hx, hb, hml, hown, hts⟩ (c_rok0 l dC dI m9 mr mv vf xl xa xi xt xn zs T pp ns vv bb kI fk fa H.size) (cwV 0 hts g_c_xuy_c_rok0_9 rfl rfl rfl (by decide +kernel) ⟨by show 0 + 1 ≤ 6 + 12 * k; omega, by show 8 + (1 + 11) + (0) ≤ 130 + 279 * k; omega⟩) ⟨fun a U g mk q => by obtain ⟨q0, q1, qP, qK, qD⟩ := q; exact ⟨q0, q1, qP, va_K.moved (u := U) (U := U.calling g mk a) (Vm.Alike.refl U.vm) qK, qD⟩, va_recv hKc hPc (ci := 23) (q0 := 0) rfl rfl, fun U hU hW => ⟨rfl, by rw [hU], by rw [hU]; exact hPc, va_K.moved hW.alike hKc, hDc.weaken (fun _ _ _ _ => trivial)⟩⟩ rfl rfl hl.1 rfl (lv_room (Nat.le_of_ble_eq_true rfl)) dX23_unary_9 ⟨(show 1 + 0 ≤ (8 * (T - pp) + 7) by omega), (show 14 + 0 ≤ (120 * (T - pp) + 340) by omega)⟩) hS (fun q _ h => hFc q h) hFc (fun r_3 u tS H1 locs ht hvm hw hB hz1 hk1 hS => ?_)
  obtain ⟨hP1, hK1, hD1⟩ := hB
  rw [ht] at hP1
  replace hK1 := va_K.moved hvm.symm hK1
  obtain ⟨hPj, hDj⟩ := va_joinT (wr := [(mr 5, .inl (kI, 3002, .inl fk)), (mr 6, .inl (kI, 3002, .inl fa)), (mr 8, .inl (kL, 3002, .inr (.inl fn))), (q_1, .inr (15, [.int 0, .int 0, .int 0, .int 0, .int 0, .int 0, .long 0, .int 0, .null, .null, .null, .int 0, .null, .null]))]) (w1 := [(m9, .inr (23, mA mr mv vf xl (nI zs) 0 xa (nI T) (nI pp) xi xt xn (nI ns) (nI vv) (nI bb)))]) hP hD [0] [1, 2, 3, 4] rfl rfl (by decide) (by decide) hk1 hFc hP1 hD1
  replace hP := hPj
  replace hD := hDj
  clear hPj hDj
  generalize H1 = H at hP hS ⊢
  replace hP : va_P (dC, dI) vwCl (([(mr 5, .inl (kI, 3002, .inl fk)), (mr 6, .inl (kI, 3002, .inl fa)), (mr 8, .inl (kL, 3002, .inr (.inl fn))), (q_1, .inr (15, [.int 0, .int 0, .int 0, .int 0, .int 0, .int 0, .long 0, .int 0, .null, .null, .null, .int 0, .null, .null])), (m9, .inr (23, mA mr mv vf xl (nI zs) 0 xa (nI T) (nI pp) xi xt xn (nI ns) (nI vv) (nI bb)))] : va_W) ++ (sT L F)) H := hP
  replace hD : va_D A (([(mr 5, .inl (kI, 3002, .inl fk)), (mr 6, .inl (kI, 3002, .inl fa)), (mr 8, .inl (kL, 3002, .inr (.inl fn))), (q_1, .inr (15, [.int 0, .int 0, .int 0, .int 0, .int 0, .int 0, .long 0, .int 0, .null, .null, .null, .int 0, .null, .null])), (m9, .inr (23, mA mr mv vf xl (nI zs) 0 xa (nI T) (nI pp) xi xt xn (nI ns) (nI vv) (nI bb)))] : va_W) ++ (sT L F)) := hD
  replace hK : va_K (dC, dI) vwCl [(kI, .int), (kL, .long), (kE, .object RX15)] s := hK
  clear hz1 hk1 hPc hDc hKc hFc hP1 hD1 hK1
  obtain rfl : r_3 = 1 := hw
  refine lv_if_ne (tgt := 17) hx hb dX23_unary_12 (by decide) (fun _ => ?_) (fun c_4 => absurd c_4 (by decide))
  refine lv_aload_n hx hb dX23_unary_17 rfl (lv_at hl 1 rfl) ?_
  refine va_get (D := (dC, dI)) (ci := 23) (v := .ref (mr 5)) (C := RX23) (T := TX23) (N := 89) hx hb hts in_c_xuy_X23 hown hK hP 4 rfl rfl 5 (by decide) (hts (.fieldLink RX23 25 "OwnedPlacesModel" "tokenKind" "[I") (wm_c_xuy 15 rfl)) (fun _ h9 => h9) rfl dX23_unary_18 ?_
  refine lv_aload_n hx hb dX23_unary_21 rfl (lv_at hl 1 rfl) ?_
  refine va_get (D := (dC, dI)) (ci := 23) (v := .int (nI pp)) (C := RX23) (T := TX23) (N := 89) hx hb hts in_c_xuy_X23 hown hK hP 4 rfl rfl 10 (by decide) (hts (.fieldLink RX23 86 "OwnedPlacesModel" "p" "I") (wm_c_xuy 16 rfl)) (fun _ h9 => h9) rfl dX23_unary_22 ?_
  refine va_iald hx hb hK hP 0 0 rfl rfl (vp_in_nI (show pp < 3002 by omega) (by decide)) dX23_unary_25 ?_
  refine lv_topi (fun v_5 ev_5 => ?_)
  obtain rfl : v_5 = fk pp := ev_5.trans (by rw [nI_clamp (by omega)])
  refine lv_istore_n (lv' := [(2, .int (fk pp)), (1, .ref q_1), (0, .ref m9)]) hx hb dX23_unary_26 rfl hl (by decide) rfl (fun ls hl => ?_)
  refine lv_iload_n hx hb dX23_unary_27 rfl (lv_at hl 0 rfl) ?_
  refine lv_bipush (v := 53) hx hb dX23_unary_28 (by decide) ?_
  by_cases hk_6 : fk pp = 53
  · refine lv_icmp_eq (tgt := 62) hx hb dX23_unary_30 (by decide) (fun _ => ?_) (fun c_7 => absurd hk_6 c_7)
    refine lv_aload_n hx hb dX23_unary_62 rfl (lv_at hl 1 rfl) ?_
    refine lv_aload_n hx hb dX23_unary_63 rfl (lv_at hl 2 rfl) ?_
    refine va_get (D := (dC, dI)) (ci := 23) (v := .int (nI pp)) (C := RX23) (T := TX23) (N := 89) hx hb hts in_c_xuy_X23 hown hK hP 4 rfl rfl 10 (by decide) (hts (.fieldLink RX23 86 "OwnedPlacesModel" "p" "I") (wm_c_xuy 16 rfl)) (fun _ h9 => h9) rfl dX23_unary_64 ?_
    refine va_put (D := (dC, dI)) (ci := 15) (v := .int (nI pp)) (ty := .int) (C := RX15) (T := TX15) (N := 14) hx hb hts in_c_xuy_X15 tyX15 tyX15_ok nmX15 hown hK hP hD hS 3 rfl rfl 1 (by decide) (hts (.fieldLink RX23 350 "OwnedPlacesModel$Exp" "token" "I") (wm_c_xuy 17 rfl)) (fun _ h9 => h9) rfl (by decide +kernel) rfl rfl (Nat.le_of_ble_eq_true rfl) dX23_unary_67 (fun H locs hP hD hS => ?_)
    replace hP : va_P (dC, dI) vwCl (([(mr 5, .inl (kI, 3002, .inl fk)), (mr 6, .inl (kI, 3002, .inl fa)), (mr 8, .inl (kL, 3002, .inr (.inl fn))), (q_1, .inr (15, [.int 0, .int (nI pp), .int 0, .int 0, .int 0, .int 0, .long 0, .int 0, .null, .null, .null, .int 0, .null, .null])), (m9, .inr (23, mA mr mv vf xl (nI zs) 0 xa (nI T) (nI pp) xi xt xn (nI ns) (nI vv) (nI bb)))] : va_W) ++ (sT L F)) H := hP
    replace hD : va_D A (([(mr 5, .inl (kI, 3002, .inl fk)), (mr 6, .inl (kI, 3002, .inl fa)), (mr 8, .inl (kL, 3002, .inr (.inl fn))), (q_1, .inr (15, [.int 0, .int (nI pp), .int 0, .int 0, .int 0, .int 0, .long 0, .int 0, .null, .null, .null, .int 0, .null, .null])), (m9, .inr (23, mA mr mv vf xl (nI zs) 0 xa (nI T) (nI pp) xi xt xn (nI ns) (nI vv) (nI bb)))] : va_W) ++ (sT L F)) := hD
    refine lv_aload_n hx hb dX23_unary_70 rfl (lv_at hl 1 rfl) ?_
    refine lv_iload_n hx hb dX23_unary_71 rfl (lv_at hl 0 rfl) ?_
    refine lv_bipush (v := 53) hx hb dX23_unary_72 (by decide) ?_
    refine lv_icmp_ne (tgt := 82) hx hb dX23_unary_74 (by decide) (fun c_8 => absurd c_8 (fun q9 => q9 hk_6)) (fun _ => ?_)
    refine lv_bipush (v := 9) hx hb dX23_unary_77 (by decide) ?_
    refine lv_goto (tgt := 117) hx hb dX23_unary_79 (by decide) ?_
    refine va_put (D := (dC, dI)) (ci := 15) (v := .int 9) (ty := .int) (C := RX15) (T := TX15) (N := 14) hx hb hts in_c_xuy_X15 tyX15 tyX15_ok nmX15 hown hK hP hD hS 3 rfl rfl 0 (by decide) (hts (.fieldLink RX23 330 "OwnedPlacesModel$Exp" "kind" "I") (wm_c_xuy 18 rfl)) (fun _ h9 => h9) rfl (by decide +kernel) rfl rfl (Nat.le_of_ble_eq_true rfl) dX23_unary_117 (fun H locs hP hD hS => ?_)
    replace hP : va_P (dC, dI) vwCl (([(mr 5, .inl (kI, 3002, .inl fk)), (mr 6, .inl (kI, 3002, .inl fa)), (mr 8, .inl (kL, 3002, .inr (.inl fn))), (q_1, .inr (15, [.int 9, .int (nI pp), .int 0, .int 0, .int 0, .int 0, .long 0, .int 0, .null, .null, .null, .int 0, .null, .null])), (m9, .inr (23, mA mr mv vf xl (nI zs) 0 xa (nI T) (nI pp) xi xt xn (nI ns) (nI vv) (nI bb)))] : va_W) ++ (sT L F)) H := hP
    replace hD : va_D A (([(mr 5, .inl (kI, 3002, .inl fk)), (mr 6, .inl (kI, 3002, .inl fa)), (mr 8, .inl (kL, 3002, .inr (.inl fn))), (q_1, .inr (15, [.int 9, .int (nI pp), .int 0, .int 0, .int 0, .int 0, .long 0, .int 0, .null, .null, .null, .int 0, .null, .null])), (m9, .inr (23, mA mr mv vf xl (nI zs) 0 xa (nI T) (nI pp) xi xt xn (nI ns) (nI vv) (nI bb)))] : va_W) ++ (sT L F)) := hD
    refine lv_aload_n hx hb dX23_unary_120 rfl (lv_at hl 2 rfl) ?_
    refine lv_aload_n hx hb dX23_unary_121 rfl (lv_at hl 2 rfl) ?_
    refine va_get (D := (dC, dI)) (ci := 23) (v := .int (nI pp)) (C := RX23) (T := TX23) (N := 89) hx hb hts in_c_xuy_X23 hown hK hP 4 rfl rfl 10 (by decide) (hts (.fieldLink RX23 86 "OwnedPlacesModel" "p" "I") (wm_c_xuy 16 rfl)) (fun _ h9 => h9) rfl dX23_unary_122 ?_
    by_cases hn_9 : ns = 16
    · replace hPc := hP.subF (f' := [(m9, .inr (23, mA mr mv vf xl (nI zs) 0 xa (nI T) (nI pp) xi xt xn (nI ns) (nI vv) (nI bb))), (mr 6, .inl (kI, 3002, .inl fa))]) [4, 1] rfl
      replace hDc := hD.subF (f' := [(m9, .inr (23, mA mr mv vf xl (nI zs) 0 xa (nI T) (nI pp) xi xt xn (nI ns) (nI vv) (nI bb))), (mr 6, .inl (kI, 3002, .inl fa))]) [4, 1] (by decide) rfl
      replace hKc := hK.sub (tys' := [(kI, .int)]) [0] rfl
      replace hFc := va_freeT (wc := [(m9, .inr (23, mA mr mv vf xl (nI zs) 0 xa (nI T) (nI pp) xi xt xn (nI ns) (nI vv) (nI bb))), (mr 6, .inl (kI, 3002, .inl fa))]) hD hS hA [4, 1] rfl
      refine va_callv (va_runV (As := [.int (nI pp)]) (rest := []) ⟨hx, hb, hml, hown, hts⟩ (c_renN l dC dI m9 mr mv vf xl xa xi xt xn zs T pp ns vv bb kI fk fa pp H.size (by omega) hn_9) (cwV 1 hts g_c_xuy_c_renN_125 rfl rfl rfl (by decide +kernel) ⟨by show 1 + 1 ≤ 6 + 12 * k; omega, by show 8 + (2 + 11) + (22) ≤ 130 + 279 * k; omega⟩) ⟨fun a U g mk q => by obtain ⟨q0, q1, qP, qK, qD⟩ := q; exact ⟨q0, q1, qP, va_K.moved (u := U) (U := U.calling g mk a) (Vm.Alike.refl U.vm) qK, qD⟩, va_recv hKc hPc (ci := 23) (q0 := 0) rfl rfl, fun U hU hW => ⟨rfl, by rw [hU], by rw [hU]; exact hPc, va_K.moved hW.alike hKc, hDc.weaken (fun _ _ _ _ => trivial)⟩⟩ rfl rfl hl.1 rfl (lv_room (Nat.le_of_ble_eq_true rfl)) dX23_unary_125 ⟨(show 1 + 0 ≤ (8 * (T - pp) + 7) by omega), (show 14 + 0 ≤ (120 * (T - pp) + 340) by omega)⟩) hS (fun q _ h => hFc q h) hFc (fun u tS H1 locs ht hvm hw hB hz1 hk1 hS => ?_)
      obtain ⟨ff_10, xa_11, hf12_0, hP1, hK1, hD1⟩ := hB
      rw [ht] at hP1
      replace hK1 := va_K.moved hvm.symm hK1
      obtain ⟨hPj, hDj⟩ := va_joinT (wr := [(mr 5, .inl (kI, 3002, .inl fk)), (mr 8, .inl (kL, 3002, .inr (.inl fn))), (q_1, .inr (15, [.int 9, .int (nI pp), .int 0, .int 0, .int 0, .int 0, .long 0, .int 0, .null, .null, .null, .int 0, .null, .null]))]) (w1 := [(m9, .inr (23, mA mr mv vf xl (nI zs) ff_10 xa_11 (nI T) (nI pp) xi xt xn (nI (ns + 1)) (nI vv) (nI bb))), (mr 6, .inl (kI, 3002, .inl fa))]) hP hD [4, 1] [0, 2, 3] rfl rfl (by decide) (by decide) hk1 hFc hP1 hD1
      replace hP := hPj
      replace hD := hDj
      clear hPj hDj
      replace hK := hK.app hK1
      generalize H1 = H at hP hS ⊢
      replace hP : va_P (dC, dI) vwCl (([(mr 5, .inl (kI, 3002, .inl fk)), (mr 8, .inl (kL, 3002, .inr (.inl fn))), (q_1, .inr (15, [.int 9, .int (nI pp), .int 0, .int 0, .int 0, .int 0, .long 0, .int 0, .null, .null, .null, .int 0, .null, .null])), (m9, .inr (23, mA mr mv vf xl (nI zs) ff_10 xa_11 (nI T) (nI pp) xi xt xn (nI (ns + 1)) (nI vv) (nI bb))), (mr 6, .inl (kI, 3002, .inl fa))] : va_W) ++ (sT L F)) H := hP
      replace hD : va_D A (([(mr 5, .inl (kI, 3002, .inl fk)), (mr 8, .inl (kL, 3002, .inr (.inl fn))), (q_1, .inr (15, [.int 9, .int (nI pp), .int 0, .int 0, .int 0, .int 0, .long 0, .int 0, .null, .null, .null, .int 0, .null, .null])), (m9, .inr (23, mA mr mv vf xl (nI zs) ff_10 xa_11 (nI T) (nI pp) xi xt xn (nI (ns + 1)) (nI vv) (nI bb))), (mr 6, .inl (kI, 3002, .inl fa))] : va_W) ++ (sT L F)) := hD
      replace hK : va_K (dC, dI) vwCl [(kI, .int), (kL, .long), (kE, .object RX15), (kI, .int)] s := hK
      replace hK := hK.sub (tys' := [(kI, .int), (kL, .long), (kE, .object RX15)]) [0, 1, 2] rfl
      clear hz1 hk1 hPc hDc hKc hFc hP1 hD1 hK1
      refine lv_iload_n hx hb dX23_unary_128 rfl (lv_at hl 0 rfl) ?_
      refine lv_bipush (v := 55) hx hb dX23_unary_129 (by decide) ?_
      refine lv_icmp_ne (tgt := 138) hx hb dX23_unary_131 (by decide) (fun _ => ?_) (fun c_13 => absurd c_13 (fun q9 => absurd (hk_6.symm.trans q9) (by decide)))
      refine lv_aload_n hx hb dX23_unary_138 rfl (lv_at hl 2 rfl) ?_
      refine lv_dup hx hb dX23_unary_139 rfl ?_
      refine va_get (D := (dC, dI)) (ci := 23) (v := .int (nI pp)) (C := RX23) (T := TX23) (N := 89) hx hb hts in_c_xuy_X23 hown hK hP 3 rfl rfl 10 (by decide) (hts (.fieldLink RX23 86 "OwnedPlacesModel" "p" "I") (wm_c_xuy 16 rfl)) (fun _ h9 => h9) rfl dX23_unary_140 ?_
      refine lv_iconst (v := 1) hx hb dX23_unary_143 (by decide) ?_
      refine lv_iadd hx hb dX23_unary_144 ?_
      refine lv_topi (fun f_14 ef_14 => ?_)
      obtain rfl : f_14 = nI (pp + 1) := ef_14.trans (nI_1 _)
      refine va_put (D := (dC, dI)) (ci := 23) (v := .int (nI (pp + 1))) (ty := .int) (C := RX23) (T := TX23) (N := 89) hx hb hts in_c_xuy_X23 tyX23 tyX23_ok nmX23 hown hK hP hD hS 3 rfl rfl 10 (by decide) (hts (.fieldLink RX23 86 "OwnedPlacesModel" "p" "I") (wm_c_xuy 16 rfl)) (fun _ h9 => h9) rfl (by decide +kernel) rfl rfl (Nat.le_of_ble_eq_true rfl) dX23_unary_145 (fun H locs hP hD hS => ?_)
      replace hP : va_P (dC, dI) vwCl (([(mr 5, .inl (kI, 3002, .inl fk)), (mr 8, .inl (kL, 3002, .inr (.inl fn))), (q_1, .inr (15, [.int 9, .int (nI pp), .int 0, .int 0, .int 0, .int 0, .long 0, .int 0, .null, .null, .null, .int 0, .null, .null])), (m9, .inr (23, mA mr mv vf xl (nI zs) ff_10 xa_11 (nI T) (nI (pp + 1)) xi xt xn (nI (ns + 1)) (nI vv) (nI bb))), (mr 6, .inl (kI, 3002, .inl fa))] : va_W) ++ (sT L F)) H := hP
      replace hD : va_D A (([(mr 5, .inl (kI, 3002, .inl fk)), (mr 8, .inl (kL, 3002, .inr (.inl fn))), (q_1, .inr (15, [.int 9, .int (nI pp), .int 0, .int 0, .int 0, .int 0, .long 0, .int 0, .null, .null, .null, .int 0, .null, .null])), (m9, .inr (23, mA mr mv vf xl (nI zs) ff_10 xa_11 (nI T) (nI (pp + 1)) xi xt xn (nI (ns + 1)) (nI vv) (nI bb))), (mr 6, .inl (kI, 3002, .inl fa))] : va_W) ++ (sT L F)) := hD
      have hp_15 : pp + 1 < T := kne3 hk0 hp hk_6 (by decide)
      refine lv_iload_n hx hb dX23_unary_148 rfl (lv_at hl 0 rfl) ?_
      refine lv_bipush (v := 55) hx hb dX23_unary_149 (by decide) ?_
      refine lv_icmp_ne (tgt := 164) hx hb dX23_unary_151 (by decide) (fun _ => ?_) (fun c_16 => absurd c_16 (fun q9 => absurd (hk_6.symm.trans q9) (by decide)))
      refine lv_aload_n hx hb dX23_unary_164 rfl (lv_at hl 1 rfl) ?_
      refine lv_aload_n hx hb dX23_unary_165 rfl (lv_at hl 2 rfl) ?_
      replace hPc := hP.subT (f' := [(m9, .inr (23, mA mr mv vf xl (nI zs) ff_10 xa_11 (nI T) (nI (pp + 1)) xi xt xn (nI (ns + 1)) (nI vv) (nI bb))), (mr 5, .inl (kI, 3002, .inl fk)), (mr 6, .inl (kI, 3002, .inl fa))]) [3, 0, 4] rfl
      replace hDc := hD.subT (f' := [(m9, .inr (23, mA mr mv vf xl (nI zs) ff_10 xa_11 (nI T) (nI (pp + 1)) xi xt xn (nI (ns + 1)) (nI vv) (nI bb))), (mr 5, .inl (kI, 3002, .inl fk)), (mr 6, .inl (kI, 3002, .inl fa))]) [3, 0, 4] (by decide) rfl
      replace hKc := hK.sub (tys' := [(kI, .int)]) [0] rfl
      replace hFc := va_freeB (wc := [(m9, .inr (23, mA mr mv vf xl (nI zs) ff_10 xa_11 (nI T) (nI (pp + 1)) xi xt xn (nI (ns + 1)) (nI vv) (nI bb))), (mr 5, .inl (kI, 3002, .inl fk)), (mr 6, .inl (kI, 3002, .inl fa))]) hD hS hA [3, 0, 4] rfl
      refine W.grow (fun hgs0 hgs1 => ?_)
      refine va_callr (va_runV (As := []) (rest := [.ref q_1]) ⟨hx, hb, hml, hown, hts⟩ (c_xunB l dC dI m9 mr mv vf xl xa_11 xi xt xn zs T (pp + 1) (ns + 1) vv bb kI fk fa ff_10 L F (slN H) H.size hf12_0) (cwV 0 hts g_c_xuy_c_xunB_166 rfl rfl rfl (by decide +kernel) ⟨by show 2 + 1 ≤ 6 + 12 * k; omega, by show 8 + (3 + 11) + (32) ≤ 130 + 279 * k; omega⟩) ⟨fun a U g mk q => by obtain ⟨q0, q1, qP, qK, qD, qx0, qx1⟩ := q; exact ⟨q0, q1, qP, va_K.moved (u := U) (U := U.calling g mk a) (Vm.Alike.refl U.vm) qK, qD, nsM.same (u := U) (U := U.calling g mk a) rfl qx0, qx1⟩, va_recv hKc hPc (ci := 23) (q0 := 0) rfl rfl, fun U hU hW => ⟨rfl, by rw [hU], by rw [hU]; exact hPc, va_K.moved hW.alike hKc, hDc.weaken (fun _ _ _ _ => trivial), nsM.warm hW hns, by rw [hU]⟩⟩ rfl rfl hl.1 rfl (lv_room (Nat.le_of_ble_eq_true rfl)) dX23_unary_166 ⟨(show 1 + 1 ≤ (8 * (T - pp) + 7) by omega), (show 14 + 14 ≤ (120 * (T - pp) + 340) by omega)⟩) hS (fun q _ h => hFc q h) hFc (fun u r_17 tS H1 locs ht hvm hw hB hz1 hk1 hS => ?_)
      obtain ⟨L8, F8, hf17_0, hf17_1, hP1, hK1, hD1⟩ := hB
      rw [ht] at hP1
      replace hK1 := va_K.moved hvm.symm hK1
      rw [ht] at hf17_1
      have hgz : H1.size ≤ s.heap.size + ((1 + 1)) ∧ slN H1 ≤ slN s.heap + ((14 + 14)) := ⟨by have := hf17_1.1; omega, by have := hf17_1.2; omega⟩
      obtain ⟨hPj, hDj⟩ := va_joinB (wr := [(mr 8, .inl (kL, 3002, .inr (.inl fn))), (q_1, .inr (15, [.int 9, .int (nI pp), .int 0, .int 0, .int 0, .int 0, .long 0, .int 0, .null, .null, .null, .int 0, .null, .null]))]) (w1 := [(m9, .inr (23, mA mr mv vf xl (nI zs) ff_10 xa_11 (nI T) (nI (pp + 1)) xi xt xn (nI (ns + 1)) (nI vv) (nI bb))), (mr 5, .inl (kI, 3002, .inl fk)), (mr 6, .inl (kI, 3002, .inl fa))]) hP hD [3, 0, 4] [1, 2] rfl rfl (by decide) (by decide) hk1 hFc hP1 hD1
      replace hP := hPj
      replace hD := hDj
      clear hPj hDj
      replace hK := hK.app hK1
      generalize H1 = H at hP hS hgz ⊢
      replace hP : va_P (dC, dI) vwCl (([(mr 8, .inl (kL, 3002, .inr (.inl fn))), (q_1, .inr (15, [.int 9, .int (nI pp), .int 0, .int 0, .int 0, .int 0, .long 0, .int 0, .null, .null, .null, .int 0, .null, .null])), (m9, .inr (23, mA mr mv vf xl (nI zs) ff_10 xa_11 (nI T) (nI (pp + 1)) xi xt xn (nI (ns + 1)) (nI vv) (nI bb))), (mr 5, .inl (kI, 3002, .inl fk)), (mr 6, .inl (kI, 3002, .inl fa))] : va_W) ++ (sT L8 F8)) H := hP
      replace hD : va_D A (([(mr 8, .inl (kL, 3002, .inr (.inl fn))), (q_1, .inr (15, [.int 9, .int (nI pp), .int 0, .int 0, .int 0, .int 0, .long 0, .int 0, .null, .null, .null, .int 0, .null, .null])), (m9, .inr (23, mA mr mv vf xl (nI zs) ff_10 xa_11 (nI T) (nI (pp + 1)) xi xt xn (nI (ns + 1)) (nI vv) (nI bb))), (mr 5, .inl (kI, 3002, .inl fk)), (mr 6, .inl (kI, 3002, .inl fa))] : va_W) ++ (sT L8 F8)) := hD
      replace hK : va_K (dC, dI) vwCl [(kI, .int), (kL, .long), (kE, .object RX15), (kI, .int)] s := hK
      replace hK := hK.sub (tys' := [(kI, .int), (kL, .long), (kE, .object RX15)]) [0, 1, 2] rfl
      refine W.tight (k := (1 + 1)) (n := (14 + 14)) hgz.1 hgz.2 ?_
      clear hz1 hk1 hPc hDc hKc hFc hP1 hD1 hK1
      refine va_put (D := (dC, dI)) (ci := 15) (v := .ref r_17) (ty := (.object "OwnedPlacesModel$Exp")) (C := RX15) (T := TX15) (N := 14) hx hb hts in_c_xuy_X15 tyX15 tyX15_ok nmX15 hown hK hP hD hS 1 rfl rfl 8 (by decide) (hts (.fieldLink RX23 331 "OwnedPlacesModel$Exp" "of" "LOwnedPlacesModel$Exp;") (wm_c_xuy 33 rfl)) (fun _ h9 => h9) rfl (by decide +kernel) rfl rfl (Nat.le_of_ble_eq_true rfl) dX23_unary_169 (fun H locs hP hD hS => ?_)
      replace hP : va_P (dC, dI) vwCl (([(mr 8, .inl (kL, 3002, .inr (.inl fn))), (q_1, .inr (15, [.int 9, .int (nI pp), .int 0, .int 0, .int 0, .int 0, .long 0, .int 0, .ref r_17, .null, .null, .int 0, .null, .null])), (m9, .inr (23, mA mr mv vf xl (nI zs) ff_10 xa_11 (nI T) (nI (pp + 1)) xi xt xn (nI (ns + 1)) (nI vv) (nI bb))), (mr 5, .inl (kI, 3002, .inl fk)), (mr 6, .inl (kI, 3002, .inl fa))] : va_W) ++ (sT L8 F8)) H := hP
      replace hD : va_D A (([(mr 8, .inl (kL, 3002, .inr (.inl fn))), (q_1, .inr (15, [.int 9, .int (nI pp), .int 0, .int 0, .int 0, .int 0, .long 0, .int 0, .ref r_17, .null, .null, .int 0, .null, .null])), (m9, .inr (23, mA mr mv vf xl (nI zs) ff_10 xa_11 (nI T) (nI (pp + 1)) xi xt xn (nI (ns + 1)) (nI vv) (nI bb))), (mr 5, .inl (kI, 3002, .inl fk)), (mr 6, .inl (kI, 3002, .inl fa))] : va_W) ++ (sT L8 F8)) := hD
      refine lv_aload_n hx hb dX23_unary_172 rfl (lv_at hl 2 rfl) ?_
      refine lv_dup hx hb dX23_unary_173 rfl ?_
      refine va_get (D := (dC, dI)) (ci := 23) (v := .int (nI (ns + 1))) (C := RX23) (T := TX23) (N := 89) hx hb hts in_c_xuy_X23 hown hK hP 2 rfl rfl 15 (by decide) (hts (.fieldLink RX23 104 "OwnedPlacesModel" "nest" "I") (wm_c_xuy 20 rfl)) (fun _ h9 => h9) rfl dX23_unary_174 ?_
      refine lv_iconst (v := 1) hx hb dX23_unary_177 (by decide) ?_
      refine lv_isub hx hb dX23_unary_178 ?_
      refine lv_topi (fun f_18 ef_18 => ?_)
      obtain rfl : f_18 = nI ns := ef_18.trans (nI_pred _)
      refine va_put (D := (dC, dI)) (ci := 23) (v := .int (nI ns)) (ty := .int) (C := RX23) (T := TX23) (N := 89) hx hb hts in_c_xuy_X23 tyX23 tyX23_ok nmX23 hown hK hP hD hS 2 rfl rfl 15 (by decide) (hts (.fieldLink RX23 104 "OwnedPlacesModel" "nest" "I") (wm_c_xuy 20 rfl)) (fun _ h9 => h9) rfl (by decide +kernel) rfl rfl (Nat.le_of_ble_eq_true rfl) dX23_unary_179 (fun H locs hP hD hS => ?_)
      replace hP : va_P (dC, dI) vwCl (([(mr 8, .inl (kL, 3002, .inr (.inl fn))), (q_1, .inr (15, [.int 9, .int (nI pp), .int 0, .int 0, .int 0, .int 0, .long 0, .int 0, .ref r_17, .null, .null, .int 0, .null, .null])), (m9, .inr (23, mA mr mv vf xl (nI zs) ff_10 xa_11 (nI T) (nI (pp + 1)) xi xt xn (nI ns) (nI vv) (nI bb))), (mr 5, .inl (kI, 3002, .inl fk)), (mr 6, .inl (kI, 3002, .inl fa))] : va_W) ++ (sT L8 F8)) H := hP
      replace hD : va_D A (([(mr 8, .inl (kL, 3002, .inr (.inl fn))), (q_1, .inr (15, [.int 9, .int (nI pp), .int 0, .int 0, .int 0, .int 0, .long 0, .int 0, .ref r_17, .null, .null, .int 0, .null, .null])), (m9, .inr (23, mA mr mv vf xl (nI zs) ff_10 xa_11 (nI T) (nI (pp + 1)) xi xt xn (nI ns) (nI vv) (nI bb))), (mr 5, .inl (kI, 3002, .inl fk)), (mr 6, .inl (kI, 3002, .inl fa))] : va_W) ++ (sT L8 F8)) := hD
      refine lv_aload_n hx hb dX23_unary_182 rfl (lv_at hl 1 rfl) ?_
      replace hP : va_P (dC, dI) vwCl ((([(mr 8, .inl (kL, 3002, .inr (.inl fn))), (m9, .inr (23, mA mr mv vf xl (nI zs) ff_10 xa_11 (nI T) (nI (pp + 1)) xi xt xn (nI ns) (nI vv) (nI bb))), (mr 5, .inl (kI, 3002, .inl fk)), (mr 6, .inl (kI, 3002, .inl fa))] : va_W) ++ ([(q_1, .inr (15, [.int 9, .int (nI pp), .int 0, .int 0, .int 0, .int 0, .long 0, .int 0, .ref r_17, .null, .null, .int 0, .null, .null]))] : va_W)) ++ sT L8 F8) H := hP.subT (f' := [(mr 8, .inl (kL, 3002, .inr (.inl fn))), (m9, .inr (23, mA mr mv vf xl (nI zs) ff_10 xa_11 (nI T) (nI (pp + 1)) xi xt xn (nI ns) (nI vv) (nI bb))), (mr 5, .inl (kI, 3002, .inl fk)), (mr 6, .inl (kI, 3002, .inl fa)), (q_1, .inr (15, [.int 9, .int (nI pp), .int 0, .int 0, .int 0, .int 0, .long 0, .int 0, .ref r_17, .null, .null, .int 0, .null, .null]))]) [0, 2, 3, 4, 1] rfl
      replace hD : va_D A ((([(mr 8, .inl (kL, 3002, .inr (.inl fn))), (m9, .inr (23, mA mr mv vf xl (nI zs) ff_10 xa_11 (nI T) (nI (pp + 1)) xi xt xn (nI ns) (nI vv) (nI bb))), (mr 5, .inl (kI, 3002, .inl fk)), (mr 6, .inl (kI, 3002, .inl fa))] : va_W) ++ ([(q_1, .inr (15, [.int 9, .int (nI pp), .int 0, .int 0, .int 0, .int 0, .long 0, .int 0, .ref r_17, .null, .null, .int 0, .null, .null]))] : va_W)) ++ sT L8 F8) := hD.subT (f' := [(mr 8, .inl (kL, 3002, .inr (.inl fn))), (m9, .inr (23, mA mr mv vf xl (nI zs) ff_10 xa_11 (nI T) (nI (pp + 1)) xi xt xn (nI ns) (nI vv) (nI bb))), (mr 5, .inl (kI, 3002, .inl fk)), (mr 6, .inl (kI, 3002, .inl fa)), (q_1, .inr (15, [.int 9, .int (nI pp), .int 0, .int 0, .int 0, .int 0, .long 0, .int 0, .ref r_17, .null, .null, .int 0, .null, .null]))]) [0, 2, 3, 4, 1] (by decide) rfl
      obtain ⟨L9, F9, hx9, hm9, hP, hD⟩ := st_fileL [(q_1, .inr (15, [.int 9, .int (nI pp), .int 0, .int 0, .int 0, .int 0, .long 0, .int 0, .ref r_17, .null, .null, .int 0, .null, .null]))] hP hD
      have hm9_0 := hm9 _ (List.mem_of_getElem? (i := 0) rfl)
      refine W.grow (fun hgs0 hgs1 => ?_)
      have hP9 := hP.subT (f' := [(m9, .inr (23, mA mr mv vf xl (nI zs) ff_10 xa_11 (nI T) (nI (pp + 1)) xi xt xn (nI ns) (nI vv) (nI bb))), (mr 5, .inl (kI, 3002, .inl fk)), (mr 6, .inl (kI, 3002, .inl fa)), (mr 8, .inl (kL, 3002, .inr (.inl fn)))]) [1, 2, 3, 0] rfl
      have hD9 := hD.subT (f' := [(m9, .inr (23, mA mr mv vf xl (nI zs) ff_10 xa_11 (nI T) (nI (pp + 1)) xi xt xn (nI ns) (nI vv) (nI bb))), (mr 5, .inl (kI, 3002, .inl fk)), (mr 6, .inl (kI, 3002, .inl fa)), (mr 8, .inl (kL, 3002, .inr (.inl fn)))]) [1, 2, 3, 0] (by decide) rfl
      have hK9 := hK.sub (tys' := [(kI, .int), (kL, .long), (kE, .object RX15)]) [0, 1, 2] rfl
      refine W.widen (k := (8 * (T - pp) + 7)) (n := (120 * (T - pp) + 340)) (by omega) (by omega) ?_
      exact W.aret hx hb hr (Or.inl ⟨_, rfl⟩) (Or.inr ⟨q_1, rfl⟩) (fun tS ht hW => ⟨⟨(), q_1, rfl, trivial, L9, F9, ff_10, xa_11, pp + 1, bb, ⟨(hf17_0.1).tr hx9, hm9_0.1, _, hm9_0.2⟩, ⟨by omega, by omega, by omega, by omega⟩, (fun q9 => absurd q9 hf12_0), by rw [ht]; exact ⟨by omega, by omega⟩, by rw [ht]; exact hP9, va_K.moved hW.alike hK9, hD9⟩, hS.F ht⟩) hS.2.2 dX23_unary_183
    · replace hPc := hP.subF (f' := [(m9, .inr (23, mA mr mv vf xl (nI zs) 0 xa (nI T) (nI pp) xi xt xn (nI ns) (nI vv) (nI bb))), (mr 6, .inl (kI, 3002, .inl fa))]) [4, 1] rfl
      replace hDc := hD.subF (f' := [(m9, .inr (23, mA mr mv vf xl (nI zs) 0 xa (nI T) (nI pp) xi xt xn (nI ns) (nI vv) (nI bb))), (mr 6, .inl (kI, 3002, .inl fa))]) [4, 1] (by decide) rfl
      replace hKc := hK.sub (tys' := [(kI, .int)]) [0] rfl
      replace hFc := va_freeT (wc := [(m9, .inr (23, mA mr mv vf xl (nI zs) 0 xa (nI T) (nI pp) xi xt xn (nI ns) (nI vv) (nI bb))), (mr 6, .inl (kI, 3002, .inl fa))]) hD hS hA [4, 1] rfl
      refine va_callv (va_runV (As := [.int (nI pp)]) (rest := []) ⟨hx, hb, hml, hown, hts⟩ (c_renY l dC dI m9 mr mv vf xl xa xi xt xn zs T pp ns vv bb kI fk fa pp H.size (by omega) (⟨hn_9, by omega⟩)) (cwV 1 hts g_c_xuy_c_renY_125 rfl rfl rfl (by decide +kernel) ⟨by show 1 + 1 ≤ 6 + 12 * k; omega, by show 8 + (2 + 11) + (20) ≤ 130 + 279 * k; omega⟩) ⟨fun a U g mk q => by obtain ⟨q0, q1, qP, qK, qD⟩ := q; exact ⟨q0, q1, qP, va_K.moved (u := U) (U := U.calling g mk a) (Vm.Alike.refl U.vm) qK, qD⟩, va_recv hKc hPc (ci := 23) (q0 := 0) rfl rfl, fun U hU hW => ⟨rfl, by rw [hU], by rw [hU]; exact hPc, va_K.moved hW.alike hKc, hDc.weaken (fun _ _ _ _ => trivial)⟩⟩ rfl rfl hl.1 rfl (lv_room (Nat.le_of_ble_eq_true rfl)) dX23_unary_125 ⟨(show 1 + 0 ≤ (8 * (T - pp) + 7) by omega), (show 14 + 0 ≤ (120 * (T - pp) + 340) by omega)⟩) hS (fun q _ h => hFc q h) hFc (fun u tS H1 locs ht hvm hw hB hz1 hk1 hS => ?_)
      obtain ⟨hP1, hK1, hD1⟩ := hB
      rw [ht] at hP1
      replace hK1 := va_K.moved hvm.symm hK1
      obtain ⟨hPj, hDj⟩ := va_joinT (wr := [(mr 5, .inl (kI, 3002, .inl fk)), (mr 8, .inl (kL, 3002, .inr (.inl fn))), (q_1, .inr (15, [.int 9, .int (nI pp), .int 0, .int 0, .int 0, .int 0, .long 0, .int 0, .null, .null, .null, .int 0, .null, .null]))]) (w1 := [(m9, .inr (23, mA mr mv vf xl (nI zs) 0 xa (nI T) (nI pp) xi xt xn (nI (ns + 1)) (nI vv) (nI bb))), (mr 6, .inl (kI, 3002, .inl fa))]) hP hD [4, 1] [0, 2, 3] rfl rfl (by decide) (by decide) hk1 hFc hP1 hD1
      replace hP := hPj
      replace hD := hDj
      clear hPj hDj
      replace hK := hK.app hK1
      generalize H1 = H at hP hS ⊢
      replace hP : va_P (dC, dI) vwCl (([(mr 5, .inl (kI, 3002, .inl fk)), (mr 8, .inl (kL, 3002, .inr (.inl fn))), (q_1, .inr (15, [.int 9, .int (nI pp), .int 0, .int 0, .int 0, .int 0, .long 0, .int 0, .null, .null, .null, .int 0, .null, .null])), (m9, .inr (23, mA mr mv vf xl (nI zs) 0 xa (nI T) (nI pp) xi xt xn (nI (ns + 1)) (nI vv) (nI bb))), (mr 6, .inl (kI, 3002, .inl fa))] : va_W) ++ (sT L F)) H := hP
      replace hD : va_D A (([(mr 5, .inl (kI, 3002, .inl fk)), (mr 8, .inl (kL, 3002, .inr (.inl fn))), (q_1, .inr (15, [.int 9, .int (nI pp), .int 0, .int 0, .int 0, .int 0, .long 0, .int 0, .null, .null, .null, .int 0, .null, .null])), (m9, .inr (23, mA mr mv vf xl (nI zs) 0 xa (nI T) (nI pp) xi xt xn (nI (ns + 1)) (nI vv) (nI bb))), (mr 6, .inl (kI, 3002, .inl fa))] : va_W) ++ (sT L F)) := hD
      replace hK : va_K (dC, dI) vwCl [(kI, .int), (kL, .long), (kE, .object RX15), (kI, .int)] s := hK
      replace hK := hK.sub (tys' := [(kI, .int), (kL, .long), (kE, .object RX15)]) [0, 1, 2] rfl
      clear hz1 hk1 hPc hDc hKc hFc hP1 hD1 hK1
      refine lv_iload_n hx hb dX23_unary_128 rfl (lv_at hl 0 rfl) ?_
      refine lv_bipush (v := 55) hx hb dX23_unary_129 (by decide) ?_
      refine lv_icmp_ne (tgt := 138) hx hb dX23_unary_131 (by decide) (fun _ => ?_) (fun c_11 => absurd c_11 (fun q9 => absurd (hk_6.symm.trans q9) (by decide)))
      refine lv_aload_n hx hb dX23_unary_138 rfl (lv_at hl 2 rfl) ?_
      refine lv_dup hx hb dX23_unary_139 rfl ?_
      refine va_get (D := (dC, dI)) (ci := 23) (v := .int (nI pp)) (C := RX23) (T := TX23) (N := 89) hx hb hts in_c_xuy_X23 hown hK hP 3 rfl rfl 10 (by decide) (hts (.fieldLink RX23 86 "OwnedPlacesModel" "p" "I") (wm_c_xuy 16 rfl)) (fun _ h9 => h9) rfl dX23_unary_140 ?_
      refine lv_iconst (v := 1) hx hb dX23_unary_143 (by decide) ?_
      refine lv_iadd hx hb dX23_unary_144 ?_
      refine lv_topi (fun f_12 ef_12 => ?_)
      obtain rfl : f_12 = nI (pp + 1) := ef_12.trans (nI_1 _)
      refine va_put (D := (dC, dI)) (ci := 23) (v := .int (nI (pp + 1))) (ty := .int) (C := RX23) (T := TX23) (N := 89) hx hb hts in_c_xuy_X23 tyX23 tyX23_ok nmX23 hown hK hP hD hS 3 rfl rfl 10 (by decide) (hts (.fieldLink RX23 86 "OwnedPlacesModel" "p" "I") (wm_c_xuy 16 rfl)) (fun _ h9 => h9) rfl (by decide +kernel) rfl rfl (Nat.le_of_ble_eq_true rfl) dX23_unary_145 (fun H locs hP hD hS => ?_)
      replace hP : va_P (dC, dI) vwCl (([(mr 5, .inl (kI, 3002, .inl fk)), (mr 8, .inl (kL, 3002, .inr (.inl fn))), (q_1, .inr (15, [.int 9, .int (nI pp), .int 0, .int 0, .int 0, .int 0, .long 0, .int 0, .null, .null, .null, .int 0, .null, .null])), (m9, .inr (23, mA mr mv vf xl (nI zs) 0 xa (nI T) (nI (pp + 1)) xi xt xn (nI (ns + 1)) (nI vv) (nI bb))), (mr 6, .inl (kI, 3002, .inl fa))] : va_W) ++ (sT L F)) H := hP
      replace hD : va_D A (([(mr 5, .inl (kI, 3002, .inl fk)), (mr 8, .inl (kL, 3002, .inr (.inl fn))), (q_1, .inr (15, [.int 9, .int (nI pp), .int 0, .int 0, .int 0, .int 0, .long 0, .int 0, .null, .null, .null, .int 0, .null, .null])), (m9, .inr (23, mA mr mv vf xl (nI zs) 0 xa (nI T) (nI (pp + 1)) xi xt xn (nI (ns + 1)) (nI vv) (nI bb))), (mr 6, .inl (kI, 3002, .inl fa))] : va_W) ++ (sT L F)) := hD
      have hp_13 : pp + 1 < T := kne3 hk0 hp hk_6 (by decide)
      refine lv_iload_n hx hb dX23_unary_148 rfl (lv_at hl 0 rfl) ?_
      refine lv_bipush (v := 55) hx hb dX23_unary_149 (by decide) ?_
      refine lv_icmp_ne (tgt := 164) hx hb dX23_unary_151 (by decide) (fun _ => ?_) (fun c_14 => absurd c_14 (fun q9 => absurd (hk_6.symm.trans q9) (by decide)))
      refine lv_aload_n hx hb dX23_unary_164 rfl (lv_at hl 1 rfl) ?_
      refine lv_aload_n hx hb dX23_unary_165 rfl (lv_at hl 2 rfl) ?_
      obtain ⟨k1, hkL⟩ : ∃ k1 : Nat, k = k1 + 1 := ⟨k - 1, by omega⟩
      replace hPc := hP.subT (f' := [(m9, .inr (23, mA mr mv vf xl (nI zs) 0 xa (nI T) (nI (pp + 1)) xi xt xn (nI (ns + 1)) (nI vv) (nI bb))), (mr 5, .inl (kI, 3002, .inl fk)), (mr 6, .inl (kI, 3002, .inl fa)), (mr 8, .inl (kL, 3002, .inr (.inl fn)))]) [3, 0, 4, 1] rfl
      replace hDc := hD.subT (f' := [(m9, .inr (23, mA mr mv vf xl (nI zs) 0 xa (nI T) (nI (pp + 1)) xi xt xn (nI (ns + 1)) (nI vv) (nI bb))), (mr 5, .inl (kI, 3002, .inl fk)), (mr 6, .inl (kI, 3002, .inl fa)), (mr 8, .inl (kL, 3002, .inr (.inl fn)))]) [3, 0, 4, 1] (by decide) rfl
      replace hKc := hK.sub (tys' := [(kI, .int), (kL, .long), (kE, .object RX15)]) [0, 1, 2] rfl
      replace hFc := va_freeB (wc := [(m9, .inr (23, mA mr mv vf xl (nI zs) 0 xa (nI T) (nI (pp + 1)) xi xt xn (nI (ns + 1)) (nI vv) (nI bb))), (mr 5, .inl (kI, 3002, .inl fk)), (mr 6, .inl (kI, 3002, .inl fa)), (mr 8, .inl (kL, 3002, .inr (.inl fn)))]) hD hS hA [3, 0, 4, 1] rfl
      refine W.grow (fun hgs0 hgs1 => ?_)
      refine va_callr (va_runV (As := []) (rest := [.ref q_1]) ⟨hx, hb, hml, hown, hts⟩ ((ih k1 hkL).2.2.2.2.2.1 m9 mr mv vf xl xa xi xt xn zs T (pp + 1) (ns + 1) vv bb kI fk fa kL kE fn L F (slN H) H.size hT hp_13 hk0 hbb (by omega)) (cwV 0 hts g_c_xuy_c_xuy_166 rfl rfl rfl (by decide +kernel) ⟨by show 6 + 12 * k1 + 1 ≤ 6 + 12 * k; omega, by show 8 + (3 + 11) + (130 + 279 * k1) ≤ 130 + 279 * k; omega⟩) ⟨fun a U g mk q => by obtain ⟨q0, q1, qP, qK, qD, qx0, qx1⟩ := q; exact ⟨q0, q1, qP, va_K.moved (u := U) (U := U.calling g mk a) (Vm.Alike.refl U.vm) qK, qD, nsM.same (u := U) (U := U.calling g mk a) rfl qx0, qx1⟩, va_recv hKc hPc (ci := 23) (q0 := 0) rfl rfl, fun U hU hW => ⟨rfl, by rw [hU], by rw [hU]; exact hPc, va_K.moved hW.alike hKc, hDc.weaken (fun _ _ _ _ => trivial), nsM.warm hW hns, by rw [hU]⟩⟩ rfl rfl hl.1 rfl (lv_room (Nat.le_of_ble_eq_true rfl)) dX23_unary_166 ⟨(show 1 + (8 * (T - (pp + 1)) + 7) ≤ (8 * (T - pp) + 7) by omega), (show 14 + (120 * (T - (pp + 1)) + 340) ≤ (120 * (T - pp) + 340) by omega)⟩) hS (fun q _ h => hFc q h) hFc (fun u r_15 tS H1 locs ht hvm hw hB hz1 hk1 hS => ?_)
      obtain ⟨L14, F14, ff14, xa14, pp14, bb14, hf15_0, hf15_1, hf15_2, hf15_3, hP1, hK1, hD1⟩ := hB
      rw [ht] at hP1
      replace hK1 := va_K.moved hvm.symm hK1
      rw [ht] at hf15_3
      have hgz : H1.size ≤ s.heap.size + ((1 + 8 * (pp14 - (pp + 1)) + 3)) ∧ slN H1 ≤ slN s.heap + ((14 + 120 * (pp14 - (pp + 1)) + 48)) := ⟨by have := hf15_3.1; omega, by have := hf15_3.2; omega⟩
      obtain ⟨hPj, hDj⟩ := va_joinB (wr := [(q_1, .inr (15, [.int 9, .int (nI pp), .int 0, .int 0, .int 0, .int 0, .long 0, .int 0, .null, .null, .null, .int 0, .null, .null]))]) (w1 := [(m9, .inr (23, mA mr mv vf xl (nI zs) ff14 xa14 (nI T) (nI pp14) xi xt xn (nI (ns + 1)) (nI vv) (nI bb14))), (mr 5, .inl (kI, 3002, .inl fk)), (mr 6, .inl (kI, 3002, .inl fa)), (mr 8, .inl (kL, 3002, .inr (.inl fn)))]) hP hD [3, 0, 4, 1] [2] rfl rfl (by decide) (by decide) hk1 hFc hP1 hD1
      replace hP := hPj
      replace hD := hDj
      clear hPj hDj
      replace hK := hK.app hK1
      generalize H1 = H at hP hS hgz ⊢
      replace hP : va_P (dC, dI) vwCl (([(q_1, .inr (15, [.int 9, .int (nI pp), .int 0, .int 0, .int 0, .int 0, .long 0, .int 0, .null, .null, .null, .int 0, .null, .null])), (m9, .inr (23, mA mr mv vf xl (nI zs) ff14 xa14 (nI T) (nI pp14) xi xt xn (nI (ns + 1)) (nI vv) (nI bb14))), (mr 5, .inl (kI, 3002, .inl fk)), (mr 6, .inl (kI, 3002, .inl fa)), (mr 8, .inl (kL, 3002, .inr (.inl fn)))] : va_W) ++ (sT L14 F14)) H := hP
      replace hD : va_D A (([(q_1, .inr (15, [.int 9, .int (nI pp), .int 0, .int 0, .int 0, .int 0, .long 0, .int 0, .null, .null, .null, .int 0, .null, .null])), (m9, .inr (23, mA mr mv vf xl (nI zs) ff14 xa14 (nI T) (nI pp14) xi xt xn (nI (ns + 1)) (nI vv) (nI bb14))), (mr 5, .inl (kI, 3002, .inl fk)), (mr 6, .inl (kI, 3002, .inl fa)), (mr 8, .inl (kL, 3002, .inr (.inl fn)))] : va_W) ++ (sT L14 F14)) := hD
      replace hK : va_K (dC, dI) vwCl [(kI, .int), (kL, .long), (kE, .object RX15), (kI, .int), (kL, .long), (kE, .object RX15)] s := hK
      replace hK := hK.sub (tys' := [(kI, .int), (kL, .long), (kE, .object RX15)]) [0, 1, 2] rfl
      refine W.tight (k := (1 + 8 * (pp14 - (pp + 1)) + 3)) (n := (14 + 120 * (pp14 - (pp + 1)) + 48)) hgz.1 hgz.2 ?_
      clear hz1 hk1 hPc hDc hKc hFc hP1 hD1 hK1
      refine va_put (D := (dC, dI)) (ci := 15) (v := .ref r_15) (ty := (.object "OwnedPlacesModel$Exp")) (C := RX15) (T := TX15) (N := 14) hx hb hts in_c_xuy_X15 tyX15 tyX15_ok nmX15 hown hK hP hD hS 0 rfl rfl 8 (by decide) (hts (.fieldLink RX23 331 "OwnedPlacesModel$Exp" "of" "LOwnedPlacesModel$Exp;") (wm_c_xuy 33 rfl)) (fun _ h9 => h9) rfl (by decide +kernel) rfl rfl (Nat.le_of_ble_eq_true rfl) dX23_unary_169 (fun H locs hP hD hS => ?_)
      replace hP : va_P (dC, dI) vwCl (([(q_1, .inr (15, [.int 9, .int (nI pp), .int 0, .int 0, .int 0, .int 0, .long 0, .int 0, .ref r_15, .null, .null, .int 0, .null, .null])), (m9, .inr (23, mA mr mv vf xl (nI zs) ff14 xa14 (nI T) (nI pp14) xi xt xn (nI (ns + 1)) (nI vv) (nI bb14))), (mr 5, .inl (kI, 3002, .inl fk)), (mr 6, .inl (kI, 3002, .inl fa)), (mr 8, .inl (kL, 3002, .inr (.inl fn)))] : va_W) ++ (sT L14 F14)) H := hP
      replace hD : va_D A (([(q_1, .inr (15, [.int 9, .int (nI pp), .int 0, .int 0, .int 0, .int 0, .long 0, .int 0, .ref r_15, .null, .null, .int 0, .null, .null])), (m9, .inr (23, mA mr mv vf xl (nI zs) ff14 xa14 (nI T) (nI pp14) xi xt xn (nI (ns + 1)) (nI vv) (nI bb14))), (mr 5, .inl (kI, 3002, .inl fk)), (mr 6, .inl (kI, 3002, .inl fa)), (mr 8, .inl (kL, 3002, .inr (.inl fn)))] : va_W) ++ (sT L14 F14)) := hD
      refine lv_aload_n hx hb dX23_unary_172 rfl (lv_at hl 2 rfl) ?_
      refine lv_dup hx hb dX23_unary_173 rfl ?_
      refine va_get (D := (dC, dI)) (ci := 23) (v := .int (nI (ns + 1))) (C := RX23) (T := TX23) (N := 89) hx hb hts in_c_xuy_X23 hown hK hP 1 rfl rfl 15 (by decide) (hts (.fieldLink RX23 104 "OwnedPlacesModel" "nest" "I") (wm_c_xuy 20 rfl)) (fun _ h9 => h9) rfl dX23_unary_174 ?_
      refine lv_iconst (v := 1) hx hb dX23_unary_177 (by decide) ?_
      refine lv_isub hx hb dX23_unary_178 ?_
      refine lv_topi (fun f_16 ef_16 => ?_)
      obtain rfl : f_16 = nI ns := ef_16.trans (nI_pred _)
      refine va_put (D := (dC, dI)) (ci := 23) (v := .int (nI ns)) (ty := .int) (C := RX23) (T := TX23) (N := 89) hx hb hts in_c_xuy_X23 tyX23 tyX23_ok nmX23 hown hK hP hD hS 1 rfl rfl 15 (by decide) (hts (.fieldLink RX23 104 "OwnedPlacesModel" "nest" "I") (wm_c_xuy 20 rfl)) (fun _ h9 => h9) rfl (by decide +kernel) rfl rfl (Nat.le_of_ble_eq_true rfl) dX23_unary_179 (fun H locs hP hD hS => ?_)
      replace hP : va_P (dC, dI) vwCl (([(q_1, .inr (15, [.int 9, .int (nI pp), .int 0, .int 0, .int 0, .int 0, .long 0, .int 0, .ref r_15, .null, .null, .int 0, .null, .null])), (m9, .inr (23, mA mr mv vf xl (nI zs) ff14 xa14 (nI T) (nI pp14) xi xt xn (nI ns) (nI vv) (nI bb14))), (mr 5, .inl (kI, 3002, .inl fk)), (mr 6, .inl (kI, 3002, .inl fa)), (mr 8, .inl (kL, 3002, .inr (.inl fn)))] : va_W) ++ (sT L14 F14)) H := hP
      replace hD : va_D A (([(q_1, .inr (15, [.int 9, .int (nI pp), .int 0, .int 0, .int 0, .int 0, .long 0, .int 0, .ref r_15, .null, .null, .int 0, .null, .null])), (m9, .inr (23, mA mr mv vf xl (nI zs) ff14 xa14 (nI T) (nI pp14) xi xt xn (nI ns) (nI vv) (nI bb14))), (mr 5, .inl (kI, 3002, .inl fk)), (mr 6, .inl (kI, 3002, .inl fa)), (mr 8, .inl (kL, 3002, .inr (.inl fn)))] : va_W) ++ (sT L14 F14)) := hD
      refine lv_aload_n hx hb dX23_unary_182 rfl (lv_at hl 1 rfl) ?_
      by_cases hz_17 : ff14 = 0
      · subst hz_17
        have hg14 := hf15_2 rfl
        have hlthg14 := (isE_mem hg14.2).2
        replace hP : va_P (dC, dI) vwCl ((([(m9, .inr (23, mA mr mv vf xl (nI zs) 0 xa14 (nI T) (nI pp14) xi xt xn (nI ns) (nI vv) (nI bb14))), (mr 5, .inl (kI, 3002, .inl fk)), (mr 6, .inl (kI, 3002, .inl fa)), (mr 8, .inl (kL, 3002, .inr (.inl fn)))] : va_W) ++ ([(q_1, .inr (15, [.int 9, .int (nI pp), .int 0, .int 0, .int 0, .int 0, .long 0, .int 0, .ref r_15, .null, .null, .int 0, .null, .null]))] : va_W)) ++ sT L14 F14) H := hP.subT (f' := [(m9, .inr (23, mA mr mv vf xl (nI zs) 0 xa14 (nI T) (nI pp14) xi xt xn (nI ns) (nI vv) (nI bb14))), (mr 5, .inl (kI, 3002, .inl fk)), (mr 6, .inl (kI, 3002, .inl fa)), (mr 8, .inl (kL, 3002, .inr (.inl fn))), (q_1, .inr (15, [.int 9, .int (nI pp), .int 0, .int 0, .int 0, .int 0, .long 0, .int 0, .ref r_15, .null, .null, .int 0, .null, .null]))]) [1, 2, 3, 4, 0] rfl
        replace hD : va_D A ((([(m9, .inr (23, mA mr mv vf xl (nI zs) 0 xa14 (nI T) (nI pp14) xi xt xn (nI ns) (nI vv) (nI bb14))), (mr 5, .inl (kI, 3002, .inl fk)), (mr 6, .inl (kI, 3002, .inl fa)), (mr 8, .inl (kL, 3002, .inr (.inl fn)))] : va_W) ++ ([(q_1, .inr (15, [.int 9, .int (nI pp), .int 0, .int 0, .int 0, .int 0, .long 0, .int 0, .ref r_15, .null, .null, .int 0, .null, .null]))] : va_W)) ++ sT L14 F14) := hD.subT (f' := [(m9, .inr (23, mA mr mv vf xl (nI zs) 0 xa14 (nI T) (nI pp14) xi xt xn (nI ns) (nI vv) (nI bb14))), (mr 5, .inl (kI, 3002, .inl fk)), (mr 6, .inl (kI, 3002, .inl fa)), (mr 8, .inl (kL, 3002, .inr (.inl fn))), (q_1, .inr (15, [.int 9, .int (nI pp), .int 0, .int 0, .int 0, .int 0, .long 0, .int 0, .ref r_15, .null, .null, .int 0, .null, .null]))]) [1, 2, 3, 4, 0] (by decide) rfl
        obtain ⟨L9, F9, hx9, hm9, hP, hD⟩ := st_fileL [(q_1, .inr (15, [.int 9, .int (nI pp), .int 0, .int 0, .int 0, .int 0, .long 0, .int 0, .ref r_15, .null, .null, .int 0, .null, .null]))] hP hD
        have hm9_0 := hm9 _ (List.mem_of_getElem? (i := 0) rfl)
        refine W.grow (fun hgs0 hgs1 => ?_)
        have hP9 := hP.subT (f' := [(m9, .inr (23, mA mr mv vf xl (nI zs) 0 xa14 (nI T) (nI pp14) xi xt xn (nI ns) (nI vv) (nI bb14))), (mr 5, .inl (kI, 3002, .inl fk)), (mr 6, .inl (kI, 3002, .inl fa)), (mr 8, .inl (kL, 3002, .inr (.inl fn)))]) [0, 1, 2, 3] rfl
        have hD9 := hD.subT (f' := [(m9, .inr (23, mA mr mv vf xl (nI zs) 0 xa14 (nI T) (nI pp14) xi xt xn (nI ns) (nI vv) (nI bb14))), (mr 5, .inl (kI, 3002, .inl fk)), (mr 6, .inl (kI, 3002, .inl fa)), (mr 8, .inl (kL, 3002, .inr (.inl fn)))]) [0, 1, 2, 3] (by decide) rfl
        have hK9 := hK.sub (tys' := [(kI, .int), (kL, .long), (kE, .object RX15)]) [0, 1, 2] rfl
        refine W.widen (k := (8 * (T - pp) + 7)) (n := (120 * (T - pp) + 340)) (by omega) (by omega) ?_
        exact W.aret hx hb hr (Or.inl ⟨_, rfl⟩) (Or.inr ⟨q_1, rfl⟩) (fun tS ht hW => ⟨⟨(), q_1, rfl, trivial, L9, F9, 0, xa14, pp14, bb14, ⟨(hf15_0.1).tr hx9, hm9_0.1, _, hm9_0.2⟩, ⟨by omega, by omega, by omega, by omega⟩, (fun _ => ⟨hg14.1, isE_3 hm9_0.1 (by omega) (Or.inr (Or.inr (Or.inl rfl))) hm9_0.2 (by omega) (Nat.le_refl _) (isE_im hx9 _ (by omega) hg14.2)⟩), by rw [ht]; exact ⟨by omega, by omega⟩, by rw [ht]; exact hP9, va_K.moved hW.alike hK9, hD9⟩, hS.F ht⟩) hS.2.2 dX23_unary_183
      · replace hP : va_P (dC, dI) vwCl ((([(m9, .inr (23, mA mr mv vf xl (nI zs) ff14 xa14 (nI T) (nI pp14) xi xt xn (nI ns) (nI vv) (nI bb14))), (mr 5, .inl (kI, 3002, .inl fk)), (mr 6, .inl (kI, 3002, .inl fa)), (mr 8, .inl (kL, 3002, .inr (.inl fn)))] : va_W) ++ ([(q_1, .inr (15, [.int 9, .int (nI pp), .int 0, .int 0, .int 0, .int 0, .long 0, .int 0, .ref r_15, .null, .null, .int 0, .null, .null]))] : va_W)) ++ sT L14 F14) H := hP.subT (f' := [(m9, .inr (23, mA mr mv vf xl (nI zs) ff14 xa14 (nI T) (nI pp14) xi xt xn (nI ns) (nI vv) (nI bb14))), (mr 5, .inl (kI, 3002, .inl fk)), (mr 6, .inl (kI, 3002, .inl fa)), (mr 8, .inl (kL, 3002, .inr (.inl fn))), (q_1, .inr (15, [.int 9, .int (nI pp), .int 0, .int 0, .int 0, .int 0, .long 0, .int 0, .ref r_15, .null, .null, .int 0, .null, .null]))]) [1, 2, 3, 4, 0] rfl
        replace hD : va_D A ((([(m9, .inr (23, mA mr mv vf xl (nI zs) ff14 xa14 (nI T) (nI pp14) xi xt xn (nI ns) (nI vv) (nI bb14))), (mr 5, .inl (kI, 3002, .inl fk)), (mr 6, .inl (kI, 3002, .inl fa)), (mr 8, .inl (kL, 3002, .inr (.inl fn)))] : va_W) ++ ([(q_1, .inr (15, [.int 9, .int (nI pp), .int 0, .int 0, .int 0, .int 0, .long 0, .int 0, .ref r_15, .null, .null, .int 0, .null, .null]))] : va_W)) ++ sT L14 F14) := hD.subT (f' := [(m9, .inr (23, mA mr mv vf xl (nI zs) ff14 xa14 (nI T) (nI pp14) xi xt xn (nI ns) (nI vv) (nI bb14))), (mr 5, .inl (kI, 3002, .inl fk)), (mr 6, .inl (kI, 3002, .inl fa)), (mr 8, .inl (kL, 3002, .inr (.inl fn))), (q_1, .inr (15, [.int 9, .int (nI pp), .int 0, .int 0, .int 0, .int 0, .long 0, .int 0, .ref r_15, .null, .null, .int 0, .null, .null]))]) [1, 2, 3, 4, 0] (by decide) rfl
        obtain ⟨L9, F9, hx9, hm9, hP, hD⟩ := st_fileL [(q_1, .inr (15, [.int 9, .int (nI pp), .int 0, .int 0, .int 0, .int 0, .long 0, .int 0, .ref r_15, .null, .null, .int 0, .null, .null]))] hP hD
        have hm9_0 := hm9 _ (List.mem_of_getElem? (i := 0) rfl)
        refine W.grow (fun hgs0 hgs1 => ?_)
        have hP9 := hP.subT (f' := [(m9, .inr (23, mA mr mv vf xl (nI zs) ff14 xa14 (nI T) (nI pp14) xi xt xn (nI ns) (nI vv) (nI bb14))), (mr 5, .inl (kI, 3002, .inl fk)), (mr 6, .inl (kI, 3002, .inl fa)), (mr 8, .inl (kL, 3002, .inr (.inl fn)))]) [0, 1, 2, 3] rfl
        have hD9 := hD.subT (f' := [(m9, .inr (23, mA mr mv vf xl (nI zs) ff14 xa14 (nI T) (nI pp14) xi xt xn (nI ns) (nI vv) (nI bb14))), (mr 5, .inl (kI, 3002, .inl fk)), (mr 6, .inl (kI, 3002, .inl fa)), (mr 8, .inl (kL, 3002, .inr (.inl fn)))]) [0, 1, 2, 3] (by decide) rfl
        have hK9 := hK.sub (tys' := [(kI, .int), (kL, .long), (kE, .object RX15)]) [0, 1, 2] rfl
        refine W.widen (k := (8 * (T - pp) + 7)) (n := (120 * (T - pp) + 340)) (by omega) (by omega) ?_
        exact W.aret hx hb hr (Or.inl ⟨_, rfl⟩) (Or.inr ⟨q_1, rfl⟩) (fun tS ht hW => ⟨⟨(), q_1, rfl, trivial, L9, F9, ff14, xa14, pp14, bb14, ⟨(hf15_0.1).tr hx9, hm9_0.1, _, hm9_0.2⟩, ⟨by omega, by omega, by omega, by omega⟩, (fun q9 => absurd q9 hz_17), by rw [ht]; exact ⟨by omega, by omega⟩, by rw [ht]; exact hP9, va_K.moved hW.alike hK9, hD9⟩, hS.F ht⟩) hS.2.2 dX23_unary_183
  · refine lv_icmp_eq (tgt := 62) hx hb dX23_unary_30 (by decide) (fun c_7 => absurd c_7 hk_6) (fun _ => ?_)
    refine lv_iload_n hx hb dX23_unary_33 rfl (lv_at hl 0 rfl) ?_
    refine lv_bipush (v := 41) hx hb dX23_unary_34 (by decide) ?_
    by_cases hk_8 : fk pp = 41
    · refine lv_icmp_eq (tgt := 62) hx hb dX23_unary_36 (by decide) (fun _ => ?_) (fun c_9 => absurd hk_8 c_9)
      refine lv_aload_n hx hb dX23_unary_62 rfl (lv_at hl 1 rfl) ?_
      refine lv_aload_n hx hb dX23_unary_63 rfl (lv_at hl 2 rfl) ?_
      refine va_get (D := (dC, dI)) (ci := 23) (v := .int (nI pp)) (C := RX23) (T := TX23) (N := 89) hx hb hts in_c_xuy_X23 hown hK hP 4 rfl rfl 10 (by decide) (hts (.fieldLink RX23 86 "OwnedPlacesModel" "p" "I") (wm_c_xuy 16 rfl)) (fun _ h9 => h9) rfl dX23_unary_64 ?_
      refine va_put (D := (dC, dI)) (ci := 15) (v := .int (nI pp)) (ty := .int) (C := RX15) (T := TX15) (N := 14) hx hb hts in_c_xuy_X15 tyX15 tyX15_ok nmX15 hown hK hP hD hS 3 rfl rfl 1 (by decide) (hts (.fieldLink RX23 350 "OwnedPlacesModel$Exp" "token" "I") (wm_c_xuy 17 rfl)) (fun _ h9 => h9) rfl (by decide +kernel) rfl rfl (Nat.le_of_ble_eq_true rfl) dX23_unary_67 (fun H locs hP hD hS => ?_)
      replace hP : va_P (dC, dI) vwCl (([(mr 5, .inl (kI, 3002, .inl fk)), (mr 6, .inl (kI, 3002, .inl fa)), (mr 8, .inl (kL, 3002, .inr (.inl fn))), (q_1, .inr (15, [.int 0, .int (nI pp), .int 0, .int 0, .int 0, .int 0, .long 0, .int 0, .null, .null, .null, .int 0, .null, .null])), (m9, .inr (23, mA mr mv vf xl (nI zs) 0 xa (nI T) (nI pp) xi xt xn (nI ns) (nI vv) (nI bb)))] : va_W) ++ (sT L F)) H := hP
      replace hD : va_D A (([(mr 5, .inl (kI, 3002, .inl fk)), (mr 6, .inl (kI, 3002, .inl fa)), (mr 8, .inl (kL, 3002, .inr (.inl fn))), (q_1, .inr (15, [.int 0, .int (nI pp), .int 0, .int 0, .int 0, .int 0, .long 0, .int 0, .null, .null, .null, .int 0, .null, .null])), (m9, .inr (23, mA mr mv vf xl (nI zs) 0 xa (nI T) (nI pp) xi xt xn (nI ns) (nI vv) (nI bb)))] : va_W) ++ (sT L F)) := hD
      refine lv_aload_n hx hb dX23_unary_70 rfl (lv_at hl 1 rfl) ?_
      refine lv_iload_n hx hb dX23_unary_71 rfl (lv_at hl 0 rfl) ?_
      refine lv_bipush (v := 53) hx hb dX23_unary_72 (by decide) ?_
      refine lv_icmp_ne (tgt := 82) hx hb dX23_unary_74 (by decide) (fun _ => ?_) (fun c_10 => absurd c_10 hk_6)
      refine lv_iload_n hx hb dX23_unary_82 rfl (lv_at hl 0 rfl) ?_
      refine lv_bipush (v := 41) hx hb dX23_unary_83 (by decide) ?_
      refine lv_icmp_ne (tgt := 93) hx hb dX23_unary_85 (by decide) (fun c_11 => absurd c_11 (fun q9 => q9 hk_8)) (fun _ => ?_)
      refine lv_bipush (v := 10) hx hb dX23_unary_88 (by decide) ?_
      refine lv_goto (tgt := 117) hx hb dX23_unary_90 (by decide) ?_
      refine va_put (D := (dC, dI)) (ci := 15) (v := .int 10) (ty := .int) (C := RX15) (T := TX15) (N := 14) hx hb hts in_c_xuy_X15 tyX15 tyX15_ok nmX15 hown hK hP hD hS 3 rfl rfl 0 (by decide) (hts (.fieldLink RX23 330 "OwnedPlacesModel$Exp" "kind" "I") (wm_c_xuy 18 rfl)) (fun _ h9 => h9) rfl (by decide +kernel) rfl rfl (Nat.le_of_ble_eq_true rfl) dX23_unary_117 (fun H locs hP hD hS => ?_)
      replace hP : va_P (dC, dI) vwCl (([(mr 5, .inl (kI, 3002, .inl fk)), (mr 6, .inl (kI, 3002, .inl fa)), (mr 8, .inl (kL, 3002, .inr (.inl fn))), (q_1, .inr (15, [.int 10, .int (nI pp), .int 0, .int 0, .int 0, .int 0, .long 0, .int 0, .null, .null, .null, .int 0, .null, .null])), (m9, .inr (23, mA mr mv vf xl (nI zs) 0 xa (nI T) (nI pp) xi xt xn (nI ns) (nI vv) (nI bb)))] : va_W) ++ (sT L F)) H := hP
      replace hD : va_D A (([(mr 5, .inl (kI, 3002, .inl fk)), (mr 6, .inl (kI, 3002, .inl fa)), (mr 8, .inl (kL, 3002, .inr (.inl fn))), (q_1, .inr (15, [.int 10, .int (nI pp), .int 0, .int 0, .int 0, .int 0, .long 0, .int 0, .null, .null, .null, .int 0, .null, .null])), (m9, .inr (23, mA mr mv vf xl (nI zs) 0 xa (nI T) (nI pp) xi xt xn (nI ns) (nI vv) (nI bb)))] : va_W) ++ (sT L F)) := hD
      refine lv_aload_n hx hb dX23_unary_120 rfl (lv_at hl 2 rfl) ?_
      refine lv_aload_n hx hb dX23_unary_121 rfl (lv_at hl 2 rfl) ?_
      refine va_get (D := (dC, dI)) (ci := 23) (v := .int (nI pp)) (C := RX23) (T := TX23) (N := 89) hx hb hts in_c_xuy_X23 hown hK hP 4 rfl rfl 10 (by decide) (hts (.fieldLink RX23 86 "OwnedPlacesModel" "p" "I") (wm_c_xuy 16 rfl)) (fun _ h9 => h9) rfl dX23_unary_122 ?_
      by_cases hn_12 : ns = 16
      · replace hPc := hP.subF (f' := [(m9, .inr (23, mA mr mv vf xl (nI zs) 0 xa (nI T) (nI pp) xi xt xn (nI ns) (nI vv) (nI bb))), (mr 6, .inl (kI, 3002, .inl fa))]) [4, 1] rfl
        replace hDc := hD.subF (f' := [(m9, .inr (23, mA mr mv vf xl (nI zs) 0 xa (nI T) (nI pp) xi xt xn (nI ns) (nI vv) (nI bb))), (mr 6, .inl (kI, 3002, .inl fa))]) [4, 1] (by decide) rfl
        replace hKc := hK.sub (tys' := [(kI, .int)]) [0] rfl
        replace hFc := va_freeT (wc := [(m9, .inr (23, mA mr mv vf xl (nI zs) 0 xa (nI T) (nI pp) xi xt xn (nI ns) (nI vv) (nI bb))), (mr 6, .inl (kI, 3002, .inl fa))]) hD hS hA [4, 1] rfl
        refine va_callv (va_runV (As := [.int (nI pp)]) (rest := []) ⟨hx, hb, hml, hown, hts⟩ (c_renN l dC dI m9 mr mv vf xl xa xi xt xn zs T pp ns vv bb kI fk fa pp H.size (by omega) hn_12) (cwV 1 hts g_c_xuy_c_renN_125 rfl rfl rfl (by decide +kernel) ⟨by show 1 + 1 ≤ 6 + 12 * k; omega, by show 8 + (2 + 11) + (22) ≤ 130 + 279 * k; omega⟩) ⟨fun a U g mk q => by obtain ⟨q0, q1, qP, qK, qD⟩ := q; exact ⟨q0, q1, qP, va_K.moved (u := U) (U := U.calling g mk a) (Vm.Alike.refl U.vm) qK, qD⟩, va_recv hKc hPc (ci := 23) (q0 := 0) rfl rfl, fun U hU hW => ⟨rfl, by rw [hU], by rw [hU]; exact hPc, va_K.moved hW.alike hKc, hDc.weaken (fun _ _ _ _ => trivial)⟩⟩ rfl rfl hl.1 rfl (lv_room (Nat.le_of_ble_eq_true rfl)) dX23_unary_125 ⟨(show 1 + 0 ≤ (8 * (T - pp) + 7) by omega), (show 14 + 0 ≤ (120 * (T - pp) + 340) by omega)⟩) hS (fun q _ h => hFc q h) hFc (fun u tS H1 locs ht hvm hw hB hz1 hk1 hS => ?_)
        obtain ⟨ff_13, xa_14, hf15_0, hP1, hK1, hD1⟩ := hB
        rw [ht] at hP1
        replace hK1 := va_K.moved hvm.symm hK1
        obtain ⟨hPj, hDj⟩ := va_joinT (wr := [(mr 5, .inl (kI, 3002, .inl fk)), (mr 8, .inl (kL, 3002, .inr (.inl fn))), (q_1, .inr (15, [.int 10, .int (nI pp), .int 0, .int 0, .int 0, .int 0, .long 0, .int 0, .null, .null, .null, .int 0, .null, .null]))]) (w1 := [(m9, .inr (23, mA mr mv vf xl (nI zs) ff_13 xa_14 (nI T) (nI pp) xi xt xn (nI (ns + 1)) (nI vv) (nI bb))), (mr 6, .inl (kI, 3002, .inl fa))]) hP hD [4, 1] [0, 2, 3] rfl rfl (by decide) (by decide) hk1 hFc hP1 hD1
        replace hP := hPj
        replace hD := hDj
        clear hPj hDj
        replace hK := hK.app hK1
        generalize H1 = H at hP hS ⊢
        replace hP : va_P (dC, dI) vwCl (([(mr 5, .inl (kI, 3002, .inl fk)), (mr 8, .inl (kL, 3002, .inr (.inl fn))), (q_1, .inr (15, [.int 10, .int (nI pp), .int 0, .int 0, .int 0, .int 0, .long 0, .int 0, .null, .null, .null, .int 0, .null, .null])), (m9, .inr (23, mA mr mv vf xl (nI zs) ff_13 xa_14 (nI T) (nI pp) xi xt xn (nI (ns + 1)) (nI vv) (nI bb))), (mr 6, .inl (kI, 3002, .inl fa))] : va_W) ++ (sT L F)) H := hP
        replace hD : va_D A (([(mr 5, .inl (kI, 3002, .inl fk)), (mr 8, .inl (kL, 3002, .inr (.inl fn))), (q_1, .inr (15, [.int 10, .int (nI pp), .int 0, .int 0, .int 0, .int 0, .long 0, .int 0, .null, .null, .null, .int 0, .null, .null])), (m9, .inr (23, mA mr mv vf xl (nI zs) ff_13 xa_14 (nI T) (nI pp) xi xt xn (nI (ns + 1)) (nI vv) (nI bb))), (mr 6, .inl (kI, 3002, .inl fa))] : va_W) ++ (sT L F)) := hD
        replace hK : va_K (dC, dI) vwCl [(kI, .int), (kL, .long), (kE, .object RX15), (kI, .int)] s := hK
        replace hK := hK.sub (tys' := [(kI, .int), (kL, .long), (kE, .object RX15)]) [0, 1, 2] rfl
        clear hz1 hk1 hPc hDc hKc hFc hP1 hD1 hK1
        refine lv_iload_n hx hb dX23_unary_128 rfl (lv_at hl 0 rfl) ?_
        refine lv_bipush (v := 55) hx hb dX23_unary_129 (by decide) ?_
        refine lv_icmp_ne (tgt := 138) hx hb dX23_unary_131 (by decide) (fun _ => ?_) (fun c_16 => absurd c_16 (fun q9 => absurd (hk_8.symm.trans q9) (by decide)))
        refine lv_aload_n hx hb dX23_unary_138 rfl (lv_at hl 2 rfl) ?_
        refine lv_dup hx hb dX23_unary_139 rfl ?_
        refine va_get (D := (dC, dI)) (ci := 23) (v := .int (nI pp)) (C := RX23) (T := TX23) (N := 89) hx hb hts in_c_xuy_X23 hown hK hP 3 rfl rfl 10 (by decide) (hts (.fieldLink RX23 86 "OwnedPlacesModel" "p" "I") (wm_c_xuy 16 rfl)) (fun _ h9 => h9) rfl dX23_unary_140 ?_
        refine lv_iconst (v := 1) hx hb dX23_unary_143 (by decide) ?_
        refine lv_iadd hx hb dX23_unary_144 ?_
        refine lv_topi (fun f_17 ef_17 => ?_)
        obtain rfl : f_17 = nI (pp + 1) := ef_17.trans (nI_1 _)
        refine va_put (D := (dC, dI)) (ci := 23) (v := .int (nI (pp + 1))) (ty := .int) (C := RX23) (T := TX23) (N := 89) hx hb hts in_c_xuy_X23 tyX23 tyX23_ok nmX23 hown hK hP hD hS 3 rfl rfl 10 (by decide) (hts (.fieldLink RX23 86 "OwnedPlacesModel" "p" "I") (wm_c_xuy 16 rfl)) (fun _ h9 => h9) rfl (by decide +kernel) rfl rfl (Nat.le_of_ble_eq_true rfl) dX23_unary_145 (fun H locs hP hD hS => ?_)
        replace hP : va_P (dC, dI) vwCl (([(mr 5, .inl (kI, 3002, .inl fk)), (mr 8, .inl (kL, 3002, .inr (.inl fn))), (q_1, .inr (15, [.int 10, .int (nI pp), .int 0, .int 0, .int 0, .int 0, .long 0, .int 0, .null, .null, .null, .int 0, .null, .null])), (m9, .inr (23, mA mr mv vf xl (nI zs) ff_13 xa_14 (nI T) (nI (pp + 1)) xi xt xn (nI (ns + 1)) (nI vv) (nI bb))), (mr 6, .inl (kI, 3002, .inl fa))] : va_W) ++ (sT L F)) H := hP
        replace hD : va_D A (([(mr 5, .inl (kI, 3002, .inl fk)), (mr 8, .inl (kL, 3002, .inr (.inl fn))), (q_1, .inr (15, [.int 10, .int (nI pp), .int 0, .int 0, .int 0, .int 0, .long 0, .int 0, .null, .null, .null, .int 0, .null, .null])), (m9, .inr (23, mA mr mv vf xl (nI zs) ff_13 xa_14 (nI T) (nI (pp + 1)) xi xt xn (nI (ns + 1)) (nI vv) (nI bb))), (mr 6, .inl (kI, 3002, .inl fa))] : va_W) ++ (sT L F)) := hD
        have hp_18 : pp + 1 < T := kne3 hk0 hp hk_8 (by decide)
        refine lv_iload_n hx hb dX23_unary_148 rfl (lv_at hl 0 rfl) ?_
        refine lv_bipush (v := 55) hx hb dX23_unary_149 (by decide) ?_
        refine lv_icmp_ne (tgt := 164) hx hb dX23_unary_151 (by decide) (fun _ => ?_) (fun c_19 => absurd c_19 (fun q9 => absurd (hk_8.symm.trans q9) (by decide)))
        refine lv_aload_n hx hb dX23_unary_164 rfl (lv_at hl 1 rfl) ?_
        refine lv_aload_n hx hb dX23_unary_165 rfl (lv_at hl 2 rfl) ?_
        replace hPc := hP.subT (f' := [(m9, .inr (23, mA mr mv vf xl (nI zs) ff_13 xa_14 (nI T) (nI (pp + 1)) xi xt xn (nI (ns + 1)) (nI vv) (nI bb))), (mr 5, .inl (kI, 3002, .inl fk)), (mr 6, .inl (kI, 3002, .inl fa))]) [3, 0, 4] rfl
        replace hDc := hD.subT (f' := [(m9, .inr (23, mA mr mv vf xl (nI zs) ff_13 xa_14 (nI T) (nI (pp + 1)) xi xt xn (nI (ns + 1)) (nI vv) (nI bb))), (mr 5, .inl (kI, 3002, .inl fk)), (mr 6, .inl (kI, 3002, .inl fa))]) [3, 0, 4] (by decide) rfl
        replace hKc := hK.sub (tys' := [(kI, .int)]) [0] rfl
        replace hFc := va_freeB (wc := [(m9, .inr (23, mA mr mv vf xl (nI zs) ff_13 xa_14 (nI T) (nI (pp + 1)) xi xt xn (nI (ns + 1)) (nI vv) (nI bb))), (mr 5, .inl (kI, 3002, .inl fk)), (mr 6, .inl (kI, 3002, .inl fa))]) hD hS hA [3, 0, 4] rfl
        refine W.grow (fun hgs0 hgs1 => ?_)
        refine va_callr (va_runV (As := []) (rest := [.ref q_1]) ⟨hx, hb, hml, hown, hts⟩ (c_xunB l dC dI m9 mr mv vf xl xa_14 xi xt xn zs T (pp + 1) (ns + 1) vv bb kI fk fa ff_13 L F (slN H) H.size hf15_0) (cwV 0 hts g_c_xuy_c_xunB_166 rfl rfl rfl (by decide +kernel) ⟨by show 2 + 1 ≤ 6 + 12 * k; omega, by show 8 + (3 + 11) + (32) ≤ 130 + 279 * k; omega⟩) ⟨fun a U g mk q => by obtain ⟨q0, q1, qP, qK, qD, qx0, qx1⟩ := q; exact ⟨q0, q1, qP, va_K.moved (u := U) (U := U.calling g mk a) (Vm.Alike.refl U.vm) qK, qD, nsM.same (u := U) (U := U.calling g mk a) rfl qx0, qx1⟩, va_recv hKc hPc (ci := 23) (q0 := 0) rfl rfl, fun U hU hW => ⟨rfl, by rw [hU], by rw [hU]; exact hPc, va_K.moved hW.alike hKc, hDc.weaken (fun _ _ _ _ => trivial), nsM.warm hW hns, by rw [hU]⟩⟩ rfl rfl hl.1 rfl (lv_room (Nat.le_of_ble_eq_true rfl)) dX23_unary_166 ⟨(show 1 + 1 ≤ (8 * (T - pp) + 7) by omega), (show 14 + 14 ≤ (120 * (T - pp) + 340) by omega)⟩) hS (fun q _ h => hFc q h) hFc (fun u r_20 tS H1 locs ht hvm hw hB hz1 hk1 hS => ?_)
        obtain ⟨L8, F8, hf20_0, hf20_1, hP1, hK1, hD1⟩ := hB
        rw [ht] at hP1
        replace hK1 := va_K.moved hvm.symm hK1
        rw [ht] at hf20_1
        have hgz : H1.size ≤ s.heap.size + ((1 + 1)) ∧ slN H1 ≤ slN s.heap + ((14 + 14)) := ⟨by have := hf20_1.1; omega, by have := hf20_1.2; omega⟩
        obtain ⟨hPj, hDj⟩ := va_joinB (wr := [(mr 8, .inl (kL, 3002, .inr (.inl fn))), (q_1, .inr (15, [.int 10, .int (nI pp), .int 0, .int 0, .int 0, .int 0, .long 0, .int 0, .null, .null, .null, .int 0, .null, .null]))]) (w1 := [(m9, .inr (23, mA mr mv vf xl (nI zs) ff_13 xa_14 (nI T) (nI (pp + 1)) xi xt xn (nI (ns + 1)) (nI vv) (nI bb))), (mr 5, .inl (kI, 3002, .inl fk)), (mr 6, .inl (kI, 3002, .inl fa))]) hP hD [3, 0, 4] [1, 2] rfl rfl (by decide) (by decide) hk1 hFc hP1 hD1
        replace hP := hPj
        replace hD := hDj
        clear hPj hDj
        replace hK := hK.app hK1
        generalize H1 = H at hP hS hgz ⊢
        replace hP : va_P (dC, dI) vwCl (([(mr 8, .inl (kL, 3002, .inr (.inl fn))), (q_1, .inr (15, [.int 10, .int (nI pp), .int 0, .int 0, .int 0, .int 0, .long 0, .int 0, .null, .null, .null, .int 0, .null, .null])), (m9, .inr (23, mA mr mv vf xl (nI zs) ff_13 xa_14 (nI T) (nI (pp + 1)) xi xt xn (nI (ns + 1)) (nI vv) (nI bb))), (mr 5, .inl (kI, 3002, .inl fk)), (mr 6, .inl (kI, 3002, .inl fa))] : va_W) ++ (sT L8 F8)) H := hP
        replace hD : va_D A (([(mr 8, .inl (kL, 3002, .inr (.inl fn))), (q_1, .inr (15, [.int 10, .int (nI pp), .int 0, .int 0, .int 0, .int 0, .long 0, .int 0, .null, .null, .null, .int 0, .null, .null])), (m9, .inr (23, mA mr mv vf xl (nI zs) ff_13 xa_14 (nI T) (nI (pp + 1)) xi xt xn (nI (ns + 1)) (nI vv) (nI bb))), (mr 5, .inl (kI, 3002, .inl fk)), (mr 6, .inl (kI, 3002, .inl fa))] : va_W) ++ (sT L8 F8)) := hD
        replace hK : va_K (dC, dI) vwCl [(kI, .int), (kL, .long), (kE, .object RX15), (kI, .int)] s := hK
        replace hK := hK.sub (tys' := [(kI, .int), (kL, .long), (kE, .object RX15)]) [0, 1, 2] rfl
        refine W.tight (k := (1 + 1)) (n := (14 + 14)) hgz.1 hgz.2 ?_
        clear hz1 hk1 hPc hDc hKc hFc hP1 hD1 hK1
        refine va_put (D := (dC, dI)) (ci := 15) (v := .ref r_20) (ty := (.object "OwnedPlacesModel$Exp")) (C := RX15) (T := TX15) (N := 14) hx hb hts in_c_xuy_X15 tyX15 tyX15_ok nmX15 hown hK hP hD hS 1 rfl rfl 8 (by decide) (hts (.fieldLink RX23 331 "OwnedPlacesModel$Exp" "of" "LOwnedPlacesModel$Exp;") (wm_c_xuy 33 rfl)) (fun _ h9 => h9) rfl (by decide +kernel) rfl rfl (Nat.le_of_ble_eq_true rfl) dX23_unary_169 (fun H locs hP hD hS => ?_)
        replace hP : va_P (dC, dI) vwCl (([(mr 8, .inl (kL, 3002, .inr (.inl fn))), (q_1, .inr (15, [.int 10, .int (nI pp), .int 0, .int 0, .int 0, .int 0, .long 0, .int 0, .ref r_20, .null, .null, .int 0, .null, .null])), (m9, .inr (23, mA mr mv vf xl (nI zs) ff_13 xa_14 (nI T) (nI (pp + 1)) xi xt xn (nI (ns + 1)) (nI vv) (nI bb))), (mr 5, .inl (kI, 3002, .inl fk)), (mr 6, .inl (kI, 3002, .inl fa))] : va_W) ++ (sT L8 F8)) H := hP
        replace hD : va_D A (([(mr 8, .inl (kL, 3002, .inr (.inl fn))), (q_1, .inr (15, [.int 10, .int (nI pp), .int 0, .int 0, .int 0, .int 0, .long 0, .int 0, .ref r_20, .null, .null, .int 0, .null, .null])), (m9, .inr (23, mA mr mv vf xl (nI zs) ff_13 xa_14 (nI T) (nI (pp + 1)) xi xt xn (nI (ns + 1)) (nI vv) (nI bb))), (mr 5, .inl (kI, 3002, .inl fk)), (mr 6, .inl (kI, 3002, .inl fa))] : va_W) ++ (sT L8 F8)) := hD
        refine lv_aload_n hx hb dX23_unary_172 rfl (lv_at hl 2 rfl) ?_
        refine lv_dup hx hb dX23_unary_173 rfl ?_
        refine va_get (D := (dC, dI)) (ci := 23) (v := .int (nI (ns + 1))) (C := RX23) (T := TX23) (N := 89) hx hb hts in_c_xuy_X23 hown hK hP 2 rfl rfl 15 (by decide) (hts (.fieldLink RX23 104 "OwnedPlacesModel" "nest" "I") (wm_c_xuy 20 rfl)) (fun _ h9 => h9) rfl dX23_unary_174 ?_
        refine lv_iconst (v := 1) hx hb dX23_unary_177 (by decide) ?_
        refine lv_isub hx hb dX23_unary_178 ?_
        refine lv_topi (fun f_21 ef_21 => ?_)
        obtain rfl : f_21 = nI ns := ef_21.trans (nI_pred _)
        refine va_put (D := (dC, dI)) (ci := 23) (v := .int (nI ns)) (ty := .int) (C := RX23) (T := TX23) (N := 89) hx hb hts in_c_xuy_X23 tyX23 tyX23_ok nmX23 hown hK hP hD hS 2 rfl rfl 15 (by decide) (hts (.fieldLink RX23 104 "OwnedPlacesModel" "nest" "I") (wm_c_xuy 20 rfl)) (fun _ h9 => h9) rfl (by decide +kernel) rfl rfl (Nat.le_of_ble_eq_true rfl) dX23_unary_179 (fun H locs hP hD hS => ?_)
        replace hP : va_P (dC, dI) vwCl (([(mr 8, .inl (kL, 3002, .inr (.inl fn))), (q_1, .inr (15, [.int 10, .int (nI pp), .int 0, .int 0, .int 0, .int 0, .long 0, .int 0, .ref r_20, .null, .null, .int 0, .null, .null])), (m9, .inr (23, mA mr mv vf xl (nI zs) ff_13 xa_14 (nI T) (nI (pp + 1)) xi xt xn (nI ns) (nI vv) (nI bb))), (mr 5, .inl (kI, 3002, .inl fk)), (mr 6, .inl (kI, 3002, .inl fa))] : va_W) ++ (sT L8 F8)) H := hP
        replace hD : va_D A (([(mr 8, .inl (kL, 3002, .inr (.inl fn))), (q_1, .inr (15, [.int 10, .int (nI pp), .int 0, .int 0, .int 0, .int 0, .long 0, .int 0, .ref r_20, .null, .null, .int 0, .null, .null])), (m9, .inr (23, mA mr mv vf xl (nI zs) ff_13 xa_14 (nI T) (nI (pp + 1)) xi xt xn (nI ns) (nI vv) (nI bb))), (mr 5, .inl (kI, 3002, .inl fk)), (mr 6, .inl (kI, 3002, .inl fa))] : va_W) ++ (sT L8 F8)) := hD
        refine lv_aload_n hx hb dX23_unary_182 rfl (lv_at hl 1 rfl) ?_
        replace hP : va_P (dC, dI) vwCl ((([(mr 8, .inl (kL, 3002, .inr (.inl fn))), (m9, .inr (23, mA mr mv vf xl (nI zs) ff_13 xa_14 (nI T) (nI (pp + 1)) xi xt xn (nI ns) (nI vv) (nI bb))), (mr 5, .inl (kI, 3002, .inl fk)), (mr 6, .inl (kI, 3002, .inl fa))] : va_W) ++ ([(q_1, .inr (15, [.int 10, .int (nI pp), .int 0, .int 0, .int 0, .int 0, .long 0, .int 0, .ref r_20, .null, .null, .int 0, .null, .null]))] : va_W)) ++ sT L8 F8) H := hP.subT (f' := [(mr 8, .inl (kL, 3002, .inr (.inl fn))), (m9, .inr (23, mA mr mv vf xl (nI zs) ff_13 xa_14 (nI T) (nI (pp + 1)) xi xt xn (nI ns) (nI vv) (nI bb))), (mr 5, .inl (kI, 3002, .inl fk)), (mr 6, .inl (kI, 3002, .inl fa)), (q_1, .inr (15, [.int 10, .int (nI pp), .int 0, .int 0, .int 0, .int 0, .long 0, .int 0, .ref r_20, .null, .null, .int 0, .null, .null]))]) [0, 2, 3, 4, 1] rfl
        replace hD : va_D A ((([(mr 8, .inl (kL, 3002, .inr (.inl fn))), (m9, .inr (23, mA mr mv vf xl (nI zs) ff_13 xa_14 (nI T) (nI (pp + 1)) xi xt xn (nI ns) (nI vv) (nI bb))), (mr 5, .inl (kI, 3002, .inl fk)), (mr 6, .inl (kI, 3002, .inl fa))] : va_W) ++ ([(q_1, .inr (15, [.int 10, .int (nI pp), .int 0, .int 0, .int 0, .int 0, .long 0, .int 0, .ref r_20, .null, .null, .int 0, .null, .null]))] : va_W)) ++ sT L8 F8) := hD.subT (f' := [(mr 8, .inl (kL, 3002, .inr (.inl fn))), (m9, .inr (23, mA mr mv vf xl (nI zs) ff_13 xa_14 (nI T) (nI (pp + 1)) xi xt xn (nI ns) (nI vv) (nI bb))), (mr 5, .inl (kI, 3002, .inl fk)), (mr 6, .inl (kI, 3002, .inl fa)), (q_1, .inr (15, [.int 10, .int (nI pp), .int 0, .int 0, .int 0, .int 0, .long 0, .int 0, .ref r_20, .null, .null, .int 0, .null, .null]))]) [0, 2, 3, 4, 1] (by decide) rfl
        obtain ⟨L9, F9, hx9, hm9, hP, hD⟩ := st_fileL [(q_1, .inr (15, [.int 10, .int (nI pp), .int 0, .int 0, .int 0, .int 0, .long 0, .int 0, .ref r_20, .null, .null, .int 0, .null, .null]))] hP hD
        have hm9_0 := hm9 _ (List.mem_of_getElem? (i := 0) rfl)
        refine W.grow (fun hgs0 hgs1 => ?_)
        have hP9 := hP.subT (f' := [(m9, .inr (23, mA mr mv vf xl (nI zs) ff_13 xa_14 (nI T) (nI (pp + 1)) xi xt xn (nI ns) (nI vv) (nI bb))), (mr 5, .inl (kI, 3002, .inl fk)), (mr 6, .inl (kI, 3002, .inl fa)), (mr 8, .inl (kL, 3002, .inr (.inl fn)))]) [1, 2, 3, 0] rfl
        have hD9 := hD.subT (f' := [(m9, .inr (23, mA mr mv vf xl (nI zs) ff_13 xa_14 (nI T) (nI (pp + 1)) xi xt xn (nI ns) (nI vv) (nI bb))), (mr 5, .inl (kI, 3002, .inl fk)), (mr 6, .inl (kI, 3002, .inl fa)), (mr 8, .inl (kL, 3002, .inr (.inl fn)))]) [1, 2, 3, 0] (by decide) rfl
        have hK9 := hK.sub (tys' := [(kI, .int), (kL, .long), (kE, .object RX15)]) [0, 1, 2] rfl
        refine W.widen (k := (8 * (T - pp) + 7)) (n := (120 * (T - pp) + 340)) (by omega) (by omega) ?_
        exact W.aret hx hb hr (Or.inl ⟨_, rfl⟩) (Or.inr ⟨q_1, rfl⟩) (fun tS ht hW => ⟨⟨(), q_1, rfl, trivial, L9, F9, ff_13, xa_14, pp + 1, bb, ⟨(hf20_0.1).tr hx9, hm9_0.1, _, hm9_0.2⟩, ⟨by omega, by omega, by omega, by omega⟩, (fun q9 => absurd q9 hf15_0), by rw [ht]; exact ⟨by omega, by omega⟩, by rw [ht]; exact hP9, va_K.moved hW.alike hK9, hD9⟩, hS.F ht⟩) hS.2.2 dX23_unary_183
      · replace hPc := hP.subF (f' := [(m9, .inr (23, mA mr mv vf xl (nI zs) 0 xa (nI T) (nI pp) xi xt xn (nI ns) (nI vv) (nI bb))), (mr 6, .inl (kI, 3002, .inl fa))]) [4, 1] rfl
        replace hDc := hD.subF (f' := [(m9, .inr (23, mA mr mv vf xl (nI zs) 0 xa (nI T) (nI pp) xi xt xn (nI ns) (nI vv) (nI bb))), (mr 6, .inl (kI, 3002, .inl fa))]) [4, 1] (by decide) rfl
        replace hKc := hK.sub (tys' := [(kI, .int)]) [0] rfl
        replace hFc := va_freeT (wc := [(m9, .inr (23, mA mr mv vf xl (nI zs) 0 xa (nI T) (nI pp) xi xt xn (nI ns) (nI vv) (nI bb))), (mr 6, .inl (kI, 3002, .inl fa))]) hD hS hA [4, 1] rfl
        refine va_callv (va_runV (As := [.int (nI pp)]) (rest := []) ⟨hx, hb, hml, hown, hts⟩ (c_renY l dC dI m9 mr mv vf xl xa xi xt xn zs T pp ns vv bb kI fk fa pp H.size (by omega) (⟨hn_12, by omega⟩)) (cwV 1 hts g_c_xuy_c_renY_125 rfl rfl rfl (by decide +kernel) ⟨by show 1 + 1 ≤ 6 + 12 * k; omega, by show 8 + (2 + 11) + (20) ≤ 130 + 279 * k; omega⟩) ⟨fun a U g mk q => by obtain ⟨q0, q1, qP, qK, qD⟩ := q; exact ⟨q0, q1, qP, va_K.moved (u := U) (U := U.calling g mk a) (Vm.Alike.refl U.vm) qK, qD⟩, va_recv hKc hPc (ci := 23) (q0 := 0) rfl rfl, fun U hU hW => ⟨rfl, by rw [hU], by rw [hU]; exact hPc, va_K.moved hW.alike hKc, hDc.weaken (fun _ _ _ _ => trivial)⟩⟩ rfl rfl hl.1 rfl (lv_room (Nat.le_of_ble_eq_true rfl)) dX23_unary_125 ⟨(show 1 + 0 ≤ (8 * (T - pp) + 7) by omega), (show 14 + 0 ≤ (120 * (T - pp) + 340) by omega)⟩) hS (fun q _ h => hFc q h) hFc (fun u tS H1 locs ht hvm hw hB hz1 hk1 hS => ?_)
        obtain ⟨hP1, hK1, hD1⟩ := hB
        rw [ht] at hP1
        replace hK1 := va_K.moved hvm.symm hK1
        obtain ⟨hPj, hDj⟩ := va_joinT (wr := [(mr 5, .inl (kI, 3002, .inl fk)), (mr 8, .inl (kL, 3002, .inr (.inl fn))), (q_1, .inr (15, [.int 10, .int (nI pp), .int 0, .int 0, .int 0, .int 0, .long 0, .int 0, .null, .null, .null, .int 0, .null, .null]))]) (w1 := [(m9, .inr (23, mA mr mv vf xl (nI zs) 0 xa (nI T) (nI pp) xi xt xn (nI (ns + 1)) (nI vv) (nI bb))), (mr 6, .inl (kI, 3002, .inl fa))]) hP hD [4, 1] [0, 2, 3] rfl rfl (by decide) (by decide) hk1 hFc hP1 hD1
        replace hP := hPj
        replace hD := hDj
        clear hPj hDj
        replace hK := hK.app hK1
        generalize H1 = H at hP hS ⊢
        replace hP : va_P (dC, dI) vwCl (([(mr 5, .inl (kI, 3002, .inl fk)), (mr 8, .inl (kL, 3002, .inr (.inl fn))), (q_1, .inr (15, [.int 10, .int (nI pp), .int 0, .int 0, .int 0, .int 0, .long 0, .int 0, .null, .null, .null, .int 0, .null, .null])), (m9, .inr (23, mA mr mv vf xl (nI zs) 0 xa (nI T) (nI pp) xi xt xn (nI (ns + 1)) (nI vv) (nI bb))), (mr 6, .inl (kI, 3002, .inl fa))] : va_W) ++ (sT L F)) H := hP
        replace hD : va_D A (([(mr 5, .inl (kI, 3002, .inl fk)), (mr 8, .inl (kL, 3002, .inr (.inl fn))), (q_1, .inr (15, [.int 10, .int (nI pp), .int 0, .int 0, .int 0, .int 0, .long 0, .int 0, .null, .null, .null, .int 0, .null, .null])), (m9, .inr (23, mA mr mv vf xl (nI zs) 0 xa (nI T) (nI pp) xi xt xn (nI (ns + 1)) (nI vv) (nI bb))), (mr 6, .inl (kI, 3002, .inl fa))] : va_W) ++ (sT L F)) := hD
        replace hK : va_K (dC, dI) vwCl [(kI, .int), (kL, .long), (kE, .object RX15), (kI, .int)] s := hK
        replace hK := hK.sub (tys' := [(kI, .int), (kL, .long), (kE, .object RX15)]) [0, 1, 2] rfl
        clear hz1 hk1 hPc hDc hKc hFc hP1 hD1 hK1
        refine lv_iload_n hx hb dX23_unary_128 rfl (lv_at hl 0 rfl) ?_
        refine lv_bipush (v := 55) hx hb dX23_unary_129 (by decide) ?_
        refine lv_icmp_ne (tgt := 138) hx hb dX23_unary_131 (by decide) (fun _ => ?_) (fun c_14 => absurd c_14 (fun q9 => absurd (hk_8.symm.trans q9) (by decide)))
        refine lv_aload_n hx hb dX23_unary_138 rfl (lv_at hl 2 rfl) ?_
        refine lv_dup hx hb dX23_unary_139 rfl ?_
        refine va_get (D := (dC, dI)) (ci := 23) (v := .int (nI pp)) (C := RX23) (T := TX23) (N := 89) hx hb hts in_c_xuy_X23 hown hK hP 3 rfl rfl 10 (by decide) (hts (.fieldLink RX23 86 "OwnedPlacesModel" "p" "I") (wm_c_xuy 16 rfl)) (fun _ h9 => h9) rfl dX23_unary_140 ?_
        refine lv_iconst (v := 1) hx hb dX23_unary_143 (by decide) ?_
        refine lv_iadd hx hb dX23_unary_144 ?_
        refine lv_topi (fun f_15 ef_15 => ?_)
        obtain rfl : f_15 = nI (pp + 1) := ef_15.trans (nI_1 _)
        refine va_put (D := (dC, dI)) (ci := 23) (v := .int (nI (pp + 1))) (ty := .int) (C := RX23) (T := TX23) (N := 89) hx hb hts in_c_xuy_X23 tyX23 tyX23_ok nmX23 hown hK hP hD hS 3 rfl rfl 10 (by decide) (hts (.fieldLink RX23 86 "OwnedPlacesModel" "p" "I") (wm_c_xuy 16 rfl)) (fun _ h9 => h9) rfl (by decide +kernel) rfl rfl (Nat.le_of_ble_eq_true rfl) dX23_unary_145 (fun H locs hP hD hS => ?_)
        replace hP : va_P (dC, dI) vwCl (([(mr 5, .inl (kI, 3002, .inl fk)), (mr 8, .inl (kL, 3002, .inr (.inl fn))), (q_1, .inr (15, [.int 10, .int (nI pp), .int 0, .int 0, .int 0, .int 0, .long 0, .int 0, .null, .null, .null, .int 0, .null, .null])), (m9, .inr (23, mA mr mv vf xl (nI zs) 0 xa (nI T) (nI (pp + 1)) xi xt xn (nI (ns + 1)) (nI vv) (nI bb))), (mr 6, .inl (kI, 3002, .inl fa))] : va_W) ++ (sT L F)) H := hP
        replace hD : va_D A (([(mr 5, .inl (kI, 3002, .inl fk)), (mr 8, .inl (kL, 3002, .inr (.inl fn))), (q_1, .inr (15, [.int 10, .int (nI pp), .int 0, .int 0, .int 0, .int 0, .long 0, .int 0, .null, .null, .null, .int 0, .null, .null])), (m9, .inr (23, mA mr mv vf xl (nI zs) 0 xa (nI T) (nI (pp + 1)) xi xt xn (nI (ns + 1)) (nI vv) (nI bb))), (mr 6, .inl (kI, 3002, .inl fa))] : va_W) ++ (sT L F)) := hD
        have hp_16 : pp + 1 < T := kne3 hk0 hp hk_8 (by decide)
        refine lv_iload_n hx hb dX23_unary_148 rfl (lv_at hl 0 rfl) ?_
        refine lv_bipush (v := 55) hx hb dX23_unary_149 (by decide) ?_
        refine lv_icmp_ne (tgt := 164) hx hb dX23_unary_151 (by decide) (fun _ => ?_) (fun c_17 => absurd c_17 (fun q9 => absurd (hk_8.symm.trans q9) (by decide)))
        refine lv_aload_n hx hb dX23_unary_164 rfl (lv_at hl 1 rfl) ?_
        refine lv_aload_n hx hb dX23_unary_165 rfl (lv_at hl 2 rfl) ?_
        obtain ⟨k1, hkL⟩ : ∃ k1 : Nat, k = k1 + 1 := ⟨k - 1, by omega⟩
        replace hPc := hP.subT (f' := [(m9, .inr (23, mA mr mv vf xl (nI zs) 0 xa (nI T) (nI (pp + 1)) xi xt xn (nI (ns + 1)) (nI vv) (nI bb))), (mr 5, .inl (kI, 3002, .inl fk)), (mr 6, .inl (kI, 3002, .inl fa)), (mr 8, .inl (kL, 3002, .inr (.inl fn)))]) [3, 0, 4, 1] rfl
        replace hDc := hD.subT (f' := [(m9, .inr (23, mA mr mv vf xl (nI zs) 0 xa (nI T) (nI (pp + 1)) xi xt xn (nI (ns + 1)) (nI vv) (nI bb))), (mr 5, .inl (kI, 3002, .inl fk)), (mr 6, .inl (kI, 3002, .inl fa)), (mr 8, .inl (kL, 3002, .inr (.inl fn)))]) [3, 0, 4, 1] (by decide) rfl
        replace hKc := hK.sub (tys' := [(kI, .int), (kL, .long), (kE, .object RX15)]) [0, 1, 2] rfl
        replace hFc := va_freeB (wc := [(m9, .inr (23, mA mr mv vf xl (nI zs) 0 xa (nI T) (nI (pp + 1)) xi xt xn (nI (ns + 1)) (nI vv) (nI bb))), (mr 5, .inl (kI, 3002, .inl fk)), (mr 6, .inl (kI, 3002, .inl fa)), (mr 8, .inl (kL, 3002, .inr (.inl fn)))]) hD hS hA [3, 0, 4, 1] rfl
        refine W.grow (fun hgs0 hgs1 => ?_)
        refine va_callr (va_runV (As := []) (rest := [.ref q_1]) ⟨hx, hb, hml, hown, hts⟩ ((ih k1 hkL).2.2.2.2.2.1 m9 mr mv vf xl xa xi xt xn zs T (pp + 1) (ns + 1) vv bb kI fk fa kL kE fn L F (slN H) H.size hT hp_16 hk0 hbb (by omega)) (cwV 0 hts g_c_xuy_c_xuy_166 rfl rfl rfl (by decide +kernel) ⟨by show 6 + 12 * k1 + 1 ≤ 6 + 12 * k; omega, by show 8 + (3 + 11) + (130 + 279 * k1) ≤ 130 + 279 * k; omega⟩) ⟨fun a U g mk q => by obtain ⟨q0, q1, qP, qK, qD, qx0, qx1⟩ := q; exact ⟨q0, q1, qP, va_K.moved (u := U) (U := U.calling g mk a) (Vm.Alike.refl U.vm) qK, qD, nsM.same (u := U) (U := U.calling g mk a) rfl qx0, qx1⟩, va_recv hKc hPc (ci := 23) (q0 := 0) rfl rfl, fun U hU hW => ⟨rfl, by rw [hU], by rw [hU]; exact hPc, va_K.moved hW.alike hKc, hDc.weaken (fun _ _ _ _ => trivial), nsM.warm hW hns, by rw [hU]⟩⟩ rfl rfl hl.1 rfl (lv_room (Nat.le_of_ble_eq_true rfl)) dX23_unary_166 ⟨(show 1 + (8 * (T - (pp + 1)) + 7) ≤ (8 * (T - pp) + 7) by omega), (show 14 + (120 * (T - (pp + 1)) + 340) ≤ (120 * (T - pp) + 340) by omega)⟩) hS (fun q _ h => hFc q h) hFc (fun u r_18 tS H1 locs ht hvm hw hB hz1 hk1 hS => ?_)
        obtain ⟨L17, F17, ff17, xa17, pp17, bb17, hf18_0, hf18_1, hf18_2, hf18_3, hP1, hK1, hD1⟩ := hB
        rw [ht] at hP1
        replace hK1 := va_K.moved hvm.symm hK1
        rw [ht] at hf18_3
        have hgz : H1.size ≤ s.heap.size + ((1 + 8 * (pp17 - (pp + 1)) + 3)) ∧ slN H1 ≤ slN s.heap + ((14 + 120 * (pp17 - (pp + 1)) + 48)) := ⟨by have := hf18_3.1; omega, by have := hf18_3.2; omega⟩
        obtain ⟨hPj, hDj⟩ := va_joinB (wr := [(q_1, .inr (15, [.int 10, .int (nI pp), .int 0, .int 0, .int 0, .int 0, .long 0, .int 0, .null, .null, .null, .int 0, .null, .null]))]) (w1 := [(m9, .inr (23, mA mr mv vf xl (nI zs) ff17 xa17 (nI T) (nI pp17) xi xt xn (nI (ns + 1)) (nI vv) (nI bb17))), (mr 5, .inl (kI, 3002, .inl fk)), (mr 6, .inl (kI, 3002, .inl fa)), (mr 8, .inl (kL, 3002, .inr (.inl fn)))]) hP hD [3, 0, 4, 1] [2] rfl rfl (by decide) (by decide) hk1 hFc hP1 hD1
        replace hP := hPj
        replace hD := hDj
        clear hPj hDj
        replace hK := hK.app hK1
        generalize H1 = H at hP hS hgz ⊢
        replace hP : va_P (dC, dI) vwCl (([(q_1, .inr (15, [.int 10, .int (nI pp), .int 0, .int 0, .int 0, .int 0, .long 0, .int 0, .null, .null, .null, .int 0, .null, .null])), (m9, .inr (23, mA mr mv vf xl (nI zs) ff17 xa17 (nI T) (nI pp17) xi xt xn (nI (ns + 1)) (nI vv) (nI bb17))), (mr 5, .inl (kI, 3002, .inl fk)), (mr 6, .inl (kI, 3002, .inl fa)), (mr 8, .inl (kL, 3002, .inr (.inl fn)))] : va_W) ++ (sT L17 F17)) H := hP
        replace hD : va_D A (([(q_1, .inr (15, [.int 10, .int (nI pp), .int 0, .int 0, .int 0, .int 0, .long 0, .int 0, .null, .null, .null, .int 0, .null, .null])), (m9, .inr (23, mA mr mv vf xl (nI zs) ff17 xa17 (nI T) (nI pp17) xi xt xn (nI (ns + 1)) (nI vv) (nI bb17))), (mr 5, .inl (kI, 3002, .inl fk)), (mr 6, .inl (kI, 3002, .inl fa)), (mr 8, .inl (kL, 3002, .inr (.inl fn)))] : va_W) ++ (sT L17 F17)) := hD
        replace hK : va_K (dC, dI) vwCl [(kI, .int), (kL, .long), (kE, .object RX15), (kI, .int), (kL, .long), (kE, .object RX15)] s := hK
        replace hK := hK.sub (tys' := [(kI, .int), (kL, .long), (kE, .object RX15)]) [0, 1, 2] rfl
        refine W.tight (k := (1 + 8 * (pp17 - (pp + 1)) + 3)) (n := (14 + 120 * (pp17 - (pp + 1)) + 48)) hgz.1 hgz.2 ?_
        clear hz1 hk1 hPc hDc hKc hFc hP1 hD1 hK1
        refine va_put (D := (dC, dI)) (ci := 15) (v := .ref r_18) (ty := (.object "OwnedPlacesModel$Exp")) (C := RX15) (T := TX15) (N := 14) hx hb hts in_c_xuy_X15 tyX15 tyX15_ok nmX15 hown hK hP hD hS 0 rfl rfl 8 (by decide) (hts (.fieldLink RX23 331 "OwnedPlacesModel$Exp" "of" "LOwnedPlacesModel$Exp;") (wm_c_xuy 33 rfl)) (fun _ h9 => h9) rfl (by decide +kernel) rfl rfl (Nat.le_of_ble_eq_true rfl) dX23_unary_169 (fun H locs hP hD hS => ?_)
        replace hP : va_P (dC, dI) vwCl (([(q_1, .inr (15, [.int 10, .int (nI pp), .int 0, .int 0, .int 0, .int 0, .long 0, .int 0, .ref r_18, .null, .null, .int 0, .null, .null])), (m9, .inr (23, mA mr mv vf xl (nI zs) ff17 xa17 (nI T) (nI pp17) xi xt xn (nI (ns + 1)) (nI vv) (nI bb17))), (mr 5, .inl (kI, 3002, .inl fk)), (mr 6, .inl (kI, 3002, .inl fa)), (mr 8, .inl (kL, 3002, .inr (.inl fn)))] : va_W) ++ (sT L17 F17)) H := hP
        replace hD : va_D A (([(q_1, .inr (15, [.int 10, .int (nI pp), .int 0, .int 0, .int 0, .int 0, .long 0, .int 0, .ref r_18, .null, .null, .int 0, .null, .null])), (m9, .inr (23, mA mr mv vf xl (nI zs) ff17 xa17 (nI T) (nI pp17) xi xt xn (nI (ns + 1)) (nI vv) (nI bb17))), (mr 5, .inl (kI, 3002, .inl fk)), (mr 6, .inl (kI, 3002, .inl fa)), (mr 8, .inl (kL, 3002, .inr (.inl fn)))] : va_W) ++ (sT L17 F17)) := hD
        refine lv_aload_n hx hb dX23_unary_172 rfl (lv_at hl 2 rfl) ?_
        refine lv_dup hx hb dX23_unary_173 rfl ?_
        refine va_get (D := (dC, dI)) (ci := 23) (v := .int (nI (ns + 1))) (C := RX23) (T := TX23) (N := 89) hx hb hts in_c_xuy_X23 hown hK hP 1 rfl rfl 15 (by decide) (hts (.fieldLink RX23 104 "OwnedPlacesModel" "nest" "I") (wm_c_xuy 20 rfl)) (fun _ h9 => h9) rfl dX23_unary_174 ?_
        refine lv_iconst (v := 1) hx hb dX23_unary_177 (by decide) ?_
        refine lv_isub hx hb dX23_unary_178 ?_
        refine lv_topi (fun f_19 ef_19 => ?_)
        obtain rfl : f_19 = nI ns := ef_19.trans (nI_pred _)
        refine va_put (D := (dC, dI)) (ci := 23) (v := .int (nI ns)) (ty := .int) (C := RX23) (T := TX23) (N := 89) hx hb hts in_c_xuy_X23 tyX23 tyX23_ok nmX23 hown hK hP hD hS 1 rfl rfl 15 (by decide) (hts (.fieldLink RX23 104 "OwnedPlacesModel" "nest" "I") (wm_c_xuy 20 rfl)) (fun _ h9 => h9) rfl (by decide +kernel) rfl rfl (Nat.le_of_ble_eq_true rfl) dX23_unary_179 (fun H locs hP hD hS => ?_)
        replace hP : va_P (dC, dI) vwCl (([(q_1, .inr (15, [.int 10, .int (nI pp), .int 0, .int 0, .int 0, .int 0, .long 0, .int 0, .ref r_18, .null, .null, .int 0, .null, .null])), (m9, .inr (23, mA mr mv vf xl (nI zs) ff17 xa17 (nI T) (nI pp17) xi xt xn (nI ns) (nI vv) (nI bb17))), (mr 5, .inl (kI, 3002, .inl fk)), (mr 6, .inl (kI, 3002, .inl fa)), (mr 8, .inl (kL, 3002, .inr (.inl fn)))] : va_W) ++ (sT L17 F17)) H := hP
        replace hD : va_D A (([(q_1, .inr (15, [.int 10, .int (nI pp), .int 0, .int 0, .int 0, .int 0, .long 0, .int 0, .ref r_18, .null, .null, .int 0, .null, .null])), (m9, .inr (23, mA mr mv vf xl (nI zs) ff17 xa17 (nI T) (nI pp17) xi xt xn (nI ns) (nI vv) (nI bb17))), (mr 5, .inl (kI, 3002, .inl fk)), (mr 6, .inl (kI, 3002, .inl fa)), (mr 8, .inl (kL, 3002, .inr (.inl fn)))] : va_W) ++ (sT L17 F17)) := hD
        refine lv_aload_n hx hb dX23_unary_182 rfl (lv_at hl 1 rfl) ?_
        by_cases hz_20 : ff17 = 0
        · subst hz_20
          have hg17 := hf18_2 rfl
          have hlthg17 := (isE_mem hg17.2).2
          replace hP : va_P (dC, dI) vwCl ((([(m9, .inr (23, mA mr mv vf xl (nI zs) 0 xa17 (nI T) (nI pp17) xi xt xn (nI ns) (nI vv) (nI bb17))), (mr 5, .inl (kI, 3002, .inl fk)), (mr 6, .inl (kI, 3002, .inl fa)), (mr 8, .inl (kL, 3002, .inr (.inl fn)))] : va_W) ++ ([(q_1, .inr (15, [.int 10, .int (nI pp), .int 0, .int 0, .int 0, .int 0, .long 0, .int 0, .ref r_18, .null, .null, .int 0, .null, .null]))] : va_W)) ++ sT L17 F17) H := hP.subT (f' := [(m9, .inr (23, mA mr mv vf xl (nI zs) 0 xa17 (nI T) (nI pp17) xi xt xn (nI ns) (nI vv) (nI bb17))), (mr 5, .inl (kI, 3002, .inl fk)), (mr 6, .inl (kI, 3002, .inl fa)), (mr 8, .inl (kL, 3002, .inr (.inl fn))), (q_1, .inr (15, [.int 10, .int (nI pp), .int 0, .int 0, .int 0, .int 0, .long 0, .int 0, .ref r_18, .null, .null, .int 0, .null, .null]))]) [1, 2, 3, 4, 0] rfl
          replace hD : va_D A ((([(m9, .inr (23, mA mr mv vf xl (nI zs) 0 xa17 (nI T) (nI pp17) xi xt xn (nI ns) (nI vv) (nI bb17))), (mr 5, .inl (kI, 3002, .inl fk)), (mr 6, .inl (kI, 3002, .inl fa)), (mr 8, .inl (kL, 3002, .inr (.inl fn)))] : va_W) ++ ([(q_1, .inr (15, [.int 10, .int (nI pp), .int 0, .int 0, .int 0, .int 0, .long 0, .int 0, .ref r_18, .null, .null, .int 0, .null, .null]))] : va_W)) ++ sT L17 F17) := hD.subT (f' := [(m9, .inr (23, mA mr mv vf xl (nI zs) 0 xa17 (nI T) (nI pp17) xi xt xn (nI ns) (nI vv) (nI bb17))), (mr 5, .inl (kI, 3002, .inl fk)), (mr 6, .inl (kI, 3002, .inl fa)), (mr 8, .inl (kL, 3002, .inr (.inl fn))), (q_1, .inr (15, [.int 10, .int (nI pp), .int 0, .int 0, .int 0, .int 0, .long 0, .int 0, .ref r_18, .null, .null, .int 0, .null, .null]))]) [1, 2, 3, 4, 0] (by decide) rfl
          obtain ⟨L9, F9, hx9, hm9, hP, hD⟩ := st_fileL [(q_1, .inr (15, [.int 10, .int (nI pp), .int 0, .int 0, .int 0, .int 0, .long 0, .int 0, .ref r_18, .null, .null, .int 0, .null, .null]))] hP hD
          have hm9_0 := hm9 _ (List.mem_of_getElem? (i := 0) rfl)
          refine W.grow (fun hgs0 hgs1 => ?_)
          have hP9 := hP.subT (f' := [(m9, .inr (23, mA mr mv vf xl (nI zs) 0 xa17 (nI T) (nI pp17) xi xt xn (nI ns) (nI vv) (nI bb17))), (mr 5, .inl (kI, 3002, .inl fk)), (mr 6, .inl (kI, 3002, .inl fa)), (mr 8, .inl (kL, 3002, .inr (.inl fn)))]) [0, 1, 2, 3] rfl
          have hD9 := hD.subT (f' := [(m9, .inr (23, mA mr mv vf xl (nI zs) 0 xa17 (nI T) (nI pp17) xi xt xn (nI ns) (nI vv) (nI bb17))), (mr 5, .inl (kI, 3002, .inl fk)), (mr 6, .inl (kI, 3002, .inl fa)), (mr 8, .inl (kL, 3002, .inr (.inl fn)))]) [0, 1, 2, 3] (by decide) rfl
          have hK9 := hK.sub (tys' := [(kI, .int), (kL, .long), (kE, .object RX15)]) [0, 1, 2] rfl
          refine W.widen (k := (8 * (T - pp) + 7)) (n := (120 * (T - pp) + 340)) (by omega) (by omega) ?_
          exact W.aret hx hb hr (Or.inl ⟨_, rfl⟩) (Or.inr ⟨q_1, rfl⟩) (fun tS ht hW => ⟨⟨(), q_1, rfl, trivial, L9, F9, 0, xa17, pp17, bb17, ⟨(hf18_0.1).tr hx9, hm9_0.1, _, hm9_0.2⟩, ⟨by omega, by omega, by omega, by omega⟩, (fun _ => ⟨hg17.1, isE_3 hm9_0.1 (by omega) (Or.inr (Or.inr (Or.inr (Or.inl rfl)))) hm9_0.2 (by omega) (Nat.le_refl _) (isE_im hx9 _ (by omega) hg17.2)⟩), by rw [ht]; exact ⟨by omega, by omega⟩, by rw [ht]; exact hP9, va_K.moved hW.alike hK9, hD9⟩, hS.F ht⟩) hS.2.2 dX23_unary_183
        · replace hP : va_P (dC, dI) vwCl ((([(m9, .inr (23, mA mr mv vf xl (nI zs) ff17 xa17 (nI T) (nI pp17) xi xt xn (nI ns) (nI vv) (nI bb17))), (mr 5, .inl (kI, 3002, .inl fk)), (mr 6, .inl (kI, 3002, .inl fa)), (mr 8, .inl (kL, 3002, .inr (.inl fn)))] : va_W) ++ ([(q_1, .inr (15, [.int 10, .int (nI pp), .int 0, .int 0, .int 0, .int 0, .long 0, .int 0, .ref r_18, .null, .null, .int 0, .null, .null]))] : va_W)) ++ sT L17 F17) H := hP.subT (f' := [(m9, .inr (23, mA mr mv vf xl (nI zs) ff17 xa17 (nI T) (nI pp17) xi xt xn (nI ns) (nI vv) (nI bb17))), (mr 5, .inl (kI, 3002, .inl fk)), (mr 6, .inl (kI, 3002, .inl fa)), (mr 8, .inl (kL, 3002, .inr (.inl fn))), (q_1, .inr (15, [.int 10, .int (nI pp), .int 0, .int 0, .int 0, .int 0, .long 0, .int 0, .ref r_18, .null, .null, .int 0, .null, .null]))]) [1, 2, 3, 4, 0] rfl
          replace hD : va_D A ((([(m9, .inr (23, mA mr mv vf xl (nI zs) ff17 xa17 (nI T) (nI pp17) xi xt xn (nI ns) (nI vv) (nI bb17))), (mr 5, .inl (kI, 3002, .inl fk)), (mr 6, .inl (kI, 3002, .inl fa)), (mr 8, .inl (kL, 3002, .inr (.inl fn)))] : va_W) ++ ([(q_1, .inr (15, [.int 10, .int (nI pp), .int 0, .int 0, .int 0, .int 0, .long 0, .int 0, .ref r_18, .null, .null, .int 0, .null, .null]))] : va_W)) ++ sT L17 F17) := hD.subT (f' := [(m9, .inr (23, mA mr mv vf xl (nI zs) ff17 xa17 (nI T) (nI pp17) xi xt xn (nI ns) (nI vv) (nI bb17))), (mr 5, .inl (kI, 3002, .inl fk)), (mr 6, .inl (kI, 3002, .inl fa)), (mr 8, .inl (kL, 3002, .inr (.inl fn))), (q_1, .inr (15, [.int 10, .int (nI pp), .int 0, .int 0, .int 0, .int 0, .long 0, .int 0, .ref r_18, .null, .null, .int 0, .null, .null]))]) [1, 2, 3, 4, 0] (by decide) rfl
          obtain ⟨L9, F9, hx9, hm9, hP, hD⟩ := st_fileL [(q_1, .inr (15, [.int 10, .int (nI pp), .int 0, .int 0, .int 0, .int 0, .long 0, .int 0, .ref r_18, .null, .null, .int 0, .null, .null]))] hP hD
          have hm9_0 := hm9 _ (List.mem_of_getElem? (i := 0) rfl)
          refine W.grow (fun hgs0 hgs1 => ?_)
          have hP9 := hP.subT (f' := [(m9, .inr (23, mA mr mv vf xl (nI zs) ff17 xa17 (nI T) (nI pp17) xi xt xn (nI ns) (nI vv) (nI bb17))), (mr 5, .inl (kI, 3002, .inl fk)), (mr 6, .inl (kI, 3002, .inl fa)), (mr 8, .inl (kL, 3002, .inr (.inl fn)))]) [0, 1, 2, 3] rfl
          have hD9 := hD.subT (f' := [(m9, .inr (23, mA mr mv vf xl (nI zs) ff17 xa17 (nI T) (nI pp17) xi xt xn (nI ns) (nI vv) (nI bb17))), (mr 5, .inl (kI, 3002, .inl fk)), (mr 6, .inl (kI, 3002, .inl fa)), (mr 8, .inl (kL, 3002, .inr (.inl fn)))]) [0, 1, 2, 3] (by decide) rfl
          have hK9 := hK.sub (tys' := [(kI, .int), (kL, .long), (kE, .object RX15)]) [0, 1, 2] rfl
          refine W.widen (k := (8 * (T - pp) + 7)) (n := (120 * (T - pp) + 340)) (by omega) (by omega) ?_
          exact W.aret hx hb hr (Or.inl ⟨_, rfl⟩) (Or.inr ⟨q_1, rfl⟩) (fun tS ht hW => ⟨⟨(), q_1, rfl, trivial, L9, F9, ff17, xa17, pp17, bb17, ⟨(hf18_0.1).tr hx9, hm9_0.1, _, hm9_0.2⟩, ⟨by omega, by omega, by omega, by omega⟩, (fun q9 => absurd q9 hz_20), by rw [ht]; exact ⟨by omega, by omega⟩, by rw [ht]; exact hP9, va_K.moved hW.alike hK9, hD9⟩, hS.F ht⟩) hS.2.2 dX23_unary_183
    · refine lv_icmp_eq (tgt := 62) hx hb dX23_unary_36 (by decide) (fun c_9 => absurd c_9 hk_8) (fun _ => ?_)
      refine lv_iload_n hx hb dX23_unary_39 rfl (lv_at hl 0 rfl) ?_
      refine lv_bipush (v := 42) hx hb dX23_unary_40 (by decide) ?_
      by_cases hk_10 : fk pp = 42
      · refine lv_icmp_eq (tgt := 62) hx hb dX23_unary_42 (by decide) (fun _ => ?_) (fun c_11 => absurd hk_10 c_11)
        refine lv_aload_n hx hb dX23_unary_62 rfl (lv_at hl 1 rfl) ?_
        refine lv_aload_n hx hb dX23_unary_63 rfl (lv_at hl 2 rfl) ?_
        refine va_get (D := (dC, dI)) (ci := 23) (v := .int (nI pp)) (C := RX23) (T := TX23) (N := 89) hx hb hts in_c_xuy_X23 hown hK hP 4 rfl rfl 10 (by decide) (hts (.fieldLink RX23 86 "OwnedPlacesModel" "p" "I") (wm_c_xuy 16 rfl)) (fun _ h9 => h9) rfl dX23_unary_64 ?_
        refine va_put (D := (dC, dI)) (ci := 15) (v := .int (nI pp)) (ty := .int) (C := RX15) (T := TX15) (N := 14) hx hb hts in_c_xuy_X15 tyX15 tyX15_ok nmX15 hown hK hP hD hS 3 rfl rfl 1 (by decide) (hts (.fieldLink RX23 350 "OwnedPlacesModel$Exp" "token" "I") (wm_c_xuy 17 rfl)) (fun _ h9 => h9) rfl (by decide +kernel) rfl rfl (Nat.le_of_ble_eq_true rfl) dX23_unary_67 (fun H locs hP hD hS => ?_)
        replace hP : va_P (dC, dI) vwCl (([(mr 5, .inl (kI, 3002, .inl fk)), (mr 6, .inl (kI, 3002, .inl fa)), (mr 8, .inl (kL, 3002, .inr (.inl fn))), (q_1, .inr (15, [.int 0, .int (nI pp), .int 0, .int 0, .int 0, .int 0, .long 0, .int 0, .null, .null, .null, .int 0, .null, .null])), (m9, .inr (23, mA mr mv vf xl (nI zs) 0 xa (nI T) (nI pp) xi xt xn (nI ns) (nI vv) (nI bb)))] : va_W) ++ (sT L F)) H := hP
        replace hD : va_D A (([(mr 5, .inl (kI, 3002, .inl fk)), (mr 6, .inl (kI, 3002, .inl fa)), (mr 8, .inl (kL, 3002, .inr (.inl fn))), (q_1, .inr (15, [.int 0, .int (nI pp), .int 0, .int 0, .int 0, .int 0, .long 0, .int 0, .null, .null, .null, .int 0, .null, .null])), (m9, .inr (23, mA mr mv vf xl (nI zs) 0 xa (nI T) (nI pp) xi xt xn (nI ns) (nI vv) (nI bb)))] : va_W) ++ (sT L F)) := hD
        refine lv_aload_n hx hb dX23_unary_70 rfl (lv_at hl 1 rfl) ?_
        refine lv_iload_n hx hb dX23_unary_71 rfl (lv_at hl 0 rfl) ?_
        refine lv_bipush (v := 53) hx hb dX23_unary_72 (by decide) ?_
        refine lv_icmp_ne (tgt := 82) hx hb dX23_unary_74 (by decide) (fun _ => ?_) (fun c_12 => absurd c_12 hk_6)
        refine lv_iload_n hx hb dX23_unary_82 rfl (lv_at hl 0 rfl) ?_
        refine lv_bipush (v := 41) hx hb dX23_unary_83 (by decide) ?_
        refine lv_icmp_ne (tgt := 93) hx hb dX23_unary_85 (by decide) (fun _ => ?_) (fun c_13 => absurd c_13 hk_8)
        refine lv_iload_n hx hb dX23_unary_93 rfl (lv_at hl 0 rfl) ?_
        refine lv_bipush (v := 42) hx hb dX23_unary_94 (by decide) ?_
        refine lv_icmp_ne (tgt := 104) hx hb dX23_unary_96 (by decide) (fun c_14 => absurd c_14 (fun q9 => q9 hk_10)) (fun _ => ?_)
        refine lv_bipush (v := 11) hx hb dX23_unary_99 (by decide) ?_
        refine lv_goto (tgt := 117) hx hb dX23_unary_101 (by decide) ?_
        refine va_put (D := (dC, dI)) (ci := 15) (v := .int 11) (ty := .int) (C := RX15) (T := TX15) (N := 14) hx hb hts in_c_xuy_X15 tyX15 tyX15_ok nmX15 hown hK hP hD hS 3 rfl rfl 0 (by decide) (hts (.fieldLink RX23 330 "OwnedPlacesModel$Exp" "kind" "I") (wm_c_xuy 18 rfl)) (fun _ h9 => h9) rfl (by decide +kernel) rfl rfl (Nat.le_of_ble_eq_true rfl) dX23_unary_117 (fun H locs hP hD hS => ?_)
        replace hP : va_P (dC, dI) vwCl (([(mr 5, .inl (kI, 3002, .inl fk)), (mr 6, .inl (kI, 3002, .inl fa)), (mr 8, .inl (kL, 3002, .inr (.inl fn))), (q_1, .inr (15, [.int 11, .int (nI pp), .int 0, .int 0, .int 0, .int 0, .long 0, .int 0, .null, .null, .null, .int 0, .null, .null])), (m9, .inr (23, mA mr mv vf xl (nI zs) 0 xa (nI T) (nI pp) xi xt xn (nI ns) (nI vv) (nI bb)))] : va_W) ++ (sT L F)) H := hP
        replace hD : va_D A (([(mr 5, .inl (kI, 3002, .inl fk)), (mr 6, .inl (kI, 3002, .inl fa)), (mr 8, .inl (kL, 3002, .inr (.inl fn))), (q_1, .inr (15, [.int 11, .int (nI pp), .int 0, .int 0, .int 0, .int 0, .long 0, .int 0, .null, .null, .null, .int 0, .null, .null])), (m9, .inr (23, mA mr mv vf xl (nI zs) 0 xa (nI T) (nI pp) xi xt xn (nI ns) (nI vv) (nI bb)))] : va_W) ++ (sT L F)) := hD
        refine lv_aload_n hx hb dX23_unary_120 rfl (lv_at hl 2 rfl) ?_
        refine lv_aload_n hx hb dX23_unary_121 rfl (lv_at hl 2 rfl) ?_
        refine va_get (D := (dC, dI)) (ci := 23) (v := .int (nI pp)) (C := RX23) (T := TX23) (N := 89) hx hb hts in_c_xuy_X23 hown hK hP 4 rfl rfl 10 (by decide) (hts (.fieldLink RX23 86 "OwnedPlacesModel" "p" "I") (wm_c_xuy 16 rfl)) (fun _ h9 => h9) rfl dX23_unary_122 ?_
        by_cases hn_15 : ns = 16
        · replace hPc := hP.subF (f' := [(m9, .inr (23, mA mr mv vf xl (nI zs) 0 xa (nI T) (nI pp) xi xt xn (nI ns) (nI vv) (nI bb))), (mr 6, .inl (kI, 3002, .inl fa))]) [4, 1] rfl
          replace hDc := hD.subF (f' := [(m9, .inr (23, mA mr mv vf xl (nI zs) 0 xa (nI T) (nI pp) xi xt xn (nI ns) (nI vv) (nI bb))), (mr 6, .inl (kI, 3002, .inl fa))]) [4, 1] (by decide) rfl
          replace hKc := hK.sub (tys' := [(kI, .int)]) [0] rfl
          replace hFc := va_freeT (wc := [(m9, .inr (23, mA mr mv vf xl (nI zs) 0 xa (nI T) (nI pp) xi xt xn (nI ns) (nI vv) (nI bb))), (mr 6, .inl (kI, 3002, .inl fa))]) hD hS hA [4, 1] rfl
          refine va_callv (va_runV (As := [.int (nI pp)]) (rest := []) ⟨hx, hb, hml, hown, hts⟩ (c_renN l dC dI m9 mr mv vf xl xa xi xt xn zs T pp ns vv bb kI fk fa pp H.size (by omega) hn_15) (cwV 1 hts g_c_xuy_c_renN_125 rfl rfl rfl (by decide +kernel) ⟨by show 1 + 1 ≤ 6 + 12 * k; omega, by show 8 + (2 + 11) + (22) ≤ 130 + 279 * k; omega⟩) ⟨fun a U g mk q => by obtain ⟨q0, q1, qP, qK, qD⟩ := q; exact ⟨q0, q1, qP, va_K.moved (u := U) (U := U.calling g mk a) (Vm.Alike.refl U.vm) qK, qD⟩, va_recv hKc hPc (ci := 23) (q0 := 0) rfl rfl, fun U hU hW => ⟨rfl, by rw [hU], by rw [hU]; exact hPc, va_K.moved hW.alike hKc, hDc.weaken (fun _ _ _ _ => trivial)⟩⟩ rfl rfl hl.1 rfl (lv_room (Nat.le_of_ble_eq_true rfl)) dX23_unary_125 ⟨(show 1 + 0 ≤ (8 * (T - pp) + 7) by omega), (show 14 + 0 ≤ (120 * (T - pp) + 340) by omega)⟩) hS (fun q _ h => hFc q h) hFc (fun u tS H1 locs ht hvm hw hB hz1 hk1 hS => ?_)
          obtain ⟨ff_16, xa_17, hf18_0, hP1, hK1, hD1⟩ := hB
          rw [ht] at hP1
          replace hK1 := va_K.moved hvm.symm hK1
          obtain ⟨hPj, hDj⟩ := va_joinT (wr := [(mr 5, .inl (kI, 3002, .inl fk)), (mr 8, .inl (kL, 3002, .inr (.inl fn))), (q_1, .inr (15, [.int 11, .int (nI pp), .int 0, .int 0, .int 0, .int 0, .long 0, .int 0, .null, .null, .null, .int 0, .null, .null]))]) (w1 := [(m9, .inr (23, mA mr mv vf xl (nI zs) ff_16 xa_17 (nI T) (nI pp) xi xt xn (nI (ns + 1)) (nI vv) (nI bb))), (mr 6, .inl (kI, 3002, .inl fa))]) hP hD [4, 1] [0, 2, 3] rfl rfl (by decide) (by decide) hk1 hFc hP1 hD1
          replace hP := hPj
          replace hD := hDj
          clear hPj hDj
          replace hK := hK.app hK1
          generalize H1 = H at hP hS ⊢
          replace hP : va_P (dC, dI) vwCl (([(mr 5, .inl (kI, 3002, .inl fk)), (mr 8, .inl (kL, 3002, .inr (.inl fn))), (q_1, .inr (15, [.int 11, .int (nI pp), .int 0, .int 0, .int 0, .int 0, .long 0, .int 0, .null, .null, .null, .int 0, .null, .null])), (m9, .inr (23, mA mr mv vf xl (nI zs) ff_16 xa_17 (nI T) (nI pp) xi xt xn (nI (ns + 1)) (nI vv) (nI bb))), (mr 6, .inl (kI, 3002, .inl fa))] : va_W) ++ (sT L F)) H := hP
          replace hD : va_D A (([(mr 5, .inl (kI, 3002, .inl fk)), (mr 8, .inl (kL, 3002, .inr (.inl fn))), (q_1, .inr (15, [.int 11, .int (nI pp), .int 0, .int 0, .int 0, .int 0, .long 0, .int 0, .null, .null, .null, .int 0, .null, .null])), (m9, .inr (23, mA mr mv vf xl (nI zs) ff_16 xa_17 (nI T) (nI pp) xi xt xn (nI (ns + 1)) (nI vv) (nI bb))), (mr 6, .inl (kI, 3002, .inl fa))] : va_W) ++ (sT L F)) := hD
          replace hK : va_K (dC, dI) vwCl [(kI, .int), (kL, .long), (kE, .object RX15), (kI, .int)] s := hK
          replace hK := hK.sub (tys' := [(kI, .int), (kL, .long), (kE, .object RX15)]) [0, 1, 2] rfl
          clear hz1 hk1 hPc hDc hKc hFc hP1 hD1 hK1
          refine lv_iload_n hx hb dX23_unary_128 rfl (lv_at hl 0 rfl) ?_
          refine lv_bipush (v := 55) hx hb dX23_unary_129 (by decide) ?_
          refine lv_icmp_ne (tgt := 138) hx hb dX23_unary_131 (by decide) (fun _ => ?_) (fun c_19 => absurd c_19 (fun q9 => absurd (hk_10.symm.trans q9) (by decide)))
          refine lv_aload_n hx hb dX23_unary_138 rfl (lv_at hl 2 rfl) ?_
          refine lv_dup hx hb dX23_unary_139 rfl ?_
          refine va_get (D := (dC, dI)) (ci := 23) (v := .int (nI pp)) (C := RX23) (T := TX23) (N := 89) hx hb hts in_c_xuy_X23 hown hK hP 3 rfl rfl 10 (by decide) (hts (.fieldLink RX23 86 "OwnedPlacesModel" "p" "I") (wm_c_xuy 16 rfl)) (fun _ h9 => h9) rfl dX23_unary_140 ?_
          refine lv_iconst (v := 1) hx hb dX23_unary_143 (by decide) ?_
          refine lv_iadd hx hb dX23_unary_144 ?_
          refine lv_topi (fun f_20 ef_20 => ?_)
          obtain rfl : f_20 = nI (pp + 1) := ef_20.trans (nI_1 _)
          refine va_put (D := (dC, dI)) (ci := 23) (v := .int (nI (pp + 1))) (ty := .int) (C := RX23) (T := TX23) (N := 89) hx hb hts in_c_xuy_X23 tyX23 tyX23_ok nmX23 hown hK hP hD hS 3 rfl rfl 10 (by decide) (hts (.fieldLink RX23 86 "OwnedPlacesModel" "p" "I") (wm_c_xuy 16 rfl)) (fun _ h9 => h9) rfl (by decide +kernel) rfl rfl (Nat.le_of_ble_eq_true rfl) dX23_unary_145 (fun H locs hP hD hS => ?_)
          replace hP : va_P (dC, dI) vwCl (([(mr 5, .inl (kI, 3002, .inl fk)), (mr 8, .inl (kL, 3002, .inr (.inl fn))), (q_1, .inr (15, [.int 11, .int (nI pp), .int 0, .int 0, .int 0, .int 0, .long 0, .int 0, .null, .null, .null, .int 0, .null, .null])), (m9, .inr (23, mA mr mv vf xl (nI zs) ff_16 xa_17 (nI T) (nI (pp + 1)) xi xt xn (nI (ns + 1)) (nI vv) (nI bb))), (mr 6, .inl (kI, 3002, .inl fa))] : va_W) ++ (sT L F)) H := hP
          replace hD : va_D A (([(mr 5, .inl (kI, 3002, .inl fk)), (mr 8, .inl (kL, 3002, .inr (.inl fn))), (q_1, .inr (15, [.int 11, .int (nI pp), .int 0, .int 0, .int 0, .int 0, .long 0, .int 0, .null, .null, .null, .int 0, .null, .null])), (m9, .inr (23, mA mr mv vf xl (nI zs) ff_16 xa_17 (nI T) (nI (pp + 1)) xi xt xn (nI (ns + 1)) (nI vv) (nI bb))), (mr 6, .inl (kI, 3002, .inl fa))] : va_W) ++ (sT L F)) := hD
          have hp_21 : pp + 1 < T := kne3 hk0 hp hk_10 (by decide)
          refine lv_iload_n hx hb dX23_unary_148 rfl (lv_at hl 0 rfl) ?_
          refine lv_bipush (v := 55) hx hb dX23_unary_149 (by decide) ?_
          refine lv_icmp_ne (tgt := 164) hx hb dX23_unary_151 (by decide) (fun _ => ?_) (fun c_22 => absurd c_22 (fun q9 => absurd (hk_10.symm.trans q9) (by decide)))
          refine lv_aload_n hx hb dX23_unary_164 rfl (lv_at hl 1 rfl) ?_
          refine lv_aload_n hx hb dX23_unary_165 rfl (lv_at hl 2 rfl) ?_
          replace hPc := hP.subT (f' := [(m9, .inr (23, mA mr mv vf xl (nI zs) ff_16 xa_17 (nI T) (nI (pp + 1)) xi xt xn (nI (ns + 1)) (nI vv) (nI bb))), (mr 5, .inl (kI, 3002, .inl fk)), (mr 6, .inl (kI, 3002, .inl fa))]) [3, 0, 4] rfl
          replace hDc := hD.subT (f' := [(m9, .inr (23, mA mr mv vf xl (nI zs) ff_16 xa_17 (nI T) (nI (pp + 1)) xi xt xn (nI (ns + 1)) (nI vv) (nI bb))), (mr 5, .inl (kI, 3002, .inl fk)), (mr 6, .inl (kI, 3002, .inl fa))]) [3, 0, 4] (by decide) rfl
          replace hKc := hK.sub (tys' := [(kI, .int)]) [0] rfl
          replace hFc := va_freeB (wc := [(m9, .inr (23, mA mr mv vf xl (nI zs) ff_16 xa_17 (nI T) (nI (pp + 1)) xi xt xn (nI (ns + 1)) (nI vv) (nI bb))), (mr 5, .inl (kI, 3002, .inl fk)), (mr 6, .inl (kI, 3002, .inl fa))]) hD hS hA [3, 0, 4] rfl
          refine W.grow (fun hgs0 hgs1 => ?_)
          refine va_callr (va_runV (As := []) (rest := [.ref q_1]) ⟨hx, hb, hml, hown, hts⟩ (c_xunB l dC dI m9 mr mv vf xl xa_17 xi xt xn zs T (pp + 1) (ns + 1) vv bb kI fk fa ff_16 L F (slN H) H.size hf18_0) (cwV 0 hts g_c_xuy_c_xunB_166 rfl rfl rfl (by decide +kernel) ⟨by show 2 + 1 ≤ 6 + 12 * k; omega, by show 8 + (3 + 11) + (32) ≤ 130 + 279 * k; omega⟩) ⟨fun a U g mk q => by obtain ⟨q0, q1, qP, qK, qD, qx0, qx1⟩ := q; exact ⟨q0, q1, qP, va_K.moved (u := U) (U := U.calling g mk a) (Vm.Alike.refl U.vm) qK, qD, nsM.same (u := U) (U := U.calling g mk a) rfl qx0, qx1⟩, va_recv hKc hPc (ci := 23) (q0 := 0) rfl rfl, fun U hU hW => ⟨rfl, by rw [hU], by rw [hU]; exact hPc, va_K.moved hW.alike hKc, hDc.weaken (fun _ _ _ _ => trivial), nsM.warm hW hns, by rw [hU]⟩⟩ rfl rfl hl.1 rfl (lv_room (Nat.le_of_ble_eq_true rfl)) dX23_unary_166 ⟨(show 1 + 1 ≤ (8 * (T - pp) + 7) by omega), (show 14 + 14 ≤ (120 * (T - pp) + 340) by omega)⟩) hS (fun q _ h => hFc q h) hFc (fun u r_23 tS H1 locs ht hvm hw hB hz1 hk1 hS => ?_)
          obtain ⟨L8, F8, hf23_0, hf23_1, hP1, hK1, hD1⟩ := hB
          rw [ht] at hP1
          replace hK1 := va_K.moved hvm.symm hK1
          rw [ht] at hf23_1
          have hgz : H1.size ≤ s.heap.size + ((1 + 1)) ∧ slN H1 ≤ slN s.heap + ((14 + 14)) := ⟨by have := hf23_1.1; omega, by have := hf23_1.2; omega⟩
          obtain ⟨hPj, hDj⟩ := va_joinB (wr := [(mr 8, .inl (kL, 3002, .inr (.inl fn))), (q_1, .inr (15, [.int 11, .int (nI pp), .int 0, .int 0, .int 0, .int 0, .long 0, .int 0, .null, .null, .null, .int 0, .null, .null]))]) (w1 := [(m9, .inr (23, mA mr mv vf xl (nI zs) ff_16 xa_17 (nI T) (nI (pp + 1)) xi xt xn (nI (ns + 1)) (nI vv) (nI bb))), (mr 5, .inl (kI, 3002, .inl fk)), (mr 6, .inl (kI, 3002, .inl fa))]) hP hD [3, 0, 4] [1, 2] rfl rfl (by decide) (by decide) hk1 hFc hP1 hD1
          replace hP := hPj
          replace hD := hDj
          clear hPj hDj
          replace hK := hK.app hK1
          generalize H1 = H at hP hS hgz ⊢
          replace hP : va_P (dC, dI) vwCl (([(mr 8, .inl (kL, 3002, .inr (.inl fn))), (q_1, .inr (15, [.int 11, .int (nI pp), .int 0, .int 0, .int 0, .int 0, .long 0, .int 0, .null, .null, .null, .int 0, .null, .null])), (m9, .inr (23, mA mr mv vf xl (nI zs) ff_16 xa_17 (nI T) (nI (pp + 1)) xi xt xn (nI (ns + 1)) (nI vv) (nI bb))), (mr 5, .inl (kI, 3002, .inl fk)), (mr 6, .inl (kI, 3002, .inl fa))] : va_W) ++ (sT L8 F8)) H := hP
          replace hD : va_D A (([(mr 8, .inl (kL, 3002, .inr (.inl fn))), (q_1, .inr (15, [.int 11, .int (nI pp), .int 0, .int 0, .int 0, .int 0, .long 0, .int 0, .null, .null, .null, .int 0, .null, .null])), (m9, .inr (23, mA mr mv vf xl (nI zs) ff_16 xa_17 (nI T) (nI (pp + 1)) xi xt xn (nI (ns + 1)) (nI vv) (nI bb))), (mr 5, .inl (kI, 3002, .inl fk)), (mr 6, .inl (kI, 3002, .inl fa))] : va_W) ++ (sT L8 F8)) := hD
          replace hK : va_K (dC, dI) vwCl [(kI, .int), (kL, .long), (kE, .object RX15), (kI, .int)] s := hK
          replace hK := hK.sub (tys' := [(kI, .int), (kL, .long), (kE, .object RX15)]) [0, 1, 2] rfl
          refine W.tight (k := (1 + 1)) (n := (14 + 14)) hgz.1 hgz.2 ?_
          clear hz1 hk1 hPc hDc hKc hFc hP1 hD1 hK1
          refine va_put (D := (dC, dI)) (ci := 15) (v := .ref r_23) (ty := (.object "OwnedPlacesModel$Exp")) (C := RX15) (T := TX15) (N := 14) hx hb hts in_c_xuy_X15 tyX15 tyX15_ok nmX15 hown hK hP hD hS 1 rfl rfl 8 (by decide) (hts (.fieldLink RX23 331 "OwnedPlacesModel$Exp" "of" "LOwnedPlacesModel$Exp;") (wm_c_xuy 33 rfl)) (fun _ h9 => h9) rfl (by decide +kernel) rfl rfl (Nat.le_of_ble_eq_true rfl) dX23_unary_169 (fun H locs hP hD hS => ?_)
          replace hP : va_P (dC, dI) vwCl (([(mr 8, .inl (kL, 3002, .inr (.inl fn))), (q_1, .inr (15, [.int 11, .int (nI pp), .int 0, .int 0, .int 0, .int 0, .long 0, .int 0, .ref r_23, .null, .null, .int 0, .null, .null])), (m9, .inr (23, mA mr mv vf xl (nI zs) ff_16 xa_17 (nI T) (nI (pp + 1)) xi xt xn (nI (ns + 1)) (nI vv) (nI bb))), (mr 5, .inl (kI, 3002, .inl fk)), (mr 6, .inl (kI, 3002, .inl fa))] : va_W) ++ (sT L8 F8)) H := hP
          replace hD : va_D A (([(mr 8, .inl (kL, 3002, .inr (.inl fn))), (q_1, .inr (15, [.int 11, .int (nI pp), .int 0, .int 0, .int 0, .int 0, .long 0, .int 0, .ref r_23, .null, .null, .int 0, .null, .null])), (m9, .inr (23, mA mr mv vf xl (nI zs) ff_16 xa_17 (nI T) (nI (pp + 1)) xi xt xn (nI (ns + 1)) (nI vv) (nI bb))), (mr 5, .inl (kI, 3002, .inl fk)), (mr 6, .inl (kI, 3002, .inl fa))] : va_W) ++ (sT L8 F8)) := hD
          refine lv_aload_n hx hb dX23_unary_172 rfl (lv_at hl 2 rfl) ?_
          refine lv_dup hx hb dX23_unary_173 rfl ?_
          refine va_get (D := (dC, dI)) (ci := 23) (v := .int (nI (ns + 1))) (C := RX23) (T := TX23) (N := 89) hx hb hts in_c_xuy_X23 hown hK hP 2 rfl rfl 15 (by decide) (hts (.fieldLink RX23 104 "OwnedPlacesModel" "nest" "I") (wm_c_xuy 20 rfl)) (fun _ h9 => h9) rfl dX23_unary_174 ?_
          refine lv_iconst (v := 1) hx hb dX23_unary_177 (by decide) ?_
          refine lv_isub hx hb dX23_unary_178 ?_
          refine lv_topi (fun f_24 ef_24 => ?_)
          obtain rfl : f_24 = nI ns := ef_24.trans (nI_pred _)
          refine va_put (D := (dC, dI)) (ci := 23) (v := .int (nI ns)) (ty := .int) (C := RX23) (T := TX23) (N := 89) hx hb hts in_c_xuy_X23 tyX23 tyX23_ok nmX23 hown hK hP hD hS 2 rfl rfl 15 (by decide) (hts (.fieldLink RX23 104 "OwnedPlacesModel" "nest" "I") (wm_c_xuy 20 rfl)) (fun _ h9 => h9) rfl (by decide +kernel) rfl rfl (Nat.le_of_ble_eq_true rfl) dX23_unary_179 (fun H locs hP hD hS => ?_)
          replace hP : va_P (dC, dI) vwCl (([(mr 8, .inl (kL, 3002, .inr (.inl fn))), (q_1, .inr (15, [.int 11, .int (nI pp), .int 0, .int 0, .int 0, .int 0, .long 0, .int 0, .ref r_23, .null, .null, .int 0, .null, .null])), (m9, .inr (23, mA mr mv vf xl (nI zs) ff_16 xa_17 (nI T) (nI (pp + 1)) xi xt xn (nI ns) (nI vv) (nI bb))), (mr 5, .inl (kI, 3002, .inl fk)), (mr 6, .inl (kI, 3002, .inl fa))] : va_W) ++ (sT L8 F8)) H := hP
          replace hD : va_D A (([(mr 8, .inl (kL, 3002, .inr (.inl fn))), (q_1, .inr (15, [.int 11, .int (nI pp), .int 0, .int 0, .int 0, .int 0, .long 0, .int 0, .ref r_23, .null, .null, .int 0, .null, .null])), (m9, .inr (23, mA mr mv vf xl (nI zs) ff_16 xa_17 (nI T) (nI (pp + 1)) xi xt xn (nI ns) (nI vv) (nI bb))), (mr 5, .inl (kI, 3002, .inl fk)), (mr 6, .inl (kI, 3002, .inl fa))] : va_W) ++ (sT L8 F8)) := hD
          refine lv_aload_n hx hb dX23_unary_182 rfl (lv_at hl 1 rfl) ?_
          replace hP : va_P (dC, dI) vwCl ((([(mr 8, .inl (kL, 3002, .inr (.inl fn))), (m9, .inr (23, mA mr mv vf xl (nI zs) ff_16 xa_17 (nI T) (nI (pp + 1)) xi xt xn (nI ns) (nI vv) (nI bb))), (mr 5, .inl (kI, 3002, .inl fk)), (mr 6, .inl (kI, 3002, .inl fa))] : va_W) ++ ([(q_1, .inr (15, [.int 11, .int (nI pp), .int 0, .int 0, .int 0, .int 0, .long 0, .int 0, .ref r_23, .null, .null, .int 0, .null, .null]))] : va_W)) ++ sT L8 F8) H := hP.subT (f' := [(mr 8, .inl (kL, 3002, .inr (.inl fn))), (m9, .inr (23, mA mr mv vf xl (nI zs) ff_16 xa_17 (nI T) (nI (pp + 1)) xi xt xn (nI ns) (nI vv) (nI bb))), (mr 5, .inl (kI, 3002, .inl fk)), (mr 6, .inl (kI, 3002, .inl fa)), (q_1, .inr (15, [.int 11, .int (nI pp), .int 0, .int 0, .int 0, .int 0, .long 0, .int 0, .ref r_23, .null, .null, .int 0, .null, .null]))]) [0, 2, 3, 4, 1] rfl
          replace hD : va_D A ((([(mr 8, .inl (kL, 3002, .inr (.inl fn))), (m9, .inr (23, mA mr mv vf xl (nI zs) ff_16 xa_17 (nI T) (nI (pp + 1)) xi xt xn (nI ns) (nI vv) (nI bb))), (mr 5, .inl (kI, 3002, .inl fk)), (mr 6, .inl (kI, 3002, .inl fa))] : va_W) ++ ([(q_1, .inr (15, [.int 11, .int (nI pp), .int 0, .int 0, .int 0, .int 0, .long 0, .int 0, .ref r_23, .null, .null, .int 0, .null, .null]))] : va_W)) ++ sT L8 F8) := hD.subT (f' := [(mr 8, .inl (kL, 3002, .inr (.inl fn))), (m9, .inr (23, mA mr mv vf xl (nI zs) ff_16 xa_17 (nI T) (nI (pp + 1)) xi xt xn (nI ns) (nI vv) (nI bb))), (mr 5, .inl (kI, 3002, .inl fk)), (mr 6, .inl (kI, 3002, .inl fa)), (q_1, .inr (15, [.int 11, .int (nI pp), .int 0, .int 0, .int 0, .int 0, .long 0, .int 0, .ref r_23, .null, .null, .int 0, .null, .null]))]) [0, 2, 3, 4, 1] (by decide) rfl
          obtain ⟨L9, F9, hx9, hm9, hP, hD⟩ := st_fileL [(q_1, .inr (15, [.int 11, .int (nI pp), .int 0, .int 0, .int 0, .int 0, .long 0, .int 0, .ref r_23, .null, .null, .int 0, .null, .null]))] hP hD
          have hm9_0 := hm9 _ (List.mem_of_getElem? (i := 0) rfl)
          refine W.grow (fun hgs0 hgs1 => ?_)
          have hP9 := hP.subT (f' := [(m9, .inr (23, mA mr mv vf xl (nI zs) ff_16 xa_17 (nI T) (nI (pp + 1)) xi xt xn (nI ns) (nI vv) (nI bb))), (mr 5, .inl (kI, 3002, .inl fk)), (mr 6, .inl (kI, 3002, .inl fa)), (mr 8, .inl (kL, 3002, .inr (.inl fn)))]) [1, 2, 3, 0] rfl
          have hD9 := hD.subT (f' := [(m9, .inr (23, mA mr mv vf xl (nI zs) ff_16 xa_17 (nI T) (nI (pp + 1)) xi xt xn (nI ns) (nI vv) (nI bb))), (mr 5, .inl (kI, 3002, .inl fk)), (mr 6, .inl (kI, 3002, .inl fa)), (mr 8, .inl (kL, 3002, .inr (.inl fn)))]) [1, 2, 3, 0] (by decide) rfl
          have hK9 := hK.sub (tys' := [(kI, .int), (kL, .long), (kE, .object RX15)]) [0, 1, 2] rfl
          refine W.widen (k := (8 * (T - pp) + 7)) (n := (120 * (T - pp) + 340)) (by omega) (by omega) ?_
          exact W.aret hx hb hr (Or.inl ⟨_, rfl⟩) (Or.inr ⟨q_1, rfl⟩) (fun tS ht hW => ⟨⟨(), q_1, rfl, trivial, L9, F9, ff_16, xa_17, pp + 1, bb, ⟨(hf23_0.1).tr hx9, hm9_0.1, _, hm9_0.2⟩, ⟨by omega, by omega, by omega, by omega⟩, (fun q9 => absurd q9 hf18_0), by rw [ht]; exact ⟨by omega, by omega⟩, by rw [ht]; exact hP9, va_K.moved hW.alike hK9, hD9⟩, hS.F ht⟩) hS.2.2 dX23_unary_183
        · replace hPc := hP.subF (f' := [(m9, .inr (23, mA mr mv vf xl (nI zs) 0 xa (nI T) (nI pp) xi xt xn (nI ns) (nI vv) (nI bb))), (mr 6, .inl (kI, 3002, .inl fa))]) [4, 1] rfl
          replace hDc := hD.subF (f' := [(m9, .inr (23, mA mr mv vf xl (nI zs) 0 xa (nI T) (nI pp) xi xt xn (nI ns) (nI vv) (nI bb))), (mr 6, .inl (kI, 3002, .inl fa))]) [4, 1] (by decide) rfl
          replace hKc := hK.sub (tys' := [(kI, .int)]) [0] rfl
          replace hFc := va_freeT (wc := [(m9, .inr (23, mA mr mv vf xl (nI zs) 0 xa (nI T) (nI pp) xi xt xn (nI ns) (nI vv) (nI bb))), (mr 6, .inl (kI, 3002, .inl fa))]) hD hS hA [4, 1] rfl
          refine va_callv (va_runV (As := [.int (nI pp)]) (rest := []) ⟨hx, hb, hml, hown, hts⟩ (c_renY l dC dI m9 mr mv vf xl xa xi xt xn zs T pp ns vv bb kI fk fa pp H.size (by omega) (⟨hn_15, by omega⟩)) (cwV 1 hts g_c_xuy_c_renY_125 rfl rfl rfl (by decide +kernel) ⟨by show 1 + 1 ≤ 6 + 12 * k; omega, by show 8 + (2 + 11) + (20) ≤ 130 + 279 * k; omega⟩) ⟨fun a U g mk q => by obtain ⟨q0, q1, qP, qK, qD⟩ := q; exact ⟨q0, q1, qP, va_K.moved (u := U) (U := U.calling g mk a) (Vm.Alike.refl U.vm) qK, qD⟩, va_recv hKc hPc (ci := 23) (q0 := 0) rfl rfl, fun U hU hW => ⟨rfl, by rw [hU], by rw [hU]; exact hPc, va_K.moved hW.alike hKc, hDc.weaken (fun _ _ _ _ => trivial)⟩⟩ rfl rfl hl.1 rfl (lv_room (Nat.le_of_ble_eq_true rfl)) dX23_unary_125 ⟨(show 1 + 0 ≤ (8 * (T - pp) + 7) by omega), (show 14 + 0 ≤ (120 * (T - pp) + 340) by omega)⟩) hS (fun q _ h => hFc q h) hFc (fun u tS H1 locs ht hvm hw hB hz1 hk1 hS => ?_)
          obtain ⟨hP1, hK1, hD1⟩ := hB
          rw [ht] at hP1
          replace hK1 := va_K.moved hvm.symm hK1
          obtain ⟨hPj, hDj⟩ := va_joinT (wr := [(mr 5, .inl (kI, 3002, .inl fk)), (mr 8, .inl (kL, 3002, .inr (.inl fn))), (q_1, .inr (15, [.int 11, .int (nI pp), .int 0, .int 0, .int 0, .int 0, .long 0, .int 0, .null, .null, .null, .int 0, .null, .null]))]) (w1 := [(m9, .inr (23, mA mr mv vf xl (nI zs) 0 xa (nI T) (nI pp) xi xt xn (nI (ns + 1)) (nI vv) (nI bb))), (mr 6, .inl (kI, 3002, .inl fa))]) hP hD [4, 1] [0, 2, 3] rfl rfl (by decide) (by decide) hk1 hFc hP1 hD1
          replace hP := hPj
          replace hD := hDj
          clear hPj hDj
          replace hK := hK.app hK1
          generalize H1 = H at hP hS ⊢
          replace hP : va_P (dC, dI) vwCl (([(mr 5, .inl (kI, 3002, .inl fk)), (mr 8, .inl (kL, 3002, .inr (.inl fn))), (q_1, .inr (15, [.int 11, .int (nI pp), .int 0, .int 0, .int 0, .int 0, .long 0, .int 0, .null, .null, .null, .int 0, .null, .null])), (m9, .inr (23, mA mr mv vf xl (nI zs) 0 xa (nI T) (nI pp) xi xt xn (nI (ns + 1)) (nI vv) (nI bb))), (mr 6, .inl (kI, 3002, .inl fa))] : va_W) ++ (sT L F)) H := hP
          replace hD : va_D A (([(mr 5, .inl (kI, 3002, .inl fk)), (mr 8, .inl (kL, 3002, .inr (.inl fn))), (q_1, .inr (15, [.int 11, .int (nI pp), .int 0, .int 0, .int 0, .int 0, .long 0, .int 0, .null, .null, .null, .int 0, .null, .null])), (m9, .inr (23, mA mr mv vf xl (nI zs) 0 xa (nI T) (nI pp) xi xt xn (nI (ns + 1)) (nI vv) (nI bb))), (mr 6, .inl (kI, 3002, .inl fa))] : va_W) ++ (sT L F)) := hD
          replace hK : va_K (dC, dI) vwCl [(kI, .int), (kL, .long), (kE, .object RX15), (kI, .int)] s := hK
          replace hK := hK.sub (tys' := [(kI, .int), (kL, .long), (kE, .object RX15)]) [0, 1, 2] rfl
          clear hz1 hk1 hPc hDc hKc hFc hP1 hD1 hK1
          refine lv_iload_n hx hb dX23_unary_128 rfl (lv_at hl 0 rfl) ?_
          refine lv_bipush (v := 55) hx hb dX23_unary_129 (by decide) ?_
          refine lv_icmp_ne (tgt := 138) hx hb dX23_unary_131 (by decide) (fun _ => ?_) (fun c_17 => absurd c_17 (fun q9 => absurd (hk_10.symm.trans q9) (by decide)))
          refine lv_aload_n hx hb dX23_unary_138 rfl (lv_at hl 2 rfl) ?_
          refine lv_dup hx hb dX23_unary_139 rfl ?_
          refine va_get (D := (dC, dI)) (ci := 23) (v := .int (nI pp)) (C := RX23) (T := TX23) (N := 89) hx hb hts in_c_xuy_X23 hown hK hP 3 rfl rfl 10 (by decide) (hts (.fieldLink RX23 86 "OwnedPlacesModel" "p" "I") (wm_c_xuy 16 rfl)) (fun _ h9 => h9) rfl dX23_unary_140 ?_
          refine lv_iconst (v := 1) hx hb dX23_unary_143 (by decide) ?_
          refine lv_iadd hx hb dX23_unary_144 ?_
          refine lv_topi (fun f_18 ef_18 => ?_)
          obtain rfl : f_18 = nI (pp + 1) := ef_18.trans (nI_1 _)
          refine va_put (D := (dC, dI)) (ci := 23) (v := .int (nI (pp + 1))) (ty := .int) (C := RX23) (T := TX23) (N := 89) hx hb hts in_c_xuy_X23 tyX23 tyX23_ok nmX23 hown hK hP hD hS 3 rfl rfl 10 (by decide) (hts (.fieldLink RX23 86 "OwnedPlacesModel" "p" "I") (wm_c_xuy 16 rfl)) (fun _ h9 => h9) rfl (by decide +kernel) rfl rfl (Nat.le_of_ble_eq_true rfl) dX23_unary_145 (fun H locs hP hD hS => ?_)
          replace hP : va_P (dC, dI) vwCl (([(mr 5, .inl (kI, 3002, .inl fk)), (mr 8, .inl (kL, 3002, .inr (.inl fn))), (q_1, .inr (15, [.int 11, .int (nI pp), .int 0, .int 0, .int 0, .int 0, .long 0, .int 0, .null, .null, .null, .int 0, .null, .null])), (m9, .inr (23, mA mr mv vf xl (nI zs) 0 xa (nI T) (nI (pp + 1)) xi xt xn (nI (ns + 1)) (nI vv) (nI bb))), (mr 6, .inl (kI, 3002, .inl fa))] : va_W) ++ (sT L F)) H := hP
          replace hD : va_D A (([(mr 5, .inl (kI, 3002, .inl fk)), (mr 8, .inl (kL, 3002, .inr (.inl fn))), (q_1, .inr (15, [.int 11, .int (nI pp), .int 0, .int 0, .int 0, .int 0, .long 0, .int 0, .null, .null, .null, .int 0, .null, .null])), (m9, .inr (23, mA mr mv vf xl (nI zs) 0 xa (nI T) (nI (pp + 1)) xi xt xn (nI (ns + 1)) (nI vv) (nI bb))), (mr 6, .inl (kI, 3002, .inl fa))] : va_W) ++ (sT L F)) := hD
          have hp_19 : pp + 1 < T := kne3 hk0 hp hk_10 (by decide)
          refine lv_iload_n hx hb dX23_unary_148 rfl (lv_at hl 0 rfl) ?_
          refine lv_bipush (v := 55) hx hb dX23_unary_149 (by decide) ?_
          refine lv_icmp_ne (tgt := 164) hx hb dX23_unary_151 (by decide) (fun _ => ?_) (fun c_20 => absurd c_20 (fun q9 => absurd (hk_10.symm.trans q9) (by decide)))
          refine lv_aload_n hx hb dX23_unary_164 rfl (lv_at hl 1 rfl) ?_
          refine lv_aload_n hx hb dX23_unary_165 rfl (lv_at hl 2 rfl) ?_
          obtain ⟨k1, hkL⟩ : ∃ k1 : Nat, k = k1 + 1 := ⟨k - 1, by omega⟩
          replace hPc := hP.subT (f' := [(m9, .inr (23, mA mr mv vf xl (nI zs) 0 xa (nI T) (nI (pp + 1)) xi xt xn (nI (ns + 1)) (nI vv) (nI bb))), (mr 5, .inl (kI, 3002, .inl fk)), (mr 6, .inl (kI, 3002, .inl fa)), (mr 8, .inl (kL, 3002, .inr (.inl fn)))]) [3, 0, 4, 1] rfl
          replace hDc := hD.subT (f' := [(m9, .inr (23, mA mr mv vf xl (nI zs) 0 xa (nI T) (nI (pp + 1)) xi xt xn (nI (ns + 1)) (nI vv) (nI bb))), (mr 5, .inl (kI, 3002, .inl fk)), (mr 6, .inl (kI, 3002, .inl fa)), (mr 8, .inl (kL, 3002, .inr (.inl fn)))]) [3, 0, 4, 1] (by decide) rfl
          replace hKc := hK.sub (tys' := [(kI, .int), (kL, .long), (kE, .object RX15)]) [0, 1, 2] rfl
          replace hFc := va_freeB (wc := [(m9, .inr (23, mA mr mv vf xl (nI zs) 0 xa (nI T) (nI (pp + 1)) xi xt xn (nI (ns + 1)) (nI vv) (nI bb))), (mr 5, .inl (kI, 3002, .inl fk)), (mr 6, .inl (kI, 3002, .inl fa)), (mr 8, .inl (kL, 3002, .inr (.inl fn)))]) hD hS hA [3, 0, 4, 1] rfl
          refine W.grow (fun hgs0 hgs1 => ?_)
          refine va_callr (va_runV (As := []) (rest := [.ref q_1]) ⟨hx, hb, hml, hown, hts⟩ ((ih k1 hkL).2.2.2.2.2.1 m9 mr mv vf xl xa xi xt xn zs T (pp + 1) (ns + 1) vv bb kI fk fa kL kE fn L F (slN H) H.size hT hp_19 hk0 hbb (by omega)) (cwV 0 hts g_c_xuy_c_xuy_166 rfl rfl rfl (by decide +kernel) ⟨by show 6 + 12 * k1 + 1 ≤ 6 + 12 * k; omega, by show 8 + (3 + 11) + (130 + 279 * k1) ≤ 130 + 279 * k; omega⟩) ⟨fun a U g mk q => by obtain ⟨q0, q1, qP, qK, qD, qx0, qx1⟩ := q; exact ⟨q0, q1, qP, va_K.moved (u := U) (U := U.calling g mk a) (Vm.Alike.refl U.vm) qK, qD, nsM.same (u := U) (U := U.calling g mk a) rfl qx0, qx1⟩, va_recv hKc hPc (ci := 23) (q0 := 0) rfl rfl, fun U hU hW => ⟨rfl, by rw [hU], by rw [hU]; exact hPc, va_K.moved hW.alike hKc, hDc.weaken (fun _ _ _ _ => trivial), nsM.warm hW hns, by rw [hU]⟩⟩ rfl rfl hl.1 rfl (lv_room (Nat.le_of_ble_eq_true rfl)) dX23_unary_166 ⟨(show 1 + (8 * (T - (pp + 1)) + 7) ≤ (8 * (T - pp) + 7) by omega), (show 14 + (120 * (T - (pp + 1)) + 340) ≤ (120 * (T - pp) + 340) by omega)⟩) hS (fun q _ h => hFc q h) hFc (fun u r_21 tS H1 locs ht hvm hw hB hz1 hk1 hS => ?_)
          obtain ⟨L20, F20, ff20, xa20, pp20, bb20, hf21_0, hf21_1, hf21_2, hf21_3, hP1, hK1, hD1⟩ := hB
          rw [ht] at hP1
          replace hK1 := va_K.moved hvm.symm hK1
          rw [ht] at hf21_3
          have hgz : H1.size ≤ s.heap.size + ((1 + 8 * (pp20 - (pp + 1)) + 3)) ∧ slN H1 ≤ slN s.heap + ((14 + 120 * (pp20 - (pp + 1)) + 48)) := ⟨by have := hf21_3.1; omega, by have := hf21_3.2; omega⟩
          obtain ⟨hPj, hDj⟩ := va_joinB (wr := [(q_1, .inr (15, [.int 11, .int (nI pp), .int 0, .int 0, .int 0, .int 0, .long 0, .int 0, .null, .null, .null, .int 0, .null, .null]))]) (w1 := [(m9, .inr (23, mA mr mv vf xl (nI zs) ff20 xa20 (nI T) (nI pp20) xi xt xn (nI (ns + 1)) (nI vv) (nI bb20))), (mr 5, .inl (kI, 3002, .inl fk)), (mr 6, .inl (kI, 3002, .inl fa)), (mr 8, .inl (kL, 3002, .inr (.inl fn)))]) hP hD [3, 0, 4, 1] [2] rfl rfl (by decide) (by decide) hk1 hFc hP1 hD1
          replace hP := hPj
          replace hD := hDj
          clear hPj hDj
          replace hK := hK.app hK1
          generalize H1 = H at hP hS hgz ⊢
          replace hP : va_P (dC, dI) vwCl (([(q_1, .inr (15, [.int 11, .int (nI pp), .int 0, .int 0, .int 0, .int 0, .long 0, .int 0, .null, .null, .null, .int 0, .null, .null])), (m9, .inr (23, mA mr mv vf xl (nI zs) ff20 xa20 (nI T) (nI pp20) xi xt xn (nI (ns + 1)) (nI vv) (nI bb20))), (mr 5, .inl (kI, 3002, .inl fk)), (mr 6, .inl (kI, 3002, .inl fa)), (mr 8, .inl (kL, 3002, .inr (.inl fn)))] : va_W) ++ (sT L20 F20)) H := hP
          replace hD : va_D A (([(q_1, .inr (15, [.int 11, .int (nI pp), .int 0, .int 0, .int 0, .int 0, .long 0, .int 0, .null, .null, .null, .int 0, .null, .null])), (m9, .inr (23, mA mr mv vf xl (nI zs) ff20 xa20 (nI T) (nI pp20) xi xt xn (nI (ns + 1)) (nI vv) (nI bb20))), (mr 5, .inl (kI, 3002, .inl fk)), (mr 6, .inl (kI, 3002, .inl fa)), (mr 8, .inl (kL, 3002, .inr (.inl fn)))] : va_W) ++ (sT L20 F20)) := hD
          replace hK : va_K (dC, dI) vwCl [(kI, .int), (kL, .long), (kE, .object RX15), (kI, .int), (kL, .long), (kE, .object RX15)] s := hK
          replace hK := hK.sub (tys' := [(kI, .int), (kL, .long), (kE, .object RX15)]) [0, 1, 2] rfl
          refine W.tight (k := (1 + 8 * (pp20 - (pp + 1)) + 3)) (n := (14 + 120 * (pp20 - (pp + 1)) + 48)) hgz.1 hgz.2 ?_
          clear hz1 hk1 hPc hDc hKc hFc hP1 hD1 hK1
          refine va_put (D := (dC, dI)) (ci := 15) (v := .ref r_21) (ty := (.object "OwnedPlacesModel$Exp")) (C := RX15) (T := TX15) (N := 14) hx hb hts in_c_xuy_X15 tyX15 tyX15_ok nmX15 hown hK hP hD hS 0 rfl rfl 8 (by decide) (hts (.fieldLink RX23 331 "OwnedPlacesModel$Exp" "of" "LOwnedPlacesModel$Exp;") (wm_c_xuy 33 rfl)) (fun _ h9 => h9) rfl (by decide +kernel) rfl rfl (Nat.le_of_ble_eq_true rfl) dX23_unary_169 (fun H locs hP hD hS => ?_)
          replace hP : va_P (dC, dI) vwCl (([(q_1, .inr (15, [.int 11, .int (nI pp), .int 0, .int 0, .int 0, .int 0, .long 0, .int 0, .ref r_21, .null, .null, .int 0, .null, .null])), (m9, .inr (23, mA mr mv vf xl (nI zs) ff20 xa20 (nI T) (nI pp20) xi xt xn (nI (ns + 1)) (nI vv) (nI bb20))), (mr 5, .inl (kI, 3002, .inl fk)), (mr 6, .inl (kI, 3002, .inl fa)), (mr 8, .inl (kL, 3002, .inr (.inl fn)))] : va_W) ++ (sT L20 F20)) H := hP
          replace hD : va_D A (([(q_1, .inr (15, [.int 11, .int (nI pp), .int 0, .int 0, .int 0, .int 0, .long 0, .int 0, .ref r_21, .null, .null, .int 0, .null, .null])), (m9, .inr (23, mA mr mv vf xl (nI zs) ff20 xa20 (nI T) (nI pp20) xi xt xn (nI (ns + 1)) (nI vv) (nI bb20))), (mr 5, .inl (kI, 3002, .inl fk)), (mr 6, .inl (kI, 3002, .inl fa)), (mr 8, .inl (kL, 3002, .inr (.inl fn)))] : va_W) ++ (sT L20 F20)) := hD
          refine lv_aload_n hx hb dX23_unary_172 rfl (lv_at hl 2 rfl) ?_
          refine lv_dup hx hb dX23_unary_173 rfl ?_
          refine va_get (D := (dC, dI)) (ci := 23) (v := .int (nI (ns + 1))) (C := RX23) (T := TX23) (N := 89) hx hb hts in_c_xuy_X23 hown hK hP 1 rfl rfl 15 (by decide) (hts (.fieldLink RX23 104 "OwnedPlacesModel" "nest" "I") (wm_c_xuy 20 rfl)) (fun _ h9 => h9) rfl dX23_unary_174 ?_
          refine lv_iconst (v := 1) hx hb dX23_unary_177 (by decide) ?_
          refine lv_isub hx hb dX23_unary_178 ?_
          refine lv_topi (fun f_22 ef_22 => ?_)
          obtain rfl : f_22 = nI ns := ef_22.trans (nI_pred _)
          refine va_put (D := (dC, dI)) (ci := 23) (v := .int (nI ns)) (ty := .int) (C := RX23) (T := TX23) (N := 89) hx hb hts in_c_xuy_X23 tyX23 tyX23_ok nmX23 hown hK hP hD hS 1 rfl rfl 15 (by decide) (hts (.fieldLink RX23 104 "OwnedPlacesModel" "nest" "I") (wm_c_xuy 20 rfl)) (fun _ h9 => h9) rfl (by decide +kernel) rfl rfl (Nat.le_of_ble_eq_true rfl) dX23_unary_179 (fun H locs hP hD hS => ?_)
          replace hP : va_P (dC, dI) vwCl (([(q_1, .inr (15, [.int 11, .int (nI pp), .int 0, .int 0, .int 0, .int 0, .long 0, .int 0, .ref r_21, .null, .null, .int 0, .null, .null])), (m9, .inr (23, mA mr mv vf xl (nI zs) ff20 xa20 (nI T) (nI pp20) xi xt xn (nI ns) (nI vv) (nI bb20))), (mr 5, .inl (kI, 3002, .inl fk)), (mr 6, .inl (kI, 3002, .inl fa)), (mr 8, .inl (kL, 3002, .inr (.inl fn)))] : va_W) ++ (sT L20 F20)) H := hP
          replace hD : va_D A (([(q_1, .inr (15, [.int 11, .int (nI pp), .int 0, .int 0, .int 0, .int 0, .long 0, .int 0, .ref r_21, .null, .null, .int 0, .null, .null])), (m9, .inr (23, mA mr mv vf xl (nI zs) ff20 xa20 (nI T) (nI pp20) xi xt xn (nI ns) (nI vv) (nI bb20))), (mr 5, .inl (kI, 3002, .inl fk)), (mr 6, .inl (kI, 3002, .inl fa)), (mr 8, .inl (kL, 3002, .inr (.inl fn)))] : va_W) ++ (sT L20 F20)) := hD
          refine lv_aload_n hx hb dX23_unary_182 rfl (lv_at hl 1 rfl) ?_
          by_cases hz_23 : ff20 = 0
          · subst hz_23
            have hg20 := hf21_2 rfl
            have hlthg20 := (isE_mem hg20.2).2
            replace hP : va_P (dC, dI) vwCl ((([(m9, .inr (23, mA mr mv vf xl (nI zs) 0 xa20 (nI T) (nI pp20) xi xt xn (nI ns) (nI vv) (nI bb20))), (mr 5, .inl (kI, 3002, .inl fk)), (mr 6, .inl (kI, 3002, .inl fa)), (mr 8, .inl (kL, 3002, .inr (.inl fn)))] : va_W) ++ ([(q_1, .inr (15, [.int 11, .int (nI pp), .int 0, .int 0, .int 0, .int 0, .long 0, .int 0, .ref r_21, .null, .null, .int 0, .null, .null]))] : va_W)) ++ sT L20 F20) H := hP.subT (f' := [(m9, .inr (23, mA mr mv vf xl (nI zs) 0 xa20 (nI T) (nI pp20) xi xt xn (nI ns) (nI vv) (nI bb20))), (mr 5, .inl (kI, 3002, .inl fk)), (mr 6, .inl (kI, 3002, .inl fa)), (mr 8, .inl (kL, 3002, .inr (.inl fn))), (q_1, .inr (15, [.int 11, .int (nI pp), .int 0, .int 0, .int 0, .int 0, .long 0, .int 0, .ref r_21, .null, .null, .int 0, .null, .null]))]) [1, 2, 3, 4, 0] rfl
            replace hD : va_D A ((([(m9, .inr (23, mA mr mv vf xl (nI zs) 0 xa20 (nI T) (nI pp20) xi xt xn (nI ns) (nI vv) (nI bb20))), (mr 5, .inl (kI, 3002, .inl fk)), (mr 6, .inl (kI, 3002, .inl fa)), (mr 8, .inl (kL, 3002, .inr (.inl fn)))] : va_W) ++ ([(q_1, .inr (15, [.int 11, .int (nI pp), .int 0, .int 0, .int 0, .int 0, .long 0, .int 0, .ref r_21, .null, .null, .int 0, .null, .null]))] : va_W)) ++ sT L20 F20) := hD.subT (f' := [(m9, .inr (23, mA mr mv vf xl (nI zs) 0 xa20 (nI T) (nI pp20) xi xt xn (nI ns) (nI vv) (nI bb20))), (mr 5, .inl (kI, 3002, .inl fk)), (mr 6, .inl (kI, 3002, .inl fa)), (mr 8, .inl (kL, 3002, .inr (.inl fn))), (q_1, .inr (15, [.int 11, .int (nI pp), .int 0, .int 0, .int 0, .int 0, .long 0, .int 0, .ref r_21, .null, .null, .int 0, .null, .null]))]) [1, 2, 3, 4, 0] (by decide) rfl
            obtain ⟨L9, F9, hx9, hm9, hP, hD⟩ := st_fileL [(q_1, .inr (15, [.int 11, .int (nI pp), .int 0, .int 0, .int 0, .int 0, .long 0, .int 0, .ref r_21, .null, .null, .int 0, .null, .null]))] hP hD
            have hm9_0 := hm9 _ (List.mem_of_getElem? (i := 0) rfl)
            refine W.grow (fun hgs0 hgs1 => ?_)
            have hP9 := hP.subT (f' := [(m9, .inr (23, mA mr mv vf xl (nI zs) 0 xa20 (nI T) (nI pp20) xi xt xn (nI ns) (nI vv) (nI bb20))), (mr 5, .inl (kI, 3002, .inl fk)), (mr 6, .inl (kI, 3002, .inl fa)), (mr 8, .inl (kL, 3002, .inr (.inl fn)))]) [0, 1, 2, 3] rfl
            have hD9 := hD.subT (f' := [(m9, .inr (23, mA mr mv vf xl (nI zs) 0 xa20 (nI T) (nI pp20) xi xt xn (nI ns) (nI vv) (nI bb20))), (mr 5, .inl (kI, 3002, .inl fk)), (mr 6, .inl (kI, 3002, .inl fa)), (mr 8, .inl (kL, 3002, .inr (.inl fn)))]) [0, 1, 2, 3] (by decide) rfl
            have hK9 := hK.sub (tys' := [(kI, .int), (kL, .long), (kE, .object RX15)]) [0, 1, 2] rfl
            refine W.widen (k := (8 * (T - pp) + 7)) (n := (120 * (T - pp) + 340)) (by omega) (by omega) ?_
            exact W.aret hx hb hr (Or.inl ⟨_, rfl⟩) (Or.inr ⟨q_1, rfl⟩) (fun tS ht hW => ⟨⟨(), q_1, rfl, trivial, L9, F9, 0, xa20, pp20, bb20, ⟨(hf21_0.1).tr hx9, hm9_0.1, _, hm9_0.2⟩, ⟨by omega, by omega, by omega, by omega⟩, (fun _ => ⟨hg20.1, isE_3 hm9_0.1 (by omega) (Or.inr (Or.inr (Or.inr (Or.inr (Or.inl rfl))))) hm9_0.2 (by omega) (Nat.le_refl _) (isE_im hx9 _ (by omega) hg20.2)⟩), by rw [ht]; exact ⟨by omega, by omega⟩, by rw [ht]; exact hP9, va_K.moved hW.alike hK9, hD9⟩, hS.F ht⟩) hS.2.2 dX23_unary_183
          · replace hP : va_P (dC, dI) vwCl ((([(m9, .inr (23, mA mr mv vf xl (nI zs) ff20 xa20 (nI T) (nI pp20) xi xt xn (nI ns) (nI vv) (nI bb20))), (mr 5, .inl (kI, 3002, .inl fk)), (mr 6, .inl (kI, 3002, .inl fa)), (mr 8, .inl (kL, 3002, .inr (.inl fn)))] : va_W) ++ ([(q_1, .inr (15, [.int 11, .int (nI pp), .int 0, .int 0, .int 0, .int 0, .long 0, .int 0, .ref r_21, .null, .null, .int 0, .null, .null]))] : va_W)) ++ sT L20 F20) H := hP.subT (f' := [(m9, .inr (23, mA mr mv vf xl (nI zs) ff20 xa20 (nI T) (nI pp20) xi xt xn (nI ns) (nI vv) (nI bb20))), (mr 5, .inl (kI, 3002, .inl fk)), (mr 6, .inl (kI, 3002, .inl fa)), (mr 8, .inl (kL, 3002, .inr (.inl fn))), (q_1, .inr (15, [.int 11, .int (nI pp), .int 0, .int 0, .int 0, .int 0, .long 0, .int 0, .ref r_21, .null, .null, .int 0, .null, .null]))]) [1, 2, 3, 4, 0] rfl
            replace hD : va_D A ((([(m9, .inr (23, mA mr mv vf xl (nI zs) ff20 xa20 (nI T) (nI pp20) xi xt xn (nI ns) (nI vv) (nI bb20))), (mr 5, .inl (kI, 3002, .inl fk)), (mr 6, .inl (kI, 3002, .inl fa)), (mr 8, .inl (kL, 3002, .inr (.inl fn)))] : va_W) ++ ([(q_1, .inr (15, [.int 11, .int (nI pp), .int 0, .int 0, .int 0, .int 0, .long 0, .int 0, .ref r_21, .null, .null, .int 0, .null, .null]))] : va_W)) ++ sT L20 F20) := hD.subT (f' := [(m9, .inr (23, mA mr mv vf xl (nI zs) ff20 xa20 (nI T) (nI pp20) xi xt xn (nI ns) (nI vv) (nI bb20))), (mr 5, .inl (kI, 3002, .inl fk)), (mr 6, .inl (kI, 3002, .inl fa)), (mr 8, .inl (kL, 3002, .inr (.inl fn))), (q_1, .inr (15, [.int 11, .int (nI pp), .int 0, .int 0, .int 0, .int 0, .long 0, .int 0, .ref r_21, .null, .null, .int 0, .null, .null]))]) [1, 2, 3, 4, 0] (by decide) rfl
            obtain ⟨L9, F9, hx9, hm9, hP, hD⟩ := st_fileL [(q_1, .inr (15, [.int 11, .int (nI pp), .int 0, .int 0, .int 0, .int 0, .long 0, .int 0, .ref r_21, .null, .null, .int 0, .null, .null]))] hP hD
            have hm9_0 := hm9 _ (List.mem_of_getElem? (i := 0) rfl)
            refine W.grow (fun hgs0 hgs1 => ?_)
            have hP9 := hP.subT (f' := [(m9, .inr (23, mA mr mv vf xl (nI zs) ff20 xa20 (nI T) (nI pp20) xi xt xn (nI ns) (nI vv) (nI bb20))), (mr 5, .inl (kI, 3002, .inl fk)), (mr 6, .inl (kI, 3002, .inl fa)), (mr 8, .inl (kL, 3002, .inr (.inl fn)))]) [0, 1, 2, 3] rfl
            have hD9 := hD.subT (f' := [(m9, .inr (23, mA mr mv vf xl (nI zs) ff20 xa20 (nI T) (nI pp20) xi xt xn (nI ns) (nI vv) (nI bb20))), (mr 5, .inl (kI, 3002, .inl fk)), (mr 6, .inl (kI, 3002, .inl fa)), (mr 8, .inl (kL, 3002, .inr (.inl fn)))]) [0, 1, 2, 3] (by decide) rfl
            have hK9 := hK.sub (tys' := [(kI, .int), (kL, .long), (kE, .object RX15)]) [0, 1, 2] rfl
            refine W.widen (k := (8 * (T - pp) + 7)) (n := (120 * (T - pp) + 340)) (by omega) (by omega) ?_
            exact W.aret hx hb hr (Or.inl ⟨_, rfl⟩) (Or.inr ⟨q_1, rfl⟩) (fun tS ht hW => ⟨⟨(), q_1, rfl, trivial, L9, F9, ff20, xa20, pp20, bb20, ⟨(hf21_0.1).tr hx9, hm9_0.1, _, hm9_0.2⟩, ⟨by omega, by omega, by omega, by omega⟩, (fun q9 => absurd q9 hz_23), by rw [ht]; exact ⟨by omega, by omega⟩, by rw [ht]; exact hP9, va_K.moved hW.alike hK9, hD9⟩, hS.F ht⟩) hS.2.2 dX23_unary_183
      · refine lv_icmp_eq (tgt := 62) hx hb dX23_unary_42 (by decide) (fun c_11 => absurd c_11 hk_10) (fun _ => ?_)
        refine lv_iload_n hx hb dX23_unary_45 rfl (lv_at hl 0 rfl) ?_
        refine lv_bipush (v := 55) hx hb dX23_unary_46 (by decide) ?_
        by_cases hk_12 : fk pp = 55
        · refine lv_icmp_eq (tgt := 62) hx hb dX23_unary_48 (by decide) (fun _ => ?_) (fun c_13 => absurd hk_12 c_13)
          refine lv_aload_n hx hb dX23_unary_62 rfl (lv_at hl 1 rfl) ?_
          refine lv_aload_n hx hb dX23_unary_63 rfl (lv_at hl 2 rfl) ?_
          refine va_get (D := (dC, dI)) (ci := 23) (v := .int (nI pp)) (C := RX23) (T := TX23) (N := 89) hx hb hts in_c_xuy_X23 hown hK hP 4 rfl rfl 10 (by decide) (hts (.fieldLink RX23 86 "OwnedPlacesModel" "p" "I") (wm_c_xuy 16 rfl)) (fun _ h9 => h9) rfl dX23_unary_64 ?_
          refine va_put (D := (dC, dI)) (ci := 15) (v := .int (nI pp)) (ty := .int) (C := RX15) (T := TX15) (N := 14) hx hb hts in_c_xuy_X15 tyX15 tyX15_ok nmX15 hown hK hP hD hS 3 rfl rfl 1 (by decide) (hts (.fieldLink RX23 350 "OwnedPlacesModel$Exp" "token" "I") (wm_c_xuy 17 rfl)) (fun _ h9 => h9) rfl (by decide +kernel) rfl rfl (Nat.le_of_ble_eq_true rfl) dX23_unary_67 (fun H locs hP hD hS => ?_)
          replace hP : va_P (dC, dI) vwCl (([(mr 5, .inl (kI, 3002, .inl fk)), (mr 6, .inl (kI, 3002, .inl fa)), (mr 8, .inl (kL, 3002, .inr (.inl fn))), (q_1, .inr (15, [.int 0, .int (nI pp), .int 0, .int 0, .int 0, .int 0, .long 0, .int 0, .null, .null, .null, .int 0, .null, .null])), (m9, .inr (23, mA mr mv vf xl (nI zs) 0 xa (nI T) (nI pp) xi xt xn (nI ns) (nI vv) (nI bb)))] : va_W) ++ (sT L F)) H := hP
          replace hD : va_D A (([(mr 5, .inl (kI, 3002, .inl fk)), (mr 6, .inl (kI, 3002, .inl fa)), (mr 8, .inl (kL, 3002, .inr (.inl fn))), (q_1, .inr (15, [.int 0, .int (nI pp), .int 0, .int 0, .int 0, .int 0, .long 0, .int 0, .null, .null, .null, .int 0, .null, .null])), (m9, .inr (23, mA mr mv vf xl (nI zs) 0 xa (nI T) (nI pp) xi xt xn (nI ns) (nI vv) (nI bb)))] : va_W) ++ (sT L F)) := hD
          refine lv_aload_n hx hb dX23_unary_70 rfl (lv_at hl 1 rfl) ?_
          refine lv_iload_n hx hb dX23_unary_71 rfl (lv_at hl 0 rfl) ?_
          refine lv_bipush (v := 53) hx hb dX23_unary_72 (by decide) ?_
          refine lv_icmp_ne (tgt := 82) hx hb dX23_unary_74 (by decide) (fun _ => ?_) (fun c_14 => absurd c_14 hk_6)
          refine lv_iload_n hx hb dX23_unary_82 rfl (lv_at hl 0 rfl) ?_
          refine lv_bipush (v := 41) hx hb dX23_unary_83 (by decide) ?_
          refine lv_icmp_ne (tgt := 93) hx hb dX23_unary_85 (by decide) (fun _ => ?_) (fun c_15 => absurd c_15 hk_8)
          refine lv_iload_n hx hb dX23_unary_93 rfl (lv_at hl 0 rfl) ?_
          refine lv_bipush (v := 42) hx hb dX23_unary_94 (by decide) ?_
          refine lv_icmp_ne (tgt := 104) hx hb dX23_unary_96 (by decide) (fun _ => ?_) (fun c_16 => absurd c_16 hk_10)
          refine lv_iload_n hx hb dX23_unary_104 rfl (lv_at hl 0 rfl) ?_
          refine lv_bipush (v := 55) hx hb dX23_unary_105 (by decide) ?_
          refine lv_icmp_ne (tgt := 115) hx hb dX23_unary_107 (by decide) (fun c_17 => absurd c_17 (fun q9 => q9 hk_12)) (fun _ => ?_)
          refine lv_bipush (v := 12) hx hb dX23_unary_110 (by decide) ?_
          refine lv_goto (tgt := 117) hx hb dX23_unary_112 (by decide) ?_
          refine va_put (D := (dC, dI)) (ci := 15) (v := .int 12) (ty := .int) (C := RX15) (T := TX15) (N := 14) hx hb hts in_c_xuy_X15 tyX15 tyX15_ok nmX15 hown hK hP hD hS 3 rfl rfl 0 (by decide) (hts (.fieldLink RX23 330 "OwnedPlacesModel$Exp" "kind" "I") (wm_c_xuy 18 rfl)) (fun _ h9 => h9) rfl (by decide +kernel) rfl rfl (Nat.le_of_ble_eq_true rfl) dX23_unary_117 (fun H locs hP hD hS => ?_)
          replace hP : va_P (dC, dI) vwCl (([(mr 5, .inl (kI, 3002, .inl fk)), (mr 6, .inl (kI, 3002, .inl fa)), (mr 8, .inl (kL, 3002, .inr (.inl fn))), (q_1, .inr (15, [.int 12, .int (nI pp), .int 0, .int 0, .int 0, .int 0, .long 0, .int 0, .null, .null, .null, .int 0, .null, .null])), (m9, .inr (23, mA mr mv vf xl (nI zs) 0 xa (nI T) (nI pp) xi xt xn (nI ns) (nI vv) (nI bb)))] : va_W) ++ (sT L F)) H := hP
          replace hD : va_D A (([(mr 5, .inl (kI, 3002, .inl fk)), (mr 6, .inl (kI, 3002, .inl fa)), (mr 8, .inl (kL, 3002, .inr (.inl fn))), (q_1, .inr (15, [.int 12, .int (nI pp), .int 0, .int 0, .int 0, .int 0, .long 0, .int 0, .null, .null, .null, .int 0, .null, .null])), (m9, .inr (23, mA mr mv vf xl (nI zs) 0 xa (nI T) (nI pp) xi xt xn (nI ns) (nI vv) (nI bb)))] : va_W) ++ (sT L F)) := hD
          refine lv_aload_n hx hb dX23_unary_120 rfl (lv_at hl 2 rfl) ?_
          refine lv_aload_n hx hb dX23_unary_121 rfl (lv_at hl 2 rfl) ?_
          refine va_get (D := (dC, dI)) (ci := 23) (v := .int (nI pp)) (C := RX23) (T := TX23) (N := 89) hx hb hts in_c_xuy_X23 hown hK hP 4 rfl rfl 10 (by decide) (hts (.fieldLink RX23 86 "OwnedPlacesModel" "p" "I") (wm_c_xuy 16 rfl)) (fun _ h9 => h9) rfl dX23_unary_122 ?_
          by_cases hn_18 : ns = 16
          · replace hPc := hP.subF (f' := [(m9, .inr (23, mA mr mv vf xl (nI zs) 0 xa (nI T) (nI pp) xi xt xn (nI ns) (nI vv) (nI bb))), (mr 6, .inl (kI, 3002, .inl fa))]) [4, 1] rfl
            replace hDc := hD.subF (f' := [(m9, .inr (23, mA mr mv vf xl (nI zs) 0 xa (nI T) (nI pp) xi xt xn (nI ns) (nI vv) (nI bb))), (mr 6, .inl (kI, 3002, .inl fa))]) [4, 1] (by decide) rfl
            replace hKc := hK.sub (tys' := [(kI, .int)]) [0] rfl
            replace hFc := va_freeT (wc := [(m9, .inr (23, mA mr mv vf xl (nI zs) 0 xa (nI T) (nI pp) xi xt xn (nI ns) (nI vv) (nI bb))), (mr 6, .inl (kI, 3002, .inl fa))]) hD hS hA [4, 1] rfl
            refine va_callv (va_runV (As := [.int (nI pp)]) (rest := []) ⟨hx, hb, hml, hown, hts⟩ (c_renN l dC dI m9 mr mv vf xl xa xi xt xn zs T pp ns vv bb kI fk fa pp H.size (by omega) hn_18) (cwV 1 hts g_c_xuy_c_renN_125 rfl rfl rfl (by decide +kernel) ⟨by show 1 + 1 ≤ 6 + 12 * k; omega, by show 8 + (2 + 11) + (22) ≤ 130 + 279 * k; omega⟩) ⟨fun a U g mk q => by obtain ⟨q0, q1, qP, qK, qD⟩ := q; exact ⟨q0, q1, qP, va_K.moved (u := U) (U := U.calling g mk a) (Vm.Alike.refl U.vm) qK, qD⟩, va_recv hKc hPc (ci := 23) (q0 := 0) rfl rfl, fun U hU hW => ⟨rfl, by rw [hU], by rw [hU]; exact hPc, va_K.moved hW.alike hKc, hDc.weaken (fun _ _ _ _ => trivial)⟩⟩ rfl rfl hl.1 rfl (lv_room (Nat.le_of_ble_eq_true rfl)) dX23_unary_125 ⟨(show 1 + 0 ≤ (8 * (T - pp) + 7) by omega), (show 14 + 0 ≤ (120 * (T - pp) + 340) by omega)⟩) hS (fun q _ h => hFc q h) hFc (fun u tS H1 locs ht hvm hw hB hz1 hk1 hS => ?_)
            obtain ⟨ff_19, xa_20, hf21_0, hP1, hK1, hD1⟩ := hB
            rw [ht] at hP1
            replace hK1 := va_K.moved hvm.symm hK1
            obtain ⟨hPj, hDj⟩ := va_joinT (wr := [(mr 5, .inl (kI, 3002, .inl fk)), (mr 8, .inl (kL, 3002, .inr (.inl fn))), (q_1, .inr (15, [.int 12, .int (nI pp), .int 0, .int 0, .int 0, .int 0, .long 0, .int 0, .null, .null, .null, .int 0, .null, .null]))]) (w1 := [(m9, .inr (23, mA mr mv vf xl (nI zs) ff_19 xa_20 (nI T) (nI pp) xi xt xn (nI (ns + 1)) (nI vv) (nI bb))), (mr 6, .inl (kI, 3002, .inl fa))]) hP hD [4, 1] [0, 2, 3] rfl rfl (by decide) (by decide) hk1 hFc hP1 hD1
            replace hP := hPj
            replace hD := hDj
            clear hPj hDj
            replace hK := hK.app hK1
            generalize H1 = H at hP hS ⊢
            replace hP : va_P (dC, dI) vwCl (([(mr 5, .inl (kI, 3002, .inl fk)), (mr 8, .inl (kL, 3002, .inr (.inl fn))), (q_1, .inr (15, [.int 12, .int (nI pp), .int 0, .int 0, .int 0, .int 0, .long 0, .int 0, .null, .null, .null, .int 0, .null, .null])), (m9, .inr (23, mA mr mv vf xl (nI zs) ff_19 xa_20 (nI T) (nI pp) xi xt xn (nI (ns + 1)) (nI vv) (nI bb))), (mr 6, .inl (kI, 3002, .inl fa))] : va_W) ++ (sT L F)) H := hP
            replace hD : va_D A (([(mr 5, .inl (kI, 3002, .inl fk)), (mr 8, .inl (kL, 3002, .inr (.inl fn))), (q_1, .inr (15, [.int 12, .int (nI pp), .int 0, .int 0, .int 0, .int 0, .long 0, .int 0, .null, .null, .null, .int 0, .null, .null])), (m9, .inr (23, mA mr mv vf xl (nI zs) ff_19 xa_20 (nI T) (nI pp) xi xt xn (nI (ns + 1)) (nI vv) (nI bb))), (mr 6, .inl (kI, 3002, .inl fa))] : va_W) ++ (sT L F)) := hD
            replace hK : va_K (dC, dI) vwCl [(kI, .int), (kL, .long), (kE, .object RX15), (kI, .int)] s := hK
            replace hK := hK.sub (tys' := [(kI, .int), (kL, .long), (kE, .object RX15)]) [0, 1, 2] rfl
            clear hz1 hk1 hPc hDc hKc hFc hP1 hD1 hK1
            refine lv_iload_n hx hb dX23_unary_128 rfl (lv_at hl 0 rfl) ?_
            refine lv_bipush (v := 55) hx hb dX23_unary_129 (by decide) ?_
            refine lv_icmp_ne (tgt := 138) hx hb dX23_unary_131 (by decide) (fun c_22 => absurd c_22 (fun q9 => q9 hk_12)) (fun _ => ?_)
            refine lv_aload_n hx hb dX23_unary_134 rfl (lv_at hl 2 rfl) ?_
            replace hPc := hP.subF (f' := [(m9, .inr (23, mA mr mv vf xl (nI zs) ff_19 xa_20 (nI T) (nI pp) xi xt xn (nI (ns + 1)) (nI vv) (nI bb))), (mr 5, .inl (kI, 3002, .inl fk)), (mr 6, .inl (kI, 3002, .inl fa))]) [3, 0, 4] rfl
            replace hDc := hD.subF (f' := [(m9, .inr (23, mA mr mv vf xl (nI zs) ff_19 xa_20 (nI T) (nI pp) xi xt xn (nI (ns + 1)) (nI vv) (nI bb))), (mr 5, .inl (kI, 3002, .inl fk)), (mr 6, .inl (kI, 3002, .inl fa))]) [3, 0, 4] (by decide) rfl
            replace hKc := hK.sub (tys' := [(kI, .int)]) [0] rfl
            replace hFc := va_freeT (wc := [(m9, .inr (23, mA mr mv vf xl (nI zs) ff_19 xa_20 (nI T) (nI pp) xi xt xn (nI (ns + 1)) (nI vv) (nI bb))), (mr 5, .inl (kI, 3002, .inl fk)), (mr 6, .inl (kI, 3002, .inl fa))]) hD hS hA [3, 0, 4] rfl
            refine va_callv (va_runV (As := []) (rest := []) ⟨hx, hb, hml, hown, hts⟩ (c_rboB l dC dI m9 mr mv vf xl xa_20 xi xt xn zs T pp (ns + 1) vv bb kI fk fa ff_19 H.size hf21_0 (by omega)) (cwV 0 hts g_c_xuy_c_rboB_135 rfl rfl rfl (by decide +kernel) ⟨by show 1 + 1 ≤ 6 + 12 * k; omega, by show 8 + (1 + 11) + (20) ≤ 130 + 279 * k; omega⟩) ⟨fun a U g mk q => by obtain ⟨q0, q1, qP, qK, qD⟩ := q; exact ⟨q0, q1, qP, va_K.moved (u := U) (U := U.calling g mk a) (Vm.Alike.refl U.vm) qK, qD⟩, va_recv hKc hPc (ci := 23) (q0 := 0) rfl rfl, fun U hU hW => ⟨rfl, by rw [hU], by rw [hU]; exact hPc, va_K.moved hW.alike hKc, hDc.weaken (fun _ _ _ _ => trivial)⟩⟩ rfl rfl hl.1 rfl (lv_room (Nat.le_of_ble_eq_true rfl)) dX23_unary_135 ⟨(show 1 + 0 ≤ (8 * (T - pp) + 7) by omega), (show 14 + 0 ≤ (120 * (T - pp) + 340) by omega)⟩) hS (fun q _ h => hFc q h) hFc (fun u tS H1 locs ht hvm hw hB hz1 hk1 hS => ?_)
            obtain ⟨hP1, hK1, hD1⟩ := hB
            rw [ht] at hP1
            replace hK1 := va_K.moved hvm.symm hK1
            obtain ⟨hPj, hDj⟩ := va_joinT (wr := [(mr 8, .inl (kL, 3002, .inr (.inl fn))), (q_1, .inr (15, [.int 12, .int (nI pp), .int 0, .int 0, .int 0, .int 0, .long 0, .int 0, .null, .null, .null, .int 0, .null, .null]))]) (w1 := [(m9, .inr (23, mA mr mv vf xl (nI zs) ff_19 xa_20 (nI T) (nI pp) xi xt xn (nI (ns + 1)) (nI vv) (nI (bb + 1)))), (mr 5, .inl (kI, 3002, .inl fk)), (mr 6, .inl (kI, 3002, .inl fa))]) hP hD [3, 0, 4] [1, 2] rfl rfl (by decide) (by decide) hk1 hFc hP1 hD1
            replace hP := hPj
            replace hD := hDj
            clear hPj hDj
            replace hK := hK.app hK1
            generalize H1 = H at hP hS ⊢
            replace hP : va_P (dC, dI) vwCl (([(mr 8, .inl (kL, 3002, .inr (.inl fn))), (q_1, .inr (15, [.int 12, .int (nI pp), .int 0, .int 0, .int 0, .int 0, .long 0, .int 0, .null, .null, .null, .int 0, .null, .null])), (m9, .inr (23, mA mr mv vf xl (nI zs) ff_19 xa_20 (nI T) (nI pp) xi xt xn (nI (ns + 1)) (nI vv) (nI (bb + 1)))), (mr 5, .inl (kI, 3002, .inl fk)), (mr 6, .inl (kI, 3002, .inl fa))] : va_W) ++ (sT L F)) H := hP
            replace hD : va_D A (([(mr 8, .inl (kL, 3002, .inr (.inl fn))), (q_1, .inr (15, [.int 12, .int (nI pp), .int 0, .int 0, .int 0, .int 0, .long 0, .int 0, .null, .null, .null, .int 0, .null, .null])), (m9, .inr (23, mA mr mv vf xl (nI zs) ff_19 xa_20 (nI T) (nI pp) xi xt xn (nI (ns + 1)) (nI vv) (nI (bb + 1)))), (mr 5, .inl (kI, 3002, .inl fk)), (mr 6, .inl (kI, 3002, .inl fa))] : va_W) ++ (sT L F)) := hD
            replace hK : va_K (dC, dI) vwCl [(kI, .int), (kL, .long), (kE, .object RX15), (kI, .int)] s := hK
            replace hK := hK.sub (tys' := [(kI, .int), (kL, .long), (kE, .object RX15)]) [0, 1, 2] rfl
            clear hz1 hk1 hPc hDc hKc hFc hP1 hD1 hK1
            refine lv_aload_n hx hb dX23_unary_138 rfl (lv_at hl 2 rfl) ?_
            refine lv_dup hx hb dX23_unary_139 rfl ?_
            refine va_get (D := (dC, dI)) (ci := 23) (v := .int (nI pp)) (C := RX23) (T := TX23) (N := 89) hx hb hts in_c_xuy_X23 hown hK hP 2 rfl rfl 10 (by decide) (hts (.fieldLink RX23 86 "OwnedPlacesModel" "p" "I") (wm_c_xuy 16 rfl)) (fun _ h9 => h9) rfl dX23_unary_140 ?_
            refine lv_iconst (v := 1) hx hb dX23_unary_143 (by decide) ?_
            refine lv_iadd hx hb dX23_unary_144 ?_
            refine lv_topi (fun f_24 ef_24 => ?_)
            obtain rfl : f_24 = nI (pp + 1) := ef_24.trans (nI_1 _)
            refine va_put (D := (dC, dI)) (ci := 23) (v := .int (nI (pp + 1))) (ty := .int) (C := RX23) (T := TX23) (N := 89) hx hb hts in_c_xuy_X23 tyX23 tyX23_ok nmX23 hown hK hP hD hS 2 rfl rfl 10 (by decide) (hts (.fieldLink RX23 86 "OwnedPlacesModel" "p" "I") (wm_c_xuy 16 rfl)) (fun _ h9 => h9) rfl (by decide +kernel) rfl rfl (Nat.le_of_ble_eq_true rfl) dX23_unary_145 (fun H locs hP hD hS => ?_)
            replace hP : va_P (dC, dI) vwCl (([(mr 8, .inl (kL, 3002, .inr (.inl fn))), (q_1, .inr (15, [.int 12, .int (nI pp), .int 0, .int 0, .int 0, .int 0, .long 0, .int 0, .null, .null, .null, .int 0, .null, .null])), (m9, .inr (23, mA mr mv vf xl (nI zs) ff_19 xa_20 (nI T) (nI (pp + 1)) xi xt xn (nI (ns + 1)) (nI vv) (nI (bb + 1)))), (mr 5, .inl (kI, 3002, .inl fk)), (mr 6, .inl (kI, 3002, .inl fa))] : va_W) ++ (sT L F)) H := hP
            replace hD : va_D A (([(mr 8, .inl (kL, 3002, .inr (.inl fn))), (q_1, .inr (15, [.int 12, .int (nI pp), .int 0, .int 0, .int 0, .int 0, .long 0, .int 0, .null, .null, .null, .int 0, .null, .null])), (m9, .inr (23, mA mr mv vf xl (nI zs) ff_19 xa_20 (nI T) (nI (pp + 1)) xi xt xn (nI (ns + 1)) (nI vv) (nI (bb + 1)))), (mr 5, .inl (kI, 3002, .inl fk)), (mr 6, .inl (kI, 3002, .inl fa))] : va_W) ++ (sT L F)) := hD
            have hp_25 : pp + 1 < T := kne3 hk0 hp hk_12 (by decide)
            refine lv_iload_n hx hb dX23_unary_148 rfl (lv_at hl 0 rfl) ?_
            refine lv_bipush (v := 55) hx hb dX23_unary_149 (by decide) ?_
            refine lv_icmp_ne (tgt := 164) hx hb dX23_unary_151 (by decide) (fun c_26 => absurd c_26 (fun q9 => q9 hk_12)) (fun _ => ?_)
            refine lv_aload_n hx hb dX23_unary_154 rfl (lv_at hl 1 rfl) ?_
            refine lv_aload_n hx hb dX23_unary_155 rfl (lv_at hl 2 rfl) ?_
            refine lv_bipush (v := 14) hx hb dX23_unary_156 (by decide) ?_
            replace hPc := hP.subF (f' := [(m9, .inr (23, mA mr mv vf xl (nI zs) ff_19 xa_20 (nI T) (nI (pp + 1)) xi xt xn (nI (ns + 1)) (nI vv) (nI (bb + 1)))), (mr 5, .inl (kI, 3002, .inl fk))]) [2, 3] rfl
            replace hDc := hD.subF (f' := [(m9, .inr (23, mA mr mv vf xl (nI zs) ff_19 xa_20 (nI T) (nI (pp + 1)) xi xt xn (nI (ns + 1)) (nI vv) (nI (bb + 1)))), (mr 5, .inl (kI, 3002, .inl fk))]) [2, 3] (by decide) rfl
            replace hKc := hK.sub (tys' := [(kI, .int)]) [0] rfl
            replace hFc := va_freeT (wc := [(m9, .inr (23, mA mr mv vf xl (nI zs) ff_19 xa_20 (nI T) (nI (pp + 1)) xi xt xn (nI (ns + 1)) (nI vv) (nI (bb + 1)))), (mr 5, .inl (kI, 3002, .inl fk))]) hD hS hA [2, 3] rfl
            refine va_calli (va_runV (As := [.int 14]) (rest := [.ref q_1]) ⟨hx, hb, hml, hown, hts⟩ (c_rtsB l dC dI m9 mr mv vf xl xa_20 xi xt xn zs T (pp + 1) (ns + 1) vv (bb + 1) kI fk fa ff_19 14 H.size hf21_0) (cwV 1 hts g_c_xuy_c_rtsB_158 rfl rfl rfl (by decide +kernel) ⟨by show 1 + 1 ≤ 6 + 12 * k; omega, by show 8 + (2 + 11) + (20) ≤ 130 + 279 * k; omega⟩) ⟨fun a U g mk q => by obtain ⟨q0, q1, qP, qK, qD⟩ := q; exact ⟨q0, q1, qP, va_K.moved (u := U) (U := U.calling g mk a) (Vm.Alike.refl U.vm) qK, qD⟩, va_recv hKc hPc (ci := 23) (q0 := 0) rfl rfl, fun U hU hW => ⟨rfl, by rw [hU], by rw [hU]; exact hPc, va_K.moved hW.alike hKc, hDc.weaken (fun _ _ _ _ => trivial)⟩⟩ rfl rfl hl.1 rfl (lv_room (Nat.le_of_ble_eq_true rfl)) dX23_unary_158 ⟨(show 1 + 0 ≤ (8 * (T - pp) + 7) by omega), (show 14 + 0 ≤ (120 * (T - pp) + 340) by omega)⟩) hS (fun q _ h => hFc q h) hFc (fun r_27 u tS H1 locs ht hvm hw hB hz1 hk1 hS => ?_)
            obtain ⟨hP1, hK1, hD1⟩ := hB
            rw [ht] at hP1
            replace hK1 := va_K.moved hvm.symm hK1
            obtain ⟨hPj, hDj⟩ := va_joinT (wr := [(mr 8, .inl (kL, 3002, .inr (.inl fn))), (q_1, .inr (15, [.int 12, .int (nI pp), .int 0, .int 0, .int 0, .int 0, .long 0, .int 0, .null, .null, .null, .int 0, .null, .null])), (mr 6, .inl (kI, 3002, .inl fa))]) (w1 := [(m9, .inr (23, mA mr mv vf xl (nI zs) ff_19 xa_20 (nI T) (nI (pp + 1)) xi xt xn (nI (ns + 1)) (nI vv) (nI (bb + 1)))), (mr 5, .inl (kI, 3002, .inl fk))]) hP hD [2, 3] [0, 1, 4] rfl rfl (by decide) (by decide) hk1 hFc hP1 hD1
            replace hP := hPj
            replace hD := hDj
            clear hPj hDj
            replace hK := hK.app hK1
            generalize H1 = H at hP hS ⊢
            replace hP : va_P (dC, dI) vwCl (([(mr 8, .inl (kL, 3002, .inr (.inl fn))), (q_1, .inr (15, [.int 12, .int (nI pp), .int 0, .int 0, .int 0, .int 0, .long 0, .int 0, .null, .null, .null, .int 0, .null, .null])), (mr 6, .inl (kI, 3002, .inl fa)), (m9, .inr (23, mA mr mv vf xl (nI zs) ff_19 xa_20 (nI T) (nI (pp + 1)) xi xt xn (nI (ns + 1)) (nI vv) (nI (bb + 1)))), (mr 5, .inl (kI, 3002, .inl fk))] : va_W) ++ (sT L F)) H := hP
            replace hD : va_D A (([(mr 8, .inl (kL, 3002, .inr (.inl fn))), (q_1, .inr (15, [.int 12, .int (nI pp), .int 0, .int 0, .int 0, .int 0, .long 0, .int 0, .null, .null, .null, .int 0, .null, .null])), (mr 6, .inl (kI, 3002, .inl fa)), (m9, .inr (23, mA mr mv vf xl (nI zs) ff_19 xa_20 (nI T) (nI (pp + 1)) xi xt xn (nI (ns + 1)) (nI vv) (nI (bb + 1)))), (mr 5, .inl (kI, 3002, .inl fk))] : va_W) ++ (sT L F)) := hD
            replace hK : va_K (dC, dI) vwCl [(kI, .int), (kL, .long), (kE, .object RX15), (kI, .int)] s := hK
            replace hK := hK.sub (tys' := [(kI, .int), (kL, .long), (kE, .object RX15)]) [0, 1, 2] rfl
            clear hz1 hk1 hPc hDc hKc hFc hP1 hD1 hK1
            obtain rfl : r_27 = 0 := hw
            refine va_put (D := (dC, dI)) (ci := 15) (v := .int 0) (ty := .boolean) (C := RX15) (T := TX15) (N := 14) hx hb hts in_c_xuy_X15 tyX15 tyX15_ok nmX15 hown hK hP hD hS 1 rfl rfl 7 (by decide) (hts (.fieldLink RX23 358 "OwnedPlacesModel$Exp" "mut" "Z") (wm_c_xuy 47 rfl)) (fun _ h9 => h9) rfl (by decide +kernel) (by decide) (by decide) (Nat.le_of_ble_eq_true rfl) dX23_unary_161 (fun H locs hP hD hS => ?_)
            replace hP : va_P (dC, dI) vwCl (([(mr 8, .inl (kL, 3002, .inr (.inl fn))), (q_1, .inr (15, [.int 12, .int (nI pp), .int 0, .int 0, .int 0, .int 0, .long 0, .int 0, .null, .null, .null, .int 0, .null, .null])), (mr 6, .inl (kI, 3002, .inl fa)), (m9, .inr (23, mA mr mv vf xl (nI zs) ff_19 xa_20 (nI T) (nI (pp + 1)) xi xt xn (nI (ns + 1)) (nI vv) (nI (bb + 1)))), (mr 5, .inl (kI, 3002, .inl fk))] : va_W) ++ (sT L F)) H := hP
            replace hD : va_D A (([(mr 8, .inl (kL, 3002, .inr (.inl fn))), (q_1, .inr (15, [.int 12, .int (nI pp), .int 0, .int 0, .int 0, .int 0, .long 0, .int 0, .null, .null, .null, .int 0, .null, .null])), (mr 6, .inl (kI, 3002, .inl fa)), (m9, .inr (23, mA mr mv vf xl (nI zs) ff_19 xa_20 (nI T) (nI (pp + 1)) xi xt xn (nI (ns + 1)) (nI vv) (nI (bb + 1)))), (mr 5, .inl (kI, 3002, .inl fk))] : va_W) ++ (sT L F)) := hD
            refine lv_aload_n hx hb dX23_unary_164 rfl (lv_at hl 1 rfl) ?_
            refine lv_aload_n hx hb dX23_unary_165 rfl (lv_at hl 2 rfl) ?_
            replace hPc := hP.subT (f' := [(m9, .inr (23, mA mr mv vf xl (nI zs) ff_19 xa_20 (nI T) (nI (pp + 1)) xi xt xn (nI (ns + 1)) (nI vv) (nI (bb + 1)))), (mr 5, .inl (kI, 3002, .inl fk)), (mr 6, .inl (kI, 3002, .inl fa))]) [3, 4, 2] rfl
            replace hDc := hD.subT (f' := [(m9, .inr (23, mA mr mv vf xl (nI zs) ff_19 xa_20 (nI T) (nI (pp + 1)) xi xt xn (nI (ns + 1)) (nI vv) (nI (bb + 1)))), (mr 5, .inl (kI, 3002, .inl fk)), (mr 6, .inl (kI, 3002, .inl fa))]) [3, 4, 2] (by decide) rfl
            replace hKc := hK.sub (tys' := [(kI, .int)]) [0] rfl
            replace hFc := va_freeB (wc := [(m9, .inr (23, mA mr mv vf xl (nI zs) ff_19 xa_20 (nI T) (nI (pp + 1)) xi xt xn (nI (ns + 1)) (nI vv) (nI (bb + 1)))), (mr 5, .inl (kI, 3002, .inl fk)), (mr 6, .inl (kI, 3002, .inl fa))]) hD hS hA [3, 4, 2] rfl
            refine W.grow (fun hgs0 hgs1 => ?_)
            refine va_callr (va_runV (As := []) (rest := [.ref q_1]) ⟨hx, hb, hml, hown, hts⟩ (c_xunB l dC dI m9 mr mv vf xl xa_20 xi xt xn zs T (pp + 1) (ns + 1) vv (bb + 1) kI fk fa ff_19 L F (slN H) H.size hf21_0) (cwV 0 hts g_c_xuy_c_xunB_166 rfl rfl rfl (by decide +kernel) ⟨by show 2 + 1 ≤ 6 + 12 * k; omega, by show 8 + (3 + 11) + (32) ≤ 130 + 279 * k; omega⟩) ⟨fun a U g mk q => by obtain ⟨q0, q1, qP, qK, qD, qx0, qx1⟩ := q; exact ⟨q0, q1, qP, va_K.moved (u := U) (U := U.calling g mk a) (Vm.Alike.refl U.vm) qK, qD, nsM.same (u := U) (U := U.calling g mk a) rfl qx0, qx1⟩, va_recv hKc hPc (ci := 23) (q0 := 0) rfl rfl, fun U hU hW => ⟨rfl, by rw [hU], by rw [hU]; exact hPc, va_K.moved hW.alike hKc, hDc.weaken (fun _ _ _ _ => trivial), nsM.warm hW hns, by rw [hU]⟩⟩ rfl rfl hl.1 rfl (lv_room (Nat.le_of_ble_eq_true rfl)) dX23_unary_166 ⟨(show 1 + 1 ≤ (8 * (T - pp) + 7) by omega), (show 14 + 14 ≤ (120 * (T - pp) + 340) by omega)⟩) hS (fun q _ h => hFc q h) hFc (fun u r_28 tS H1 locs ht hvm hw hB hz1 hk1 hS => ?_)
            obtain ⟨L8, F8, hf28_0, hf28_1, hP1, hK1, hD1⟩ := hB
            rw [ht] at hP1
            replace hK1 := va_K.moved hvm.symm hK1
            rw [ht] at hf28_1
            have hgz : H1.size ≤ s.heap.size + ((1 + 1)) ∧ slN H1 ≤ slN s.heap + ((14 + 14)) := ⟨by have := hf28_1.1; omega, by have := hf28_1.2; omega⟩
            obtain ⟨hPj, hDj⟩ := va_joinB (wr := [(mr 8, .inl (kL, 3002, .inr (.inl fn))), (q_1, .inr (15, [.int 12, .int (nI pp), .int 0, .int 0, .int 0, .int 0, .long 0, .int 0, .null, .null, .null, .int 0, .null, .null]))]) (w1 := [(m9, .inr (23, mA mr mv vf xl (nI zs) ff_19 xa_20 (nI T) (nI (pp + 1)) xi xt xn (nI (ns + 1)) (nI vv) (nI (bb + 1)))), (mr 5, .inl (kI, 3002, .inl fk)), (mr 6, .inl (kI, 3002, .inl fa))]) hP hD [3, 4, 2] [0, 1] rfl rfl (by decide) (by decide) hk1 hFc hP1 hD1
            replace hP := hPj
            replace hD := hDj
            clear hPj hDj
            replace hK := hK.app hK1
            generalize H1 = H at hP hS hgz ⊢
            replace hP : va_P (dC, dI) vwCl (([(mr 8, .inl (kL, 3002, .inr (.inl fn))), (q_1, .inr (15, [.int 12, .int (nI pp), .int 0, .int 0, .int 0, .int 0, .long 0, .int 0, .null, .null, .null, .int 0, .null, .null])), (m9, .inr (23, mA mr mv vf xl (nI zs) ff_19 xa_20 (nI T) (nI (pp + 1)) xi xt xn (nI (ns + 1)) (nI vv) (nI (bb + 1)))), (mr 5, .inl (kI, 3002, .inl fk)), (mr 6, .inl (kI, 3002, .inl fa))] : va_W) ++ (sT L8 F8)) H := hP
            replace hD : va_D A (([(mr 8, .inl (kL, 3002, .inr (.inl fn))), (q_1, .inr (15, [.int 12, .int (nI pp), .int 0, .int 0, .int 0, .int 0, .long 0, .int 0, .null, .null, .null, .int 0, .null, .null])), (m9, .inr (23, mA mr mv vf xl (nI zs) ff_19 xa_20 (nI T) (nI (pp + 1)) xi xt xn (nI (ns + 1)) (nI vv) (nI (bb + 1)))), (mr 5, .inl (kI, 3002, .inl fk)), (mr 6, .inl (kI, 3002, .inl fa))] : va_W) ++ (sT L8 F8)) := hD
            replace hK : va_K (dC, dI) vwCl [(kI, .int), (kL, .long), (kE, .object RX15), (kI, .int)] s := hK
            replace hK := hK.sub (tys' := [(kI, .int), (kL, .long), (kE, .object RX15)]) [0, 1, 2] rfl
            refine W.tight (k := (1 + 1)) (n := (14 + 14)) hgz.1 hgz.2 ?_
            clear hz1 hk1 hPc hDc hKc hFc hP1 hD1 hK1
            refine va_put (D := (dC, dI)) (ci := 15) (v := .ref r_28) (ty := (.object "OwnedPlacesModel$Exp")) (C := RX15) (T := TX15) (N := 14) hx hb hts in_c_xuy_X15 tyX15 tyX15_ok nmX15 hown hK hP hD hS 1 rfl rfl 8 (by decide) (hts (.fieldLink RX23 331 "OwnedPlacesModel$Exp" "of" "LOwnedPlacesModel$Exp;") (wm_c_xuy 33 rfl)) (fun _ h9 => h9) rfl (by decide +kernel) rfl rfl (Nat.le_of_ble_eq_true rfl) dX23_unary_169 (fun H locs hP hD hS => ?_)
            replace hP : va_P (dC, dI) vwCl (([(mr 8, .inl (kL, 3002, .inr (.inl fn))), (q_1, .inr (15, [.int 12, .int (nI pp), .int 0, .int 0, .int 0, .int 0, .long 0, .int 0, .ref r_28, .null, .null, .int 0, .null, .null])), (m9, .inr (23, mA mr mv vf xl (nI zs) ff_19 xa_20 (nI T) (nI (pp + 1)) xi xt xn (nI (ns + 1)) (nI vv) (nI (bb + 1)))), (mr 5, .inl (kI, 3002, .inl fk)), (mr 6, .inl (kI, 3002, .inl fa))] : va_W) ++ (sT L8 F8)) H := hP
            replace hD : va_D A (([(mr 8, .inl (kL, 3002, .inr (.inl fn))), (q_1, .inr (15, [.int 12, .int (nI pp), .int 0, .int 0, .int 0, .int 0, .long 0, .int 0, .ref r_28, .null, .null, .int 0, .null, .null])), (m9, .inr (23, mA mr mv vf xl (nI zs) ff_19 xa_20 (nI T) (nI (pp + 1)) xi xt xn (nI (ns + 1)) (nI vv) (nI (bb + 1)))), (mr 5, .inl (kI, 3002, .inl fk)), (mr 6, .inl (kI, 3002, .inl fa))] : va_W) ++ (sT L8 F8)) := hD
            refine lv_aload_n hx hb dX23_unary_172 rfl (lv_at hl 2 rfl) ?_
            refine lv_dup hx hb dX23_unary_173 rfl ?_
            refine va_get (D := (dC, dI)) (ci := 23) (v := .int (nI (ns + 1))) (C := RX23) (T := TX23) (N := 89) hx hb hts in_c_xuy_X23 hown hK hP 2 rfl rfl 15 (by decide) (hts (.fieldLink RX23 104 "OwnedPlacesModel" "nest" "I") (wm_c_xuy 20 rfl)) (fun _ h9 => h9) rfl dX23_unary_174 ?_
            refine lv_iconst (v := 1) hx hb dX23_unary_177 (by decide) ?_
            refine lv_isub hx hb dX23_unary_178 ?_
            refine lv_topi (fun f_29 ef_29 => ?_)
            obtain rfl : f_29 = nI ns := ef_29.trans (nI_pred _)
            refine va_put (D := (dC, dI)) (ci := 23) (v := .int (nI ns)) (ty := .int) (C := RX23) (T := TX23) (N := 89) hx hb hts in_c_xuy_X23 tyX23 tyX23_ok nmX23 hown hK hP hD hS 2 rfl rfl 15 (by decide) (hts (.fieldLink RX23 104 "OwnedPlacesModel" "nest" "I") (wm_c_xuy 20 rfl)) (fun _ h9 => h9) rfl (by decide +kernel) rfl rfl (Nat.le_of_ble_eq_true rfl) dX23_unary_179 (fun H locs hP hD hS => ?_)
            replace hP : va_P (dC, dI) vwCl (([(mr 8, .inl (kL, 3002, .inr (.inl fn))), (q_1, .inr (15, [.int 12, .int (nI pp), .int 0, .int 0, .int 0, .int 0, .long 0, .int 0, .ref r_28, .null, .null, .int 0, .null, .null])), (m9, .inr (23, mA mr mv vf xl (nI zs) ff_19 xa_20 (nI T) (nI (pp + 1)) xi xt xn (nI ns) (nI vv) (nI (bb + 1)))), (mr 5, .inl (kI, 3002, .inl fk)), (mr 6, .inl (kI, 3002, .inl fa))] : va_W) ++ (sT L8 F8)) H := hP
            replace hD : va_D A (([(mr 8, .inl (kL, 3002, .inr (.inl fn))), (q_1, .inr (15, [.int 12, .int (nI pp), .int 0, .int 0, .int 0, .int 0, .long 0, .int 0, .ref r_28, .null, .null, .int 0, .null, .null])), (m9, .inr (23, mA mr mv vf xl (nI zs) ff_19 xa_20 (nI T) (nI (pp + 1)) xi xt xn (nI ns) (nI vv) (nI (bb + 1)))), (mr 5, .inl (kI, 3002, .inl fk)), (mr 6, .inl (kI, 3002, .inl fa))] : va_W) ++ (sT L8 F8)) := hD
            refine lv_aload_n hx hb dX23_unary_182 rfl (lv_at hl 1 rfl) ?_
            replace hP : va_P (dC, dI) vwCl ((([(mr 8, .inl (kL, 3002, .inr (.inl fn))), (m9, .inr (23, mA mr mv vf xl (nI zs) ff_19 xa_20 (nI T) (nI (pp + 1)) xi xt xn (nI ns) (nI vv) (nI (bb + 1)))), (mr 5, .inl (kI, 3002, .inl fk)), (mr 6, .inl (kI, 3002, .inl fa))] : va_W) ++ ([(q_1, .inr (15, [.int 12, .int (nI pp), .int 0, .int 0, .int 0, .int 0, .long 0, .int 0, .ref r_28, .null, .null, .int 0, .null, .null]))] : va_W)) ++ sT L8 F8) H := hP.subT (f' := [(mr 8, .inl (kL, 3002, .inr (.inl fn))), (m9, .inr (23, mA mr mv vf xl (nI zs) ff_19 xa_20 (nI T) (nI (pp + 1)) xi xt xn (nI ns) (nI vv) (nI (bb + 1)))), (mr 5, .inl (kI, 3002, .inl fk)), (mr 6, .inl (kI, 3002, .inl fa)), (q_1, .inr (15, [.int 12, .int (nI pp), .int 0, .int 0, .int 0, .int 0, .long 0, .int 0, .ref r_28, .null, .null, .int 0, .null, .null]))]) [0, 2, 3, 4, 1] rfl
            replace hD : va_D A ((([(mr 8, .inl (kL, 3002, .inr (.inl fn))), (m9, .inr (23, mA mr mv vf xl (nI zs) ff_19 xa_20 (nI T) (nI (pp + 1)) xi xt xn (nI ns) (nI vv) (nI (bb + 1)))), (mr 5, .inl (kI, 3002, .inl fk)), (mr 6, .inl (kI, 3002, .inl fa))] : va_W) ++ ([(q_1, .inr (15, [.int 12, .int (nI pp), .int 0, .int 0, .int 0, .int 0, .long 0, .int 0, .ref r_28, .null, .null, .int 0, .null, .null]))] : va_W)) ++ sT L8 F8) := hD.subT (f' := [(mr 8, .inl (kL, 3002, .inr (.inl fn))), (m9, .inr (23, mA mr mv vf xl (nI zs) ff_19 xa_20 (nI T) (nI (pp + 1)) xi xt xn (nI ns) (nI vv) (nI (bb + 1)))), (mr 5, .inl (kI, 3002, .inl fk)), (mr 6, .inl (kI, 3002, .inl fa)), (q_1, .inr (15, [.int 12, .int (nI pp), .int 0, .int 0, .int 0, .int 0, .long 0, .int 0, .ref r_28, .null, .null, .int 0, .null, .null]))]) [0, 2, 3, 4, 1] (by decide) rfl
            obtain ⟨L9, F9, hx9, hm9, hP, hD⟩ := st_fileL [(q_1, .inr (15, [.int 12, .int (nI pp), .int 0, .int 0, .int 0, .int 0, .long 0, .int 0, .ref r_28, .null, .null, .int 0, .null, .null]))] hP hD
            have hm9_0 := hm9 _ (List.mem_of_getElem? (i := 0) rfl)
            refine W.grow (fun hgs0 hgs1 => ?_)
            have hP9 := hP.subT (f' := [(m9, .inr (23, mA mr mv vf xl (nI zs) ff_19 xa_20 (nI T) (nI (pp + 1)) xi xt xn (nI ns) (nI vv) (nI (bb + 1)))), (mr 5, .inl (kI, 3002, .inl fk)), (mr 6, .inl (kI, 3002, .inl fa)), (mr 8, .inl (kL, 3002, .inr (.inl fn)))]) [1, 2, 3, 0] rfl
            have hD9 := hD.subT (f' := [(m9, .inr (23, mA mr mv vf xl (nI zs) ff_19 xa_20 (nI T) (nI (pp + 1)) xi xt xn (nI ns) (nI vv) (nI (bb + 1)))), (mr 5, .inl (kI, 3002, .inl fk)), (mr 6, .inl (kI, 3002, .inl fa)), (mr 8, .inl (kL, 3002, .inr (.inl fn)))]) [1, 2, 3, 0] (by decide) rfl
            have hK9 := hK.sub (tys' := [(kI, .int), (kL, .long), (kE, .object RX15)]) [0, 1, 2] rfl
            refine W.widen (k := (8 * (T - pp) + 7)) (n := (120 * (T - pp) + 340)) (by omega) (by omega) ?_
            exact W.aret hx hb hr (Or.inl ⟨_, rfl⟩) (Or.inr ⟨q_1, rfl⟩) (fun tS ht hW => ⟨⟨(), q_1, rfl, trivial, L9, F9, ff_19, xa_20, pp + 1, bb + 1, ⟨(hf28_0.1).tr hx9, hm9_0.1, _, hm9_0.2⟩, ⟨by omega, by omega, by omega, by omega⟩, (fun q9 => absurd q9 hf21_0), by rw [ht]; exact ⟨by omega, by omega⟩, by rw [ht]; exact hP9, va_K.moved hW.alike hK9, hD9⟩, hS.F ht⟩) hS.2.2 dX23_unary_183
          · replace hPc := hP.subF (f' := [(m9, .inr (23, mA mr mv vf xl (nI zs) 0 xa (nI T) (nI pp) xi xt xn (nI ns) (nI vv) (nI bb))), (mr 6, .inl (kI, 3002, .inl fa))]) [4, 1] rfl
            replace hDc := hD.subF (f' := [(m9, .inr (23, mA mr mv vf xl (nI zs) 0 xa (nI T) (nI pp) xi xt xn (nI ns) (nI vv) (nI bb))), (mr 6, .inl (kI, 3002, .inl fa))]) [4, 1] (by decide) rfl
            replace hKc := hK.sub (tys' := [(kI, .int)]) [0] rfl
            replace hFc := va_freeT (wc := [(m9, .inr (23, mA mr mv vf xl (nI zs) 0 xa (nI T) (nI pp) xi xt xn (nI ns) (nI vv) (nI bb))), (mr 6, .inl (kI, 3002, .inl fa))]) hD hS hA [4, 1] rfl
            refine va_callv (va_runV (As := [.int (nI pp)]) (rest := []) ⟨hx, hb, hml, hown, hts⟩ (c_renY l dC dI m9 mr mv vf xl xa xi xt xn zs T pp ns vv bb kI fk fa pp H.size (by omega) (⟨hn_18, by omega⟩)) (cwV 1 hts g_c_xuy_c_renY_125 rfl rfl rfl (by decide +kernel) ⟨by show 1 + 1 ≤ 6 + 12 * k; omega, by show 8 + (2 + 11) + (20) ≤ 130 + 279 * k; omega⟩) ⟨fun a U g mk q => by obtain ⟨q0, q1, qP, qK, qD⟩ := q; exact ⟨q0, q1, qP, va_K.moved (u := U) (U := U.calling g mk a) (Vm.Alike.refl U.vm) qK, qD⟩, va_recv hKc hPc (ci := 23) (q0 := 0) rfl rfl, fun U hU hW => ⟨rfl, by rw [hU], by rw [hU]; exact hPc, va_K.moved hW.alike hKc, hDc.weaken (fun _ _ _ _ => trivial)⟩⟩ rfl rfl hl.1 rfl (lv_room (Nat.le_of_ble_eq_true rfl)) dX23_unary_125 ⟨(show 1 + 0 ≤ (8 * (T - pp) + 7) by omega), (show 14 + 0 ≤ (120 * (T - pp) + 340) by omega)⟩) hS (fun q _ h => hFc q h) hFc (fun u tS H1 locs ht hvm hw hB hz1 hk1 hS => ?_)
            obtain ⟨hP1, hK1, hD1⟩ := hB
            rw [ht] at hP1
            replace hK1 := va_K.moved hvm.symm hK1
            obtain ⟨hPj, hDj⟩ := va_joinT (wr := [(mr 5, .inl (kI, 3002, .inl fk)), (mr 8, .inl (kL, 3002, .inr (.inl fn))), (q_1, .inr (15, [.int 12, .int (nI pp), .int 0, .int 0, .int 0, .int 0, .long 0, .int 0, .null, .null, .null, .int 0, .null, .null]))]) (w1 := [(m9, .inr (23, mA mr mv vf xl (nI zs) 0 xa (nI T) (nI pp) xi xt xn (nI (ns + 1)) (nI vv) (nI bb))), (mr 6, .inl (kI, 3002, .inl fa))]) hP hD [4, 1] [0, 2, 3] rfl rfl (by decide) (by decide) hk1 hFc hP1 hD1
            replace hP := hPj
            replace hD := hDj
            clear hPj hDj
            replace hK := hK.app hK1
            generalize H1 = H at hP hS ⊢
            replace hP : va_P (dC, dI) vwCl (([(mr 5, .inl (kI, 3002, .inl fk)), (mr 8, .inl (kL, 3002, .inr (.inl fn))), (q_1, .inr (15, [.int 12, .int (nI pp), .int 0, .int 0, .int 0, .int 0, .long 0, .int 0, .null, .null, .null, .int 0, .null, .null])), (m9, .inr (23, mA mr mv vf xl (nI zs) 0 xa (nI T) (nI pp) xi xt xn (nI (ns + 1)) (nI vv) (nI bb))), (mr 6, .inl (kI, 3002, .inl fa))] : va_W) ++ (sT L F)) H := hP
            replace hD : va_D A (([(mr 5, .inl (kI, 3002, .inl fk)), (mr 8, .inl (kL, 3002, .inr (.inl fn))), (q_1, .inr (15, [.int 12, .int (nI pp), .int 0, .int 0, .int 0, .int 0, .long 0, .int 0, .null, .null, .null, .int 0, .null, .null])), (m9, .inr (23, mA mr mv vf xl (nI zs) 0 xa (nI T) (nI pp) xi xt xn (nI (ns + 1)) (nI vv) (nI bb))), (mr 6, .inl (kI, 3002, .inl fa))] : va_W) ++ (sT L F)) := hD
            replace hK : va_K (dC, dI) vwCl [(kI, .int), (kL, .long), (kE, .object RX15), (kI, .int)] s := hK
            replace hK := hK.sub (tys' := [(kI, .int), (kL, .long), (kE, .object RX15)]) [0, 1, 2] rfl
            clear hz1 hk1 hPc hDc hKc hFc hP1 hD1 hK1
            refine lv_iload_n hx hb dX23_unary_128 rfl (lv_at hl 0 rfl) ?_
            refine lv_bipush (v := 55) hx hb dX23_unary_129 (by decide) ?_
            refine lv_icmp_ne (tgt := 138) hx hb dX23_unary_131 (by decide) (fun c_20 => absurd c_20 (fun q9 => q9 hk_12)) (fun _ => ?_)
            refine lv_aload_n hx hb dX23_unary_134 rfl (lv_at hl 2 rfl) ?_
            by_cases hv_21 : bb = 54
            · replace hPc := hP.subF (f' := [(m9, .inr (23, mA mr mv vf xl (nI zs) 0 xa (nI T) (nI pp) xi xt xn (nI (ns + 1)) (nI vv) (nI bb))), (mr 5, .inl (kI, 3002, .inl fk)), (mr 6, .inl (kI, 3002, .inl fa))]) [3, 0, 4] rfl
              replace hDc := hD.subF (f' := [(m9, .inr (23, mA mr mv vf xl (nI zs) 0 xa (nI T) (nI pp) xi xt xn (nI (ns + 1)) (nI vv) (nI bb))), (mr 5, .inl (kI, 3002, .inl fk)), (mr 6, .inl (kI, 3002, .inl fa))]) [3, 0, 4] (by decide) rfl
              replace hKc := hK.sub (tys' := [(kI, .int)]) [0] rfl
              replace hFc := va_freeT (wc := [(m9, .inr (23, mA mr mv vf xl (nI zs) 0 xa (nI T) (nI pp) xi xt xn (nI (ns + 1)) (nI vv) (nI bb))), (mr 5, .inl (kI, 3002, .inl fk)), (mr 6, .inl (kI, 3002, .inl fa))]) hD hS hA [3, 0, 4] rfl
              refine va_callv (va_runV (As := []) (rest := []) ⟨hx, hb, hml, hown, hts⟩ (c_rboN l dC dI m9 mr mv vf xl xa xi xt xn zs T pp (ns + 1) vv bb kI fk fa H.size hT hp (by omega) hv_21) (cwV 0 hts g_c_xuy_c_rboN_135 rfl rfl rfl (by decide +kernel) ⟨by show 1 + 1 ≤ 6 + 12 * k; omega, by show 8 + (1 + 11) + (22) ≤ 130 + 279 * k; omega⟩) ⟨fun a U g mk q => by obtain ⟨q0, q1, qP, qK, qD⟩ := q; exact ⟨q0, q1, qP, va_K.moved (u := U) (U := U.calling g mk a) (Vm.Alike.refl U.vm) qK, qD⟩, va_recv hKc hPc (ci := 23) (q0 := 0) rfl rfl, fun U hU hW => ⟨rfl, by rw [hU], by rw [hU]; exact hPc, va_K.moved hW.alike hKc, hDc.weaken (fun _ _ _ _ => trivial)⟩⟩ rfl rfl hl.1 rfl (lv_room (Nat.le_of_ble_eq_true rfl)) dX23_unary_135 ⟨(show 1 + 0 ≤ (8 * (T - pp) + 7) by omega), (show 14 + 0 ≤ (120 * (T - pp) + 340) by omega)⟩) hS (fun q _ h => hFc q h) hFc (fun u tS H1 locs ht hvm hw hB hz1 hk1 hS => ?_)
              obtain ⟨ff_22, xa_23, hf24_0, hP1, hK1, hD1⟩ := hB
              rw [ht] at hP1
              replace hK1 := va_K.moved hvm.symm hK1
              obtain ⟨hPj, hDj⟩ := va_joinT (wr := [(mr 8, .inl (kL, 3002, .inr (.inl fn))), (q_1, .inr (15, [.int 12, .int (nI pp), .int 0, .int 0, .int 0, .int 0, .long 0, .int 0, .null, .null, .null, .int 0, .null, .null]))]) (w1 := [(m9, .inr (23, mA mr mv vf xl (nI zs) ff_22 xa_23 (nI T) (nI pp) xi xt xn (nI (ns + 1)) (nI vv) (nI (bb + 1)))), (mr 5, .inl (kI, 3002, .inl fk)), (mr 6, .inl (kI, 3002, .inl fa))]) hP hD [3, 0, 4] [1, 2] rfl rfl (by decide) (by decide) hk1 hFc hP1 hD1
              replace hP := hPj
              replace hD := hDj
              clear hPj hDj
              replace hK := hK.app hK1
              generalize H1 = H at hP hS ⊢
              replace hP : va_P (dC, dI) vwCl (([(mr 8, .inl (kL, 3002, .inr (.inl fn))), (q_1, .inr (15, [.int 12, .int (nI pp), .int 0, .int 0, .int 0, .int 0, .long 0, .int 0, .null, .null, .null, .int 0, .null, .null])), (m9, .inr (23, mA mr mv vf xl (nI zs) ff_22 xa_23 (nI T) (nI pp) xi xt xn (nI (ns + 1)) (nI vv) (nI (bb + 1)))), (mr 5, .inl (kI, 3002, .inl fk)), (mr 6, .inl (kI, 3002, .inl fa))] : va_W) ++ (sT L F)) H := hP
              replace hD : va_D A (([(mr 8, .inl (kL, 3002, .inr (.inl fn))), (q_1, .inr (15, [.int 12, .int (nI pp), .int 0, .int 0, .int 0, .int 0, .long 0, .int 0, .null, .null, .null, .int 0, .null, .null])), (m9, .inr (23, mA mr mv vf xl (nI zs) ff_22 xa_23 (nI T) (nI pp) xi xt xn (nI (ns + 1)) (nI vv) (nI (bb + 1)))), (mr 5, .inl (kI, 3002, .inl fk)), (mr 6, .inl (kI, 3002, .inl fa))] : va_W) ++ (sT L F)) := hD
              replace hK : va_K (dC, dI) vwCl [(kI, .int), (kL, .long), (kE, .object RX15), (kI, .int)] s := hK
              replace hK := hK.sub (tys' := [(kI, .int), (kL, .long), (kE, .object RX15)]) [0, 1, 2] rfl
              clear hz1 hk1 hPc hDc hKc hFc hP1 hD1 hK1
              refine lv_aload_n hx hb dX23_unary_138 rfl (lv_at hl 2 rfl) ?_
              refine lv_dup hx hb dX23_unary_139 rfl ?_
              refine va_get (D := (dC, dI)) (ci := 23) (v := .int (nI pp)) (C := RX23) (T := TX23) (N := 89) hx hb hts in_c_xuy_X23 hown hK hP 2 rfl rfl 10 (by decide) (hts (.fieldLink RX23 86 "OwnedPlacesModel" "p" "I") (wm_c_xuy 16 rfl)) (fun _ h9 => h9) rfl dX23_unary_140 ?_
              refine lv_iconst (v := 1) hx hb dX23_unary_143 (by decide) ?_
              refine lv_iadd hx hb dX23_unary_144 ?_
              refine lv_topi (fun f_25 ef_25 => ?_)
              obtain rfl : f_25 = nI (pp + 1) := ef_25.trans (nI_1 _)
              refine va_put (D := (dC, dI)) (ci := 23) (v := .int (nI (pp + 1))) (ty := .int) (C := RX23) (T := TX23) (N := 89) hx hb hts in_c_xuy_X23 tyX23 tyX23_ok nmX23 hown hK hP hD hS 2 rfl rfl 10 (by decide) (hts (.fieldLink RX23 86 "OwnedPlacesModel" "p" "I") (wm_c_xuy 16 rfl)) (fun _ h9 => h9) rfl (by decide +kernel) rfl rfl (Nat.le_of_ble_eq_true rfl) dX23_unary_145 (fun H locs hP hD hS => ?_)
              replace hP : va_P (dC, dI) vwCl (([(mr 8, .inl (kL, 3002, .inr (.inl fn))), (q_1, .inr (15, [.int 12, .int (nI pp), .int 0, .int 0, .int 0, .int 0, .long 0, .int 0, .null, .null, .null, .int 0, .null, .null])), (m9, .inr (23, mA mr mv vf xl (nI zs) ff_22 xa_23 (nI T) (nI (pp + 1)) xi xt xn (nI (ns + 1)) (nI vv) (nI (bb + 1)))), (mr 5, .inl (kI, 3002, .inl fk)), (mr 6, .inl (kI, 3002, .inl fa))] : va_W) ++ (sT L F)) H := hP
              replace hD : va_D A (([(mr 8, .inl (kL, 3002, .inr (.inl fn))), (q_1, .inr (15, [.int 12, .int (nI pp), .int 0, .int 0, .int 0, .int 0, .long 0, .int 0, .null, .null, .null, .int 0, .null, .null])), (m9, .inr (23, mA mr mv vf xl (nI zs) ff_22 xa_23 (nI T) (nI (pp + 1)) xi xt xn (nI (ns + 1)) (nI vv) (nI (bb + 1)))), (mr 5, .inl (kI, 3002, .inl fk)), (mr 6, .inl (kI, 3002, .inl fa))] : va_W) ++ (sT L F)) := hD
              have hp_26 : pp + 1 < T := kne3 hk0 hp hk_12 (by decide)
              refine lv_iload_n hx hb dX23_unary_148 rfl (lv_at hl 0 rfl) ?_
              refine lv_bipush (v := 55) hx hb dX23_unary_149 (by decide) ?_
              refine lv_icmp_ne (tgt := 164) hx hb dX23_unary_151 (by decide) (fun c_27 => absurd c_27 (fun q9 => q9 hk_12)) (fun _ => ?_)
              refine lv_aload_n hx hb dX23_unary_154 rfl (lv_at hl 1 rfl) ?_
              refine lv_aload_n hx hb dX23_unary_155 rfl (lv_at hl 2 rfl) ?_
              refine lv_bipush (v := 14) hx hb dX23_unary_156 (by decide) ?_
              replace hPc := hP.subF (f' := [(m9, .inr (23, mA mr mv vf xl (nI zs) ff_22 xa_23 (nI T) (nI (pp + 1)) xi xt xn (nI (ns + 1)) (nI vv) (nI (bb + 1)))), (mr 5, .inl (kI, 3002, .inl fk))]) [2, 3] rfl
              replace hDc := hD.subF (f' := [(m9, .inr (23, mA mr mv vf xl (nI zs) ff_22 xa_23 (nI T) (nI (pp + 1)) xi xt xn (nI (ns + 1)) (nI vv) (nI (bb + 1)))), (mr 5, .inl (kI, 3002, .inl fk))]) [2, 3] (by decide) rfl
              replace hKc := hK.sub (tys' := [(kI, .int)]) [0] rfl
              replace hFc := va_freeT (wc := [(m9, .inr (23, mA mr mv vf xl (nI zs) ff_22 xa_23 (nI T) (nI (pp + 1)) xi xt xn (nI (ns + 1)) (nI vv) (nI (bb + 1)))), (mr 5, .inl (kI, 3002, .inl fk))]) hD hS hA [2, 3] rfl
              refine va_calli (va_runV (As := [.int 14]) (rest := [.ref q_1]) ⟨hx, hb, hml, hown, hts⟩ (c_rtsB l dC dI m9 mr mv vf xl xa_23 xi xt xn zs T (pp + 1) (ns + 1) vv (bb + 1) kI fk fa ff_22 14 H.size hf24_0) (cwV 1 hts g_c_xuy_c_rtsB_158 rfl rfl rfl (by decide +kernel) ⟨by show 1 + 1 ≤ 6 + 12 * k; omega, by show 8 + (2 + 11) + (20) ≤ 130 + 279 * k; omega⟩) ⟨fun a U g mk q => by obtain ⟨q0, q1, qP, qK, qD⟩ := q; exact ⟨q0, q1, qP, va_K.moved (u := U) (U := U.calling g mk a) (Vm.Alike.refl U.vm) qK, qD⟩, va_recv hKc hPc (ci := 23) (q0 := 0) rfl rfl, fun U hU hW => ⟨rfl, by rw [hU], by rw [hU]; exact hPc, va_K.moved hW.alike hKc, hDc.weaken (fun _ _ _ _ => trivial)⟩⟩ rfl rfl hl.1 rfl (lv_room (Nat.le_of_ble_eq_true rfl)) dX23_unary_158 ⟨(show 1 + 0 ≤ (8 * (T - pp) + 7) by omega), (show 14 + 0 ≤ (120 * (T - pp) + 340) by omega)⟩) hS (fun q _ h => hFc q h) hFc (fun r_28 u tS H1 locs ht hvm hw hB hz1 hk1 hS => ?_)
              obtain ⟨hP1, hK1, hD1⟩ := hB
              rw [ht] at hP1
              replace hK1 := va_K.moved hvm.symm hK1
              obtain ⟨hPj, hDj⟩ := va_joinT (wr := [(mr 8, .inl (kL, 3002, .inr (.inl fn))), (q_1, .inr (15, [.int 12, .int (nI pp), .int 0, .int 0, .int 0, .int 0, .long 0, .int 0, .null, .null, .null, .int 0, .null, .null])), (mr 6, .inl (kI, 3002, .inl fa))]) (w1 := [(m9, .inr (23, mA mr mv vf xl (nI zs) ff_22 xa_23 (nI T) (nI (pp + 1)) xi xt xn (nI (ns + 1)) (nI vv) (nI (bb + 1)))), (mr 5, .inl (kI, 3002, .inl fk))]) hP hD [2, 3] [0, 1, 4] rfl rfl (by decide) (by decide) hk1 hFc hP1 hD1
              replace hP := hPj
              replace hD := hDj
              clear hPj hDj
              replace hK := hK.app hK1
              generalize H1 = H at hP hS ⊢
              replace hP : va_P (dC, dI) vwCl (([(mr 8, .inl (kL, 3002, .inr (.inl fn))), (q_1, .inr (15, [.int 12, .int (nI pp), .int 0, .int 0, .int 0, .int 0, .long 0, .int 0, .null, .null, .null, .int 0, .null, .null])), (mr 6, .inl (kI, 3002, .inl fa)), (m9, .inr (23, mA mr mv vf xl (nI zs) ff_22 xa_23 (nI T) (nI (pp + 1)) xi xt xn (nI (ns + 1)) (nI vv) (nI (bb + 1)))), (mr 5, .inl (kI, 3002, .inl fk))] : va_W) ++ (sT L F)) H := hP
              replace hD : va_D A (([(mr 8, .inl (kL, 3002, .inr (.inl fn))), (q_1, .inr (15, [.int 12, .int (nI pp), .int 0, .int 0, .int 0, .int 0, .long 0, .int 0, .null, .null, .null, .int 0, .null, .null])), (mr 6, .inl (kI, 3002, .inl fa)), (m9, .inr (23, mA mr mv vf xl (nI zs) ff_22 xa_23 (nI T) (nI (pp + 1)) xi xt xn (nI (ns + 1)) (nI vv) (nI (bb + 1)))), (mr 5, .inl (kI, 3002, .inl fk))] : va_W) ++ (sT L F)) := hD
              replace hK : va_K (dC, dI) vwCl [(kI, .int), (kL, .long), (kE, .object RX15), (kI, .int)] s := hK
              replace hK := hK.sub (tys' := [(kI, .int), (kL, .long), (kE, .object RX15)]) [0, 1, 2] rfl
              clear hz1 hk1 hPc hDc hKc hFc hP1 hD1 hK1
              obtain rfl : r_28 = 0 := hw
              refine va_put (D := (dC, dI)) (ci := 15) (v := .int 0) (ty := .boolean) (C := RX15) (T := TX15) (N := 14) hx hb hts in_c_xuy_X15 tyX15 tyX15_ok nmX15 hown hK hP hD hS 1 rfl rfl 7 (by decide) (hts (.fieldLink RX23 358 "OwnedPlacesModel$Exp" "mut" "Z") (wm_c_xuy 47 rfl)) (fun _ h9 => h9) rfl (by decide +kernel) (by decide) (by decide) (Nat.le_of_ble_eq_true rfl) dX23_unary_161 (fun H locs hP hD hS => ?_)
              replace hP : va_P (dC, dI) vwCl (([(mr 8, .inl (kL, 3002, .inr (.inl fn))), (q_1, .inr (15, [.int 12, .int (nI pp), .int 0, .int 0, .int 0, .int 0, .long 0, .int 0, .null, .null, .null, .int 0, .null, .null])), (mr 6, .inl (kI, 3002, .inl fa)), (m9, .inr (23, mA mr mv vf xl (nI zs) ff_22 xa_23 (nI T) (nI (pp + 1)) xi xt xn (nI (ns + 1)) (nI vv) (nI (bb + 1)))), (mr 5, .inl (kI, 3002, .inl fk))] : va_W) ++ (sT L F)) H := hP
              replace hD : va_D A (([(mr 8, .inl (kL, 3002, .inr (.inl fn))), (q_1, .inr (15, [.int 12, .int (nI pp), .int 0, .int 0, .int 0, .int 0, .long 0, .int 0, .null, .null, .null, .int 0, .null, .null])), (mr 6, .inl (kI, 3002, .inl fa)), (m9, .inr (23, mA mr mv vf xl (nI zs) ff_22 xa_23 (nI T) (nI (pp + 1)) xi xt xn (nI (ns + 1)) (nI vv) (nI (bb + 1)))), (mr 5, .inl (kI, 3002, .inl fk))] : va_W) ++ (sT L F)) := hD
              refine lv_aload_n hx hb dX23_unary_164 rfl (lv_at hl 1 rfl) ?_
              refine lv_aload_n hx hb dX23_unary_165 rfl (lv_at hl 2 rfl) ?_
              replace hPc := hP.subT (f' := [(m9, .inr (23, mA mr mv vf xl (nI zs) ff_22 xa_23 (nI T) (nI (pp + 1)) xi xt xn (nI (ns + 1)) (nI vv) (nI (bb + 1)))), (mr 5, .inl (kI, 3002, .inl fk)), (mr 6, .inl (kI, 3002, .inl fa))]) [3, 4, 2] rfl
              replace hDc := hD.subT (f' := [(m9, .inr (23, mA mr mv vf xl (nI zs) ff_22 xa_23 (nI T) (nI (pp + 1)) xi xt xn (nI (ns + 1)) (nI vv) (nI (bb + 1)))), (mr 5, .inl (kI, 3002, .inl fk)), (mr 6, .inl (kI, 3002, .inl fa))]) [3, 4, 2] (by decide) rfl
              replace hKc := hK.sub (tys' := [(kI, .int)]) [0] rfl
              replace hFc := va_freeB (wc := [(m9, .inr (23, mA mr mv vf xl (nI zs) ff_22 xa_23 (nI T) (nI (pp + 1)) xi xt xn (nI (ns + 1)) (nI vv) (nI (bb + 1)))), (mr 5, .inl (kI, 3002, .inl fk)), (mr 6, .inl (kI, 3002, .inl fa))]) hD hS hA [3, 4, 2] rfl
              refine W.grow (fun hgs0 hgs1 => ?_)
              refine va_callr (va_runV (As := []) (rest := [.ref q_1]) ⟨hx, hb, hml, hown, hts⟩ (c_xunB l dC dI m9 mr mv vf xl xa_23 xi xt xn zs T (pp + 1) (ns + 1) vv (bb + 1) kI fk fa ff_22 L F (slN H) H.size hf24_0) (cwV 0 hts g_c_xuy_c_xunB_166 rfl rfl rfl (by decide +kernel) ⟨by show 2 + 1 ≤ 6 + 12 * k; omega, by show 8 + (3 + 11) + (32) ≤ 130 + 279 * k; omega⟩) ⟨fun a U g mk q => by obtain ⟨q0, q1, qP, qK, qD, qx0, qx1⟩ := q; exact ⟨q0, q1, qP, va_K.moved (u := U) (U := U.calling g mk a) (Vm.Alike.refl U.vm) qK, qD, nsM.same (u := U) (U := U.calling g mk a) rfl qx0, qx1⟩, va_recv hKc hPc (ci := 23) (q0 := 0) rfl rfl, fun U hU hW => ⟨rfl, by rw [hU], by rw [hU]; exact hPc, va_K.moved hW.alike hKc, hDc.weaken (fun _ _ _ _ => trivial), nsM.warm hW hns, by rw [hU]⟩⟩ rfl rfl hl.1 rfl (lv_room (Nat.le_of_ble_eq_true rfl)) dX23_unary_166 ⟨(show 1 + 1 ≤ (8 * (T - pp) + 7) by omega), (show 14 + 14 ≤ (120 * (T - pp) + 340) by omega)⟩) hS (fun q _ h => hFc q h) hFc (fun u r_29 tS H1 locs ht hvm hw hB hz1 hk1 hS => ?_)
              obtain ⟨L8, F8, hf29_0, hf29_1, hP1, hK1, hD1⟩ := hB
              rw [ht] at hP1
              replace hK1 := va_K.moved hvm.symm hK1
              rw [ht] at hf29_1
              have hgz : H1.size ≤ s.heap.size + ((1 + 1)) ∧ slN H1 ≤ slN s.heap + ((14 + 14)) := ⟨by have := hf29_1.1; omega, by have := hf29_1.2; omega⟩
              obtain ⟨hPj, hDj⟩ := va_joinB (wr := [(mr 8, .inl (kL, 3002, .inr (.inl fn))), (q_1, .inr (15, [.int 12, .int (nI pp), .int 0, .int 0, .int 0, .int 0, .long 0, .int 0, .null, .null, .null, .int 0, .null, .null]))]) (w1 := [(m9, .inr (23, mA mr mv vf xl (nI zs) ff_22 xa_23 (nI T) (nI (pp + 1)) xi xt xn (nI (ns + 1)) (nI vv) (nI (bb + 1)))), (mr 5, .inl (kI, 3002, .inl fk)), (mr 6, .inl (kI, 3002, .inl fa))]) hP hD [3, 4, 2] [0, 1] rfl rfl (by decide) (by decide) hk1 hFc hP1 hD1
              replace hP := hPj
              replace hD := hDj
              clear hPj hDj
              replace hK := hK.app hK1
              generalize H1 = H at hP hS hgz ⊢
              replace hP : va_P (dC, dI) vwCl (([(mr 8, .inl (kL, 3002, .inr (.inl fn))), (q_1, .inr (15, [.int 12, .int (nI pp), .int 0, .int 0, .int 0, .int 0, .long 0, .int 0, .null, .null, .null, .int 0, .null, .null])), (m9, .inr (23, mA mr mv vf xl (nI zs) ff_22 xa_23 (nI T) (nI (pp + 1)) xi xt xn (nI (ns + 1)) (nI vv) (nI (bb + 1)))), (mr 5, .inl (kI, 3002, .inl fk)), (mr 6, .inl (kI, 3002, .inl fa))] : va_W) ++ (sT L8 F8)) H := hP
              replace hD : va_D A (([(mr 8, .inl (kL, 3002, .inr (.inl fn))), (q_1, .inr (15, [.int 12, .int (nI pp), .int 0, .int 0, .int 0, .int 0, .long 0, .int 0, .null, .null, .null, .int 0, .null, .null])), (m9, .inr (23, mA mr mv vf xl (nI zs) ff_22 xa_23 (nI T) (nI (pp + 1)) xi xt xn (nI (ns + 1)) (nI vv) (nI (bb + 1)))), (mr 5, .inl (kI, 3002, .inl fk)), (mr 6, .inl (kI, 3002, .inl fa))] : va_W) ++ (sT L8 F8)) := hD
              replace hK : va_K (dC, dI) vwCl [(kI, .int), (kL, .long), (kE, .object RX15), (kI, .int)] s := hK
              replace hK := hK.sub (tys' := [(kI, .int), (kL, .long), (kE, .object RX15)]) [0, 1, 2] rfl
              refine W.tight (k := (1 + 1)) (n := (14 + 14)) hgz.1 hgz.2 ?_
              clear hz1 hk1 hPc hDc hKc hFc hP1 hD1 hK1
              refine va_put (D := (dC, dI)) (ci := 15) (v := .ref r_29) (ty := (.object "OwnedPlacesModel$Exp")) (C := RX15) (T := TX15) (N := 14) hx hb hts in_c_xuy_X15 tyX15 tyX15_ok nmX15 hown hK hP hD hS 1 rfl rfl 8 (by decide) (hts (.fieldLink RX23 331 "OwnedPlacesModel$Exp" "of" "LOwnedPlacesModel$Exp;") (wm_c_xuy 33 rfl)) (fun _ h9 => h9) rfl (by decide +kernel) rfl rfl (Nat.le_of_ble_eq_true rfl) dX23_unary_169 (fun H locs hP hD hS => ?_)
              replace hP : va_P (dC, dI) vwCl (([(mr 8, .inl (kL, 3002, .inr (.inl fn))), (q_1, .inr (15, [.int 12, .int (nI pp), .int 0, .int 0, .int 0, .int 0, .long 0, .int 0, .ref r_29, .null, .null, .int 0, .null, .null])), (m9, .inr (23, mA mr mv vf xl (nI zs) ff_22 xa_23 (nI T) (nI (pp + 1)) xi xt xn (nI (ns + 1)) (nI vv) (nI (bb + 1)))), (mr 5, .inl (kI, 3002, .inl fk)), (mr 6, .inl (kI, 3002, .inl fa))] : va_W) ++ (sT L8 F8)) H := hP
              replace hD : va_D A (([(mr 8, .inl (kL, 3002, .inr (.inl fn))), (q_1, .inr (15, [.int 12, .int (nI pp), .int 0, .int 0, .int 0, .int 0, .long 0, .int 0, .ref r_29, .null, .null, .int 0, .null, .null])), (m9, .inr (23, mA mr mv vf xl (nI zs) ff_22 xa_23 (nI T) (nI (pp + 1)) xi xt xn (nI (ns + 1)) (nI vv) (nI (bb + 1)))), (mr 5, .inl (kI, 3002, .inl fk)), (mr 6, .inl (kI, 3002, .inl fa))] : va_W) ++ (sT L8 F8)) := hD
              refine lv_aload_n hx hb dX23_unary_172 rfl (lv_at hl 2 rfl) ?_
              refine lv_dup hx hb dX23_unary_173 rfl ?_
              refine va_get (D := (dC, dI)) (ci := 23) (v := .int (nI (ns + 1))) (C := RX23) (T := TX23) (N := 89) hx hb hts in_c_xuy_X23 hown hK hP 2 rfl rfl 15 (by decide) (hts (.fieldLink RX23 104 "OwnedPlacesModel" "nest" "I") (wm_c_xuy 20 rfl)) (fun _ h9 => h9) rfl dX23_unary_174 ?_
              refine lv_iconst (v := 1) hx hb dX23_unary_177 (by decide) ?_
              refine lv_isub hx hb dX23_unary_178 ?_
              refine lv_topi (fun f_30 ef_30 => ?_)
              obtain rfl : f_30 = nI ns := ef_30.trans (nI_pred _)
              refine va_put (D := (dC, dI)) (ci := 23) (v := .int (nI ns)) (ty := .int) (C := RX23) (T := TX23) (N := 89) hx hb hts in_c_xuy_X23 tyX23 tyX23_ok nmX23 hown hK hP hD hS 2 rfl rfl 15 (by decide) (hts (.fieldLink RX23 104 "OwnedPlacesModel" "nest" "I") (wm_c_xuy 20 rfl)) (fun _ h9 => h9) rfl (by decide +kernel) rfl rfl (Nat.le_of_ble_eq_true rfl) dX23_unary_179 (fun H locs hP hD hS => ?_)
              replace hP : va_P (dC, dI) vwCl (([(mr 8, .inl (kL, 3002, .inr (.inl fn))), (q_1, .inr (15, [.int 12, .int (nI pp), .int 0, .int 0, .int 0, .int 0, .long 0, .int 0, .ref r_29, .null, .null, .int 0, .null, .null])), (m9, .inr (23, mA mr mv vf xl (nI zs) ff_22 xa_23 (nI T) (nI (pp + 1)) xi xt xn (nI ns) (nI vv) (nI (bb + 1)))), (mr 5, .inl (kI, 3002, .inl fk)), (mr 6, .inl (kI, 3002, .inl fa))] : va_W) ++ (sT L8 F8)) H := hP
              replace hD : va_D A (([(mr 8, .inl (kL, 3002, .inr (.inl fn))), (q_1, .inr (15, [.int 12, .int (nI pp), .int 0, .int 0, .int 0, .int 0, .long 0, .int 0, .ref r_29, .null, .null, .int 0, .null, .null])), (m9, .inr (23, mA mr mv vf xl (nI zs) ff_22 xa_23 (nI T) (nI (pp + 1)) xi xt xn (nI ns) (nI vv) (nI (bb + 1)))), (mr 5, .inl (kI, 3002, .inl fk)), (mr 6, .inl (kI, 3002, .inl fa))] : va_W) ++ (sT L8 F8)) := hD
              refine lv_aload_n hx hb dX23_unary_182 rfl (lv_at hl 1 rfl) ?_
              replace hP : va_P (dC, dI) vwCl ((([(mr 8, .inl (kL, 3002, .inr (.inl fn))), (m9, .inr (23, mA mr mv vf xl (nI zs) ff_22 xa_23 (nI T) (nI (pp + 1)) xi xt xn (nI ns) (nI vv) (nI (bb + 1)))), (mr 5, .inl (kI, 3002, .inl fk)), (mr 6, .inl (kI, 3002, .inl fa))] : va_W) ++ ([(q_1, .inr (15, [.int 12, .int (nI pp), .int 0, .int 0, .int 0, .int 0, .long 0, .int 0, .ref r_29, .null, .null, .int 0, .null, .null]))] : va_W)) ++ sT L8 F8) H := hP.subT (f' := [(mr 8, .inl (kL, 3002, .inr (.inl fn))), (m9, .inr (23, mA mr mv vf xl (nI zs) ff_22 xa_23 (nI T) (nI (pp + 1)) xi xt xn (nI ns) (nI vv) (nI (bb + 1)))), (mr 5, .inl (kI, 3002, .inl fk)), (mr 6, .inl (kI, 3002, .inl fa)), (q_1, .inr (15, [.int 12, .int (nI pp), .int 0, .int 0, .int 0, .int 0, .long 0, .int 0, .ref r_29, .null, .null, .int 0, .null, .null]))]) [0, 2, 3, 4, 1] rfl
              replace hD : va_D A ((([(mr 8, .inl (kL, 3002, .inr (.inl fn))), (m9, .inr (23, mA mr mv vf xl (nI zs) ff_22 xa_23 (nI T) (nI (pp + 1)) xi xt xn (nI ns) (nI vv) (nI (bb + 1)))), (mr 5, .inl (kI, 3002, .inl fk)), (mr 6, .inl (kI, 3002, .inl fa))] : va_W) ++ ([(q_1, .inr (15, [.int 12, .int (nI pp), .int 0, .int 0, .int 0, .int 0, .long 0, .int 0, .ref r_29, .null, .null, .int 0, .null, .null]))] : va_W)) ++ sT L8 F8) := hD.subT (f' := [(mr 8, .inl (kL, 3002, .inr (.inl fn))), (m9, .inr (23, mA mr mv vf xl (nI zs) ff_22 xa_23 (nI T) (nI (pp + 1)) xi xt xn (nI ns) (nI vv) (nI (bb + 1)))), (mr 5, .inl (kI, 3002, .inl fk)), (mr 6, .inl (kI, 3002, .inl fa)), (q_1, .inr (15, [.int 12, .int (nI pp), .int 0, .int 0, .int 0, .int 0, .long 0, .int 0, .ref r_29, .null, .null, .int 0, .null, .null]))]) [0, 2, 3, 4, 1] (by decide) rfl
              obtain ⟨L9, F9, hx9, hm9, hP, hD⟩ := st_fileL [(q_1, .inr (15, [.int 12, .int (nI pp), .int 0, .int 0, .int 0, .int 0, .long 0, .int 0, .ref r_29, .null, .null, .int 0, .null, .null]))] hP hD
              have hm9_0 := hm9 _ (List.mem_of_getElem? (i := 0) rfl)
              refine W.grow (fun hgs0 hgs1 => ?_)
              have hP9 := hP.subT (f' := [(m9, .inr (23, mA mr mv vf xl (nI zs) ff_22 xa_23 (nI T) (nI (pp + 1)) xi xt xn (nI ns) (nI vv) (nI (bb + 1)))), (mr 5, .inl (kI, 3002, .inl fk)), (mr 6, .inl (kI, 3002, .inl fa)), (mr 8, .inl (kL, 3002, .inr (.inl fn)))]) [1, 2, 3, 0] rfl
              have hD9 := hD.subT (f' := [(m9, .inr (23, mA mr mv vf xl (nI zs) ff_22 xa_23 (nI T) (nI (pp + 1)) xi xt xn (nI ns) (nI vv) (nI (bb + 1)))), (mr 5, .inl (kI, 3002, .inl fk)), (mr 6, .inl (kI, 3002, .inl fa)), (mr 8, .inl (kL, 3002, .inr (.inl fn)))]) [1, 2, 3, 0] (by decide) rfl
              have hK9 := hK.sub (tys' := [(kI, .int), (kL, .long), (kE, .object RX15)]) [0, 1, 2] rfl
              refine W.widen (k := (8 * (T - pp) + 7)) (n := (120 * (T - pp) + 340)) (by omega) (by omega) ?_
              exact W.aret hx hb hr (Or.inl ⟨_, rfl⟩) (Or.inr ⟨q_1, rfl⟩) (fun tS ht hW => ⟨⟨(), q_1, rfl, trivial, L9, F9, ff_22, xa_23, pp + 1, bb + 1, ⟨(hf29_0.1).tr hx9, hm9_0.1, _, hm9_0.2⟩, ⟨by omega, by omega, by omega, by omega⟩, (fun q9 => absurd q9 hf24_0), by rw [ht]; exact ⟨by omega, by omega⟩, by rw [ht]; exact hP9, va_K.moved hW.alike hK9, hD9⟩, hS.F ht⟩) hS.2.2 dX23_unary_183
            · replace hPc := hP.subF (f' := [(m9, .inr (23, mA mr mv vf xl (nI zs) 0 xa (nI T) (nI pp) xi xt xn (nI (ns + 1)) (nI vv) (nI bb))), (mr 5, .inl (kI, 3002, .inl fk)), (mr 6, .inl (kI, 3002, .inl fa))]) [3, 0, 4] rfl
              replace hDc := hD.subF (f' := [(m9, .inr (23, mA mr mv vf xl (nI zs) 0 xa (nI T) (nI pp) xi xt xn (nI (ns + 1)) (nI vv) (nI bb))), (mr 5, .inl (kI, 3002, .inl fk)), (mr 6, .inl (kI, 3002, .inl fa))]) [3, 0, 4] (by decide) rfl
              replace hKc := hK.sub (tys' := [(kI, .int)]) [0] rfl
              replace hFc := va_freeT (wc := [(m9, .inr (23, mA mr mv vf xl (nI zs) 0 xa (nI T) (nI pp) xi xt xn (nI (ns + 1)) (nI vv) (nI bb))), (mr 5, .inl (kI, 3002, .inl fk)), (mr 6, .inl (kI, 3002, .inl fa))]) hD hS hA [3, 0, 4] rfl
              refine va_callv (va_runV (As := []) (rest := []) ⟨hx, hb, hml, hown, hts⟩ (c_rboY l dC dI m9 mr mv vf xl xa xi xt xn zs T pp (ns + 1) vv bb kI fk fa H.size hT hp (by omega) hv_21) (cwV 0 hts g_c_xuy_c_rboY_135 rfl rfl rfl (by decide +kernel) ⟨by show 1 + 1 ≤ 6 + 12 * k; omega, by show 8 + (1 + 11) + (20) ≤ 130 + 279 * k; omega⟩) ⟨fun a U g mk q => by obtain ⟨q0, q1, qP, qK, qD⟩ := q; exact ⟨q0, q1, qP, va_K.moved (u := U) (U := U.calling g mk a) (Vm.Alike.refl U.vm) qK, qD⟩, va_recv hKc hPc (ci := 23) (q0 := 0) rfl rfl, fun U hU hW => ⟨rfl, by rw [hU], by rw [hU]; exact hPc, va_K.moved hW.alike hKc, hDc.weaken (fun _ _ _ _ => trivial)⟩⟩ rfl rfl hl.1 rfl (lv_room (Nat.le_of_ble_eq_true rfl)) dX23_unary_135 ⟨(show 1 + 0 ≤ (8 * (T - pp) + 7) by omega), (show 14 + 0 ≤ (120 * (T - pp) + 340) by omega)⟩) hS (fun q _ h => hFc q h) hFc (fun u tS H1 locs ht hvm hw hB hz1 hk1 hS => ?_)
              obtain ⟨hP1, hK1, hD1⟩ := hB
              rw [ht] at hP1
              replace hK1 := va_K.moved hvm.symm hK1
              obtain ⟨hPj, hDj⟩ := va_joinT (wr := [(mr 8, .inl (kL, 3002, .inr (.inl fn))), (q_1, .inr (15, [.int 12, .int (nI pp), .int 0, .int 0, .int 0, .int 0, .long 0, .int 0, .null, .null, .null, .int 0, .null, .null]))]) (w1 := [(m9, .inr (23, mA mr mv vf xl (nI zs) 0 xa (nI T) (nI pp) xi xt xn (nI (ns + 1)) (nI vv) (nI (bb + 1)))), (mr 5, .inl (kI, 3002, .inl fk)), (mr 6, .inl (kI, 3002, .inl fa))]) hP hD [3, 0, 4] [1, 2] rfl rfl (by decide) (by decide) hk1 hFc hP1 hD1
              replace hP := hPj
              replace hD := hDj
              clear hPj hDj
              replace hK := hK.app hK1
              generalize H1 = H at hP hS ⊢
              replace hP : va_P (dC, dI) vwCl (([(mr 8, .inl (kL, 3002, .inr (.inl fn))), (q_1, .inr (15, [.int 12, .int (nI pp), .int 0, .int 0, .int 0, .int 0, .long 0, .int 0, .null, .null, .null, .int 0, .null, .null])), (m9, .inr (23, mA mr mv vf xl (nI zs) 0 xa (nI T) (nI pp) xi xt xn (nI (ns + 1)) (nI vv) (nI (bb + 1)))), (mr 5, .inl (kI, 3002, .inl fk)), (mr 6, .inl (kI, 3002, .inl fa))] : va_W) ++ (sT L F)) H := hP
              replace hD : va_D A (([(mr 8, .inl (kL, 3002, .inr (.inl fn))), (q_1, .inr (15, [.int 12, .int (nI pp), .int 0, .int 0, .int 0, .int 0, .long 0, .int 0, .null, .null, .null, .int 0, .null, .null])), (m9, .inr (23, mA mr mv vf xl (nI zs) 0 xa (nI T) (nI pp) xi xt xn (nI (ns + 1)) (nI vv) (nI (bb + 1)))), (mr 5, .inl (kI, 3002, .inl fk)), (mr 6, .inl (kI, 3002, .inl fa))] : va_W) ++ (sT L F)) := hD
              replace hK : va_K (dC, dI) vwCl [(kI, .int), (kL, .long), (kE, .object RX15), (kI, .int)] s := hK
              replace hK := hK.sub (tys' := [(kI, .int), (kL, .long), (kE, .object RX15)]) [0, 1, 2] rfl
              clear hz1 hk1 hPc hDc hKc hFc hP1 hD1 hK1
              refine lv_aload_n hx hb dX23_unary_138 rfl (lv_at hl 2 rfl) ?_
              refine lv_dup hx hb dX23_unary_139 rfl ?_
              refine va_get (D := (dC, dI)) (ci := 23) (v := .int (nI pp)) (C := RX23) (T := TX23) (N := 89) hx hb hts in_c_xuy_X23 hown hK hP 2 rfl rfl 10 (by decide) (hts (.fieldLink RX23 86 "OwnedPlacesModel" "p" "I") (wm_c_xuy 16 rfl)) (fun _ h9 => h9) rfl dX23_unary_140 ?_
              refine lv_iconst (v := 1) hx hb dX23_unary_143 (by decide) ?_
              refine lv_iadd hx hb dX23_unary_144 ?_
              refine lv_topi (fun f_23 ef_23 => ?_)
              obtain rfl : f_23 = nI (pp + 1) := ef_23.trans (nI_1 _)
              refine va_put (D := (dC, dI)) (ci := 23) (v := .int (nI (pp + 1))) (ty := .int) (C := RX23) (T := TX23) (N := 89) hx hb hts in_c_xuy_X23 tyX23 tyX23_ok nmX23 hown hK hP hD hS 2 rfl rfl 10 (by decide) (hts (.fieldLink RX23 86 "OwnedPlacesModel" "p" "I") (wm_c_xuy 16 rfl)) (fun _ h9 => h9) rfl (by decide +kernel) rfl rfl (Nat.le_of_ble_eq_true rfl) dX23_unary_145 (fun H locs hP hD hS => ?_)
              replace hP : va_P (dC, dI) vwCl (([(mr 8, .inl (kL, 3002, .inr (.inl fn))), (q_1, .inr (15, [.int 12, .int (nI pp), .int 0, .int 0, .int 0, .int 0, .long 0, .int 0, .null, .null, .null, .int 0, .null, .null])), (m9, .inr (23, mA mr mv vf xl (nI zs) 0 xa (nI T) (nI (pp + 1)) xi xt xn (nI (ns + 1)) (nI vv) (nI (bb + 1)))), (mr 5, .inl (kI, 3002, .inl fk)), (mr 6, .inl (kI, 3002, .inl fa))] : va_W) ++ (sT L F)) H := hP
              replace hD : va_D A (([(mr 8, .inl (kL, 3002, .inr (.inl fn))), (q_1, .inr (15, [.int 12, .int (nI pp), .int 0, .int 0, .int 0, .int 0, .long 0, .int 0, .null, .null, .null, .int 0, .null, .null])), (m9, .inr (23, mA mr mv vf xl (nI zs) 0 xa (nI T) (nI (pp + 1)) xi xt xn (nI (ns + 1)) (nI vv) (nI (bb + 1)))), (mr 5, .inl (kI, 3002, .inl fk)), (mr 6, .inl (kI, 3002, .inl fa))] : va_W) ++ (sT L F)) := hD
              have hp_24 : pp + 1 < T := kne3 hk0 hp hk_12 (by decide)
              refine lv_iload_n hx hb dX23_unary_148 rfl (lv_at hl 0 rfl) ?_
              refine lv_bipush (v := 55) hx hb dX23_unary_149 (by decide) ?_
              refine lv_icmp_ne (tgt := 164) hx hb dX23_unary_151 (by decide) (fun c_25 => absurd c_25 (fun q9 => q9 hk_12)) (fun _ => ?_)
              refine lv_aload_n hx hb dX23_unary_154 rfl (lv_at hl 1 rfl) ?_
              refine lv_aload_n hx hb dX23_unary_155 rfl (lv_at hl 2 rfl) ?_
              refine lv_bipush (v := 14) hx hb dX23_unary_156 (by decide) ?_
              by_cases hk_26 : fk (pp + 1) = 14
              · replace hPc := hP.subF (f' := [(m9, .inr (23, mA mr mv vf xl (nI zs) 0 xa (nI T) (nI (pp + 1)) xi xt xn (nI (ns + 1)) (nI vv) (nI (bb + 1)))), (mr 5, .inl (kI, 3002, .inl fk))]) [2, 3] rfl
                replace hDc := hD.subF (f' := [(m9, .inr (23, mA mr mv vf xl (nI zs) 0 xa (nI T) (nI (pp + 1)) xi xt xn (nI (ns + 1)) (nI vv) (nI (bb + 1)))), (mr 5, .inl (kI, 3002, .inl fk))]) [2, 3] (by decide) rfl
                replace hKc := hK.sub (tys' := [(kI, .int)]) [0] rfl
                replace hFc := va_freeT (wc := [(m9, .inr (23, mA mr mv vf xl (nI zs) 0 xa (nI T) (nI (pp + 1)) xi xt xn (nI (ns + 1)) (nI vv) (nI (bb + 1)))), (mr 5, .inl (kI, 3002, .inl fk))]) hD hS hA [2, 3] rfl
                refine va_calli (va_runV (As := [.int 14]) (rest := [.ref q_1]) ⟨hx, hb, hml, hown, hts⟩ (c_rtsY l dC dI m9 mr mv vf xl xa xi xt xn zs T (pp + 1) (ns + 1) vv (bb + 1) kI fk fa 14 H.size hT hp_24 hk0 (by decide) hk_26) (cwV 1 hts g_c_xuy_c_rtsY_158 rfl rfl rfl (by decide +kernel) ⟨by show 1 + 1 ≤ 6 + 12 * k; omega, by show 8 + (2 + 11) + (21) ≤ 130 + 279 * k; omega⟩) ⟨fun a U g mk q => by obtain ⟨q0, q1, qP, qK, qD⟩ := q; exact ⟨q0, q1, qP, va_K.moved (u := U) (U := U.calling g mk a) (Vm.Alike.refl U.vm) qK, qD⟩, va_recv hKc hPc (ci := 23) (q0 := 0) rfl rfl, fun U hU hW => ⟨rfl, by rw [hU], by rw [hU]; exact hPc, va_K.moved hW.alike hKc, hDc.weaken (fun _ _ _ _ => trivial)⟩⟩ rfl rfl hl.1 rfl (lv_room (Nat.le_of_ble_eq_true rfl)) dX23_unary_158 ⟨(show 1 + 0 ≤ (8 * (T - pp) + 7) by omega), (show 14 + 0 ≤ (120 * (T - pp) + 340) by omega)⟩) hS (fun q _ h => hFc q h) hFc (fun r_27 u tS H1 locs ht hvm hw hB hz1 hk1 hS => ?_)
                obtain ⟨hP1, hK1, hD1⟩ := hB
                rw [ht] at hP1
                replace hK1 := va_K.moved hvm.symm hK1
                obtain ⟨hPj, hDj⟩ := va_joinT (wr := [(mr 8, .inl (kL, 3002, .inr (.inl fn))), (q_1, .inr (15, [.int 12, .int (nI pp), .int 0, .int 0, .int 0, .int 0, .long 0, .int 0, .null, .null, .null, .int 0, .null, .null])), (mr 6, .inl (kI, 3002, .inl fa))]) (w1 := [(m9, .inr (23, mA mr mv vf xl (nI zs) 0 xa (nI T) (nI ((pp + 1) + 1)) xi xt xn (nI (ns + 1)) (nI vv) (nI (bb + 1)))), (mr 5, .inl (kI, 3002, .inl fk))]) hP hD [2, 3] [0, 1, 4] rfl rfl (by decide) (by decide) hk1 hFc hP1 hD1
                replace hP := hPj
                replace hD := hDj
                clear hPj hDj
                replace hK := hK.app hK1
                generalize H1 = H at hP hS ⊢
                replace hP : va_P (dC, dI) vwCl (([(mr 8, .inl (kL, 3002, .inr (.inl fn))), (q_1, .inr (15, [.int 12, .int (nI pp), .int 0, .int 0, .int 0, .int 0, .long 0, .int 0, .null, .null, .null, .int 0, .null, .null])), (mr 6, .inl (kI, 3002, .inl fa)), (m9, .inr (23, mA mr mv vf xl (nI zs) 0 xa (nI T) (nI ((pp + 1) + 1)) xi xt xn (nI (ns + 1)) (nI vv) (nI (bb + 1)))), (mr 5, .inl (kI, 3002, .inl fk))] : va_W) ++ (sT L F)) H := hP
                replace hD : va_D A (([(mr 8, .inl (kL, 3002, .inr (.inl fn))), (q_1, .inr (15, [.int 12, .int (nI pp), .int 0, .int 0, .int 0, .int 0, .long 0, .int 0, .null, .null, .null, .int 0, .null, .null])), (mr 6, .inl (kI, 3002, .inl fa)), (m9, .inr (23, mA mr mv vf xl (nI zs) 0 xa (nI T) (nI ((pp + 1) + 1)) xi xt xn (nI (ns + 1)) (nI vv) (nI (bb + 1)))), (mr 5, .inl (kI, 3002, .inl fk))] : va_W) ++ (sT L F)) := hD
                replace hK : va_K (dC, dI) vwCl [(kI, .int), (kL, .long), (kE, .object RX15), (kI, .int)] s := hK
                replace hK := hK.sub (tys' := [(kI, .int), (kL, .long), (kE, .object RX15)]) [0, 1, 2] rfl
                clear hz1 hk1 hPc hDc hKc hFc hP1 hD1 hK1
                obtain rfl : r_27 = 1 := hw
                have hp_28 : pp + 1 + 1 < T := kne3 hk0 hp_24 hk_26 (by decide)
                refine va_put (D := (dC, dI)) (ci := 15) (v := .int 1) (ty := .boolean) (C := RX15) (T := TX15) (N := 14) hx hb hts in_c_xuy_X15 tyX15 tyX15_ok nmX15 hown hK hP hD hS 1 rfl rfl 7 (by decide) (hts (.fieldLink RX23 358 "OwnedPlacesModel$Exp" "mut" "Z") (wm_c_xuy 47 rfl)) (fun _ h9 => h9) rfl (by decide +kernel) (by decide) (by decide) (Nat.le_of_ble_eq_true rfl) dX23_unary_161 (fun H locs hP hD hS => ?_)
                replace hP : va_P (dC, dI) vwCl (([(mr 8, .inl (kL, 3002, .inr (.inl fn))), (q_1, .inr (15, [.int 12, .int (nI pp), .int 0, .int 0, .int 0, .int 0, .long 0, .int 1, .null, .null, .null, .int 0, .null, .null])), (mr 6, .inl (kI, 3002, .inl fa)), (m9, .inr (23, mA mr mv vf xl (nI zs) 0 xa (nI T) (nI (pp + 1 + 1)) xi xt xn (nI (ns + 1)) (nI vv) (nI (bb + 1)))), (mr 5, .inl (kI, 3002, .inl fk))] : va_W) ++ (sT L F)) H := hP
                replace hD : va_D A (([(mr 8, .inl (kL, 3002, .inr (.inl fn))), (q_1, .inr (15, [.int 12, .int (nI pp), .int 0, .int 0, .int 0, .int 0, .long 0, .int 1, .null, .null, .null, .int 0, .null, .null])), (mr 6, .inl (kI, 3002, .inl fa)), (m9, .inr (23, mA mr mv vf xl (nI zs) 0 xa (nI T) (nI (pp + 1 + 1)) xi xt xn (nI (ns + 1)) (nI vv) (nI (bb + 1)))), (mr 5, .inl (kI, 3002, .inl fk))] : va_W) ++ (sT L F)) := hD
                refine lv_aload_n hx hb dX23_unary_164 rfl (lv_at hl 1 rfl) ?_
                refine lv_aload_n hx hb dX23_unary_165 rfl (lv_at hl 2 rfl) ?_
                obtain ⟨k1, hkL⟩ : ∃ k1 : Nat, k = k1 + 1 := ⟨k - 1, by omega⟩
                replace hPc := hP.subT (f' := [(m9, .inr (23, mA mr mv vf xl (nI zs) 0 xa (nI T) (nI (pp + 1 + 1)) xi xt xn (nI (ns + 1)) (nI vv) (nI (bb + 1)))), (mr 5, .inl (kI, 3002, .inl fk)), (mr 6, .inl (kI, 3002, .inl fa)), (mr 8, .inl (kL, 3002, .inr (.inl fn)))]) [3, 4, 2, 0] rfl
                replace hDc := hD.subT (f' := [(m9, .inr (23, mA mr mv vf xl (nI zs) 0 xa (nI T) (nI (pp + 1 + 1)) xi xt xn (nI (ns + 1)) (nI vv) (nI (bb + 1)))), (mr 5, .inl (kI, 3002, .inl fk)), (mr 6, .inl (kI, 3002, .inl fa)), (mr 8, .inl (kL, 3002, .inr (.inl fn)))]) [3, 4, 2, 0] (by decide) rfl
                replace hKc := hK.sub (tys' := [(kI, .int), (kL, .long), (kE, .object RX15)]) [0, 1, 2] rfl
                replace hFc := va_freeB (wc := [(m9, .inr (23, mA mr mv vf xl (nI zs) 0 xa (nI T) (nI (pp + 1 + 1)) xi xt xn (nI (ns + 1)) (nI vv) (nI (bb + 1)))), (mr 5, .inl (kI, 3002, .inl fk)), (mr 6, .inl (kI, 3002, .inl fa)), (mr 8, .inl (kL, 3002, .inr (.inl fn)))]) hD hS hA [3, 4, 2, 0] rfl
                refine W.grow (fun hgs0 hgs1 => ?_)
                refine va_callr (va_runV (As := []) (rest := [.ref q_1]) ⟨hx, hb, hml, hown, hts⟩ ((ih k1 hkL).2.2.2.2.2.1 m9 mr mv vf xl xa xi xt xn zs T (pp + 1 + 1) (ns + 1) vv (bb + 1) kI fk fa kL kE fn L F (slN H) H.size hT hp_28 hk0 (by omega) (by omega)) (cwV 0 hts g_c_xuy_c_xuy_166 rfl rfl rfl (by decide +kernel) ⟨by show 6 + 12 * k1 + 1 ≤ 6 + 12 * k; omega, by show 8 + (3 + 11) + (130 + 279 * k1) ≤ 130 + 279 * k; omega⟩) ⟨fun a U g mk q => by obtain ⟨q0, q1, qP, qK, qD, qx0, qx1⟩ := q; exact ⟨q0, q1, qP, va_K.moved (u := U) (U := U.calling g mk a) (Vm.Alike.refl U.vm) qK, qD, nsM.same (u := U) (U := U.calling g mk a) rfl qx0, qx1⟩, va_recv hKc hPc (ci := 23) (q0 := 0) rfl rfl, fun U hU hW => ⟨rfl, by rw [hU], by rw [hU]; exact hPc, va_K.moved hW.alike hKc, hDc.weaken (fun _ _ _ _ => trivial), nsM.warm hW hns, by rw [hU]⟩⟩ rfl rfl hl.1 rfl (lv_room (Nat.le_of_ble_eq_true rfl)) dX23_unary_166 ⟨(show 1 + (8 * (T - (pp + 1 + 1)) + 7) ≤ (8 * (T - pp) + 7) by omega), (show 14 + (120 * (T - (pp + 1 + 1)) + 340) ≤ (120 * (T - pp) + 340) by omega)⟩) hS (fun q _ h => hFc q h) hFc (fun u r_29 tS H1 locs ht hvm hw hB hz1 hk1 hS => ?_)
                obtain ⟨L28, F28, ff28, xa28, pp28, bb28, hf29_0, hf29_1, hf29_2, hf29_3, hP1, hK1, hD1⟩ := hB
                rw [ht] at hP1
                replace hK1 := va_K.moved hvm.symm hK1
                rw [ht] at hf29_3
                have hgz : H1.size ≤ s.heap.size + ((1 + 8 * (pp28 - (pp + 1 + 1)) + 3)) ∧ slN H1 ≤ slN s.heap + ((14 + 120 * (pp28 - (pp + 1 + 1)) + 48)) := ⟨by have := hf29_3.1; omega, by have := hf29_3.2; omega⟩
                obtain ⟨hPj, hDj⟩ := va_joinB (wr := [(q_1, .inr (15, [.int 12, .int (nI pp), .int 0, .int 0, .int 0, .int 0, .long 0, .int 1, .null, .null, .null, .int 0, .null, .null]))]) (w1 := [(m9, .inr (23, mA mr mv vf xl (nI zs) ff28 xa28 (nI T) (nI pp28) xi xt xn (nI (ns + 1)) (nI vv) (nI bb28))), (mr 5, .inl (kI, 3002, .inl fk)), (mr 6, .inl (kI, 3002, .inl fa)), (mr 8, .inl (kL, 3002, .inr (.inl fn)))]) hP hD [3, 4, 2, 0] [1] rfl rfl (by decide) (by decide) hk1 hFc hP1 hD1
                replace hP := hPj
                replace hD := hDj
                clear hPj hDj
                replace hK := hK.app hK1
                generalize H1 = H at hP hS hgz ⊢
                replace hP : va_P (dC, dI) vwCl (([(q_1, .inr (15, [.int 12, .int (nI pp), .int 0, .int 0, .int 0, .int 0, .long 0, .int 1, .null, .null, .null, .int 0, .null, .null])), (m9, .inr (23, mA mr mv vf xl (nI zs) ff28 xa28 (nI T) (nI pp28) xi xt xn (nI (ns + 1)) (nI vv) (nI bb28))), (mr 5, .inl (kI, 3002, .inl fk)), (mr 6, .inl (kI, 3002, .inl fa)), (mr 8, .inl (kL, 3002, .inr (.inl fn)))] : va_W) ++ (sT L28 F28)) H := hP
                replace hD : va_D A (([(q_1, .inr (15, [.int 12, .int (nI pp), .int 0, .int 0, .int 0, .int 0, .long 0, .int 1, .null, .null, .null, .int 0, .null, .null])), (m9, .inr (23, mA mr mv vf xl (nI zs) ff28 xa28 (nI T) (nI pp28) xi xt xn (nI (ns + 1)) (nI vv) (nI bb28))), (mr 5, .inl (kI, 3002, .inl fk)), (mr 6, .inl (kI, 3002, .inl fa)), (mr 8, .inl (kL, 3002, .inr (.inl fn)))] : va_W) ++ (sT L28 F28)) := hD
                replace hK : va_K (dC, dI) vwCl [(kI, .int), (kL, .long), (kE, .object RX15), (kI, .int), (kL, .long), (kE, .object RX15)] s := hK
                replace hK := hK.sub (tys' := [(kI, .int), (kL, .long), (kE, .object RX15)]) [0, 1, 2] rfl
                refine W.tight (k := (1 + 8 * (pp28 - (pp + 1 + 1)) + 3)) (n := (14 + 120 * (pp28 - (pp + 1 + 1)) + 48)) hgz.1 hgz.2 ?_
                clear hz1 hk1 hPc hDc hKc hFc hP1 hD1 hK1
                refine va_put (D := (dC, dI)) (ci := 15) (v := .ref r_29) (ty := (.object "OwnedPlacesModel$Exp")) (C := RX15) (T := TX15) (N := 14) hx hb hts in_c_xuy_X15 tyX15 tyX15_ok nmX15 hown hK hP hD hS 0 rfl rfl 8 (by decide) (hts (.fieldLink RX23 331 "OwnedPlacesModel$Exp" "of" "LOwnedPlacesModel$Exp;") (wm_c_xuy 33 rfl)) (fun _ h9 => h9) rfl (by decide +kernel) rfl rfl (Nat.le_of_ble_eq_true rfl) dX23_unary_169 (fun H locs hP hD hS => ?_)
                replace hP : va_P (dC, dI) vwCl (([(q_1, .inr (15, [.int 12, .int (nI pp), .int 0, .int 0, .int 0, .int 0, .long 0, .int 1, .ref r_29, .null, .null, .int 0, .null, .null])), (m9, .inr (23, mA mr mv vf xl (nI zs) ff28 xa28 (nI T) (nI pp28) xi xt xn (nI (ns + 1)) (nI vv) (nI bb28))), (mr 5, .inl (kI, 3002, .inl fk)), (mr 6, .inl (kI, 3002, .inl fa)), (mr 8, .inl (kL, 3002, .inr (.inl fn)))] : va_W) ++ (sT L28 F28)) H := hP
                replace hD : va_D A (([(q_1, .inr (15, [.int 12, .int (nI pp), .int 0, .int 0, .int 0, .int 0, .long 0, .int 1, .ref r_29, .null, .null, .int 0, .null, .null])), (m9, .inr (23, mA mr mv vf xl (nI zs) ff28 xa28 (nI T) (nI pp28) xi xt xn (nI (ns + 1)) (nI vv) (nI bb28))), (mr 5, .inl (kI, 3002, .inl fk)), (mr 6, .inl (kI, 3002, .inl fa)), (mr 8, .inl (kL, 3002, .inr (.inl fn)))] : va_W) ++ (sT L28 F28)) := hD
                refine lv_aload_n hx hb dX23_unary_172 rfl (lv_at hl 2 rfl) ?_
                refine lv_dup hx hb dX23_unary_173 rfl ?_
                refine va_get (D := (dC, dI)) (ci := 23) (v := .int (nI (ns + 1))) (C := RX23) (T := TX23) (N := 89) hx hb hts in_c_xuy_X23 hown hK hP 1 rfl rfl 15 (by decide) (hts (.fieldLink RX23 104 "OwnedPlacesModel" "nest" "I") (wm_c_xuy 20 rfl)) (fun _ h9 => h9) rfl dX23_unary_174 ?_
                refine lv_iconst (v := 1) hx hb dX23_unary_177 (by decide) ?_
                refine lv_isub hx hb dX23_unary_178 ?_
                refine lv_topi (fun f_30 ef_30 => ?_)
                obtain rfl : f_30 = nI ns := ef_30.trans (nI_pred _)
                refine va_put (D := (dC, dI)) (ci := 23) (v := .int (nI ns)) (ty := .int) (C := RX23) (T := TX23) (N := 89) hx hb hts in_c_xuy_X23 tyX23 tyX23_ok nmX23 hown hK hP hD hS 1 rfl rfl 15 (by decide) (hts (.fieldLink RX23 104 "OwnedPlacesModel" "nest" "I") (wm_c_xuy 20 rfl)) (fun _ h9 => h9) rfl (by decide +kernel) rfl rfl (Nat.le_of_ble_eq_true rfl) dX23_unary_179 (fun H locs hP hD hS => ?_)
                replace hP : va_P (dC, dI) vwCl (([(q_1, .inr (15, [.int 12, .int (nI pp), .int 0, .int 0, .int 0, .int 0, .long 0, .int 1, .ref r_29, .null, .null, .int 0, .null, .null])), (m9, .inr (23, mA mr mv vf xl (nI zs) ff28 xa28 (nI T) (nI pp28) xi xt xn (nI ns) (nI vv) (nI bb28))), (mr 5, .inl (kI, 3002, .inl fk)), (mr 6, .inl (kI, 3002, .inl fa)), (mr 8, .inl (kL, 3002, .inr (.inl fn)))] : va_W) ++ (sT L28 F28)) H := hP
                replace hD : va_D A (([(q_1, .inr (15, [.int 12, .int (nI pp), .int 0, .int 0, .int 0, .int 0, .long 0, .int 1, .ref r_29, .null, .null, .int 0, .null, .null])), (m9, .inr (23, mA mr mv vf xl (nI zs) ff28 xa28 (nI T) (nI pp28) xi xt xn (nI ns) (nI vv) (nI bb28))), (mr 5, .inl (kI, 3002, .inl fk)), (mr 6, .inl (kI, 3002, .inl fa)), (mr 8, .inl (kL, 3002, .inr (.inl fn)))] : va_W) ++ (sT L28 F28)) := hD
                refine lv_aload_n hx hb dX23_unary_182 rfl (lv_at hl 1 rfl) ?_
                by_cases hz_31 : ff28 = 0
                · subst hz_31
                  have hg28 := hf29_2 rfl
                  have hlthg28 := (isE_mem hg28.2).2
                  replace hP : va_P (dC, dI) vwCl ((([(m9, .inr (23, mA mr mv vf xl (nI zs) 0 xa28 (nI T) (nI pp28) xi xt xn (nI ns) (nI vv) (nI bb28))), (mr 5, .inl (kI, 3002, .inl fk)), (mr 6, .inl (kI, 3002, .inl fa)), (mr 8, .inl (kL, 3002, .inr (.inl fn)))] : va_W) ++ ([(q_1, .inr (15, [.int 12, .int (nI pp), .int 0, .int 0, .int 0, .int 0, .long 0, .int 1, .ref r_29, .null, .null, .int 0, .null, .null]))] : va_W)) ++ sT L28 F28) H := hP.subT (f' := [(m9, .inr (23, mA mr mv vf xl (nI zs) 0 xa28 (nI T) (nI pp28) xi xt xn (nI ns) (nI vv) (nI bb28))), (mr 5, .inl (kI, 3002, .inl fk)), (mr 6, .inl (kI, 3002, .inl fa)), (mr 8, .inl (kL, 3002, .inr (.inl fn))), (q_1, .inr (15, [.int 12, .int (nI pp), .int 0, .int 0, .int 0, .int 0, .long 0, .int 1, .ref r_29, .null, .null, .int 0, .null, .null]))]) [1, 2, 3, 4, 0] rfl
                  replace hD : va_D A ((([(m9, .inr (23, mA mr mv vf xl (nI zs) 0 xa28 (nI T) (nI pp28) xi xt xn (nI ns) (nI vv) (nI bb28))), (mr 5, .inl (kI, 3002, .inl fk)), (mr 6, .inl (kI, 3002, .inl fa)), (mr 8, .inl (kL, 3002, .inr (.inl fn)))] : va_W) ++ ([(q_1, .inr (15, [.int 12, .int (nI pp), .int 0, .int 0, .int 0, .int 0, .long 0, .int 1, .ref r_29, .null, .null, .int 0, .null, .null]))] : va_W)) ++ sT L28 F28) := hD.subT (f' := [(m9, .inr (23, mA mr mv vf xl (nI zs) 0 xa28 (nI T) (nI pp28) xi xt xn (nI ns) (nI vv) (nI bb28))), (mr 5, .inl (kI, 3002, .inl fk)), (mr 6, .inl (kI, 3002, .inl fa)), (mr 8, .inl (kL, 3002, .inr (.inl fn))), (q_1, .inr (15, [.int 12, .int (nI pp), .int 0, .int 0, .int 0, .int 0, .long 0, .int 1, .ref r_29, .null, .null, .int 0, .null, .null]))]) [1, 2, 3, 4, 0] (by decide) rfl
                  obtain ⟨L9, F9, hx9, hm9, hP, hD⟩ := st_fileL [(q_1, .inr (15, [.int 12, .int (nI pp), .int 0, .int 0, .int 0, .int 0, .long 0, .int 1, .ref r_29, .null, .null, .int 0, .null, .null]))] hP hD
                  have hm9_0 := hm9 _ (List.mem_of_getElem? (i := 0) rfl)
                  refine W.grow (fun hgs0 hgs1 => ?_)
                  have hP9 := hP.subT (f' := [(m9, .inr (23, mA mr mv vf xl (nI zs) 0 xa28 (nI T) (nI pp28) xi xt xn (nI ns) (nI vv) (nI bb28))), (mr 5, .inl (kI, 3002, .inl fk)), (mr 6, .inl (kI, 3002, .inl fa)), (mr 8, .inl (kL, 3002, .inr (.inl fn)))]) [0, 1, 2, 3] rfl
                  have hD9 := hD.subT (f' := [(m9, .inr (23, mA mr mv vf xl (nI zs) 0 xa28 (nI T) (nI pp28) xi xt xn (nI ns) (nI vv) (nI bb28))), (mr 5, .inl (kI, 3002, .inl fk)), (mr 6, .inl (kI, 3002, .inl fa)), (mr 8, .inl (kL, 3002, .inr (.inl fn)))]) [0, 1, 2, 3] (by decide) rfl
                  have hK9 := hK.sub (tys' := [(kI, .int), (kL, .long), (kE, .object RX15)]) [0, 1, 2] rfl
                  refine W.widen (k := (8 * (T - pp) + 7)) (n := (120 * (T - pp) + 340)) (by omega) (by omega) ?_
                  exact W.aret hx hb hr (Or.inl ⟨_, rfl⟩) (Or.inr ⟨q_1, rfl⟩) (fun tS ht hW => ⟨⟨(), q_1, rfl, trivial, L9, F9, 0, xa28, pp28, bb28, ⟨(hf29_0.1).tr hx9, hm9_0.1, _, hm9_0.2⟩, ⟨by omega, by omega, by omega, by omega⟩, (fun _ => ⟨hg28.1, isE_4 hm9_0.1 (by omega) (Or.inr rfl) hm9_0.2 (by omega) (isE_im hx9 _ (by omega) hg28.2)⟩), by rw [ht]; exact ⟨by omega, by omega⟩, by rw [ht]; exact hP9, va_K.moved hW.alike hK9, hD9⟩, hS.F ht⟩) hS.2.2 dX23_unary_183
                · replace hP : va_P (dC, dI) vwCl ((([(m9, .inr (23, mA mr mv vf xl (nI zs) ff28 xa28 (nI T) (nI pp28) xi xt xn (nI ns) (nI vv) (nI bb28))), (mr 5, .inl (kI, 3002, .inl fk)), (mr 6, .inl (kI, 3002, .inl fa)), (mr 8, .inl (kL, 3002, .inr (.inl fn)))] : va_W) ++ ([(q_1, .inr (15, [.int 12, .int (nI pp), .int 0, .int 0, .int 0, .int 0, .long 0, .int 1, .ref r_29, .null, .null, .int 0, .null, .null]))] : va_W)) ++ sT L28 F28) H := hP.subT (f' := [(m9, .inr (23, mA mr mv vf xl (nI zs) ff28 xa28 (nI T) (nI pp28) xi xt xn (nI ns) (nI vv) (nI bb28))), (mr 5, .inl (kI, 3002, .inl fk)), (mr 6, .inl (kI, 3002, .inl fa)), (mr 8, .inl (kL, 3002, .inr (.inl fn))), (q_1, .inr (15, [.int 12, .int (nI pp), .int 0, .int 0, .int 0, .int 0, .long 0, .int 1, .ref r_29, .null, .null, .int 0, .null, .null]))]) [1, 2, 3, 4, 0] rfl
                  replace hD : va_D A ((([(m9, .inr (23, mA mr mv vf xl (nI zs) ff28 xa28 (nI T) (nI pp28) xi xt xn (nI ns) (nI vv) (nI bb28))), (mr 5, .inl (kI, 3002, .inl fk)), (mr 6, .inl (kI, 3002, .inl fa)), (mr 8, .inl (kL, 3002, .inr (.inl fn)))] : va_W) ++ ([(q_1, .inr (15, [.int 12, .int (nI pp), .int 0, .int 0, .int 0, .int 0, .long 0, .int 1, .ref r_29, .null, .null, .int 0, .null, .null]))] : va_W)) ++ sT L28 F28) := hD.subT (f' := [(m9, .inr (23, mA mr mv vf xl (nI zs) ff28 xa28 (nI T) (nI pp28) xi xt xn (nI ns) (nI vv) (nI bb28))), (mr 5, .inl (kI, 3002, .inl fk)), (mr 6, .inl (kI, 3002, .inl fa)), (mr 8, .inl (kL, 3002, .inr (.inl fn))), (q_1, .inr (15, [.int 12, .int (nI pp), .int 0, .int 0, .int 0, .int 0, .long 0, .int 1, .ref r_29, .null, .null, .int 0, .null, .null]))]) [1, 2, 3, 4, 0] (by decide) rfl
                  obtain ⟨L9, F9, hx9, hm9, hP, hD⟩ := st_fileL [(q_1, .inr (15, [.int 12, .int (nI pp), .int 0, .int 0, .int 0, .int 0, .long 0, .int 1, .ref r_29, .null, .null, .int 0, .null, .null]))] hP hD
                  have hm9_0 := hm9 _ (List.mem_of_getElem? (i := 0) rfl)
                  refine W.grow (fun hgs0 hgs1 => ?_)
                  have hP9 := hP.subT (f' := [(m9, .inr (23, mA mr mv vf xl (nI zs) ff28 xa28 (nI T) (nI pp28) xi xt xn (nI ns) (nI vv) (nI bb28))), (mr 5, .inl (kI, 3002, .inl fk)), (mr 6, .inl (kI, 3002, .inl fa)), (mr 8, .inl (kL, 3002, .inr (.inl fn)))]) [0, 1, 2, 3] rfl
                  have hD9 := hD.subT (f' := [(m9, .inr (23, mA mr mv vf xl (nI zs) ff28 xa28 (nI T) (nI pp28) xi xt xn (nI ns) (nI vv) (nI bb28))), (mr 5, .inl (kI, 3002, .inl fk)), (mr 6, .inl (kI, 3002, .inl fa)), (mr 8, .inl (kL, 3002, .inr (.inl fn)))]) [0, 1, 2, 3] (by decide) rfl
                  have hK9 := hK.sub (tys' := [(kI, .int), (kL, .long), (kE, .object RX15)]) [0, 1, 2] rfl
                  refine W.widen (k := (8 * (T - pp) + 7)) (n := (120 * (T - pp) + 340)) (by omega) (by omega) ?_
                  exact W.aret hx hb hr (Or.inl ⟨_, rfl⟩) (Or.inr ⟨q_1, rfl⟩) (fun tS ht hW => ⟨⟨(), q_1, rfl, trivial, L9, F9, ff28, xa28, pp28, bb28, ⟨(hf29_0.1).tr hx9, hm9_0.1, _, hm9_0.2⟩, ⟨by omega, by omega, by omega, by omega⟩, (fun q9 => absurd q9 hz_31), by rw [ht]; exact ⟨by omega, by omega⟩, by rw [ht]; exact hP9, va_K.moved hW.alike hK9, hD9⟩, hS.F ht⟩) hS.2.2 dX23_unary_183
              · replace hPc := hP.subF (f' := [(m9, .inr (23, mA mr mv vf xl (nI zs) 0 xa (nI T) (nI (pp + 1)) xi xt xn (nI (ns + 1)) (nI vv) (nI (bb + 1)))), (mr 5, .inl (kI, 3002, .inl fk))]) [2, 3] rfl
                replace hDc := hD.subF (f' := [(m9, .inr (23, mA mr mv vf xl (nI zs) 0 xa (nI T) (nI (pp + 1)) xi xt xn (nI (ns + 1)) (nI vv) (nI (bb + 1)))), (mr 5, .inl (kI, 3002, .inl fk))]) [2, 3] (by decide) rfl
                replace hKc := hK.sub (tys' := [(kI, .int)]) [0] rfl
                replace hFc := va_freeT (wc := [(m9, .inr (23, mA mr mv vf xl (nI zs) 0 xa (nI T) (nI (pp + 1)) xi xt xn (nI (ns + 1)) (nI vv) (nI (bb + 1)))), (mr 5, .inl (kI, 3002, .inl fk))]) hD hS hA [2, 3] rfl
                refine va_calli (va_runV (As := [.int 14]) (rest := [.ref q_1]) ⟨hx, hb, hml, hown, hts⟩ (c_rtsN l dC dI m9 mr mv vf xl xa xi xt xn zs T (pp + 1) (ns + 1) vv (bb + 1) kI fk fa 14 H.size hT hp_24 hk0 (by decide) hk_26) (cwV 1 hts g_c_xuy_c_rtsN_158 rfl rfl rfl (by decide +kernel) ⟨by show 1 + 1 ≤ 6 + 12 * k; omega, by show 8 + (2 + 11) + (21) ≤ 130 + 279 * k; omega⟩) ⟨fun a U g mk q => by obtain ⟨q0, q1, qP, qK, qD⟩ := q; exact ⟨q0, q1, qP, va_K.moved (u := U) (U := U.calling g mk a) (Vm.Alike.refl U.vm) qK, qD⟩, va_recv hKc hPc (ci := 23) (q0 := 0) rfl rfl, fun U hU hW => ⟨rfl, by rw [hU], by rw [hU]; exact hPc, va_K.moved hW.alike hKc, hDc.weaken (fun _ _ _ _ => trivial)⟩⟩ rfl rfl hl.1 rfl (lv_room (Nat.le_of_ble_eq_true rfl)) dX23_unary_158 ⟨(show 1 + 0 ≤ (8 * (T - pp) + 7) by omega), (show 14 + 0 ≤ (120 * (T - pp) + 340) by omega)⟩) hS (fun q _ h => hFc q h) hFc (fun r_27 u tS H1 locs ht hvm hw hB hz1 hk1 hS => ?_)
                obtain ⟨hP1, hK1, hD1⟩ := hB
                rw [ht] at hP1
                replace hK1 := va_K.moved hvm.symm hK1
                obtain ⟨hPj, hDj⟩ := va_joinT (wr := [(mr 8, .inl (kL, 3002, .inr (.inl fn))), (q_1, .inr (15, [.int 12, .int (nI pp), .int 0, .int 0, .int 0, .int 0, .long 0, .int 0, .null, .null, .null, .int 0, .null, .null])), (mr 6, .inl (kI, 3002, .inl fa))]) (w1 := [(m9, .inr (23, mA mr mv vf xl (nI zs) 0 xa (nI T) (nI (pp + 1)) xi xt xn (nI (ns + 1)) (nI vv) (nI (bb + 1)))), (mr 5, .inl (kI, 3002, .inl fk))]) hP hD [2, 3] [0, 1, 4] rfl rfl (by decide) (by decide) hk1 hFc hP1 hD1
                replace hP := hPj
                replace hD := hDj
                clear hPj hDj
                replace hK := hK.app hK1
                generalize H1 = H at hP hS ⊢
                replace hP : va_P (dC, dI) vwCl (([(mr 8, .inl (kL, 3002, .inr (.inl fn))), (q_1, .inr (15, [.int 12, .int (nI pp), .int 0, .int 0, .int 0, .int 0, .long 0, .int 0, .null, .null, .null, .int 0, .null, .null])), (mr 6, .inl (kI, 3002, .inl fa)), (m9, .inr (23, mA mr mv vf xl (nI zs) 0 xa (nI T) (nI (pp + 1)) xi xt xn (nI (ns + 1)) (nI vv) (nI (bb + 1)))), (mr 5, .inl (kI, 3002, .inl fk))] : va_W) ++ (sT L F)) H := hP
                replace hD : va_D A (([(mr 8, .inl (kL, 3002, .inr (.inl fn))), (q_1, .inr (15, [.int 12, .int (nI pp), .int 0, .int 0, .int 0, .int 0, .long 0, .int 0, .null, .null, .null, .int 0, .null, .null])), (mr 6, .inl (kI, 3002, .inl fa)), (m9, .inr (23, mA mr mv vf xl (nI zs) 0 xa (nI T) (nI (pp + 1)) xi xt xn (nI (ns + 1)) (nI vv) (nI (bb + 1)))), (mr 5, .inl (kI, 3002, .inl fk))] : va_W) ++ (sT L F)) := hD
                replace hK : va_K (dC, dI) vwCl [(kI, .int), (kL, .long), (kE, .object RX15), (kI, .int)] s := hK
                replace hK := hK.sub (tys' := [(kI, .int), (kL, .long), (kE, .object RX15)]) [0, 1, 2] rfl
                clear hz1 hk1 hPc hDc hKc hFc hP1 hD1 hK1
                obtain rfl : r_27 = 0 := hw
                refine va_put (D := (dC, dI)) (ci := 15) (v := .int 0) (ty := .boolean) (C := RX15) (T := TX15) (N := 14) hx hb hts in_c_xuy_X15 tyX15 tyX15_ok nmX15 hown hK hP hD hS 1 rfl rfl 7 (by decide) (hts (.fieldLink RX23 358 "OwnedPlacesModel$Exp" "mut" "Z") (wm_c_xuy 47 rfl)) (fun _ h9 => h9) rfl (by decide +kernel) (by decide) (by decide) (Nat.le_of_ble_eq_true rfl) dX23_unary_161 (fun H locs hP hD hS => ?_)
                replace hP : va_P (dC, dI) vwCl (([(mr 8, .inl (kL, 3002, .inr (.inl fn))), (q_1, .inr (15, [.int 12, .int (nI pp), .int 0, .int 0, .int 0, .int 0, .long 0, .int 0, .null, .null, .null, .int 0, .null, .null])), (mr 6, .inl (kI, 3002, .inl fa)), (m9, .inr (23, mA mr mv vf xl (nI zs) 0 xa (nI T) (nI (pp + 1)) xi xt xn (nI (ns + 1)) (nI vv) (nI (bb + 1)))), (mr 5, .inl (kI, 3002, .inl fk))] : va_W) ++ (sT L F)) H := hP
                replace hD : va_D A (([(mr 8, .inl (kL, 3002, .inr (.inl fn))), (q_1, .inr (15, [.int 12, .int (nI pp), .int 0, .int 0, .int 0, .int 0, .long 0, .int 0, .null, .null, .null, .int 0, .null, .null])), (mr 6, .inl (kI, 3002, .inl fa)), (m9, .inr (23, mA mr mv vf xl (nI zs) 0 xa (nI T) (nI (pp + 1)) xi xt xn (nI (ns + 1)) (nI vv) (nI (bb + 1)))), (mr 5, .inl (kI, 3002, .inl fk))] : va_W) ++ (sT L F)) := hD
                refine lv_aload_n hx hb dX23_unary_164 rfl (lv_at hl 1 rfl) ?_
                refine lv_aload_n hx hb dX23_unary_165 rfl (lv_at hl 2 rfl) ?_
                obtain ⟨k1, hkL⟩ : ∃ k1 : Nat, k = k1 + 1 := ⟨k - 1, by omega⟩
                replace hPc := hP.subT (f' := [(m9, .inr (23, mA mr mv vf xl (nI zs) 0 xa (nI T) (nI (pp + 1)) xi xt xn (nI (ns + 1)) (nI vv) (nI (bb + 1)))), (mr 5, .inl (kI, 3002, .inl fk)), (mr 6, .inl (kI, 3002, .inl fa)), (mr 8, .inl (kL, 3002, .inr (.inl fn)))]) [3, 4, 2, 0] rfl
                replace hDc := hD.subT (f' := [(m9, .inr (23, mA mr mv vf xl (nI zs) 0 xa (nI T) (nI (pp + 1)) xi xt xn (nI (ns + 1)) (nI vv) (nI (bb + 1)))), (mr 5, .inl (kI, 3002, .inl fk)), (mr 6, .inl (kI, 3002, .inl fa)), (mr 8, .inl (kL, 3002, .inr (.inl fn)))]) [3, 4, 2, 0] (by decide) rfl
                replace hKc := hK.sub (tys' := [(kI, .int), (kL, .long), (kE, .object RX15)]) [0, 1, 2] rfl
                replace hFc := va_freeB (wc := [(m9, .inr (23, mA mr mv vf xl (nI zs) 0 xa (nI T) (nI (pp + 1)) xi xt xn (nI (ns + 1)) (nI vv) (nI (bb + 1)))), (mr 5, .inl (kI, 3002, .inl fk)), (mr 6, .inl (kI, 3002, .inl fa)), (mr 8, .inl (kL, 3002, .inr (.inl fn)))]) hD hS hA [3, 4, 2, 0] rfl
                refine W.grow (fun hgs0 hgs1 => ?_)
                refine va_callr (va_runV (As := []) (rest := [.ref q_1]) ⟨hx, hb, hml, hown, hts⟩ ((ih k1 hkL).2.2.2.2.2.1 m9 mr mv vf xl xa xi xt xn zs T (pp + 1) (ns + 1) vv (bb + 1) kI fk fa kL kE fn L F (slN H) H.size hT hp_24 hk0 (by omega) (by omega)) (cwV 0 hts g_c_xuy_c_xuy_166 rfl rfl rfl (by decide +kernel) ⟨by show 6 + 12 * k1 + 1 ≤ 6 + 12 * k; omega, by show 8 + (3 + 11) + (130 + 279 * k1) ≤ 130 + 279 * k; omega⟩) ⟨fun a U g mk q => by obtain ⟨q0, q1, qP, qK, qD, qx0, qx1⟩ := q; exact ⟨q0, q1, qP, va_K.moved (u := U) (U := U.calling g mk a) (Vm.Alike.refl U.vm) qK, qD, nsM.same (u := U) (U := U.calling g mk a) rfl qx0, qx1⟩, va_recv hKc hPc (ci := 23) (q0 := 0) rfl rfl, fun U hU hW => ⟨rfl, by rw [hU], by rw [hU]; exact hPc, va_K.moved hW.alike hKc, hDc.weaken (fun _ _ _ _ => trivial), nsM.warm hW hns, by rw [hU]⟩⟩ rfl rfl hl.1 rfl (lv_room (Nat.le_of_ble_eq_true rfl)) dX23_unary_166 ⟨(show 1 + (8 * (T - (pp + 1)) + 7) ≤ (8 * (T - pp) + 7) by omega), (show 14 + (120 * (T - (pp + 1)) + 340) ≤ (120 * (T - pp) + 340) by omega)⟩) hS (fun q _ h => hFc q h) hFc (fun u r_28 tS H1 locs ht hvm hw hB hz1 hk1 hS => ?_)
                obtain ⟨L27, F27, ff27, xa27, pp27, bb27, hf28_0, hf28_1, hf28_2, hf28_3, hP1, hK1, hD1⟩ := hB
                rw [ht] at hP1
                replace hK1 := va_K.moved hvm.symm hK1
                rw [ht] at hf28_3
                have hgz : H1.size ≤ s.heap.size + ((1 + 8 * (pp27 - (pp + 1)) + 3)) ∧ slN H1 ≤ slN s.heap + ((14 + 120 * (pp27 - (pp + 1)) + 48)) := ⟨by have := hf28_3.1; omega, by have := hf28_3.2; omega⟩
                obtain ⟨hPj, hDj⟩ := va_joinB (wr := [(q_1, .inr (15, [.int 12, .int (nI pp), .int 0, .int 0, .int 0, .int 0, .long 0, .int 0, .null, .null, .null, .int 0, .null, .null]))]) (w1 := [(m9, .inr (23, mA mr mv vf xl (nI zs) ff27 xa27 (nI T) (nI pp27) xi xt xn (nI (ns + 1)) (nI vv) (nI bb27))), (mr 5, .inl (kI, 3002, .inl fk)), (mr 6, .inl (kI, 3002, .inl fa)), (mr 8, .inl (kL, 3002, .inr (.inl fn)))]) hP hD [3, 4, 2, 0] [1] rfl rfl (by decide) (by decide) hk1 hFc hP1 hD1
                replace hP := hPj
                replace hD := hDj
                clear hPj hDj
                replace hK := hK.app hK1
                generalize H1 = H at hP hS hgz ⊢
                replace hP : va_P (dC, dI) vwCl (([(q_1, .inr (15, [.int 12, .int (nI pp), .int 0, .int 0, .int 0, .int 0, .long 0, .int 0, .null, .null, .null, .int 0, .null, .null])), (m9, .inr (23, mA mr mv vf xl (nI zs) ff27 xa27 (nI T) (nI pp27) xi xt xn (nI (ns + 1)) (nI vv) (nI bb27))), (mr 5, .inl (kI, 3002, .inl fk)), (mr 6, .inl (kI, 3002, .inl fa)), (mr 8, .inl (kL, 3002, .inr (.inl fn)))] : va_W) ++ (sT L27 F27)) H := hP
                replace hD : va_D A (([(q_1, .inr (15, [.int 12, .int (nI pp), .int 0, .int 0, .int 0, .int 0, .long 0, .int 0, .null, .null, .null, .int 0, .null, .null])), (m9, .inr (23, mA mr mv vf xl (nI zs) ff27 xa27 (nI T) (nI pp27) xi xt xn (nI (ns + 1)) (nI vv) (nI bb27))), (mr 5, .inl (kI, 3002, .inl fk)), (mr 6, .inl (kI, 3002, .inl fa)), (mr 8, .inl (kL, 3002, .inr (.inl fn)))] : va_W) ++ (sT L27 F27)) := hD
                replace hK : va_K (dC, dI) vwCl [(kI, .int), (kL, .long), (kE, .object RX15), (kI, .int), (kL, .long), (kE, .object RX15)] s := hK
                replace hK := hK.sub (tys' := [(kI, .int), (kL, .long), (kE, .object RX15)]) [0, 1, 2] rfl
                refine W.tight (k := (1 + 8 * (pp27 - (pp + 1)) + 3)) (n := (14 + 120 * (pp27 - (pp + 1)) + 48)) hgz.1 hgz.2 ?_
                clear hz1 hk1 hPc hDc hKc hFc hP1 hD1 hK1
                refine va_put (D := (dC, dI)) (ci := 15) (v := .ref r_28) (ty := (.object "OwnedPlacesModel$Exp")) (C := RX15) (T := TX15) (N := 14) hx hb hts in_c_xuy_X15 tyX15 tyX15_ok nmX15 hown hK hP hD hS 0 rfl rfl 8 (by decide) (hts (.fieldLink RX23 331 "OwnedPlacesModel$Exp" "of" "LOwnedPlacesModel$Exp;") (wm_c_xuy 33 rfl)) (fun _ h9 => h9) rfl (by decide +kernel) rfl rfl (Nat.le_of_ble_eq_true rfl) dX23_unary_169 (fun H locs hP hD hS => ?_)
                replace hP : va_P (dC, dI) vwCl (([(q_1, .inr (15, [.int 12, .int (nI pp), .int 0, .int 0, .int 0, .int 0, .long 0, .int 0, .ref r_28, .null, .null, .int 0, .null, .null])), (m9, .inr (23, mA mr mv vf xl (nI zs) ff27 xa27 (nI T) (nI pp27) xi xt xn (nI (ns + 1)) (nI vv) (nI bb27))), (mr 5, .inl (kI, 3002, .inl fk)), (mr 6, .inl (kI, 3002, .inl fa)), (mr 8, .inl (kL, 3002, .inr (.inl fn)))] : va_W) ++ (sT L27 F27)) H := hP
                replace hD : va_D A (([(q_1, .inr (15, [.int 12, .int (nI pp), .int 0, .int 0, .int 0, .int 0, .long 0, .int 0, .ref r_28, .null, .null, .int 0, .null, .null])), (m9, .inr (23, mA mr mv vf xl (nI zs) ff27 xa27 (nI T) (nI pp27) xi xt xn (nI (ns + 1)) (nI vv) (nI bb27))), (mr 5, .inl (kI, 3002, .inl fk)), (mr 6, .inl (kI, 3002, .inl fa)), (mr 8, .inl (kL, 3002, .inr (.inl fn)))] : va_W) ++ (sT L27 F27)) := hD
                refine lv_aload_n hx hb dX23_unary_172 rfl (lv_at hl 2 rfl) ?_
                refine lv_dup hx hb dX23_unary_173 rfl ?_
                refine va_get (D := (dC, dI)) (ci := 23) (v := .int (nI (ns + 1))) (C := RX23) (T := TX23) (N := 89) hx hb hts in_c_xuy_X23 hown hK hP 1 rfl rfl 15 (by decide) (hts (.fieldLink RX23 104 "OwnedPlacesModel" "nest" "I") (wm_c_xuy 20 rfl)) (fun _ h9 => h9) rfl dX23_unary_174 ?_
                refine lv_iconst (v := 1) hx hb dX23_unary_177 (by decide) ?_
                refine lv_isub hx hb dX23_unary_178 ?_
                refine lv_topi (fun f_29 ef_29 => ?_)
                obtain rfl : f_29 = nI ns := ef_29.trans (nI_pred _)
                refine va_put (D := (dC, dI)) (ci := 23) (v := .int (nI ns)) (ty := .int) (C := RX23) (T := TX23) (N := 89) hx hb hts in_c_xuy_X23 tyX23 tyX23_ok nmX23 hown hK hP hD hS 1 rfl rfl 15 (by decide) (hts (.fieldLink RX23 104 "OwnedPlacesModel" "nest" "I") (wm_c_xuy 20 rfl)) (fun _ h9 => h9) rfl (by decide +kernel) rfl rfl (Nat.le_of_ble_eq_true rfl) dX23_unary_179 (fun H locs hP hD hS => ?_)
                replace hP : va_P (dC, dI) vwCl (([(q_1, .inr (15, [.int 12, .int (nI pp), .int 0, .int 0, .int 0, .int 0, .long 0, .int 0, .ref r_28, .null, .null, .int 0, .null, .null])), (m9, .inr (23, mA mr mv vf xl (nI zs) ff27 xa27 (nI T) (nI pp27) xi xt xn (nI ns) (nI vv) (nI bb27))), (mr 5, .inl (kI, 3002, .inl fk)), (mr 6, .inl (kI, 3002, .inl fa)), (mr 8, .inl (kL, 3002, .inr (.inl fn)))] : va_W) ++ (sT L27 F27)) H := hP
                replace hD : va_D A (([(q_1, .inr (15, [.int 12, .int (nI pp), .int 0, .int 0, .int 0, .int 0, .long 0, .int 0, .ref r_28, .null, .null, .int 0, .null, .null])), (m9, .inr (23, mA mr mv vf xl (nI zs) ff27 xa27 (nI T) (nI pp27) xi xt xn (nI ns) (nI vv) (nI bb27))), (mr 5, .inl (kI, 3002, .inl fk)), (mr 6, .inl (kI, 3002, .inl fa)), (mr 8, .inl (kL, 3002, .inr (.inl fn)))] : va_W) ++ (sT L27 F27)) := hD
                refine lv_aload_n hx hb dX23_unary_182 rfl (lv_at hl 1 rfl) ?_
                by_cases hz_30 : ff27 = 0
                · subst hz_30
                  have hg27 := hf28_2 rfl
                  have hlthg27 := (isE_mem hg27.2).2
                  replace hP : va_P (dC, dI) vwCl ((([(m9, .inr (23, mA mr mv vf xl (nI zs) 0 xa27 (nI T) (nI pp27) xi xt xn (nI ns) (nI vv) (nI bb27))), (mr 5, .inl (kI, 3002, .inl fk)), (mr 6, .inl (kI, 3002, .inl fa)), (mr 8, .inl (kL, 3002, .inr (.inl fn)))] : va_W) ++ ([(q_1, .inr (15, [.int 12, .int (nI pp), .int 0, .int 0, .int 0, .int 0, .long 0, .int 0, .ref r_28, .null, .null, .int 0, .null, .null]))] : va_W)) ++ sT L27 F27) H := hP.subT (f' := [(m9, .inr (23, mA mr mv vf xl (nI zs) 0 xa27 (nI T) (nI pp27) xi xt xn (nI ns) (nI vv) (nI bb27))), (mr 5, .inl (kI, 3002, .inl fk)), (mr 6, .inl (kI, 3002, .inl fa)), (mr 8, .inl (kL, 3002, .inr (.inl fn))), (q_1, .inr (15, [.int 12, .int (nI pp), .int 0, .int 0, .int 0, .int 0, .long 0, .int 0, .ref r_28, .null, .null, .int 0, .null, .null]))]) [1, 2, 3, 4, 0] rfl
                  replace hD : va_D A ((([(m9, .inr (23, mA mr mv vf xl (nI zs) 0 xa27 (nI T) (nI pp27) xi xt xn (nI ns) (nI vv) (nI bb27))), (mr 5, .inl (kI, 3002, .inl fk)), (mr 6, .inl (kI, 3002, .inl fa)), (mr 8, .inl (kL, 3002, .inr (.inl fn)))] : va_W) ++ ([(q_1, .inr (15, [.int 12, .int (nI pp), .int 0, .int 0, .int 0, .int 0, .long 0, .int 0, .ref r_28, .null, .null, .int 0, .null, .null]))] : va_W)) ++ sT L27 F27) := hD.subT (f' := [(m9, .inr (23, mA mr mv vf xl (nI zs) 0 xa27 (nI T) (nI pp27) xi xt xn (nI ns) (nI vv) (nI bb27))), (mr 5, .inl (kI, 3002, .inl fk)), (mr 6, .inl (kI, 3002, .inl fa)), (mr 8, .inl (kL, 3002, .inr (.inl fn))), (q_1, .inr (15, [.int 12, .int (nI pp), .int 0, .int 0, .int 0, .int 0, .long 0, .int 0, .ref r_28, .null, .null, .int 0, .null, .null]))]) [1, 2, 3, 4, 0] (by decide) rfl
                  obtain ⟨L9, F9, hx9, hm9, hP, hD⟩ := st_fileL [(q_1, .inr (15, [.int 12, .int (nI pp), .int 0, .int 0, .int 0, .int 0, .long 0, .int 0, .ref r_28, .null, .null, .int 0, .null, .null]))] hP hD
                  have hm9_0 := hm9 _ (List.mem_of_getElem? (i := 0) rfl)
                  refine W.grow (fun hgs0 hgs1 => ?_)
                  have hP9 := hP.subT (f' := [(m9, .inr (23, mA mr mv vf xl (nI zs) 0 xa27 (nI T) (nI pp27) xi xt xn (nI ns) (nI vv) (nI bb27))), (mr 5, .inl (kI, 3002, .inl fk)), (mr 6, .inl (kI, 3002, .inl fa)), (mr 8, .inl (kL, 3002, .inr (.inl fn)))]) [0, 1, 2, 3] rfl
                  have hD9 := hD.subT (f' := [(m9, .inr (23, mA mr mv vf xl (nI zs) 0 xa27 (nI T) (nI pp27) xi xt xn (nI ns) (nI vv) (nI bb27))), (mr 5, .inl (kI, 3002, .inl fk)), (mr 6, .inl (kI, 3002, .inl fa)), (mr 8, .inl (kL, 3002, .inr (.inl fn)))]) [0, 1, 2, 3] (by decide) rfl
                  have hK9 := hK.sub (tys' := [(kI, .int), (kL, .long), (kE, .object RX15)]) [0, 1, 2] rfl
                  refine W.widen (k := (8 * (T - pp) + 7)) (n := (120 * (T - pp) + 340)) (by omega) (by omega) ?_
                  exact W.aret hx hb hr (Or.inl ⟨_, rfl⟩) (Or.inr ⟨q_1, rfl⟩) (fun tS ht hW => ⟨⟨(), q_1, rfl, trivial, L9, F9, 0, xa27, pp27, bb27, ⟨(hf28_0.1).tr hx9, hm9_0.1, _, hm9_0.2⟩, ⟨by omega, by omega, by omega, by omega⟩, (fun _ => ⟨hg27.1, isE_4 hm9_0.1 (by omega) (Or.inl rfl) hm9_0.2 (by omega) (isE_im hx9 _ (by omega) hg27.2)⟩), by rw [ht]; exact ⟨by omega, by omega⟩, by rw [ht]; exact hP9, va_K.moved hW.alike hK9, hD9⟩, hS.F ht⟩) hS.2.2 dX23_unary_183
                · replace hP : va_P (dC, dI) vwCl ((([(m9, .inr (23, mA mr mv vf xl (nI zs) ff27 xa27 (nI T) (nI pp27) xi xt xn (nI ns) (nI vv) (nI bb27))), (mr 5, .inl (kI, 3002, .inl fk)), (mr 6, .inl (kI, 3002, .inl fa)), (mr 8, .inl (kL, 3002, .inr (.inl fn)))] : va_W) ++ ([(q_1, .inr (15, [.int 12, .int (nI pp), .int 0, .int 0, .int 0, .int 0, .long 0, .int 0, .ref r_28, .null, .null, .int 0, .null, .null]))] : va_W)) ++ sT L27 F27) H := hP.subT (f' := [(m9, .inr (23, mA mr mv vf xl (nI zs) ff27 xa27 (nI T) (nI pp27) xi xt xn (nI ns) (nI vv) (nI bb27))), (mr 5, .inl (kI, 3002, .inl fk)), (mr 6, .inl (kI, 3002, .inl fa)), (mr 8, .inl (kL, 3002, .inr (.inl fn))), (q_1, .inr (15, [.int 12, .int (nI pp), .int 0, .int 0, .int 0, .int 0, .long 0, .int 0, .ref r_28, .null, .null, .int 0, .null, .null]))]) [1, 2, 3, 4, 0] rfl
                  replace hD : va_D A ((([(m9, .inr (23, mA mr mv vf xl (nI zs) ff27 xa27 (nI T) (nI pp27) xi xt xn (nI ns) (nI vv) (nI bb27))), (mr 5, .inl (kI, 3002, .inl fk)), (mr 6, .inl (kI, 3002, .inl fa)), (mr 8, .inl (kL, 3002, .inr (.inl fn)))] : va_W) ++ ([(q_1, .inr (15, [.int 12, .int (nI pp), .int 0, .int 0, .int 0, .int 0, .long 0, .int 0, .ref r_28, .null, .null, .int 0, .null, .null]))] : va_W)) ++ sT L27 F27) := hD.subT (f' := [(m9, .inr (23, mA mr mv vf xl (nI zs) ff27 xa27 (nI T) (nI pp27) xi xt xn (nI ns) (nI vv) (nI bb27))), (mr 5, .inl (kI, 3002, .inl fk)), (mr 6, .inl (kI, 3002, .inl fa)), (mr 8, .inl (kL, 3002, .inr (.inl fn))), (q_1, .inr (15, [.int 12, .int (nI pp), .int 0, .int 0, .int 0, .int 0, .long 0, .int 0, .ref r_28, .null, .null, .int 0, .null, .null]))]) [1, 2, 3, 4, 0] (by decide) rfl
                  obtain ⟨L9, F9, hx9, hm9, hP, hD⟩ := st_fileL [(q_1, .inr (15, [.int 12, .int (nI pp), .int 0, .int 0, .int 0, .int 0, .long 0, .int 0, .ref r_28, .null, .null, .int 0, .null, .null]))] hP hD
                  have hm9_0 := hm9 _ (List.mem_of_getElem? (i := 0) rfl)
                  refine W.grow (fun hgs0 hgs1 => ?_)
                  have hP9 := hP.subT (f' := [(m9, .inr (23, mA mr mv vf xl (nI zs) ff27 xa27 (nI T) (nI pp27) xi xt xn (nI ns) (nI vv) (nI bb27))), (mr 5, .inl (kI, 3002, .inl fk)), (mr 6, .inl (kI, 3002, .inl fa)), (mr 8, .inl (kL, 3002, .inr (.inl fn)))]) [0, 1, 2, 3] rfl
                  have hD9 := hD.subT (f' := [(m9, .inr (23, mA mr mv vf xl (nI zs) ff27 xa27 (nI T) (nI pp27) xi xt xn (nI ns) (nI vv) (nI bb27))), (mr 5, .inl (kI, 3002, .inl fk)), (mr 6, .inl (kI, 3002, .inl fa)), (mr 8, .inl (kL, 3002, .inr (.inl fn)))]) [0, 1, 2, 3] (by decide) rfl
                  have hK9 := hK.sub (tys' := [(kI, .int), (kL, .long), (kE, .object RX15)]) [0, 1, 2] rfl
                  refine W.widen (k := (8 * (T - pp) + 7)) (n := (120 * (T - pp) + 340)) (by omega) (by omega) ?_
                  exact W.aret hx hb hr (Or.inl ⟨_, rfl⟩) (Or.inr ⟨q_1, rfl⟩) (fun tS ht hW => ⟨⟨(), q_1, rfl, trivial, L9, F9, ff27, xa27, pp27, bb27, ⟨(hf28_0.1).tr hx9, hm9_0.1, _, hm9_0.2⟩, ⟨by omega, by omega, by omega, by omega⟩, (fun q9 => absurd q9 hz_30), by rw [ht]; exact ⟨by omega, by omega⟩, by rw [ht]; exact hP9, va_K.moved hW.alike hK9, hD9⟩, hS.F ht⟩) hS.2.2 dX23_unary_183
        · refine lv_icmp_eq (tgt := 62) hx hb dX23_unary_48 (by decide) (fun c_13 => absurd c_13 hk_12) (fun _ => ?_)
          refine lv_iload_n hx hb dX23_unary_51 rfl (lv_at hl 0 rfl) ?_
          refine lv_bipush (v := 23) hx hb dX23_unary_52 (by decide) ?_
          by_cases hk_14 : fk pp = 23
          · refine lv_icmp_eq (tgt := 62) hx hb dX23_unary_54 (by decide) (fun _ => ?_) (fun c_15 => absurd hk_14 c_15)
            refine lv_aload_n hx hb dX23_unary_62 rfl (lv_at hl 1 rfl) ?_
            refine lv_aload_n hx hb dX23_unary_63 rfl (lv_at hl 2 rfl) ?_
            refine va_get (D := (dC, dI)) (ci := 23) (v := .int (nI pp)) (C := RX23) (T := TX23) (N := 89) hx hb hts in_c_xuy_X23 hown hK hP 4 rfl rfl 10 (by decide) (hts (.fieldLink RX23 86 "OwnedPlacesModel" "p" "I") (wm_c_xuy 16 rfl)) (fun _ h9 => h9) rfl dX23_unary_64 ?_
            refine va_put (D := (dC, dI)) (ci := 15) (v := .int (nI pp)) (ty := .int) (C := RX15) (T := TX15) (N := 14) hx hb hts in_c_xuy_X15 tyX15 tyX15_ok nmX15 hown hK hP hD hS 3 rfl rfl 1 (by decide) (hts (.fieldLink RX23 350 "OwnedPlacesModel$Exp" "token" "I") (wm_c_xuy 17 rfl)) (fun _ h9 => h9) rfl (by decide +kernel) rfl rfl (Nat.le_of_ble_eq_true rfl) dX23_unary_67 (fun H locs hP hD hS => ?_)
            replace hP : va_P (dC, dI) vwCl (([(mr 5, .inl (kI, 3002, .inl fk)), (mr 6, .inl (kI, 3002, .inl fa)), (mr 8, .inl (kL, 3002, .inr (.inl fn))), (q_1, .inr (15, [.int 0, .int (nI pp), .int 0, .int 0, .int 0, .int 0, .long 0, .int 0, .null, .null, .null, .int 0, .null, .null])), (m9, .inr (23, mA mr mv vf xl (nI zs) 0 xa (nI T) (nI pp) xi xt xn (nI ns) (nI vv) (nI bb)))] : va_W) ++ (sT L F)) H := hP
            replace hD : va_D A (([(mr 5, .inl (kI, 3002, .inl fk)), (mr 6, .inl (kI, 3002, .inl fa)), (mr 8, .inl (kL, 3002, .inr (.inl fn))), (q_1, .inr (15, [.int 0, .int (nI pp), .int 0, .int 0, .int 0, .int 0, .long 0, .int 0, .null, .null, .null, .int 0, .null, .null])), (m9, .inr (23, mA mr mv vf xl (nI zs) 0 xa (nI T) (nI pp) xi xt xn (nI ns) (nI vv) (nI bb)))] : va_W) ++ (sT L F)) := hD
            refine lv_aload_n hx hb dX23_unary_70 rfl (lv_at hl 1 rfl) ?_
            refine lv_iload_n hx hb dX23_unary_71 rfl (lv_at hl 0 rfl) ?_
            refine lv_bipush (v := 53) hx hb dX23_unary_72 (by decide) ?_
            refine lv_icmp_ne (tgt := 82) hx hb dX23_unary_74 (by decide) (fun _ => ?_) (fun c_16 => absurd c_16 hk_6)
            refine lv_iload_n hx hb dX23_unary_82 rfl (lv_at hl 0 rfl) ?_
            refine lv_bipush (v := 41) hx hb dX23_unary_83 (by decide) ?_
            refine lv_icmp_ne (tgt := 93) hx hb dX23_unary_85 (by decide) (fun _ => ?_) (fun c_17 => absurd c_17 hk_8)
            refine lv_iload_n hx hb dX23_unary_93 rfl (lv_at hl 0 rfl) ?_
            refine lv_bipush (v := 42) hx hb dX23_unary_94 (by decide) ?_
            refine lv_icmp_ne (tgt := 104) hx hb dX23_unary_96 (by decide) (fun _ => ?_) (fun c_18 => absurd c_18 hk_10)
            refine lv_iload_n hx hb dX23_unary_104 rfl (lv_at hl 0 rfl) ?_
            refine lv_bipush (v := 55) hx hb dX23_unary_105 (by decide) ?_
            refine lv_icmp_ne (tgt := 115) hx hb dX23_unary_107 (by decide) (fun _ => ?_) (fun c_19 => absurd c_19 hk_12)
            refine lv_bipush (v := 13) hx hb dX23_unary_115 (by decide) ?_
            refine va_put (D := (dC, dI)) (ci := 15) (v := .int 13) (ty := .int) (C := RX15) (T := TX15) (N := 14) hx hb hts in_c_xuy_X15 tyX15 tyX15_ok nmX15 hown hK hP hD hS 3 rfl rfl 0 (by decide) (hts (.fieldLink RX23 330 "OwnedPlacesModel$Exp" "kind" "I") (wm_c_xuy 18 rfl)) (fun _ h9 => h9) rfl (by decide +kernel) rfl rfl (Nat.le_of_ble_eq_true rfl) dX23_unary_117 (fun H locs hP hD hS => ?_)
            replace hP : va_P (dC, dI) vwCl (([(mr 5, .inl (kI, 3002, .inl fk)), (mr 6, .inl (kI, 3002, .inl fa)), (mr 8, .inl (kL, 3002, .inr (.inl fn))), (q_1, .inr (15, [.int 13, .int (nI pp), .int 0, .int 0, .int 0, .int 0, .long 0, .int 0, .null, .null, .null, .int 0, .null, .null])), (m9, .inr (23, mA mr mv vf xl (nI zs) 0 xa (nI T) (nI pp) xi xt xn (nI ns) (nI vv) (nI bb)))] : va_W) ++ (sT L F)) H := hP
            replace hD : va_D A (([(mr 5, .inl (kI, 3002, .inl fk)), (mr 6, .inl (kI, 3002, .inl fa)), (mr 8, .inl (kL, 3002, .inr (.inl fn))), (q_1, .inr (15, [.int 13, .int (nI pp), .int 0, .int 0, .int 0, .int 0, .long 0, .int 0, .null, .null, .null, .int 0, .null, .null])), (m9, .inr (23, mA mr mv vf xl (nI zs) 0 xa (nI T) (nI pp) xi xt xn (nI ns) (nI vv) (nI bb)))] : va_W) ++ (sT L F)) := hD
            refine lv_aload_n hx hb dX23_unary_120 rfl (lv_at hl 2 rfl) ?_
            refine lv_aload_n hx hb dX23_unary_121 rfl (lv_at hl 2 rfl) ?_
            refine va_get (D := (dC, dI)) (ci := 23) (v := .int (nI pp)) (C := RX23) (T := TX23) (N := 89) hx hb hts in_c_xuy_X23 hown hK hP 4 rfl rfl 10 (by decide) (hts (.fieldLink RX23 86 "OwnedPlacesModel" "p" "I") (wm_c_xuy 16 rfl)) (fun _ h9 => h9) rfl dX23_unary_122 ?_
            by_cases hn_20 : ns = 16
            · replace hPc := hP.subF (f' := [(m9, .inr (23, mA mr mv vf xl (nI zs) 0 xa (nI T) (nI pp) xi xt xn (nI ns) (nI vv) (nI bb))), (mr 6, .inl (kI, 3002, .inl fa))]) [4, 1] rfl
              replace hDc := hD.subF (f' := [(m9, .inr (23, mA mr mv vf xl (nI zs) 0 xa (nI T) (nI pp) xi xt xn (nI ns) (nI vv) (nI bb))), (mr 6, .inl (kI, 3002, .inl fa))]) [4, 1] (by decide) rfl
              replace hKc := hK.sub (tys' := [(kI, .int)]) [0] rfl
              replace hFc := va_freeT (wc := [(m9, .inr (23, mA mr mv vf xl (nI zs) 0 xa (nI T) (nI pp) xi xt xn (nI ns) (nI vv) (nI bb))), (mr 6, .inl (kI, 3002, .inl fa))]) hD hS hA [4, 1] rfl
              refine va_callv (va_runV (As := [.int (nI pp)]) (rest := []) ⟨hx, hb, hml, hown, hts⟩ (c_renN l dC dI m9 mr mv vf xl xa xi xt xn zs T pp ns vv bb kI fk fa pp H.size (by omega) hn_20) (cwV 1 hts g_c_xuy_c_renN_125 rfl rfl rfl (by decide +kernel) ⟨by show 1 + 1 ≤ 6 + 12 * k; omega, by show 8 + (2 + 11) + (22) ≤ 130 + 279 * k; omega⟩) ⟨fun a U g mk q => by obtain ⟨q0, q1, qP, qK, qD⟩ := q; exact ⟨q0, q1, qP, va_K.moved (u := U) (U := U.calling g mk a) (Vm.Alike.refl U.vm) qK, qD⟩, va_recv hKc hPc (ci := 23) (q0 := 0) rfl rfl, fun U hU hW => ⟨rfl, by rw [hU], by rw [hU]; exact hPc, va_K.moved hW.alike hKc, hDc.weaken (fun _ _ _ _ => trivial)⟩⟩ rfl rfl hl.1 rfl (lv_room (Nat.le_of_ble_eq_true rfl)) dX23_unary_125 ⟨(show 1 + 0 ≤ (8 * (T - pp) + 7) by omega), (show 14 + 0 ≤ (120 * (T - pp) + 340) by omega)⟩) hS (fun q _ h => hFc q h) hFc (fun u tS H1 locs ht hvm hw hB hz1 hk1 hS => ?_)
              obtain ⟨ff_21, xa_22, hf23_0, hP1, hK1, hD1⟩ := hB
              rw [ht] at hP1
              replace hK1 := va_K.moved hvm.symm hK1
              obtain ⟨hPj, hDj⟩ := va_joinT (wr := [(mr 5, .inl (kI, 3002, .inl fk)), (mr 8, .inl (kL, 3002, .inr (.inl fn))), (q_1, .inr (15, [.int 13, .int (nI pp), .int 0, .int 0, .int 0, .int 0, .long 0, .int 0, .null, .null, .null, .int 0, .null, .null]))]) (w1 := [(m9, .inr (23, mA mr mv vf xl (nI zs) ff_21 xa_22 (nI T) (nI pp) xi xt xn (nI (ns + 1)) (nI vv) (nI bb))), (mr 6, .inl (kI, 3002, .inl fa))]) hP hD [4, 1] [0, 2, 3] rfl rfl (by decide) (by decide) hk1 hFc hP1 hD1
              replace hP := hPj
              replace hD := hDj
              clear hPj hDj
              replace hK := hK.app hK1
              generalize H1 = H at hP hS ⊢
              replace hP : va_P (dC, dI) vwCl (([(mr 5, .inl (kI, 3002, .inl fk)), (mr 8, .inl (kL, 3002, .inr (.inl fn))), (q_1, .inr (15, [.int 13, .int (nI pp), .int 0, .int 0, .int 0, .int 0, .long 0, .int 0, .null, .null, .null, .int 0, .null, .null])), (m9, .inr (23, mA mr mv vf xl (nI zs) ff_21 xa_22 (nI T) (nI pp) xi xt xn (nI (ns + 1)) (nI vv) (nI bb))), (mr 6, .inl (kI, 3002, .inl fa))] : va_W) ++ (sT L F)) H := hP
              replace hD : va_D A (([(mr 5, .inl (kI, 3002, .inl fk)), (mr 8, .inl (kL, 3002, .inr (.inl fn))), (q_1, .inr (15, [.int 13, .int (nI pp), .int 0, .int 0, .int 0, .int 0, .long 0, .int 0, .null, .null, .null, .int 0, .null, .null])), (m9, .inr (23, mA mr mv vf xl (nI zs) ff_21 xa_22 (nI T) (nI pp) xi xt xn (nI (ns + 1)) (nI vv) (nI bb))), (mr 6, .inl (kI, 3002, .inl fa))] : va_W) ++ (sT L F)) := hD
              replace hK : va_K (dC, dI) vwCl [(kI, .int), (kL, .long), (kE, .object RX15), (kI, .int)] s := hK
              replace hK := hK.sub (tys' := [(kI, .int), (kL, .long), (kE, .object RX15)]) [0, 1, 2] rfl
              clear hz1 hk1 hPc hDc hKc hFc hP1 hD1 hK1
              refine lv_iload_n hx hb dX23_unary_128 rfl (lv_at hl 0 rfl) ?_
              refine lv_bipush (v := 55) hx hb dX23_unary_129 (by decide) ?_
              refine lv_icmp_ne (tgt := 138) hx hb dX23_unary_131 (by decide) (fun _ => ?_) (fun c_24 => absurd c_24 hk_12)
              refine lv_aload_n hx hb dX23_unary_138 rfl (lv_at hl 2 rfl) ?_
              refine lv_dup hx hb dX23_unary_139 rfl ?_
              refine va_get (D := (dC, dI)) (ci := 23) (v := .int (nI pp)) (C := RX23) (T := TX23) (N := 89) hx hb hts in_c_xuy_X23 hown hK hP 3 rfl rfl 10 (by decide) (hts (.fieldLink RX23 86 "OwnedPlacesModel" "p" "I") (wm_c_xuy 16 rfl)) (fun _ h9 => h9) rfl dX23_unary_140 ?_
              refine lv_iconst (v := 1) hx hb dX23_unary_143 (by decide) ?_
              refine lv_iadd hx hb dX23_unary_144 ?_
              refine lv_topi (fun f_25 ef_25 => ?_)
              obtain rfl : f_25 = nI (pp + 1) := ef_25.trans (nI_1 _)
              refine va_put (D := (dC, dI)) (ci := 23) (v := .int (nI (pp + 1))) (ty := .int) (C := RX23) (T := TX23) (N := 89) hx hb hts in_c_xuy_X23 tyX23 tyX23_ok nmX23 hown hK hP hD hS 3 rfl rfl 10 (by decide) (hts (.fieldLink RX23 86 "OwnedPlacesModel" "p" "I") (wm_c_xuy 16 rfl)) (fun _ h9 => h9) rfl (by decide +kernel) rfl rfl (Nat.le_of_ble_eq_true rfl) dX23_unary_145 (fun H locs hP hD hS => ?_)
              replace hP : va_P (dC, dI) vwCl (([(mr 5, .inl (kI, 3002, .inl fk)), (mr 8, .inl (kL, 3002, .inr (.inl fn))), (q_1, .inr (15, [.int 13, .int (nI pp), .int 0, .int 0, .int 0, .int 0, .long 0, .int 0, .null, .null, .null, .int 0, .null, .null])), (m9, .inr (23, mA mr mv vf xl (nI zs) ff_21 xa_22 (nI T) (nI (pp + 1)) xi xt xn (nI (ns + 1)) (nI vv) (nI bb))), (mr 6, .inl (kI, 3002, .inl fa))] : va_W) ++ (sT L F)) H := hP
              replace hD : va_D A (([(mr 5, .inl (kI, 3002, .inl fk)), (mr 8, .inl (kL, 3002, .inr (.inl fn))), (q_1, .inr (15, [.int 13, .int (nI pp), .int 0, .int 0, .int 0, .int 0, .long 0, .int 0, .null, .null, .null, .int 0, .null, .null])), (m9, .inr (23, mA mr mv vf xl (nI zs) ff_21 xa_22 (nI T) (nI (pp + 1)) xi xt xn (nI (ns + 1)) (nI vv) (nI bb))), (mr 6, .inl (kI, 3002, .inl fa))] : va_W) ++ (sT L F)) := hD
              have hp_26 : pp + 1 < T := kne3 hk0 hp hk_14 (by decide)
              refine lv_iload_n hx hb dX23_unary_148 rfl (lv_at hl 0 rfl) ?_
              refine lv_bipush (v := 55) hx hb dX23_unary_149 (by decide) ?_
              refine lv_icmp_ne (tgt := 164) hx hb dX23_unary_151 (by decide) (fun _ => ?_) (fun c_27 => absurd c_27 hk_12)
              refine lv_aload_n hx hb dX23_unary_164 rfl (lv_at hl 1 rfl) ?_
              refine lv_aload_n hx hb dX23_unary_165 rfl (lv_at hl 2 rfl) ?_
              replace hPc := hP.subT (f' := [(m9, .inr (23, mA mr mv vf xl (nI zs) ff_21 xa_22 (nI T) (nI (pp + 1)) xi xt xn (nI (ns + 1)) (nI vv) (nI bb))), (mr 5, .inl (kI, 3002, .inl fk)), (mr 6, .inl (kI, 3002, .inl fa))]) [3, 0, 4] rfl
              replace hDc := hD.subT (f' := [(m9, .inr (23, mA mr mv vf xl (nI zs) ff_21 xa_22 (nI T) (nI (pp + 1)) xi xt xn (nI (ns + 1)) (nI vv) (nI bb))), (mr 5, .inl (kI, 3002, .inl fk)), (mr 6, .inl (kI, 3002, .inl fa))]) [3, 0, 4] (by decide) rfl
              replace hKc := hK.sub (tys' := [(kI, .int)]) [0] rfl
              replace hFc := va_freeB (wc := [(m9, .inr (23, mA mr mv vf xl (nI zs) ff_21 xa_22 (nI T) (nI (pp + 1)) xi xt xn (nI (ns + 1)) (nI vv) (nI bb))), (mr 5, .inl (kI, 3002, .inl fk)), (mr 6, .inl (kI, 3002, .inl fa))]) hD hS hA [3, 0, 4] rfl
              refine W.grow (fun hgs0 hgs1 => ?_)
              refine va_callr (va_runV (As := []) (rest := [.ref q_1]) ⟨hx, hb, hml, hown, hts⟩ (c_xunB l dC dI m9 mr mv vf xl xa_22 xi xt xn zs T (pp + 1) (ns + 1) vv bb kI fk fa ff_21 L F (slN H) H.size hf23_0) (cwV 0 hts g_c_xuy_c_xunB_166 rfl rfl rfl (by decide +kernel) ⟨by show 2 + 1 ≤ 6 + 12 * k; omega, by show 8 + (3 + 11) + (32) ≤ 130 + 279 * k; omega⟩) ⟨fun a U g mk q => by obtain ⟨q0, q1, qP, qK, qD, qx0, qx1⟩ := q; exact ⟨q0, q1, qP, va_K.moved (u := U) (U := U.calling g mk a) (Vm.Alike.refl U.vm) qK, qD, nsM.same (u := U) (U := U.calling g mk a) rfl qx0, qx1⟩, va_recv hKc hPc (ci := 23) (q0 := 0) rfl rfl, fun U hU hW => ⟨rfl, by rw [hU], by rw [hU]; exact hPc, va_K.moved hW.alike hKc, hDc.weaken (fun _ _ _ _ => trivial), nsM.warm hW hns, by rw [hU]⟩⟩ rfl rfl hl.1 rfl (lv_room (Nat.le_of_ble_eq_true rfl)) dX23_unary_166 ⟨(show 1 + 1 ≤ (8 * (T - pp) + 7) by omega), (show 14 + 14 ≤ (120 * (T - pp) + 340) by omega)⟩) hS (fun q _ h => hFc q h) hFc (fun u r_28 tS H1 locs ht hvm hw hB hz1 hk1 hS => ?_)
              obtain ⟨L8, F8, hf28_0, hf28_1, hP1, hK1, hD1⟩ := hB
              rw [ht] at hP1
              replace hK1 := va_K.moved hvm.symm hK1
              rw [ht] at hf28_1
              have hgz : H1.size ≤ s.heap.size + ((1 + 1)) ∧ slN H1 ≤ slN s.heap + ((14 + 14)) := ⟨by have := hf28_1.1; omega, by have := hf28_1.2; omega⟩
              obtain ⟨hPj, hDj⟩ := va_joinB (wr := [(mr 8, .inl (kL, 3002, .inr (.inl fn))), (q_1, .inr (15, [.int 13, .int (nI pp), .int 0, .int 0, .int 0, .int 0, .long 0, .int 0, .null, .null, .null, .int 0, .null, .null]))]) (w1 := [(m9, .inr (23, mA mr mv vf xl (nI zs) ff_21 xa_22 (nI T) (nI (pp + 1)) xi xt xn (nI (ns + 1)) (nI vv) (nI bb))), (mr 5, .inl (kI, 3002, .inl fk)), (mr 6, .inl (kI, 3002, .inl fa))]) hP hD [3, 0, 4] [1, 2] rfl rfl (by decide) (by decide) hk1 hFc hP1 hD1
              replace hP := hPj
              replace hD := hDj
              clear hPj hDj
              replace hK := hK.app hK1
              generalize H1 = H at hP hS hgz ⊢
              replace hP : va_P (dC, dI) vwCl (([(mr 8, .inl (kL, 3002, .inr (.inl fn))), (q_1, .inr (15, [.int 13, .int (nI pp), .int 0, .int 0, .int 0, .int 0, .long 0, .int 0, .null, .null, .null, .int 0, .null, .null])), (m9, .inr (23, mA mr mv vf xl (nI zs) ff_21 xa_22 (nI T) (nI (pp + 1)) xi xt xn (nI (ns + 1)) (nI vv) (nI bb))), (mr 5, .inl (kI, 3002, .inl fk)), (mr 6, .inl (kI, 3002, .inl fa))] : va_W) ++ (sT L8 F8)) H := hP
              replace hD : va_D A (([(mr 8, .inl (kL, 3002, .inr (.inl fn))), (q_1, .inr (15, [.int 13, .int (nI pp), .int 0, .int 0, .int 0, .int 0, .long 0, .int 0, .null, .null, .null, .int 0, .null, .null])), (m9, .inr (23, mA mr mv vf xl (nI zs) ff_21 xa_22 (nI T) (nI (pp + 1)) xi xt xn (nI (ns + 1)) (nI vv) (nI bb))), (mr 5, .inl (kI, 3002, .inl fk)), (mr 6, .inl (kI, 3002, .inl fa))] : va_W) ++ (sT L8 F8)) := hD
              replace hK : va_K (dC, dI) vwCl [(kI, .int), (kL, .long), (kE, .object RX15), (kI, .int)] s := hK
              replace hK := hK.sub (tys' := [(kI, .int), (kL, .long), (kE, .object RX15)]) [0, 1, 2] rfl
              refine W.tight (k := (1 + 1)) (n := (14 + 14)) hgz.1 hgz.2 ?_
              clear hz1 hk1 hPc hDc hKc hFc hP1 hD1 hK1
              refine va_put (D := (dC, dI)) (ci := 15) (v := .ref r_28) (ty := (.object "OwnedPlacesModel$Exp")) (C := RX15) (T := TX15) (N := 14) hx hb hts in_c_xuy_X15 tyX15 tyX15_ok nmX15 hown hK hP hD hS 1 rfl rfl 8 (by decide) (hts (.fieldLink RX23 331 "OwnedPlacesModel$Exp" "of" "LOwnedPlacesModel$Exp;") (wm_c_xuy 33 rfl)) (fun _ h9 => h9) rfl (by decide +kernel) rfl rfl (Nat.le_of_ble_eq_true rfl) dX23_unary_169 (fun H locs hP hD hS => ?_)
              replace hP : va_P (dC, dI) vwCl (([(mr 8, .inl (kL, 3002, .inr (.inl fn))), (q_1, .inr (15, [.int 13, .int (nI pp), .int 0, .int 0, .int 0, .int 0, .long 0, .int 0, .ref r_28, .null, .null, .int 0, .null, .null])), (m9, .inr (23, mA mr mv vf xl (nI zs) ff_21 xa_22 (nI T) (nI (pp + 1)) xi xt xn (nI (ns + 1)) (nI vv) (nI bb))), (mr 5, .inl (kI, 3002, .inl fk)), (mr 6, .inl (kI, 3002, .inl fa))] : va_W) ++ (sT L8 F8)) H := hP
              replace hD : va_D A (([(mr 8, .inl (kL, 3002, .inr (.inl fn))), (q_1, .inr (15, [.int 13, .int (nI pp), .int 0, .int 0, .int 0, .int 0, .long 0, .int 0, .ref r_28, .null, .null, .int 0, .null, .null])), (m9, .inr (23, mA mr mv vf xl (nI zs) ff_21 xa_22 (nI T) (nI (pp + 1)) xi xt xn (nI (ns + 1)) (nI vv) (nI bb))), (mr 5, .inl (kI, 3002, .inl fk)), (mr 6, .inl (kI, 3002, .inl fa))] : va_W) ++ (sT L8 F8)) := hD
              refine lv_aload_n hx hb dX23_unary_172 rfl (lv_at hl 2 rfl) ?_
              refine lv_dup hx hb dX23_unary_173 rfl ?_
              refine va_get (D := (dC, dI)) (ci := 23) (v := .int (nI (ns + 1))) (C := RX23) (T := TX23) (N := 89) hx hb hts in_c_xuy_X23 hown hK hP 2 rfl rfl 15 (by decide) (hts (.fieldLink RX23 104 "OwnedPlacesModel" "nest" "I") (wm_c_xuy 20 rfl)) (fun _ h9 => h9) rfl dX23_unary_174 ?_
              refine lv_iconst (v := 1) hx hb dX23_unary_177 (by decide) ?_
              refine lv_isub hx hb dX23_unary_178 ?_
              refine lv_topi (fun f_29 ef_29 => ?_)
              obtain rfl : f_29 = nI ns := ef_29.trans (nI_pred _)
              refine va_put (D := (dC, dI)) (ci := 23) (v := .int (nI ns)) (ty := .int) (C := RX23) (T := TX23) (N := 89) hx hb hts in_c_xuy_X23 tyX23 tyX23_ok nmX23 hown hK hP hD hS 2 rfl rfl 15 (by decide) (hts (.fieldLink RX23 104 "OwnedPlacesModel" "nest" "I") (wm_c_xuy 20 rfl)) (fun _ h9 => h9) rfl (by decide +kernel) rfl rfl (Nat.le_of_ble_eq_true rfl) dX23_unary_179 (fun H locs hP hD hS => ?_)
              replace hP : va_P (dC, dI) vwCl (([(mr 8, .inl (kL, 3002, .inr (.inl fn))), (q_1, .inr (15, [.int 13, .int (nI pp), .int 0, .int 0, .int 0, .int 0, .long 0, .int 0, .ref r_28, .null, .null, .int 0, .null, .null])), (m9, .inr (23, mA mr mv vf xl (nI zs) ff_21 xa_22 (nI T) (nI (pp + 1)) xi xt xn (nI ns) (nI vv) (nI bb))), (mr 5, .inl (kI, 3002, .inl fk)), (mr 6, .inl (kI, 3002, .inl fa))] : va_W) ++ (sT L8 F8)) H := hP
              replace hD : va_D A (([(mr 8, .inl (kL, 3002, .inr (.inl fn))), (q_1, .inr (15, [.int 13, .int (nI pp), .int 0, .int 0, .int 0, .int 0, .long 0, .int 0, .ref r_28, .null, .null, .int 0, .null, .null])), (m9, .inr (23, mA mr mv vf xl (nI zs) ff_21 xa_22 (nI T) (nI (pp + 1)) xi xt xn (nI ns) (nI vv) (nI bb))), (mr 5, .inl (kI, 3002, .inl fk)), (mr 6, .inl (kI, 3002, .inl fa))] : va_W) ++ (sT L8 F8)) := hD
              refine lv_aload_n hx hb dX23_unary_182 rfl (lv_at hl 1 rfl) ?_
              replace hP : va_P (dC, dI) vwCl ((([(mr 8, .inl (kL, 3002, .inr (.inl fn))), (m9, .inr (23, mA mr mv vf xl (nI zs) ff_21 xa_22 (nI T) (nI (pp + 1)) xi xt xn (nI ns) (nI vv) (nI bb))), (mr 5, .inl (kI, 3002, .inl fk)), (mr 6, .inl (kI, 3002, .inl fa))] : va_W) ++ ([(q_1, .inr (15, [.int 13, .int (nI pp), .int 0, .int 0, .int 0, .int 0, .long 0, .int 0, .ref r_28, .null, .null, .int 0, .null, .null]))] : va_W)) ++ sT L8 F8) H := hP.subT (f' := [(mr 8, .inl (kL, 3002, .inr (.inl fn))), (m9, .inr (23, mA mr mv vf xl (nI zs) ff_21 xa_22 (nI T) (nI (pp + 1)) xi xt xn (nI ns) (nI vv) (nI bb))), (mr 5, .inl (kI, 3002, .inl fk)), (mr 6, .inl (kI, 3002, .inl fa)), (q_1, .inr (15, [.int 13, .int (nI pp), .int 0, .int 0, .int 0, .int 0, .long 0, .int 0, .ref r_28, .null, .null, .int 0, .null, .null]))]) [0, 2, 3, 4, 1] rfl
              replace hD : va_D A ((([(mr 8, .inl (kL, 3002, .inr (.inl fn))), (m9, .inr (23, mA mr mv vf xl (nI zs) ff_21 xa_22 (nI T) (nI (pp + 1)) xi xt xn (nI ns) (nI vv) (nI bb))), (mr 5, .inl (kI, 3002, .inl fk)), (mr 6, .inl (kI, 3002, .inl fa))] : va_W) ++ ([(q_1, .inr (15, [.int 13, .int (nI pp), .int 0, .int 0, .int 0, .int 0, .long 0, .int 0, .ref r_28, .null, .null, .int 0, .null, .null]))] : va_W)) ++ sT L8 F8) := hD.subT (f' := [(mr 8, .inl (kL, 3002, .inr (.inl fn))), (m9, .inr (23, mA mr mv vf xl (nI zs) ff_21 xa_22 (nI T) (nI (pp + 1)) xi xt xn (nI ns) (nI vv) (nI bb))), (mr 5, .inl (kI, 3002, .inl fk)), (mr 6, .inl (kI, 3002, .inl fa)), (q_1, .inr (15, [.int 13, .int (nI pp), .int 0, .int 0, .int 0, .int 0, .long 0, .int 0, .ref r_28, .null, .null, .int 0, .null, .null]))]) [0, 2, 3, 4, 1] (by decide) rfl
              obtain ⟨L9, F9, hx9, hm9, hP, hD⟩ := st_fileL [(q_1, .inr (15, [.int 13, .int (nI pp), .int 0, .int 0, .int 0, .int 0, .long 0, .int 0, .ref r_28, .null, .null, .int 0, .null, .null]))] hP hD
              have hm9_0 := hm9 _ (List.mem_of_getElem? (i := 0) rfl)
              refine W.grow (fun hgs0 hgs1 => ?_)
              have hP9 := hP.subT (f' := [(m9, .inr (23, mA mr mv vf xl (nI zs) ff_21 xa_22 (nI T) (nI (pp + 1)) xi xt xn (nI ns) (nI vv) (nI bb))), (mr 5, .inl (kI, 3002, .inl fk)), (mr 6, .inl (kI, 3002, .inl fa)), (mr 8, .inl (kL, 3002, .inr (.inl fn)))]) [1, 2, 3, 0] rfl
              have hD9 := hD.subT (f' := [(m9, .inr (23, mA mr mv vf xl (nI zs) ff_21 xa_22 (nI T) (nI (pp + 1)) xi xt xn (nI ns) (nI vv) (nI bb))), (mr 5, .inl (kI, 3002, .inl fk)), (mr 6, .inl (kI, 3002, .inl fa)), (mr 8, .inl (kL, 3002, .inr (.inl fn)))]) [1, 2, 3, 0] (by decide) rfl
              have hK9 := hK.sub (tys' := [(kI, .int), (kL, .long), (kE, .object RX15)]) [0, 1, 2] rfl
              refine W.widen (k := (8 * (T - pp) + 7)) (n := (120 * (T - pp) + 340)) (by omega) (by omega) ?_
              exact W.aret hx hb hr (Or.inl ⟨_, rfl⟩) (Or.inr ⟨q_1, rfl⟩) (fun tS ht hW => ⟨⟨(), q_1, rfl, trivial, L9, F9, ff_21, xa_22, pp + 1, bb, ⟨(hf28_0.1).tr hx9, hm9_0.1, _, hm9_0.2⟩, ⟨by omega, by omega, by omega, by omega⟩, (fun q9 => absurd q9 hf23_0), by rw [ht]; exact ⟨by omega, by omega⟩, by rw [ht]; exact hP9, va_K.moved hW.alike hK9, hD9⟩, hS.F ht⟩) hS.2.2 dX23_unary_183
            · replace hPc := hP.subF (f' := [(m9, .inr (23, mA mr mv vf xl (nI zs) 0 xa (nI T) (nI pp) xi xt xn (nI ns) (nI vv) (nI bb))), (mr 6, .inl (kI, 3002, .inl fa))]) [4, 1] rfl
              replace hDc := hD.subF (f' := [(m9, .inr (23, mA mr mv vf xl (nI zs) 0 xa (nI T) (nI pp) xi xt xn (nI ns) (nI vv) (nI bb))), (mr 6, .inl (kI, 3002, .inl fa))]) [4, 1] (by decide) rfl
              replace hKc := hK.sub (tys' := [(kI, .int)]) [0] rfl
              replace hFc := va_freeT (wc := [(m9, .inr (23, mA mr mv vf xl (nI zs) 0 xa (nI T) (nI pp) xi xt xn (nI ns) (nI vv) (nI bb))), (mr 6, .inl (kI, 3002, .inl fa))]) hD hS hA [4, 1] rfl
              refine va_callv (va_runV (As := [.int (nI pp)]) (rest := []) ⟨hx, hb, hml, hown, hts⟩ (c_renY l dC dI m9 mr mv vf xl xa xi xt xn zs T pp ns vv bb kI fk fa pp H.size (by omega) (⟨hn_20, by omega⟩)) (cwV 1 hts g_c_xuy_c_renY_125 rfl rfl rfl (by decide +kernel) ⟨by show 1 + 1 ≤ 6 + 12 * k; omega, by show 8 + (2 + 11) + (20) ≤ 130 + 279 * k; omega⟩) ⟨fun a U g mk q => by obtain ⟨q0, q1, qP, qK, qD⟩ := q; exact ⟨q0, q1, qP, va_K.moved (u := U) (U := U.calling g mk a) (Vm.Alike.refl U.vm) qK, qD⟩, va_recv hKc hPc (ci := 23) (q0 := 0) rfl rfl, fun U hU hW => ⟨rfl, by rw [hU], by rw [hU]; exact hPc, va_K.moved hW.alike hKc, hDc.weaken (fun _ _ _ _ => trivial)⟩⟩ rfl rfl hl.1 rfl (lv_room (Nat.le_of_ble_eq_true rfl)) dX23_unary_125 ⟨(show 1 + 0 ≤ (8 * (T - pp) + 7) by omega), (show 14 + 0 ≤ (120 * (T - pp) + 340) by omega)⟩) hS (fun q _ h => hFc q h) hFc (fun u tS H1 locs ht hvm hw hB hz1 hk1 hS => ?_)
              obtain ⟨hP1, hK1, hD1⟩ := hB
              rw [ht] at hP1
              replace hK1 := va_K.moved hvm.symm hK1
              obtain ⟨hPj, hDj⟩ := va_joinT (wr := [(mr 5, .inl (kI, 3002, .inl fk)), (mr 8, .inl (kL, 3002, .inr (.inl fn))), (q_1, .inr (15, [.int 13, .int (nI pp), .int 0, .int 0, .int 0, .int 0, .long 0, .int 0, .null, .null, .null, .int 0, .null, .null]))]) (w1 := [(m9, .inr (23, mA mr mv vf xl (nI zs) 0 xa (nI T) (nI pp) xi xt xn (nI (ns + 1)) (nI vv) (nI bb))), (mr 6, .inl (kI, 3002, .inl fa))]) hP hD [4, 1] [0, 2, 3] rfl rfl (by decide) (by decide) hk1 hFc hP1 hD1
              replace hP := hPj
              replace hD := hDj
              clear hPj hDj
              replace hK := hK.app hK1
              generalize H1 = H at hP hS ⊢
              replace hP : va_P (dC, dI) vwCl (([(mr 5, .inl (kI, 3002, .inl fk)), (mr 8, .inl (kL, 3002, .inr (.inl fn))), (q_1, .inr (15, [.int 13, .int (nI pp), .int 0, .int 0, .int 0, .int 0, .long 0, .int 0, .null, .null, .null, .int 0, .null, .null])), (m9, .inr (23, mA mr mv vf xl (nI zs) 0 xa (nI T) (nI pp) xi xt xn (nI (ns + 1)) (nI vv) (nI bb))), (mr 6, .inl (kI, 3002, .inl fa))] : va_W) ++ (sT L F)) H := hP
              replace hD : va_D A (([(mr 5, .inl (kI, 3002, .inl fk)), (mr 8, .inl (kL, 3002, .inr (.inl fn))), (q_1, .inr (15, [.int 13, .int (nI pp), .int 0, .int 0, .int 0, .int 0, .long 0, .int 0, .null, .null, .null, .int 0, .null, .null])), (m9, .inr (23, mA mr mv vf xl (nI zs) 0 xa (nI T) (nI pp) xi xt xn (nI (ns + 1)) (nI vv) (nI bb))), (mr 6, .inl (kI, 3002, .inl fa))] : va_W) ++ (sT L F)) := hD
              replace hK : va_K (dC, dI) vwCl [(kI, .int), (kL, .long), (kE, .object RX15), (kI, .int)] s := hK
              replace hK := hK.sub (tys' := [(kI, .int), (kL, .long), (kE, .object RX15)]) [0, 1, 2] rfl
              clear hz1 hk1 hPc hDc hKc hFc hP1 hD1 hK1
              refine lv_iload_n hx hb dX23_unary_128 rfl (lv_at hl 0 rfl) ?_
              refine lv_bipush (v := 55) hx hb dX23_unary_129 (by decide) ?_
              refine lv_icmp_ne (tgt := 138) hx hb dX23_unary_131 (by decide) (fun _ => ?_) (fun c_22 => absurd c_22 hk_12)
              refine lv_aload_n hx hb dX23_unary_138 rfl (lv_at hl 2 rfl) ?_
              refine lv_dup hx hb dX23_unary_139 rfl ?_
              refine va_get (D := (dC, dI)) (ci := 23) (v := .int (nI pp)) (C := RX23) (T := TX23) (N := 89) hx hb hts in_c_xuy_X23 hown hK hP 3 rfl rfl 10 (by decide) (hts (.fieldLink RX23 86 "OwnedPlacesModel" "p" "I") (wm_c_xuy 16 rfl)) (fun _ h9 => h9) rfl dX23_unary_140 ?_
              refine lv_iconst (v := 1) hx hb dX23_unary_143 (by decide) ?_
              refine lv_iadd hx hb dX23_unary_144 ?_
              refine lv_topi (fun f_23 ef_23 => ?_)
              obtain rfl : f_23 = nI (pp + 1) := ef_23.trans (nI_1 _)
              refine va_put (D := (dC, dI)) (ci := 23) (v := .int (nI (pp + 1))) (ty := .int) (C := RX23) (T := TX23) (N := 89) hx hb hts in_c_xuy_X23 tyX23 tyX23_ok nmX23 hown hK hP hD hS 3 rfl rfl 10 (by decide) (hts (.fieldLink RX23 86 "OwnedPlacesModel" "p" "I") (wm_c_xuy 16 rfl)) (fun _ h9 => h9) rfl (by decide +kernel) rfl rfl (Nat.le_of_ble_eq_true rfl) dX23_unary_145 (fun H locs hP hD hS => ?_)
              replace hP : va_P (dC, dI) vwCl (([(mr 5, .inl (kI, 3002, .inl fk)), (mr 8, .inl (kL, 3002, .inr (.inl fn))), (q_1, .inr (15, [.int 13, .int (nI pp), .int 0, .int 0, .int 0, .int 0, .long 0, .int 0, .null, .null, .null, .int 0, .null, .null])), (m9, .inr (23, mA mr mv vf xl (nI zs) 0 xa (nI T) (nI (pp + 1)) xi xt xn (nI (ns + 1)) (nI vv) (nI bb))), (mr 6, .inl (kI, 3002, .inl fa))] : va_W) ++ (sT L F)) H := hP
              replace hD : va_D A (([(mr 5, .inl (kI, 3002, .inl fk)), (mr 8, .inl (kL, 3002, .inr (.inl fn))), (q_1, .inr (15, [.int 13, .int (nI pp), .int 0, .int 0, .int 0, .int 0, .long 0, .int 0, .null, .null, .null, .int 0, .null, .null])), (m9, .inr (23, mA mr mv vf xl (nI zs) 0 xa (nI T) (nI (pp + 1)) xi xt xn (nI (ns + 1)) (nI vv) (nI bb))), (mr 6, .inl (kI, 3002, .inl fa))] : va_W) ++ (sT L F)) := hD
              have hp_24 : pp + 1 < T := kne3 hk0 hp hk_14 (by decide)
              refine lv_iload_n hx hb dX23_unary_148 rfl (lv_at hl 0 rfl) ?_
              refine lv_bipush (v := 55) hx hb dX23_unary_149 (by decide) ?_
              refine lv_icmp_ne (tgt := 164) hx hb dX23_unary_151 (by decide) (fun _ => ?_) (fun c_25 => absurd c_25 hk_12)
              refine lv_aload_n hx hb dX23_unary_164 rfl (lv_at hl 1 rfl) ?_
              refine lv_aload_n hx hb dX23_unary_165 rfl (lv_at hl 2 rfl) ?_
              obtain ⟨k1, hkL⟩ : ∃ k1 : Nat, k = k1 + 1 := ⟨k - 1, by omega⟩
              replace hPc := hP.subT (f' := [(m9, .inr (23, mA mr mv vf xl (nI zs) 0 xa (nI T) (nI (pp + 1)) xi xt xn (nI (ns + 1)) (nI vv) (nI bb))), (mr 5, .inl (kI, 3002, .inl fk)), (mr 6, .inl (kI, 3002, .inl fa)), (mr 8, .inl (kL, 3002, .inr (.inl fn)))]) [3, 0, 4, 1] rfl
              replace hDc := hD.subT (f' := [(m9, .inr (23, mA mr mv vf xl (nI zs) 0 xa (nI T) (nI (pp + 1)) xi xt xn (nI (ns + 1)) (nI vv) (nI bb))), (mr 5, .inl (kI, 3002, .inl fk)), (mr 6, .inl (kI, 3002, .inl fa)), (mr 8, .inl (kL, 3002, .inr (.inl fn)))]) [3, 0, 4, 1] (by decide) rfl
              replace hKc := hK.sub (tys' := [(kI, .int), (kL, .long), (kE, .object RX15)]) [0, 1, 2] rfl
              replace hFc := va_freeB (wc := [(m9, .inr (23, mA mr mv vf xl (nI zs) 0 xa (nI T) (nI (pp + 1)) xi xt xn (nI (ns + 1)) (nI vv) (nI bb))), (mr 5, .inl (kI, 3002, .inl fk)), (mr 6, .inl (kI, 3002, .inl fa)), (mr 8, .inl (kL, 3002, .inr (.inl fn)))]) hD hS hA [3, 0, 4, 1] rfl
              refine W.grow (fun hgs0 hgs1 => ?_)
              refine va_callr (va_runV (As := []) (rest := [.ref q_1]) ⟨hx, hb, hml, hown, hts⟩ ((ih k1 hkL).2.2.2.2.2.1 m9 mr mv vf xl xa xi xt xn zs T (pp + 1) (ns + 1) vv bb kI fk fa kL kE fn L F (slN H) H.size hT hp_24 hk0 hbb (by omega)) (cwV 0 hts g_c_xuy_c_xuy_166 rfl rfl rfl (by decide +kernel) ⟨by show 6 + 12 * k1 + 1 ≤ 6 + 12 * k; omega, by show 8 + (3 + 11) + (130 + 279 * k1) ≤ 130 + 279 * k; omega⟩) ⟨fun a U g mk q => by obtain ⟨q0, q1, qP, qK, qD, qx0, qx1⟩ := q; exact ⟨q0, q1, qP, va_K.moved (u := U) (U := U.calling g mk a) (Vm.Alike.refl U.vm) qK, qD, nsM.same (u := U) (U := U.calling g mk a) rfl qx0, qx1⟩, va_recv hKc hPc (ci := 23) (q0 := 0) rfl rfl, fun U hU hW => ⟨rfl, by rw [hU], by rw [hU]; exact hPc, va_K.moved hW.alike hKc, hDc.weaken (fun _ _ _ _ => trivial), nsM.warm hW hns, by rw [hU]⟩⟩ rfl rfl hl.1 rfl (lv_room (Nat.le_of_ble_eq_true rfl)) dX23_unary_166 ⟨(show 1 + (8 * (T - (pp + 1)) + 7) ≤ (8 * (T - pp) + 7) by omega), (show 14 + (120 * (T - (pp + 1)) + 340) ≤ (120 * (T - pp) + 340) by omega)⟩) hS (fun q _ h => hFc q h) hFc (fun u r_26 tS H1 locs ht hvm hw hB hz1 hk1 hS => ?_)
              obtain ⟨L25, F25, ff25, xa25, pp25, bb25, hf26_0, hf26_1, hf26_2, hf26_3, hP1, hK1, hD1⟩ := hB
              rw [ht] at hP1
              replace hK1 := va_K.moved hvm.symm hK1
              rw [ht] at hf26_3
              have hgz : H1.size ≤ s.heap.size + ((1 + 8 * (pp25 - (pp + 1)) + 3)) ∧ slN H1 ≤ slN s.heap + ((14 + 120 * (pp25 - (pp + 1)) + 48)) := ⟨by have := hf26_3.1; omega, by have := hf26_3.2; omega⟩
              obtain ⟨hPj, hDj⟩ := va_joinB (wr := [(q_1, .inr (15, [.int 13, .int (nI pp), .int 0, .int 0, .int 0, .int 0, .long 0, .int 0, .null, .null, .null, .int 0, .null, .null]))]) (w1 := [(m9, .inr (23, mA mr mv vf xl (nI zs) ff25 xa25 (nI T) (nI pp25) xi xt xn (nI (ns + 1)) (nI vv) (nI bb25))), (mr 5, .inl (kI, 3002, .inl fk)), (mr 6, .inl (kI, 3002, .inl fa)), (mr 8, .inl (kL, 3002, .inr (.inl fn)))]) hP hD [3, 0, 4, 1] [2] rfl rfl (by decide) (by decide) hk1 hFc hP1 hD1
              replace hP := hPj
              replace hD := hDj
              clear hPj hDj
              replace hK := hK.app hK1
              generalize H1 = H at hP hS hgz ⊢
              replace hP : va_P (dC, dI) vwCl (([(q_1, .inr (15, [.int 13, .int (nI pp), .int 0, .int 0, .int 0, .int 0, .long 0, .int 0, .null, .null, .null, .int 0, .null, .null])), (m9, .inr (23, mA mr mv vf xl (nI zs) ff25 xa25 (nI T) (nI pp25) xi xt xn (nI (ns + 1)) (nI vv) (nI bb25))), (mr 5, .inl (kI, 3002, .inl fk)), (mr 6, .inl (kI, 3002, .inl fa)), (mr 8, .inl (kL, 3002, .inr (.inl fn)))] : va_W) ++ (sT L25 F25)) H := hP
              replace hD : va_D A (([(q_1, .inr (15, [.int 13, .int (nI pp), .int 0, .int 0, .int 0, .int 0, .long 0, .int 0, .null, .null, .null, .int 0, .null, .null])), (m9, .inr (23, mA mr mv vf xl (nI zs) ff25 xa25 (nI T) (nI pp25) xi xt xn (nI (ns + 1)) (nI vv) (nI bb25))), (mr 5, .inl (kI, 3002, .inl fk)), (mr 6, .inl (kI, 3002, .inl fa)), (mr 8, .inl (kL, 3002, .inr (.inl fn)))] : va_W) ++ (sT L25 F25)) := hD
              replace hK : va_K (dC, dI) vwCl [(kI, .int), (kL, .long), (kE, .object RX15), (kI, .int), (kL, .long), (kE, .object RX15)] s := hK
              replace hK := hK.sub (tys' := [(kI, .int), (kL, .long), (kE, .object RX15)]) [0, 1, 2] rfl
              refine W.tight (k := (1 + 8 * (pp25 - (pp + 1)) + 3)) (n := (14 + 120 * (pp25 - (pp + 1)) + 48)) hgz.1 hgz.2 ?_
              clear hz1 hk1 hPc hDc hKc hFc hP1 hD1 hK1
              refine va_put (D := (dC, dI)) (ci := 15) (v := .ref r_26) (ty := (.object "OwnedPlacesModel$Exp")) (C := RX15) (T := TX15) (N := 14) hx hb hts in_c_xuy_X15 tyX15 tyX15_ok nmX15 hown hK hP hD hS 0 rfl rfl 8 (by decide) (hts (.fieldLink RX23 331 "OwnedPlacesModel$Exp" "of" "LOwnedPlacesModel$Exp;") (wm_c_xuy 33 rfl)) (fun _ h9 => h9) rfl (by decide +kernel) rfl rfl (Nat.le_of_ble_eq_true rfl) dX23_unary_169 (fun H locs hP hD hS => ?_)
              replace hP : va_P (dC, dI) vwCl (([(q_1, .inr (15, [.int 13, .int (nI pp), .int 0, .int 0, .int 0, .int 0, .long 0, .int 0, .ref r_26, .null, .null, .int 0, .null, .null])), (m9, .inr (23, mA mr mv vf xl (nI zs) ff25 xa25 (nI T) (nI pp25) xi xt xn (nI (ns + 1)) (nI vv) (nI bb25))), (mr 5, .inl (kI, 3002, .inl fk)), (mr 6, .inl (kI, 3002, .inl fa)), (mr 8, .inl (kL, 3002, .inr (.inl fn)))] : va_W) ++ (sT L25 F25)) H := hP
              replace hD : va_D A (([(q_1, .inr (15, [.int 13, .int (nI pp), .int 0, .int 0, .int 0, .int 0, .long 0, .int 0, .ref r_26, .null, .null, .int 0, .null, .null])), (m9, .inr (23, mA mr mv vf xl (nI zs) ff25 xa25 (nI T) (nI pp25) xi xt xn (nI (ns + 1)) (nI vv) (nI bb25))), (mr 5, .inl (kI, 3002, .inl fk)), (mr 6, .inl (kI, 3002, .inl fa)), (mr 8, .inl (kL, 3002, .inr (.inl fn)))] : va_W) ++ (sT L25 F25)) := hD
              refine lv_aload_n hx hb dX23_unary_172 rfl (lv_at hl 2 rfl) ?_
              refine lv_dup hx hb dX23_unary_173 rfl ?_
              refine va_get (D := (dC, dI)) (ci := 23) (v := .int (nI (ns + 1))) (C := RX23) (T := TX23) (N := 89) hx hb hts in_c_xuy_X23 hown hK hP 1 rfl rfl 15 (by decide) (hts (.fieldLink RX23 104 "OwnedPlacesModel" "nest" "I") (wm_c_xuy 20 rfl)) (fun _ h9 => h9) rfl dX23_unary_174 ?_
              refine lv_iconst (v := 1) hx hb dX23_unary_177 (by decide) ?_
              refine lv_isub hx hb dX23_unary_178 ?_
              refine lv_topi (fun f_27 ef_27 => ?_)
              obtain rfl : f_27 = nI ns := ef_27.trans (nI_pred _)
              refine va_put (D := (dC, dI)) (ci := 23) (v := .int (nI ns)) (ty := .int) (C := RX23) (T := TX23) (N := 89) hx hb hts in_c_xuy_X23 tyX23 tyX23_ok nmX23 hown hK hP hD hS 1 rfl rfl 15 (by decide) (hts (.fieldLink RX23 104 "OwnedPlacesModel" "nest" "I") (wm_c_xuy 20 rfl)) (fun _ h9 => h9) rfl (by decide +kernel) rfl rfl (Nat.le_of_ble_eq_true rfl) dX23_unary_179 (fun H locs hP hD hS => ?_)
              replace hP : va_P (dC, dI) vwCl (([(q_1, .inr (15, [.int 13, .int (nI pp), .int 0, .int 0, .int 0, .int 0, .long 0, .int 0, .ref r_26, .null, .null, .int 0, .null, .null])), (m9, .inr (23, mA mr mv vf xl (nI zs) ff25 xa25 (nI T) (nI pp25) xi xt xn (nI ns) (nI vv) (nI bb25))), (mr 5, .inl (kI, 3002, .inl fk)), (mr 6, .inl (kI, 3002, .inl fa)), (mr 8, .inl (kL, 3002, .inr (.inl fn)))] : va_W) ++ (sT L25 F25)) H := hP
              replace hD : va_D A (([(q_1, .inr (15, [.int 13, .int (nI pp), .int 0, .int 0, .int 0, .int 0, .long 0, .int 0, .ref r_26, .null, .null, .int 0, .null, .null])), (m9, .inr (23, mA mr mv vf xl (nI zs) ff25 xa25 (nI T) (nI pp25) xi xt xn (nI ns) (nI vv) (nI bb25))), (mr 5, .inl (kI, 3002, .inl fk)), (mr 6, .inl (kI, 3002, .inl fa)), (mr 8, .inl (kL, 3002, .inr (.inl fn)))] : va_W) ++ (sT L25 F25)) := hD
              refine lv_aload_n hx hb dX23_unary_182 rfl (lv_at hl 1 rfl) ?_
              by_cases hz_28 : ff25 = 0
              · subst hz_28
                have hg25 := hf26_2 rfl
                have hlthg25 := (isE_mem hg25.2).2
                replace hP : va_P (dC, dI) vwCl ((([(m9, .inr (23, mA mr mv vf xl (nI zs) 0 xa25 (nI T) (nI pp25) xi xt xn (nI ns) (nI vv) (nI bb25))), (mr 5, .inl (kI, 3002, .inl fk)), (mr 6, .inl (kI, 3002, .inl fa)), (mr 8, .inl (kL, 3002, .inr (.inl fn)))] : va_W) ++ ([(q_1, .inr (15, [.int 13, .int (nI pp), .int 0, .int 0, .int 0, .int 0, .long 0, .int 0, .ref r_26, .null, .null, .int 0, .null, .null]))] : va_W)) ++ sT L25 F25) H := hP.subT (f' := [(m9, .inr (23, mA mr mv vf xl (nI zs) 0 xa25 (nI T) (nI pp25) xi xt xn (nI ns) (nI vv) (nI bb25))), (mr 5, .inl (kI, 3002, .inl fk)), (mr 6, .inl (kI, 3002, .inl fa)), (mr 8, .inl (kL, 3002, .inr (.inl fn))), (q_1, .inr (15, [.int 13, .int (nI pp), .int 0, .int 0, .int 0, .int 0, .long 0, .int 0, .ref r_26, .null, .null, .int 0, .null, .null]))]) [1, 2, 3, 4, 0] rfl
                replace hD : va_D A ((([(m9, .inr (23, mA mr mv vf xl (nI zs) 0 xa25 (nI T) (nI pp25) xi xt xn (nI ns) (nI vv) (nI bb25))), (mr 5, .inl (kI, 3002, .inl fk)), (mr 6, .inl (kI, 3002, .inl fa)), (mr 8, .inl (kL, 3002, .inr (.inl fn)))] : va_W) ++ ([(q_1, .inr (15, [.int 13, .int (nI pp), .int 0, .int 0, .int 0, .int 0, .long 0, .int 0, .ref r_26, .null, .null, .int 0, .null, .null]))] : va_W)) ++ sT L25 F25) := hD.subT (f' := [(m9, .inr (23, mA mr mv vf xl (nI zs) 0 xa25 (nI T) (nI pp25) xi xt xn (nI ns) (nI vv) (nI bb25))), (mr 5, .inl (kI, 3002, .inl fk)), (mr 6, .inl (kI, 3002, .inl fa)), (mr 8, .inl (kL, 3002, .inr (.inl fn))), (q_1, .inr (15, [.int 13, .int (nI pp), .int 0, .int 0, .int 0, .int 0, .long 0, .int 0, .ref r_26, .null, .null, .int 0, .null, .null]))]) [1, 2, 3, 4, 0] (by decide) rfl
                obtain ⟨L9, F9, hx9, hm9, hP, hD⟩ := st_fileL [(q_1, .inr (15, [.int 13, .int (nI pp), .int 0, .int 0, .int 0, .int 0, .long 0, .int 0, .ref r_26, .null, .null, .int 0, .null, .null]))] hP hD
                have hm9_0 := hm9 _ (List.mem_of_getElem? (i := 0) rfl)
                refine W.grow (fun hgs0 hgs1 => ?_)
                have hP9 := hP.subT (f' := [(m9, .inr (23, mA mr mv vf xl (nI zs) 0 xa25 (nI T) (nI pp25) xi xt xn (nI ns) (nI vv) (nI bb25))), (mr 5, .inl (kI, 3002, .inl fk)), (mr 6, .inl (kI, 3002, .inl fa)), (mr 8, .inl (kL, 3002, .inr (.inl fn)))]) [0, 1, 2, 3] rfl
                have hD9 := hD.subT (f' := [(m9, .inr (23, mA mr mv vf xl (nI zs) 0 xa25 (nI T) (nI pp25) xi xt xn (nI ns) (nI vv) (nI bb25))), (mr 5, .inl (kI, 3002, .inl fk)), (mr 6, .inl (kI, 3002, .inl fa)), (mr 8, .inl (kL, 3002, .inr (.inl fn)))]) [0, 1, 2, 3] (by decide) rfl
                have hK9 := hK.sub (tys' := [(kI, .int), (kL, .long), (kE, .object RX15)]) [0, 1, 2] rfl
                refine W.widen (k := (8 * (T - pp) + 7)) (n := (120 * (T - pp) + 340)) (by omega) (by omega) ?_
                exact W.aret hx hb hr (Or.inl ⟨_, rfl⟩) (Or.inr ⟨q_1, rfl⟩) (fun tS ht hW => ⟨⟨(), q_1, rfl, trivial, L9, F9, 0, xa25, pp25, bb25, ⟨(hf26_0.1).tr hx9, hm9_0.1, _, hm9_0.2⟩, ⟨by omega, by omega, by omega, by omega⟩, (fun _ => ⟨hg25.1, isE_3 hm9_0.1 (by omega) (Or.inr (Or.inr (Or.inr (Or.inr (Or.inr rfl))))) hm9_0.2 (by omega) (Nat.le_refl _) (isE_im hx9 _ (by omega) hg25.2)⟩), by rw [ht]; exact ⟨by omega, by omega⟩, by rw [ht]; exact hP9, va_K.moved hW.alike hK9, hD9⟩, hS.F ht⟩) hS.2.2 dX23_unary_183
              · replace hP : va_P (dC, dI) vwCl ((([(m9, .inr (23, mA mr mv vf xl (nI zs) ff25 xa25 (nI T) (nI pp25) xi xt xn (nI ns) (nI vv) (nI bb25))), (mr 5, .inl (kI, 3002, .inl fk)), (mr 6, .inl (kI, 3002, .inl fa)), (mr 8, .inl (kL, 3002, .inr (.inl fn)))] : va_W) ++ ([(q_1, .inr (15, [.int 13, .int (nI pp), .int 0, .int 0, .int 0, .int 0, .long 0, .int 0, .ref r_26, .null, .null, .int 0, .null, .null]))] : va_W)) ++ sT L25 F25) H := hP.subT (f' := [(m9, .inr (23, mA mr mv vf xl (nI zs) ff25 xa25 (nI T) (nI pp25) xi xt xn (nI ns) (nI vv) (nI bb25))), (mr 5, .inl (kI, 3002, .inl fk)), (mr 6, .inl (kI, 3002, .inl fa)), (mr 8, .inl (kL, 3002, .inr (.inl fn))), (q_1, .inr (15, [.int 13, .int (nI pp), .int 0, .int 0, .int 0, .int 0, .long 0, .int 0, .ref r_26, .null, .null, .int 0, .null, .null]))]) [1, 2, 3, 4, 0] rfl
                replace hD : va_D A ((([(m9, .inr (23, mA mr mv vf xl (nI zs) ff25 xa25 (nI T) (nI pp25) xi xt xn (nI ns) (nI vv) (nI bb25))), (mr 5, .inl (kI, 3002, .inl fk)), (mr 6, .inl (kI, 3002, .inl fa)), (mr 8, .inl (kL, 3002, .inr (.inl fn)))] : va_W) ++ ([(q_1, .inr (15, [.int 13, .int (nI pp), .int 0, .int 0, .int 0, .int 0, .long 0, .int 0, .ref r_26, .null, .null, .int 0, .null, .null]))] : va_W)) ++ sT L25 F25) := hD.subT (f' := [(m9, .inr (23, mA mr mv vf xl (nI zs) ff25 xa25 (nI T) (nI pp25) xi xt xn (nI ns) (nI vv) (nI bb25))), (mr 5, .inl (kI, 3002, .inl fk)), (mr 6, .inl (kI, 3002, .inl fa)), (mr 8, .inl (kL, 3002, .inr (.inl fn))), (q_1, .inr (15, [.int 13, .int (nI pp), .int 0, .int 0, .int 0, .int 0, .long 0, .int 0, .ref r_26, .null, .null, .int 0, .null, .null]))]) [1, 2, 3, 4, 0] (by decide) rfl
                obtain ⟨L9, F9, hx9, hm9, hP, hD⟩ := st_fileL [(q_1, .inr (15, [.int 13, .int (nI pp), .int 0, .int 0, .int 0, .int 0, .long 0, .int 0, .ref r_26, .null, .null, .int 0, .null, .null]))] hP hD
                have hm9_0 := hm9 _ (List.mem_of_getElem? (i := 0) rfl)
                refine W.grow (fun hgs0 hgs1 => ?_)
                have hP9 := hP.subT (f' := [(m9, .inr (23, mA mr mv vf xl (nI zs) ff25 xa25 (nI T) (nI pp25) xi xt xn (nI ns) (nI vv) (nI bb25))), (mr 5, .inl (kI, 3002, .inl fk)), (mr 6, .inl (kI, 3002, .inl fa)), (mr 8, .inl (kL, 3002, .inr (.inl fn)))]) [0, 1, 2, 3] rfl
                have hD9 := hD.subT (f' := [(m9, .inr (23, mA mr mv vf xl (nI zs) ff25 xa25 (nI T) (nI pp25) xi xt xn (nI ns) (nI vv) (nI bb25))), (mr 5, .inl (kI, 3002, .inl fk)), (mr 6, .inl (kI, 3002, .inl fa)), (mr 8, .inl (kL, 3002, .inr (.inl fn)))]) [0, 1, 2, 3] (by decide) rfl
                have hK9 := hK.sub (tys' := [(kI, .int), (kL, .long), (kE, .object RX15)]) [0, 1, 2] rfl
                refine W.widen (k := (8 * (T - pp) + 7)) (n := (120 * (T - pp) + 340)) (by omega) (by omega) ?_
                exact W.aret hx hb hr (Or.inl ⟨_, rfl⟩) (Or.inr ⟨q_1, rfl⟩) (fun tS ht hW => ⟨⟨(), q_1, rfl, trivial, L9, F9, ff25, xa25, pp25, bb25, ⟨(hf26_0.1).tr hx9, hm9_0.1, _, hm9_0.2⟩, ⟨by omega, by omega, by omega, by omega⟩, (fun q9 => absurd q9 hz_28), by rw [ht]; exact ⟨by omega, by omega⟩, by rw [ht]; exact hP9, va_K.moved hW.alike hK9, hD9⟩, hS.F ht⟩) hS.2.2 dX23_unary_183
          · refine lv_icmp_eq (tgt := 62) hx hb dX23_unary_54 (by decide) (fun c_15 => absurd c_15 hk_14) (fun _ => ?_)
            refine lv_aload_n hx hb dX23_unary_57 rfl (lv_at hl 2 rfl) ?_
            replace hPc := hP.subT (f' := [(m9, .inr (23, mA mr mv vf xl (nI zs) 0 xa (nI T) (nI pp) xi xt xn (nI ns) (nI vv) (nI bb))), (mr 5, .inl (kI, 3002, .inl fk)), (mr 6, .inl (kI, 3002, .inl fa)), (mr 8, .inl (kL, 3002, .inr (.inl fn)))]) [4, 0, 1, 2] rfl
            replace hDc := hD.subT (f' := [(m9, .inr (23, mA mr mv vf xl (nI zs) 0 xa (nI T) (nI pp) xi xt xn (nI ns) (nI vv) (nI bb))), (mr 5, .inl (kI, 3002, .inl fk)), (mr 6, .inl (kI, 3002, .inl fa)), (mr 8, .inl (kL, 3002, .inr (.inl fn)))]) [4, 0, 1, 2] (by decide) rfl
            replace hKc := hK.sub (tys' := [(kI, .int), (kL, .long), (kE, .object RX15)]) [0, 1, 2] rfl
            replace hFc := va_freeB (wc := [(m9, .inr (23, mA mr mv vf xl (nI zs) 0 xa (nI T) (nI pp) xi xt xn (nI ns) (nI vv) (nI bb))), (mr 5, .inl (kI, 3002, .inl fk)), (mr 6, .inl (kI, 3002, .inl fa)), (mr 8, .inl (kL, 3002, .inr (.inl fn)))]) hD hS hA [4, 0, 1, 2] rfl
            refine W.grow (fun hgs0 hgs1 => ?_)
            refine va_callr (va_runV (As := []) (rest := []) ⟨hx, hb, hml, hown, hts⟩ (c_xsu l dC dI k ih m9 mr mv vf xl xa xi xt xn zs T pp ns vv bb kI fk fa kL kE fn L F (slN H) H.size hT hp hk0 hbb (by omega)) (cwV 0 hts g_c_xuy_c_xsu_58 rfl rfl rfl (by decide +kernel) ⟨by show 5 + 12 * k + 1 ≤ 6 + 12 * k; omega, by show 8 + (4 + 11) + (107 + 279 * k) ≤ 130 + 279 * k; omega⟩) ⟨fun a U g mk q => by obtain ⟨q0, q1, qP, qK, qD, qx0, qx1⟩ := q; exact ⟨q0, q1, qP, va_K.moved (u := U) (U := U.calling g mk a) (Vm.Alike.refl U.vm) qK, qD, nsM.same (u := U) (U := U.calling g mk a) rfl qx0, qx1⟩, va_recv hKc hPc (ci := 23) (q0 := 0) rfl rfl, fun U hU hW => ⟨rfl, by rw [hU], by rw [hU]; exact hPc, va_K.moved hW.alike hKc, hDc.weaken (fun _ _ _ _ => trivial), nsM.warm hW hns, by rw [hU]⟩⟩ rfl rfl hl.1 rfl (lv_room (Nat.le_of_ble_eq_true rfl)) dX23_unary_58 ⟨(show 1 + (8 * (T - pp) + 5) ≤ (8 * (T - pp) + 7) by omega), (show 14 + (120 * (T - pp) + 320) ≤ (120 * (T - pp) + 340) by omega)⟩) hS (fun q _ h => hFc q h) hFc (fun u r_16 tS H1 locs ht hvm hw hB hz1 hk1 hS => ?_)
            obtain ⟨L15, F15, ff15, xa15, pp15, bb15, hf16_0, hf16_1, hf16_2, hf16_3, hP1, hK1, hD1⟩ := hB
            rw [ht] at hP1
            replace hK1 := va_K.moved hvm.symm hK1
            rw [ht] at hf16_3
            have hgz : H1.size ≤ s.heap.size + ((1 + 8 * (pp15 - pp) + 1)) ∧ slN H1 ≤ slN s.heap + ((14 + 120 * (pp15 - pp) + 14)) := ⟨by have := hf16_3.1; omega, by have := hf16_3.2; omega⟩
            obtain ⟨hPj, hDj⟩ := va_joinB (wr := [(q_1, .inr (15, [.int 0, .int 0, .int 0, .int 0, .int 0, .int 0, .long 0, .int 0, .null, .null, .null, .int 0, .null, .null]))]) (w1 := [(m9, .inr (23, mA mr mv vf xl (nI zs) ff15 xa15 (nI T) (nI pp15) xi xt xn (nI ns) (nI vv) (nI bb15))), (mr 5, .inl (kI, 3002, .inl fk)), (mr 6, .inl (kI, 3002, .inl fa)), (mr 8, .inl (kL, 3002, .inr (.inl fn)))]) hP hD [4, 0, 1, 2] [3] rfl rfl (by decide) (by decide) hk1 hFc hP1 hD1
            replace hP := hPj
            replace hD := hDj
            clear hPj hDj
            replace hK := hK.app hK1
            generalize H1 = H at hP hS hgz ⊢
            replace hP : va_P (dC, dI) vwCl (([(q_1, .inr (15, [.int 0, .int 0, .int 0, .int 0, .int 0, .int 0, .long 0, .int 0, .null, .null, .null, .int 0, .null, .null])), (m9, .inr (23, mA mr mv vf xl (nI zs) ff15 xa15 (nI T) (nI pp15) xi xt xn (nI ns) (nI vv) (nI bb15))), (mr 5, .inl (kI, 3002, .inl fk)), (mr 6, .inl (kI, 3002, .inl fa)), (mr 8, .inl (kL, 3002, .inr (.inl fn)))] : va_W) ++ (sT L15 F15)) H := hP
            replace hD : va_D A (([(q_1, .inr (15, [.int 0, .int 0, .int 0, .int 0, .int 0, .int 0, .long 0, .int 0, .null, .null, .null, .int 0, .null, .null])), (m9, .inr (23, mA mr mv vf xl (nI zs) ff15 xa15 (nI T) (nI pp15) xi xt xn (nI ns) (nI vv) (nI bb15))), (mr 5, .inl (kI, 3002, .inl fk)), (mr 6, .inl (kI, 3002, .inl fa)), (mr 8, .inl (kL, 3002, .inr (.inl fn)))] : va_W) ++ (sT L15 F15)) := hD
            replace hK : va_K (dC, dI) vwCl [(kI, .int), (kL, .long), (kE, .object RX15), (kI, .int), (kL, .long), (kE, .object RX15)] s := hK
            replace hK := hK.sub (tys' := [(kI, .int), (kL, .long), (kE, .object RX15)]) [0, 1, 2] rfl
            refine W.tight (k := (1 + 8 * (pp15 - pp) + 1)) (n := (14 + 120 * (pp15 - pp) + 14)) hgz.1 hgz.2 ?_
            clear hz1 hk1 hPc hDc hKc hFc hP1 hD1 hK1
            refine W.grow (fun hgs0 hgs1 => ?_)
            have hP9 := hP.subT (f' := [(m9, .inr (23, mA mr mv vf xl (nI zs) ff15 xa15 (nI T) (nI pp15) xi xt xn (nI ns) (nI vv) (nI bb15))), (mr 5, .inl (kI, 3002, .inl fk)), (mr 6, .inl (kI, 3002, .inl fa)), (mr 8, .inl (kL, 3002, .inr (.inl fn)))]) [1, 2, 3, 4] rfl
            have hD9 := hD.subT (f' := [(m9, .inr (23, mA mr mv vf xl (nI zs) ff15 xa15 (nI T) (nI pp15) xi xt xn (nI ns) (nI vv) (nI bb15))), (mr 5, .inl (kI, 3002, .inl fk)), (mr 6, .inl (kI, 3002, .inl fa)), (mr 8, .inl (kL, 3002, .inr (.inl fn)))]) [1, 2, 3, 4] (by decide) rfl
            have hK9 := hK.sub (tys' := [(kI, .int), (kL, .long), (kE, .object RX15)]) [0, 1, 2] rfl
            refine W.widen (k := (8 * (T - pp) + 7)) (n := (120 * (T - pp) + 340)) (by omega) (by omega) ?_
            exact W.aret hx hb hr (Or.inl ⟨_, rfl⟩) (Or.inr ⟨r_16, rfl⟩) (fun tS ht hW => ⟨⟨(), r_16, rfl, trivial, L15, F15, ff15, xa15, pp15, bb15, hf16_0, hf16_1, (fun h0 => ⟨(hf16_2 h0).1, isE_im exS.rf _ (by omega) (hf16_2 h0).2⟩), by rw [ht]; exact ⟨by omega, by omega⟩, by rw [ht]; exact hP9, va_K.moved hW.alike hK9, hD9⟩, hS.F ht⟩) hS.2.2 dX23_unary_61
