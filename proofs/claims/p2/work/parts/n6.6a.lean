set_option maxHeartbeats 8000000 in
set_option maxRecDepth 100000 in
theorem lw_sA {p : Program} {e : Env} {s : State} {m : MethodId} {below : List Frame} {meth : Method} {c : Code} (l : Launch) {b L : Nat} {xs : Nat → Int32} {dC : Nat → ClassId} {dI : Nat → Nat → Nat} {A : Nat → Prop} {ls : Array Slot} {Q : State → Prop} (hL : L ≤ 385) (hx : p.tables.exec = Jvm.exec) (hb : c.code = cL_law) (hml : c.maxLocals = 4) (hown : s.vm.findClass RL = some m.cls) (hts : ∀ w ∈ lw_tbl, w.before #[Value.ref b] s = true) (hA : ∀ q : Nat, s.heap.size ≤ q → A q) (hscr : lxS b L xs A s s.heap) (hK : va_K (dC, dI) vwCl [] s) {ta va : Nat} (hsa : sgA ta va 100 (fun j => txB_a.getD j 0) A s s.heap) (hsf : sgF A s s.heap) (hva : vk_R RX9 57 "struct enum fn let mut if else while match return print read true false box new token int bool main " ta s) (hcl : va_Nw (.castable "[I" "java/lang/Cloneable") s) (hn0 : va_Nw (.methodLinkNest RX12 27 yX10_init "OwnedPlaces") s) (hn1 : va_Nw (.methodLinkNest RX12 43 yX0_init "OwnedPlaces") s) (hn2 : va_Nw (.methodLinkNest RX1 29 yX2_init "OwnedPlaces") s) (hao_RX2 : va_AO RX2 s) (hl : lv_has ls 4 [(0, .ref b)]) (k : ∀ (op0 mh : Nat) (kI kZ kB kL kM : ClassId) (Wc : va_W) (H : Heap) (locs : List Loc) (ls : Array Slot), lwK op0 kI kZ kB kL kM 0 (mh + 8192) Wc → mh ≤ 4000 → va_P (dC, dI) vwCl Wc H → va_D A Wc → va_S A s.heap H locs → va_K (dC, dI) vwCl [(kI, .int), (kZ, .boolean), (kB, .byte), (kL, .long), (kM, .object RX2)] s → lv_has ls 4 [(1, .ref op0), (0, .ref b)] → W p l e room_1 s m #[Value.ref b] below meth c H locs 442 268612 Q (F0 m 13 ls [])) : W p l e room_1 s m #[Value.ref b] below meth c s.heap [] 0 0 Q (F0 m 0 ls []) := by
  have hS : va_S A s.heap s.heap [] := va_S.rf
  have hP : va_P (dC, dI) vwCl [] s.heap := fun k q h => by simp at h
  have hD : va_D A [] := ⟨fun i j p q h => by simp at h, fun k q h => by simp at h⟩
  refine va_new (ci := 12) (fs := [.null, .null, .null, .null, .null, .null, .null, .null, .null, .null, .null, .null, .int 0, .int 0]) (C := RX12) (T := TX12) (N := 14) hx hb hts (fun w h => (lin_X12 w h).1) tyX12 tyX12_ok hown (hts (.classLink RL 7 RX12) lwm_160) (hts (.instantiable RX12 14) lwm_107) (hts (.initialized RX12) lwm_3) hK hP hD hS hA rfl dv_X12 (show 0 + 1 ≤ 600000 by omega) (show 0 + 14 ≤ 7302250 by omega) dL_law_0 (fun q_1 H hP hD hS => ?_)
  have hP : va_P (dC, dI) vwCl [(q_1, .inr (12, [.null, .null, .null, .null, .null, .null, .null, .null, .null, .null, .null, .null, .int 0, .int 0]))] H := hP
  have hD : va_D A [(q_1, .inr (12, [.null, .null, .null, .null, .null, .null, .null, .null, .null, .null, .null, .null, .int 0, .int 0]))] := hD
  refine W.widen (k := 1) (n := 14) (Nat.le_of_ble_eq_true rfl) (Nat.le_of_ble_eq_true rfl) ?_
  refine lv_dup hx hb dL_law_3 rfl ?_
  refine lv_aload_n hx hb dL_law_4 rfl (lv_at hl 0 rfl) ?_
  refine lv_iconst (v := 0) hx hb dL_law_5 (by decide) ?_
  have hPc := hP.sub (ws' := []) [] rfl
  have hDc := hD.sub (ws' := []) [] (by decide) rfl
  have hKc := hK.sub (tys' := []) [] rfl
  have hFc := va_free (wc := []) hD hS hA [] rfl
  refine va_calli (va_runS (As := [.ref b, .int 0]) (rest := [.ref q_1, .ref q_1]) ⟨hx, hb, hml, hown, hts⟩ (c_cell l dC dI b L xs H.size hL) (va_cwS 2 hts g_law_c_cell_6 rfl rfl rfl (by decide +kernel) ⟨Nat.le_of_ble_eq_true rfl, Nat.le_of_ble_eq_true rfl⟩) ⟨fun a U g mk q => by obtain ⟨q0, q1, qP, qK, qD, qx0⟩ := q; exact ⟨q0, q1, qP, va_K.moved (u := U) (U := U.calling g mk a) (Vm.Alike.refl U.vm) qK, qD, lxS.moved (u := U) (U := U.calling g mk a) (Vm.Alike.refl U.vm) qx0⟩, fun U hU hW => ⟨rfl, by rw [hU], by rw [hU]; exact hPc, va_K.moved hW.alike hKc, hDc.weaken (fun _ _ _ _ => trivial), by rw [hU]; exact ((hscr.at hS).moved hW.alike).narrow hFc⟩⟩ rfl rfl hl.1 rfl (lv_room (Nat.le_of_ble_eq_true rfl)) dL_law_6 ⟨(show 1 + 0 ≤ 600000 by omega), (show 14 + 0 ≤ 7302250 by omega)⟩) hS (fun q _ h => hFc q h) hFc (fun r_2 u tS H1 locs ht hvm hw hB hz1 hk1 hS => ?_)
  obtain ⟨hP1, hK1, hD1⟩ := hB
  rw [ht] at hP1
  have hK1 := va_K.moved hvm.symm hK1
  obtain ⟨hP, hD⟩ := va_join (wr := [(q_1, .inr (12, [.null, .null, .null, .null, .null, .null, .null, .null, .null, .null, .null, .null, .int 0, .int 0]))]) (w1 := []) hP hD [] [0] rfl rfl (by decide) (by decide) hk1 hFc hP1 hD1
  generalize H1 = H at hP hS ⊢
  have hP : va_P (dC, dI) vwCl [(q_1, .inr (12, [.null, .null, .null, .null, .null, .null, .null, .null, .null, .null, .null, .null, .int 0, .int 0]))] H := hP
  have hD : va_D A [(q_1, .inr (12, [.null, .null, .null, .null, .null, .null, .null, .null, .null, .null, .null, .null, .int 0, .int 0]))] := hD
  have hK : va_K (dC, dI) vwCl [] s := hK
  have hPc := hP.sub (ws' := [(q_1, .inr (12, [.null, .null, .null, .null, .null, .null, .null, .null, .null, .null, .null, .null, .int 0, .int 0]))]) [0] rfl
  have hDc := hD.sub (ws' := [(q_1, .inr (12, [.null, .null, .null, .null, .null, .null, .null, .null, .null, .null, .null, .null, .int 0, .int 0]))]) [0] (by decide) rfl
  have hKc := hK.sub (tys' := []) [] rfl
  have hFc := va_free (wc := [(q_1, .inr (12, [.null, .null, .null, .null, .null, .null, .null, .null, .null, .null, .null, .null, .int 0, .int 0]))]) hD hS hA [0] rfl
  refine va_callv (va_runI (As := [.int r_2]) (rest := [.ref q_1]) ⟨hx, hb, hml, hown, hts⟩ (c_kNew l dC dI q_1 ta va (fun j => txB_a.getD j 0) r_2 H.size tx_b8 tx_sp) (cwI 1 hts g_law_c_kNew_9 rfl rfl rfl (hts (.initialized RX12) lwm_3) (hts (.methodLink RL 15 yX12_init) lwm_164) (hts (.instanceMethod yX12_init) lwm_165) rfl (by decide +kernel) ⟨Nat.le_of_ble_eq_true rfl, Nat.le_of_ble_eq_true rfl⟩) ⟨fun a U g mk q => by obtain ⟨q0, q1, qP, qK, qD, qx0, qx1, qx2, qx3, qx4, qx5, qx6, qx7⟩ := q; exact ⟨q0, q1, qP, va_K.moved (u := U) (U := U.calling g mk a) (Vm.Alike.refl U.vm) qK, qD, sgA.moved (u := U) (U := U.calling g mk a) (Vm.Alike.refl U.vm) qx0, sgF.moved (u := U) (U := U.calling g mk a) (Vm.Alike.refl U.vm) qx1, vk_R.same (rfl : (U.calling g mk a).vm = U.vm) qx2, va_Nw.same rfl (rfl : U.vm = (U.calling g mk a).vm) qx3, va_Nw.same rfl (rfl : U.vm = (U.calling g mk a).vm) qx4, va_Nw.same rfl (rfl : U.vm = (U.calling g mk a).vm) qx5, va_Nw.same rfl (rfl : U.vm = (U.calling g mk a).vm) qx6, va_AO.moved (u := U) (U := U.calling g mk a) (Vm.Alike.refl U.vm) qx7⟩, fun U hU hW => ⟨rfl, by rw [hU], by rw [hU]; exact hPc, va_K.moved hW.alike hKc, hDc.weaken (fun _ _ _ _ => trivial), by rw [hU]; exact ((hsa.kept hS.2.1).moved hW.alike).narrow hFc, by rw [hU]; exact ((hsf.kept hS.2.1).moved hW.alike).narrow hFc, vk_R.warm hW hva, va_Nw.warmC hW hcl, va_Nw.warmM hW hn0, va_Nw.warmM hW hn1, va_Nw.warmM hW hn2, va_AO.moved hW.alike hao_RX2⟩⟩ rfl rfl hl.1 rfl (lv_room (Nat.le_of_ble_eq_true rfl)) dL_law_9 ⟨(show 1 + 441 ≤ 600000 by omega), (show 14 + 268598 ≤ 7302250 by omega)⟩) hS (fun q _ h => hFc q h) hFc (fun u tS H1 locs ht hvm hw hB hz1 hk1 hS => ?_)
  refine hB.elim (fun h hB => hB.elim (fun g hB => hB.elim (fun y hB => hB.elim (fun e0 hB => hB.elim (fun c0 hB => hB.elim (fun t0 hB => hB.elim (fun mv hB => hB.elim (fun lo0 hB => hB.elim (fun nq0 hB => hB.elim (fun wq hB => hB.elim (fun me hB => hB.elim (fun mx hB => hB.elim (fun tk hB => hB.elim (fun tp hB => hB.elim (fun tn hB => hB.elim (fun tu hB => hB.elim (fun tl hB => hB.elim (fun tb hB => hB.elim (fun ts hB => hB.elim (fun tf hB => hB.elim (fun tz hB => hB.elim (fun tx hB => hB.elim (fun th hB => hB.elim (fun tw hB => hB.elim (fun gi hB => hB.elim (fun dfn hB => hB.elim (fun dmn hB => hB.elim (fun y0 hB => hB.elim (fun y1 hB => hB.elim (fun y2 hB => hB.elim (fun y3 hB => hB.elim (fun y4 hB => hB.elim (fun y5 hB => hB.elim (fun y6 hB => hB.elim (fun y7 hB => hB.elim (fun y8 hB => hB.elim (fun y9 hB => hB.elim (fun y10 hB => hB.elim (fun y11 hB => hB.elim (fun y12 hB => hB.elim (fun y13 hB => hB.elim (fun co hB => hB.elim (fun ca hB => hB.elim (fun cb hB => hB.elim (fun c3 hB => hB.elim (fun cw hB => hB.elim (fun cl hB => hB.elim (fun cpv hB => hB.elim (fun cpp hB => hB.elim (fun cpl hB => hB.elim (fun cpr hB => hB.elim (fun cpt hB => hB.elim (fun cpw hB => hB.elim (fun cpc hB => hB.elim (fun car hB => hB.elim (fun vs hB => hB.elim (fun vr hB => hB.elim (fun vc hB => hB.elim (fun lu hB => hB.elim (fun la hB => hB.elim (fun lh hB => hB.elim (fun lr hB => hB.elim (fun lc hB => hB.elim (fun lt hB => hB.elim (fun lp hB => hB.elim (fun lb0 hB => hB.elim (fun ln0 hB => hB.elim (fun mk0 hB => hB.elim (fun mk1 hB => hB.elim (fun mk2 hB => hB.elim (fun mk3 hB => hB.elim (fun mc hB => hB.elim (fun mt hB => hB.elim (fun md0 hB => hB.elim (fun md1 hB => hB.elim (fun md2 hB => hB.elim (fun mh hB => hB.elim (fun nqr hB => hB.elim (fun nqd hB => hB.elim (fun wqr hB => hB.elim (fun wqd hB => hB.elim (fun tn0 hB => hB.elim (fun kI hB => hB.elim (fun kZ hB => hB.elim (fun kB hB => hB.elim (fun kL hB => hB.elim (fun kM hB => hB.elim (fun na hB => hB.elim (fun gf hB => hB.elim (fun fh hB => hB.elim (fun fx hB => hB.elim (fun fnf hB => hB.elim (fun fz hB => hB.elim (fun fs hB => ?_))))))))))))))))))))))))))))))))))))))))))))))))))))))))))))))))))))))))))))))))))))))))))))))
  have hf3_0 := hB.1
  replace hB := hB.2
  have hf3_1 := hB.1
  replace hB := hB.2
  have hf3_2 := hB.1
  replace hB := hB.2
  have hf3_3 := hB.1
  replace hB := hB.2
  have hf3_4 := hB.1
  replace hB := hB.2
  have hP1 := hB.1
  replace hB := hB.2
  have hK1 := hB.1
  replace hB := hB.2
  have hD1 := hB
  rw [ht] at hP1
  have hK1 := va_K.moved hvm.symm hK1
  have hP := hP1
  have hD := hD1.weaken (fun k q _ h => hFc q.1 h)
  have hK := hK.app hK1
  generalize H1 = H at hP hS ⊢
  have hK : va_K (dC, dI) vwCl [(kI, .int), (kZ, .boolean), (kB, .byte), (kL, .long), (kM, .object RX2)] s := hK
  refine W.widen (k := 442) (n := 268612) (Nat.le_of_ble_eq_true rfl) (Nat.le_of_ble_eq_true rfl) ?_
  have hmh0 := hf3_0
  obtain ⟨Wc, hC, hP, hD⟩ := lwK_new h g y e0 c0 t0 mv lo0 nq0 wq me mx tk tp tn tu tl tb ts tf tz tx th tw gi dfn dmn y0 y1 y2 y3 y4 y5 y6 y7 y8 y9 y10 y11 y12 y13 co ca cb c3 cw cl cpv cpp cpl cpr cpt cpw cpc car vs vr vc lu la lh lr lc lt lp lb0 ln0 mk0 mk1 mk2 mk3 mc mt md0 md1 md2 mh nqr nqd wqr wqd tn0 kI kZ kB kL kM na gf fh fx fnf fz fs hf3_0 hf3_1 hf3_2 hf3_3 hf3_4 hP hD
  refine lv_astore_n (lv' := [(1, .ref q_1), (0, .ref b)]) hx hb dL_law_12 rfl hl (by decide) rfl (fun ls hl => ?_)
  exact k q_1 mh kI kZ kB kL kM Wc _ _ ls hC hmh0 hP hD hS hK hl
