def wf_c_moper : List Cond := [.code yX5_operate cX5_operate 6 none, .fieldLink RX5 39 "OwnedPlaces$Machine" "memory" "LOwnedPlaces$Memory;", .fieldLink RX5 98 "OwnedPlaces$Memory" "cells" "[J", .fieldLink RX5 73 "OwnedPlaces$Machine" "top" "I", .code yX12_levelOf cX12_levelOf 1 (some .int), .initialized RX12, .static yX12_levelOf, .code yX5_resultOf cX5_resultOf 5 (some .long), .methodLink RX5 198 yX5_resultOf, .static yX5_resultOf, .initialized RX5, .code yX5_isBeyond cX5_isBeyond 7 (some .boolean), .constantLong RX5 202 (-1), .constantLong RX5 170 (-9223372036854775808), .methodLink RX5 194 yX5_isBeyond, .static yX5_isBeyond, .code yX5_stop cX5_stop 2 none, .fieldLink RX5 54 "OwnedPlaces$Machine" "fault" "I", .fieldLink RX5 57 "OwnedPlaces$Machine" "isRunning" "Z", .methodLink RX5 172 yX5_stop, .instanceMethod yX5_stop, .selects RX5 yX5_stop yX5_stop]
def wp_c_moper : List Cond := wf_c_moper ++ (wsX50 ++ (wsX60 ++ []))
theorem in_c_moper_X5 : ∀ w ∈ wsX50, w ∈ wp_c_moper := fun w h => List.mem_append_right _ (List.mem_append_left _ h)
theorem in_c_moper_X6 : ∀ w ∈ wsX60, w ∈ wp_c_moper := fun w h => List.mem_append_right _ (List.mem_append_right _ (List.mem_append_left _ h))
theorem wg_c_moper : wf_c_moper.all goodWord = true := by decide +kernel
theorem wm_c_moper (k : Nat) {w : Cond} (h : wp_c_moper[k]? = some w) : w ∈ wp_c_moper := List.mem_of_getElem? h
set_option maxRecDepth 20000 in
theorem g_c_moper_c_level_32 : GoodIn wp_c_moper wp_c_level := goodIn_app (goodIn_f (wf_c_level) [4] rfl wg_c_level) (goodIn_n)
set_option maxRecDepth 20000 in
theorem g_c_moper_c_result_83 : GoodIn wp_c_moper (va_wsS RX5 198 yX5_resultOf wp_c_result) := goodIn_app (goodIn_f [.methodLink RX5 198 yX5_resultOf, .static yX5_resultOf, .initialized RX5] [8, 9, 10] rfl (by decide +kernel)) (goodIn_app (goodIn_f (wf_c_result) [7] rfl wg_c_result) (goodIn_n))
set_option maxRecDepth 20000 in
theorem g_c_moper_c_beyond_43 : GoodIn wp_c_moper (va_wsS RX5 194 yX5_isBeyond wp_c_beyond) := goodIn_app (goodIn_f [.methodLink RX5 194 yX5_isBeyond, .static yX5_isBeyond, .initialized RX5] [14, 15, 10] rfl (by decide +kernel)) (goodIn_app (goodIn_f (wf_c_beyond) [11, 12, 13] rfl wg_c_beyond) (goodIn_n))
set_option maxRecDepth 20000 in
theorem g_c_moper_c_stop_52 : GoodIn wp_c_moper (wsV RX5 172 RX5 yX5_stop wp_c_stop) := goodIn_app (goodIn_f [.methodLink RX5 172 yX5_stop, .instanceMethod yX5_stop, .selects RX5 yX5_stop yX5_stop, .initialized RX5] [19, 20, 21, 10] rfl (by decide +kernel)) (goodIn_app (goodIn_f (wf_c_stop) [16, 17, 18] rfl wg_c_stop) (goodIn_app (goodIn_sub in_c_moper_X5 gd_X5) (goodIn_n)))
set_option maxHeartbeats 4000000 in
set_option maxRecDepth 100000 in
theorem c_moper (l : Launch) (dC : Nat → ClassId) (dI : Nat → Nat → Nat) (mx c0 y e0 me nq0 wq mk0 mk1 mk2 mk3 mc mt md0 md1 md2 mh mln : Nat) (xfu xfa xru xne xba xca xfb mlo miu mmo mdt : Int32) (vfn : Value) (kL : ClassId) (tp : Nat) (fc : Nat → Int64) (sg : Int32) (sz : Nat) (hmln : mln ≤ 1000000) (htp : 2 ≤ tp ∧ tp ≤ mln) : Met l yX5_operate wp_c_moper ({ frames := 1, cells := 0, slots := 0, locals := 26 }) (va_Pc [.ref mx, .int sg] (fun U => U.heap.size = sz ∧ va_P (dC, dI) vwCl [(mx, .inr (5, [.ref c0, .ref y, .ref e0, .ref me, .ref nq0, .ref wq, .int xfu, .int xfa, .int xru, .int xne, .int xba, .int (nI tp), .int xca, vfn, .ref mk0, .ref mk1, .ref mk2, .ref mk3, .int xfb])), (me, .inr (6, [.ref y, .ref wq, .int (nI mh), .ref mc, .ref mt, .int mlo, .int miu, .int mmo, .ref md0, .ref md1, .ref md2, .int mdt])), (mc, .inl (kL, mln, .inr (.inl fc)))] U.heap ∧ va_K (dC, dI) vwCl [(kL, .long)] U ∧ va_D (fun _ => True) [(mx, .inr (5, [.ref c0, .ref y, .ref e0, .ref me, .ref nq0, .ref wq, .int xfu, .int xfa, .int xru, .int xne, .int xba, .int (nI tp), .int xca, vfn, .ref mk0, .ref mk1, .ref mk2, .ref mk3, .int xfb])), (me, .inr (6, [.ref y, .ref wq, .int (nI mh), .ref mc, .ref mt, .int mlo, .int miu, .int mmo, .ref md0, .ref md1, .ref md2, .int mdt])), (mc, .inl (kL, mln, .inr (.inl fc)))] ∧ va_Nw (.methodLinkNest RX5 191 yX12_levelOf "OwnedPlaces") U)) (va_Qv (fun _ : Unit => True) (fun (_ : Unit) (tS : State) => ∃ (tp2 : Nat) (fa2 : Int32) (ru2 : Int32) (gc : Nat → Int64), ((fa2 = 7 ∧ ru2 = 0 ∧ tp2 = tp ∧ gc = fc) ∨ (fa2 = xfa ∧ ru2 = xru ∧ tp2 = tp - 1 ∧ ∃ x : Int64, gc = vp_updL fc (tp - 2) x)) ∧ va_P (dC, dI) vwCl [(mx, .inr (5, [.ref c0, .ref y, .ref e0, .ref me, .ref nq0, .ref wq, .int xfu, .int fa2, .int ru2, .int xne, .int xba, .int (nI tp2), .int xca, vfn, .ref mk0, .ref mk1, .ref mk2, .ref mk3, .int xfb])), (me, .inr (6, [.ref y, .ref wq, .int (nI mh), .ref mc, .ref mt, .int mlo, .int miu, .int mmo, .ref md0, .ref md1, .ref md2, .int mdt])), (mc, .inl (kL, mln, .inr (.inl gc)))] tS.heap ∧ va_K (dC, dI) vwCl [(kL, .long)] tS ∧ va_D (va_A [(mx, .inr (5, [.ref c0, .ref y, .ref e0, .ref me, .ref nq0, .ref wq, .int xfu, .int xfa, .int xru, .int xne, .int xba, .int (nI tp), .int xca, vfn, .ref mk0, .ref mk1, .ref mk2, .ref mk3, .int xfb])), (me, .inr (6, [.ref y, .ref wq, .int (nI mh), .ref mc, .ref mt, .int mlo, .int miu, .int mmo, .ref md0, .ref md1, .ref md2, .int mdt])), (mc, .inl (kL, mln, .inr (.inl fc)))] sz) [(mx, .inr (5, [.ref c0, .ref y, .ref e0, .ref me, .ref nq0, .ref wq, .int xfu, .int fa2, .int ru2, .int xne, .int xba, .int (nI tp2), .int xca, vfn, .ref mk0, .ref mk1, .ref mk2, .ref mk3, .int xfb])), (me, .inr (6, [.ref y, .ref wq, .int (nI mh), .ref mc, .ref mt, .int mlo, .int miu, .int mmo, .ref md0, .ref md1, .ref md2, .int mdt])), (mc, .inl (kL, mln, .inr (.inl gc)))]) (va_A [(mx, .inr (5, [.ref c0, .ref y, .ref e0, .ref me, .ref nq0, .ref wq, .int xfu, .int xfa, .int xru, .int xne, .int xba, .int (nI tp), .int xca, vfn, .ref mk0, .ref mk1, .ref mk2, .ref mk3, .int xfb])), (me, .inr (6, [.ref y, .ref wq, .int (nI mh), .ref mc, .ref mt, .int mlo, .int miu, .int mmo, .ref md0, .ref md1, .ref md2, .int mdt])), (mc, .inl (kL, mln, .inr (.inl fc)))] sz)) 0 0 (va_A [(mx, .inr (5, [.ref c0, .ref y, .ref e0, .ref me, .ref nq0, .ref wq, .int xfu, .int xfa, .int xru, .int xne, .int xba, .int (nI tp), .int xca, vfn, .ref mk0, .ref mk1, .ref mk2, .ref mk3, .int xfb])), (me, .inr (6, [.ref y, .ref wq, .int (nI mh), .ref mc, .ref mt, .int mlo, .int miu, .int mmo, .ref md0, .ref md1, .ref md2, .int mdt])), (mc, .inl (kL, mln, .inr (.inl fc)))] sz) := by
  refine Met.ofW (cc := cX5_operate) (maxL := 6) (ret := none) (by decide) rfl ?_
  intro p e s m args below meth c s₁ B hml hv
  obtain ⟨rfl, hsz, hP, hK, hD0, hpre0⟩ := hv
  have hx := B.exec
  have hb := B.bytes
  have hr := B.returns
  have hts := atoms_spec (ws := wp_c_moper) B.pre
  have hown : s.vm.findClass RX5 = some m.cls := findClass_of_methodNamed B.named
  have hlocks := B.notSynchronized
  subst hsz
  have hD := hD0.self (sz := s.heap.size)
  generalize hAe : va_A [(mx, .inr (5, [.ref c0, .ref y, .ref e0, .ref me, .ref nq0, .ref wq, .int xfu, .int xfa, .int xru, .int xne, .int xba, .int (nI tp), .int xca, vfn, .ref mk0, .ref mk1, .ref mk2, .ref mk3, .int xfb])), (me, .inr (6, [.ref y, .ref wq, .int (nI mh), .ref mc, .ref mt, .int mlo, .int miu, .int mmo, .ref md0, .ref md1, .ref md2, .int mdt])), (mc, .inl (kL, mln, .inr (.inl fc)))] s.heap.size = A at hD ⊢
  have hA : ∀ q : Nat, s.heap.size ≤ q → A q := fun q h => by rw [← hAe]; exact Or.inr h
  have hS : va_S A s.heap s.heap [] := va_S.rf
  have hP : va_P (dC, dI) vwCl [(mx, .inr (5, [.ref c0, .ref y, .ref e0, .ref me, .ref nq0, .ref wq, .int xfu, .int xfa, .int xru, .int xne, .int xba, .int (nI tp), .int xca, vfn, .ref mk0, .ref mk1, .ref mk2, .ref mk3, .int xfb])), (me, .inr (6, [.ref y, .ref wq, .int (nI mh), .ref mc, .ref mt, .int mlo, .int miu, .int mmo, .ref md0, .ref md1, .ref md2, .int mdt])), (mc, .inl (kL, mln, .inr (.inl fc)))] s.heap := hP
  have hl := lv_entry ([.ref mx, .int sg]) (n := 6) (Nat.le_of_ble_eq_true rfl)
  rw [lg_entry_eq]
  generalize (lg_sl ([.ref mx, .int sg]) ++ List.replicate (6 - (lg_sl ([.ref mx, .int sg])).length) Slot.unset).toArray = ls at hl ⊢
  have hl : lv_has ls 6 [(0, .ref mx), (1, .int sg)] := hl
  refine lv_aload_n hx hb dX5_operate_0 rfl (lv_at hl 0 rfl) ?_
  refine va_get (D := (dC, dI)) (ci := 5) (v := .ref me) (C := RX5) (T := TX5) (N := 19) hx hb hts in_c_moper_X5 hown hK hP 0 rfl rfl 3 (by decide) (hts (.fieldLink RX5 39 "OwnedPlaces$Machine" "memory" "LOwnedPlaces$Memory;") (wm_c_moper 1 rfl)) (fun _ h9 => h9) rfl dX5_operate_1 ?_
  refine va_get (D := (dC, dI)) (ci := 6) (v := .ref mc) (C := RX6) (T := TX6) (N := 12) hx hb hts in_c_moper_X6 hown hK hP 1 rfl rfl 3 (by decide) (hts (.fieldLink RX5 98 "OwnedPlaces$Memory" "cells" "[J") (wm_c_moper 2 rfl)) (fun _ h9 => h9) rfl dX5_operate_4 ?_
  refine lv_aload_n hx hb dX5_operate_7 rfl (lv_at hl 0 rfl) ?_
  refine va_get (D := (dC, dI)) (ci := 5) (v := .int (nI tp)) (C := RX5) (T := TX5) (N := 19) hx hb hts in_c_moper_X5 hown hK hP 0 rfl rfl 11 (by decide) (hts (.fieldLink RX5 73 "OwnedPlaces$Machine" "top" "I") (wm_c_moper 3 rfl)) (fun _ h9 => h9) rfl dX5_operate_8 ?_
  refine lv_iconst (v := 1) hx hb dX5_operate_11 (by decide) ?_
  refine lv_isub hx hb dX5_operate_12 ?_
  refine lv_topi (fun f_1 ef_1 => ?_)
  obtain rfl : f_1 = nI (tp - 1) := ef_1.trans (pk_sub (a := tp) (b := 1) (by omega))
  refine va_lald hx hb hK hP 2 0 rfl rfl (vp_in_nI (by omega) (by omega)) dX5_operate_13 ?_
  refine lv_topl (fun v_2 ev_2 => ?_)
  refine lv_lstore_n (lv' := [(2, .long v_2), (0, .ref mx), (1, .int sg)]) hx hb dX5_operate_14 rfl hl (by decide) rfl (fun ls hl => ?_)
  refine lv_aload_n hx hb dX5_operate_15 rfl (lv_at hl 1 rfl) ?_
  refine va_get (D := (dC, dI)) (ci := 5) (v := .ref me) (C := RX5) (T := TX5) (N := 19) hx hb hts in_c_moper_X5 hown hK hP 0 rfl rfl 3 (by decide) (hts (.fieldLink RX5 39 "OwnedPlaces$Machine" "memory" "LOwnedPlaces$Memory;") (wm_c_moper 1 rfl)) (fun _ h9 => h9) rfl dX5_operate_16 ?_
  refine va_get (D := (dC, dI)) (ci := 6) (v := .ref mc) (C := RX6) (T := TX6) (N := 12) hx hb hts in_c_moper_X6 hown hK hP 1 rfl rfl 3 (by decide) (hts (.fieldLink RX5 98 "OwnedPlaces$Memory" "cells" "[J") (wm_c_moper 2 rfl)) (fun _ h9 => h9) rfl dX5_operate_19 ?_
  refine lv_aload_n hx hb dX5_operate_22 rfl (lv_at hl 1 rfl) ?_
  refine va_get (D := (dC, dI)) (ci := 5) (v := .int (nI tp)) (C := RX5) (T := TX5) (N := 19) hx hb hts in_c_moper_X5 hown hK hP 0 rfl rfl 11 (by decide) (hts (.fieldLink RX5 73 "OwnedPlaces$Machine" "top" "I") (wm_c_moper 3 rfl)) (fun _ h9 => h9) rfl dX5_operate_23 ?_
  refine lv_iconst (v := 2) hx hb dX5_operate_26 (by decide) ?_
  refine lv_isub hx hb dX5_operate_27 ?_
  refine lv_topi (fun f_3 ef_3 => ?_)
  obtain rfl : f_3 = nI (tp - 2) := ef_3.trans (pk_sub (a := tp) (b := 2) (by omega))
  refine va_lald hx hb hK hP 2 0 rfl rfl (vp_in_nI (by omega) (by omega)) dX5_operate_28 ?_
  refine lv_topl (fun v_4 ev_4 => ?_)
  refine lv_lstore (lv' := [(4, .long v_4), (2, .long v_2), (0, .ref mx), (1, .int sg)]) hx hb dX5_operate_29 hl (by decide) rfl (fun ls hl => ?_)
  refine lv_iload_n hx hb dX5_operate_31 rfl (lv_at hl 3 rfl) ?_
  have hPc := hP.sub (ws' := []) [] rfl
  have hDc := hD.sub (ws' := []) [] (by decide) rfl
  have hKc := hK.sub (tys' := []) [] rfl
  have hFc := va_free (wc := []) hD hS hA [] rfl
  refine va_calli (va_runSN (As := [.int sg]) (rest := []) ⟨hx, hb, hml, hown, hts⟩ (c_level l dC dI sg s.heap.size) ⟨va_cnB 1 hts g_c_moper_c_level_32 rfl rfl rfl hpre0 (hts (.initialized RX12) (wm_c_moper 5 rfl)) (by decide +kernel) ⟨Nat.le_of_ble_eq_true rfl, Nat.le_of_ble_eq_true rfl⟩, (hts (.static yX12_levelOf) (wm_c_moper 6 rfl)), trivial⟩ ⟨fun a U g mk q => by obtain ⟨q0, q1, qP, qK, qD⟩ := q; exact ⟨q0, q1, qP, va_K.moved (u := U) (U := U.calling g mk a) (Vm.Alike.refl U.vm) qK, qD⟩, fun U hU hW => ⟨rfl, by rw [hU], by rw [hU]; exact hPc, va_K.moved hW.alike hKc, hDc.weaken (fun _ _ _ _ => trivial)⟩⟩ rfl rfl hl.1 rfl (lv_room (Nat.le_of_ble_eq_true rfl)) dX5_operate_32 ⟨(show 0 + 0 ≤ 0 by omega), (show 0 + 0 ≤ 0 by omega)⟩) hS (fun q _ h => hFc q h) hFc (fun r_5 u tS H1 locs ht hvm hw hB hz1 hk1 hS => ?_)
  obtain ⟨hP1, hK1, hD1⟩ := hB
  rw [ht] at hP1
  have hK1 := va_K.moved hvm.symm hK1
  obtain ⟨hP, hD⟩ := va_join (wr := [(mx, .inr (5, [.ref c0, .ref y, .ref e0, .ref me, .ref nq0, .ref wq, .int xfu, .int xfa, .int xru, .int xne, .int xba, .int (nI tp), .int xca, vfn, .ref mk0, .ref mk1, .ref mk2, .ref mk3, .int xfb])), (me, .inr (6, [.ref y, .ref wq, .int (nI mh), .ref mc, .ref mt, .int mlo, .int miu, .int mmo, .ref md0, .ref md1, .ref md2, .int mdt])), (mc, .inl (kL, mln, .inr (.inl fc)))]) (w1 := []) hP hD [] [0, 1, 2] rfl rfl (by decide) (by decide) hk1 hFc hP1 hD1
  generalize H1 = H at hP hS ⊢
  have hP : va_P (dC, dI) vwCl [(mx, .inr (5, [.ref c0, .ref y, .ref e0, .ref me, .ref nq0, .ref wq, .int xfu, .int xfa, .int xru, .int xne, .int xba, .int (nI tp), .int xca, vfn, .ref mk0, .ref mk1, .ref mk2, .ref mk3, .int xfb])), (me, .inr (6, [.ref y, .ref wq, .int (nI mh), .ref mc, .ref mt, .int mlo, .int miu, .int mmo, .ref md0, .ref md1, .ref md2, .int mdt])), (mc, .inl (kL, mln, .inr (.inl fc)))] H := hP
  have hD : va_D A [(mx, .inr (5, [.ref c0, .ref y, .ref e0, .ref me, .ref nq0, .ref wq, .int xfu, .int xfa, .int xru, .int xne, .int xba, .int (nI tp), .int xca, vfn, .ref mk0, .ref mk1, .ref mk2, .ref mk3, .int xfb])), (me, .inr (6, [.ref y, .ref wq, .int (nI mh), .ref mc, .ref mt, .int mlo, .int miu, .int mmo, .ref md0, .ref md1, .ref md2, .int mdt])), (mc, .inl (kL, mln, .inr (.inl fc)))] := hD
  have hK : va_K (dC, dI) vwCl [(kL, .long)] s := hK
  obtain rfl : r_5 = nI (lvK sg) := hw
  refine lv_iconst (v := 3) hx hb dX5_operate_35 (by decide) ?_
  refine lv_icmp_le (tgt := 56) hx hb dX5_operate_36 (by decide) (fun hc => ?_) (fun hc => ?_)
  · refine lv_aload_n hx hb dX5_operate_56 rfl (lv_at hl 2 rfl) ?_
    refine lv_dup hx hb dX5_operate_57 rfl ?_
    refine va_get (D := (dC, dI)) (ci := 5) (v := .int (nI tp)) (C := RX5) (T := TX5) (N := 19) hx hb hts in_c_moper_X5 hown hK hP 0 rfl rfl 11 (by decide) (hts (.fieldLink RX5 73 "OwnedPlaces$Machine" "top" "I") (wm_c_moper 3 rfl)) (fun _ h9 => h9) rfl dX5_operate_58 ?_
    refine lv_iconst (v := 1) hx hb dX5_operate_61 (by decide) ?_
    refine lv_isub hx hb dX5_operate_62 ?_
    refine lv_topi (fun f_6 ef_6 => ?_)
    obtain rfl : f_6 = nI (tp - 1) := ef_6.trans (pk_sub (a := tp) (b := 1) (by omega))
    refine va_put (D := (dC, dI)) (ci := 5) (v := .int (nI (tp - 1))) (ty := .int) (C := RX5) (T := TX5) (N := 19) hx hb hts in_c_moper_X5 tyX5 tyX5_ok nmX5 hown hK hP hD hS 0 rfl rfl 11 (by decide) (hts (.fieldLink RX5 73 "OwnedPlaces$Machine" "top" "I") (wm_c_moper 3 rfl)) (fun _ h9 => h9) rfl (by decide +kernel) rfl rfl (Nat.le_of_ble_eq_true rfl) dX5_operate_63 (fun H locs hP hD hS => ?_)
    have hP : va_P (dC, dI) vwCl [(mx, .inr (5, [.ref c0, .ref y, .ref e0, .ref me, .ref nq0, .ref wq, .int xfu, .int xfa, .int xru, .int xne, .int xba, .int (nI (tp - 1)), .int xca, vfn, .ref mk0, .ref mk1, .ref mk2, .ref mk3, .int xfb])), (me, .inr (6, [.ref y, .ref wq, .int (nI mh), .ref mc, .ref mt, .int mlo, .int miu, .int mmo, .ref md0, .ref md1, .ref md2, .int mdt])), (mc, .inl (kL, mln, .inr (.inl fc)))] H := hP
    have hD : va_D A [(mx, .inr (5, [.ref c0, .ref y, .ref e0, .ref me, .ref nq0, .ref wq, .int xfu, .int xfa, .int xru, .int xne, .int xba, .int (nI (tp - 1)), .int xca, vfn, .ref mk0, .ref mk1, .ref mk2, .ref mk3, .int xfb])), (me, .inr (6, [.ref y, .ref wq, .int (nI mh), .ref mc, .ref mt, .int mlo, .int miu, .int mmo, .ref md0, .ref md1, .ref md2, .int mdt])), (mc, .inl (kL, mln, .inr (.inl fc)))] := hD
    refine lv_aload_n hx hb dX5_operate_66 rfl (lv_at hl 2 rfl) ?_
    refine va_get (D := (dC, dI)) (ci := 5) (v := .ref me) (C := RX5) (T := TX5) (N := 19) hx hb hts in_c_moper_X5 hown hK hP 0 rfl rfl 3 (by decide) (hts (.fieldLink RX5 39 "OwnedPlaces$Machine" "memory" "LOwnedPlaces$Memory;") (wm_c_moper 1 rfl)) (fun _ h9 => h9) rfl dX5_operate_67 ?_
    refine va_get (D := (dC, dI)) (ci := 6) (v := .ref mc) (C := RX6) (T := TX6) (N := 12) hx hb hts in_c_moper_X6 hown hK hP 1 rfl rfl 3 (by decide) (hts (.fieldLink RX5 98 "OwnedPlaces$Memory" "cells" "[J") (wm_c_moper 2 rfl)) (fun _ h9 => h9) rfl dX5_operate_70 ?_
    refine lv_aload_n hx hb dX5_operate_73 rfl (lv_at hl 2 rfl) ?_
    refine va_get (D := (dC, dI)) (ci := 5) (v := .int (nI (tp - 1))) (C := RX5) (T := TX5) (N := 19) hx hb hts in_c_moper_X5 hown hK hP 0 rfl rfl 11 (by decide) (hts (.fieldLink RX5 73 "OwnedPlaces$Machine" "top" "I") (wm_c_moper 3 rfl)) (fun _ h9 => h9) rfl dX5_operate_74 ?_
    refine lv_iconst (v := 1) hx hb dX5_operate_77 (by decide) ?_
    refine lv_isub hx hb dX5_operate_78 ?_
    refine lv_topi (fun f_7 ef_7 => ?_)
    obtain rfl : f_7 = nI (tp - 1 - 1) := ef_7.trans (pk_sub (a := tp - 1) (b := 1) (by omega))
    refine lv_iload_n hx hb dX5_operate_79 rfl (lv_at hl 3 rfl) ?_
    refine lv_lload hx hb dX5_operate_80 (lv_at hl 0 rfl) ?_
    refine lv_lload_n hx hb dX5_operate_82 rfl (lv_at hl 1 rfl) ?_
    have hPc := hP.sub (ws' := []) [] rfl
    have hDc := hD.sub (ws' := []) [] (by decide) rfl
    have hKc := hK.sub (tys' := []) [] rfl
    have hFc := va_free (wc := []) hD hS hA [] rfl
    refine va_calll (va_runS (As := [.int sg, .long v_4, .long v_2]) (rest := [.int (nI (tp - 1 - 1)), .ref mc]) ⟨hx, hb, hml, hown, hts⟩ (c_result l dC dI sg v_4 v_2 H.size) (va_cwS 3 hts g_c_moper_c_result_83 rfl rfl rfl (by decide +kernel) ⟨Nat.le_of_ble_eq_true rfl, Nat.le_of_ble_eq_true rfl⟩) ⟨fun a U g mk q => by obtain ⟨q0, q1, qP, qK, qD⟩ := q; exact ⟨q0, q1, qP, va_K.moved (u := U) (U := U.calling g mk a) (Vm.Alike.refl U.vm) qK, qD⟩, fun U hU hW => ⟨rfl, by rw [hU], by rw [hU]; exact hPc, va_K.moved hW.alike hKc, hDc.weaken (fun _ _ _ _ => trivial)⟩⟩ rfl rfl hl.1 rfl (lv_room (Nat.le_of_ble_eq_true rfl)) dX5_operate_83 ⟨(show 0 + 0 ≤ 0 by omega), (show 0 + 0 ≤ 0 by omega)⟩) hS (fun q _ h => hFc q h) hFc (fun r_8 u tS H1 locs ht hvm hw hB hz1 hk1 hS => ?_)
    obtain ⟨hP1, hK1, hD1⟩ := hB
    rw [ht] at hP1
    have hK1 := va_K.moved hvm.symm hK1
    obtain ⟨hP, hD⟩ := va_join (wr := [(mx, .inr (5, [.ref c0, .ref y, .ref e0, .ref me, .ref nq0, .ref wq, .int xfu, .int xfa, .int xru, .int xne, .int xba, .int (nI (tp - 1)), .int xca, vfn, .ref mk0, .ref mk1, .ref mk2, .ref mk3, .int xfb])), (me, .inr (6, [.ref y, .ref wq, .int (nI mh), .ref mc, .ref mt, .int mlo, .int miu, .int mmo, .ref md0, .ref md1, .ref md2, .int mdt])), (mc, .inl (kL, mln, .inr (.inl fc)))]) (w1 := []) hP hD [] [0, 1, 2] rfl rfl (by decide) (by decide) hk1 hFc hP1 hD1
    generalize H1 = H at hP hS ⊢
    have hP : va_P (dC, dI) vwCl [(mx, .inr (5, [.ref c0, .ref y, .ref e0, .ref me, .ref nq0, .ref wq, .int xfu, .int xfa, .int xru, .int xne, .int xba, .int (nI (tp - 1)), .int xca, vfn, .ref mk0, .ref mk1, .ref mk2, .ref mk3, .int xfb])), (me, .inr (6, [.ref y, .ref wq, .int (nI mh), .ref mc, .ref mt, .int mlo, .int miu, .int mmo, .ref md0, .ref md1, .ref md2, .int mdt])), (mc, .inl (kL, mln, .inr (.inl fc)))] H := hP
    have hD : va_D A [(mx, .inr (5, [.ref c0, .ref y, .ref e0, .ref me, .ref nq0, .ref wq, .int xfu, .int xfa, .int xru, .int xne, .int xba, .int (nI (tp - 1)), .int xca, vfn, .ref mk0, .ref mk1, .ref mk2, .ref mk3, .int xfb])), (me, .inr (6, [.ref y, .ref wq, .int (nI mh), .ref mc, .ref mt, .int mlo, .int miu, .int mmo, .ref md0, .ref md1, .ref md2, .int mdt])), (mc, .inl (kL, mln, .inr (.inl fc)))] := hD
    have hK : va_K (dC, dI) vwCl [(kL, .long)] s := hK
    refine va_last hx hb hK hP hD hS 2 0 rfl rfl (vp_in_nI (by omega) (by omega)) dX5_operate_86 (fun H locs hP hD hS => ?_)
    have hP : va_P (dC, dI) vwCl [(mx, .inr (5, [.ref c0, .ref y, .ref e0, .ref me, .ref nq0, .ref wq, .int xfu, .int xfa, .int xru, .int xne, .int xba, .int (nI (tp - 1)), .int xca, vfn, .ref mk0, .ref mk1, .ref mk2, .ref mk3, .int xfb])), (me, .inr (6, [.ref y, .ref wq, .int (nI mh), .ref mc, .ref mt, .int mlo, .int miu, .int mmo, .ref md0, .ref md1, .ref md2, .int mdt])), (mc, .inl (kL, mln, .inr (.inl (vp_updL fc (nI (tp - 1 - 1) : Int32).toNatClampNeg r_8))))] H := hP
    have hD : va_D A [(mx, .inr (5, [.ref c0, .ref y, .ref e0, .ref me, .ref nq0, .ref wq, .int xfu, .int xfa, .int xru, .int xne, .int xba, .int (nI (tp - 1)), .int xca, vfn, .ref mk0, .ref mk1, .ref mk2, .ref mk3, .int xfb])), (me, .inr (6, [.ref y, .ref wq, .int (nI mh), .ref mc, .ref mt, .int mlo, .int miu, .int mmo, .ref md0, .ref md1, .ref md2, .int mdt])), (mc, .inl (kL, mln, .inr (.inl (vp_updL fc (nI (tp - 1 - 1) : Int32).toNatClampNeg r_8))))] := hD
    obtain ⟨gc8, egc8⟩ : ∃ zZ : Nat → Int64, zZ = vp_updL fc (nI (tp - 1 - 1) : Int32).toNatClampNeg r_8 := ⟨_, rfl⟩
    rw [← egc8] at hP hD
    have hP9 := hP.sub (ws' := [(mx, .inr (5, [.ref c0, .ref y, .ref e0, .ref me, .ref nq0, .ref wq, .int xfu, .int xfa, .int xru, .int xne, .int xba, .int (nI (tp - 1)), .int xca, vfn, .ref mk0, .ref mk1, .ref mk2, .ref mk3, .int xfb])), (me, .inr (6, [.ref y, .ref wq, .int (nI mh), .ref mc, .ref mt, .int mlo, .int miu, .int mmo, .ref md0, .ref md1, .ref md2, .int mdt])), (mc, .inl (kL, mln, .inr (.inl gc8)))]) [0, 1, 2] rfl
    have hD9 := hD.sub (ws' := [(mx, .inr (5, [.ref c0, .ref y, .ref e0, .ref me, .ref nq0, .ref wq, .int xfu, .int xfa, .int xru, .int xne, .int xba, .int (nI (tp - 1)), .int xca, vfn, .ref mk0, .ref mk1, .ref mk2, .ref mk3, .int xfb])), (me, .inr (6, [.ref y, .ref wq, .int (nI mh), .ref mc, .ref mt, .int mlo, .int miu, .int mmo, .ref md0, .ref md1, .ref md2, .int mdt])), (mc, .inl (kL, mln, .inr (.inl gc8)))]) [0, 1, 2] (by decide) rfl
    have hK9 := hK.sub (tys' := [(kL, .long)]) [0] rfl
    exact W.vret hx hb hr (fun tS ht hW => ⟨⟨(), rfl, trivial, tp - 1, xfa, xru, gc8, Or.inr ⟨rfl, rfl, rfl, r_8, by rw [egc8, nI_clamp (by omega), show tp - 1 - 1 = tp - 2 by omega]⟩, by rw [ht]; exact hP9, va_K.moved hW.alike hK9, hD9⟩, hS.F ht⟩) hS.2.2 dX5_operate_87
  · refine lv_iload_n hx hb dX5_operate_39 rfl (lv_at hl 3 rfl) ?_
    refine lv_lload hx hb dX5_operate_40 (lv_at hl 0 rfl) ?_
    refine lv_lload_n hx hb dX5_operate_42 rfl (lv_at hl 1 rfl) ?_
    have hPc := hP.sub (ws' := []) [] rfl
    have hDc := hD.sub (ws' := []) [] (by decide) rfl
    have hKc := hK.sub (tys' := []) [] rfl
    have hFc := va_free (wc := []) hD hS hA [] rfl
    refine va_calli (va_runS (As := [.int sg, .long v_4, .long v_2]) (rest := []) ⟨hx, hb, hml, hown, hts⟩ (c_beyond l dC dI sg v_4 v_2 H.size) (va_cwS 3 hts g_c_moper_c_beyond_43 rfl rfl rfl (by decide +kernel) ⟨Nat.le_of_ble_eq_true rfl, Nat.le_of_ble_eq_true rfl⟩) ⟨fun a U g mk q => by obtain ⟨q0, q1, qP, qK, qD⟩ := q; exact ⟨q0, q1, qP, va_K.moved (u := U) (U := U.calling g mk a) (Vm.Alike.refl U.vm) qK, qD⟩, fun U hU hW => ⟨rfl, by rw [hU], by rw [hU]; exact hPc, va_K.moved hW.alike hKc, hDc.weaken (fun _ _ _ _ => trivial)⟩⟩ rfl rfl hl.1 rfl (lv_room (Nat.le_of_ble_eq_true rfl)) dX5_operate_43 ⟨(show 0 + 0 ≤ 0 by omega), (show 0 + 0 ≤ 0 by omega)⟩) hS (fun q _ h => hFc q h) hFc (fun r_6 u tS H1 locs ht hvm hw hB hz1 hk1 hS => ?_)
    obtain ⟨hP1, hK1, hD1⟩ := hB
    rw [ht] at hP1
    have hK1 := va_K.moved hvm.symm hK1
    obtain ⟨hP, hD⟩ := va_join (wr := [(mx, .inr (5, [.ref c0, .ref y, .ref e0, .ref me, .ref nq0, .ref wq, .int xfu, .int xfa, .int xru, .int xne, .int xba, .int (nI tp), .int xca, vfn, .ref mk0, .ref mk1, .ref mk2, .ref mk3, .int xfb])), (me, .inr (6, [.ref y, .ref wq, .int (nI mh), .ref mc, .ref mt, .int mlo, .int miu, .int mmo, .ref md0, .ref md1, .ref md2, .int mdt])), (mc, .inl (kL, mln, .inr (.inl fc)))]) (w1 := []) hP hD [] [0, 1, 2] rfl rfl (by decide) (by decide) hk1 hFc hP1 hD1
    generalize H1 = H at hP hS ⊢
    have hP : va_P (dC, dI) vwCl [(mx, .inr (5, [.ref c0, .ref y, .ref e0, .ref me, .ref nq0, .ref wq, .int xfu, .int xfa, .int xru, .int xne, .int xba, .int (nI tp), .int xca, vfn, .ref mk0, .ref mk1, .ref mk2, .ref mk3, .int xfb])), (me, .inr (6, [.ref y, .ref wq, .int (nI mh), .ref mc, .ref mt, .int mlo, .int miu, .int mmo, .ref md0, .ref md1, .ref md2, .int mdt])), (mc, .inl (kL, mln, .inr (.inl fc)))] H := hP
    have hD : va_D A [(mx, .inr (5, [.ref c0, .ref y, .ref e0, .ref me, .ref nq0, .ref wq, .int xfu, .int xfa, .int xru, .int xne, .int xba, .int (nI tp), .int xca, vfn, .ref mk0, .ref mk1, .ref mk2, .ref mk3, .int xfb])), (me, .inr (6, [.ref y, .ref wq, .int (nI mh), .ref mc, .ref mt, .int mlo, .int miu, .int mmo, .ref md0, .ref md1, .ref md2, .int mdt])), (mc, .inl (kL, mln, .inr (.inl fc)))] := hD
    have hK : va_K (dC, dI) vwCl [(kL, .long)] s := hK
    refine lv_if_eq (tgt := 56) hx hb dX5_operate_46 (by decide) (fun hd => ?_) (fun hd => ?_)
    · refine lv_aload_n hx hb dX5_operate_56 rfl (lv_at hl 2 rfl) ?_
      refine lv_dup hx hb dX5_operate_57 rfl ?_
      refine va_get (D := (dC, dI)) (ci := 5) (v := .int (nI tp)) (C := RX5) (T := TX5) (N := 19) hx hb hts in_c_moper_X5 hown hK hP 0 rfl rfl 11 (by decide) (hts (.fieldLink RX5 73 "OwnedPlaces$Machine" "top" "I") (wm_c_moper 3 rfl)) (fun _ h9 => h9) rfl dX5_operate_58 ?_
      refine lv_iconst (v := 1) hx hb dX5_operate_61 (by decide) ?_
      refine lv_isub hx hb dX5_operate_62 ?_
      refine lv_topi (fun f_7 ef_7 => ?_)
      obtain rfl : f_7 = nI (tp - 1) := ef_7.trans (pk_sub (a := tp) (b := 1) (by omega))
      refine va_put (D := (dC, dI)) (ci := 5) (v := .int (nI (tp - 1))) (ty := .int) (C := RX5) (T := TX5) (N := 19) hx hb hts in_c_moper_X5 tyX5 tyX5_ok nmX5 hown hK hP hD hS 0 rfl rfl 11 (by decide) (hts (.fieldLink RX5 73 "OwnedPlaces$Machine" "top" "I") (wm_c_moper 3 rfl)) (fun _ h9 => h9) rfl (by decide +kernel) rfl rfl (Nat.le_of_ble_eq_true rfl) dX5_operate_63 (fun H locs hP hD hS => ?_)
      have hP : va_P (dC, dI) vwCl [(mx, .inr (5, [.ref c0, .ref y, .ref e0, .ref me, .ref nq0, .ref wq, .int xfu, .int xfa, .int xru, .int xne, .int xba, .int (nI (tp - 1)), .int xca, vfn, .ref mk0, .ref mk1, .ref mk2, .ref mk3, .int xfb])), (me, .inr (6, [.ref y, .ref wq, .int (nI mh), .ref mc, .ref mt, .int mlo, .int miu, .int mmo, .ref md0, .ref md1, .ref md2, .int mdt])), (mc, .inl (kL, mln, .inr (.inl fc)))] H := hP
      have hD : va_D A [(mx, .inr (5, [.ref c0, .ref y, .ref e0, .ref me, .ref nq0, .ref wq, .int xfu, .int xfa, .int xru, .int xne, .int xba, .int (nI (tp - 1)), .int xca, vfn, .ref mk0, .ref mk1, .ref mk2, .ref mk3, .int xfb])), (me, .inr (6, [.ref y, .ref wq, .int (nI mh), .ref mc, .ref mt, .int mlo, .int miu, .int mmo, .ref md0, .ref md1, .ref md2, .int mdt])), (mc, .inl (kL, mln, .inr (.inl fc)))] := hD
      refine lv_aload_n hx hb dX5_operate_66 rfl (lv_at hl 2 rfl) ?_
      refine va_get (D := (dC, dI)) (ci := 5) (v := .ref me) (C := RX5) (T := TX5) (N := 19) hx hb hts in_c_moper_X5 hown hK hP 0 rfl rfl 3 (by decide) (hts (.fieldLink RX5 39 "OwnedPlaces$Machine" "memory" "LOwnedPlaces$Memory;") (wm_c_moper 1 rfl)) (fun _ h9 => h9) rfl dX5_operate_67 ?_
      refine va_get (D := (dC, dI)) (ci := 6) (v := .ref mc) (C := RX6) (T := TX6) (N := 12) hx hb hts in_c_moper_X6 hown hK hP 1 rfl rfl 3 (by decide) (hts (.fieldLink RX5 98 "OwnedPlaces$Memory" "cells" "[J") (wm_c_moper 2 rfl)) (fun _ h9 => h9) rfl dX5_operate_70 ?_
      refine lv_aload_n hx hb dX5_operate_73 rfl (lv_at hl 2 rfl) ?_
      refine va_get (D := (dC, dI)) (ci := 5) (v := .int (nI (tp - 1))) (C := RX5) (T := TX5) (N := 19) hx hb hts in_c_moper_X5 hown hK hP 0 rfl rfl 11 (by decide) (hts (.fieldLink RX5 73 "OwnedPlaces$Machine" "top" "I") (wm_c_moper 3 rfl)) (fun _ h9 => h9) rfl dX5_operate_74 ?_
      refine lv_iconst (v := 1) hx hb dX5_operate_77 (by decide) ?_
      refine lv_isub hx hb dX5_operate_78 ?_
      refine lv_topi (fun f_8 ef_8 => ?_)
      obtain rfl : f_8 = nI (tp - 1 - 1) := ef_8.trans (pk_sub (a := tp - 1) (b := 1) (by omega))
      refine lv_iload_n hx hb dX5_operate_79 rfl (lv_at hl 3 rfl) ?_
      refine lv_lload hx hb dX5_operate_80 (lv_at hl 0 rfl) ?_
      refine lv_lload_n hx hb dX5_operate_82 rfl (lv_at hl 1 rfl) ?_
      have hPc := hP.sub (ws' := []) [] rfl
      have hDc := hD.sub (ws' := []) [] (by decide) rfl
      have hKc := hK.sub (tys' := []) [] rfl
      have hFc := va_free (wc := []) hD hS hA [] rfl
      refine va_calll (va_runS (As := [.int sg, .long v_4, .long v_2]) (rest := [.int (nI (tp - 1 - 1)), .ref mc]) ⟨hx, hb, hml, hown, hts⟩ (c_result l dC dI sg v_4 v_2 H.size) (va_cwS 3 hts g_c_moper_c_result_83 rfl rfl rfl (by decide +kernel) ⟨Nat.le_of_ble_eq_true rfl, Nat.le_of_ble_eq_true rfl⟩) ⟨fun a U g mk q => by obtain ⟨q0, q1, qP, qK, qD⟩ := q; exact ⟨q0, q1, qP, va_K.moved (u := U) (U := U.calling g mk a) (Vm.Alike.refl U.vm) qK, qD⟩, fun U hU hW => ⟨rfl, by rw [hU], by rw [hU]; exact hPc, va_K.moved hW.alike hKc, hDc.weaken (fun _ _ _ _ => trivial)⟩⟩ rfl rfl hl.1 rfl (lv_room (Nat.le_of_ble_eq_true rfl)) dX5_operate_83 ⟨(show 0 + 0 ≤ 0 by omega), (show 0 + 0 ≤ 0 by omega)⟩) hS (fun q _ h => hFc q h) hFc (fun r_9 u tS H1 locs ht hvm hw hB hz1 hk1 hS => ?_)
      obtain ⟨hP1, hK1, hD1⟩ := hB
      rw [ht] at hP1
      have hK1 := va_K.moved hvm.symm hK1
      obtain ⟨hP, hD⟩ := va_join (wr := [(mx, .inr (5, [.ref c0, .ref y, .ref e0, .ref me, .ref nq0, .ref wq, .int xfu, .int xfa, .int xru, .int xne, .int xba, .int (nI (tp - 1)), .int xca, vfn, .ref mk0, .ref mk1, .ref mk2, .ref mk3, .int xfb])), (me, .inr (6, [.ref y, .ref wq, .int (nI mh), .ref mc, .ref mt, .int mlo, .int miu, .int mmo, .ref md0, .ref md1, .ref md2, .int mdt])), (mc, .inl (kL, mln, .inr (.inl fc)))]) (w1 := []) hP hD [] [0, 1, 2] rfl rfl (by decide) (by decide) hk1 hFc hP1 hD1
      generalize H1 = H at hP hS ⊢
      have hP : va_P (dC, dI) vwCl [(mx, .inr (5, [.ref c0, .ref y, .ref e0, .ref me, .ref nq0, .ref wq, .int xfu, .int xfa, .int xru, .int xne, .int xba, .int (nI (tp - 1)), .int xca, vfn, .ref mk0, .ref mk1, .ref mk2, .ref mk3, .int xfb])), (me, .inr (6, [.ref y, .ref wq, .int (nI mh), .ref mc, .ref mt, .int mlo, .int miu, .int mmo, .ref md0, .ref md1, .ref md2, .int mdt])), (mc, .inl (kL, mln, .inr (.inl fc)))] H := hP
      have hD : va_D A [(mx, .inr (5, [.ref c0, .ref y, .ref e0, .ref me, .ref nq0, .ref wq, .int xfu, .int xfa, .int xru, .int xne, .int xba, .int (nI (tp - 1)), .int xca, vfn, .ref mk0, .ref mk1, .ref mk2, .ref mk3, .int xfb])), (me, .inr (6, [.ref y, .ref wq, .int (nI mh), .ref mc, .ref mt, .int mlo, .int miu, .int mmo, .ref md0, .ref md1, .ref md2, .int mdt])), (mc, .inl (kL, mln, .inr (.inl fc)))] := hD
      have hK : va_K (dC, dI) vwCl [(kL, .long)] s := hK
      refine va_last hx hb hK hP hD hS 2 0 rfl rfl (vp_in_nI (by omega) (by omega)) dX5_operate_86 (fun H locs hP hD hS => ?_)
      have hP : va_P (dC, dI) vwCl [(mx, .inr (5, [.ref c0, .ref y, .ref e0, .ref me, .ref nq0, .ref wq, .int xfu, .int xfa, .int xru, .int xne, .int xba, .int (nI (tp - 1)), .int xca, vfn, .ref mk0, .ref mk1, .ref mk2, .ref mk3, .int xfb])), (me, .inr (6, [.ref y, .ref wq, .int (nI mh), .ref mc, .ref mt, .int mlo, .int miu, .int mmo, .ref md0, .ref md1, .ref md2, .int mdt])), (mc, .inl (kL, mln, .inr (.inl (vp_updL fc (nI (tp - 1 - 1) : Int32).toNatClampNeg r_9))))] H := hP
      have hD : va_D A [(mx, .inr (5, [.ref c0, .ref y, .ref e0, .ref me, .ref nq0, .ref wq, .int xfu, .int xfa, .int xru, .int xne, .int xba, .int (nI (tp - 1)), .int xca, vfn, .ref mk0, .ref mk1, .ref mk2, .ref mk3, .int xfb])), (me, .inr (6, [.ref y, .ref wq, .int (nI mh), .ref mc, .ref mt, .int mlo, .int miu, .int mmo, .ref md0, .ref md1, .ref md2, .int mdt])), (mc, .inl (kL, mln, .inr (.inl (vp_updL fc (nI (tp - 1 - 1) : Int32).toNatClampNeg r_9))))] := hD
      obtain ⟨gc8, egc8⟩ : ∃ zZ : Nat → Int64, zZ = vp_updL fc (nI (tp - 1 - 1) : Int32).toNatClampNeg r_9 := ⟨_, rfl⟩
      rw [← egc8] at hP hD
      have hP9 := hP.sub (ws' := [(mx, .inr (5, [.ref c0, .ref y, .ref e0, .ref me, .ref nq0, .ref wq, .int xfu, .int xfa, .int xru, .int xne, .int xba, .int (nI (tp - 1)), .int xca, vfn, .ref mk0, .ref mk1, .ref mk2, .ref mk3, .int xfb])), (me, .inr (6, [.ref y, .ref wq, .int (nI mh), .ref mc, .ref mt, .int mlo, .int miu, .int mmo, .ref md0, .ref md1, .ref md2, .int mdt])), (mc, .inl (kL, mln, .inr (.inl gc8)))]) [0, 1, 2] rfl
      have hD9 := hD.sub (ws' := [(mx, .inr (5, [.ref c0, .ref y, .ref e0, .ref me, .ref nq0, .ref wq, .int xfu, .int xfa, .int xru, .int xne, .int xba, .int (nI (tp - 1)), .int xca, vfn, .ref mk0, .ref mk1, .ref mk2, .ref mk3, .int xfb])), (me, .inr (6, [.ref y, .ref wq, .int (nI mh), .ref mc, .ref mt, .int mlo, .int miu, .int mmo, .ref md0, .ref md1, .ref md2, .int mdt])), (mc, .inl (kL, mln, .inr (.inl gc8)))]) [0, 1, 2] (by decide) rfl
      have hK9 := hK.sub (tys' := [(kL, .long)]) [0] rfl
      exact W.vret hx hb hr (fun tS ht hW => ⟨⟨(), rfl, trivial, tp - 1, xfa, xru, gc8, Or.inr ⟨rfl, rfl, rfl, r_9, by rw [egc8, nI_clamp (by omega), show tp - 1 - 1 = tp - 2 by omega]⟩, by rw [ht]; exact hP9, va_K.moved hW.alike hK9, hD9⟩, hS.F ht⟩) hS.2.2 dX5_operate_87
    · refine lv_aload_n hx hb dX5_operate_49 rfl (lv_at hl 2 rfl) ?_
      refine lv_bipush (v := 7) hx hb dX5_operate_50 (by decide) ?_
      have hPc := hP.sub (ws' := [(mx, .inr (5, [.ref c0, .ref y, .ref e0, .ref me, .ref nq0, .ref wq, .int xfu, .int xfa, .int xru, .int xne, .int xba, .int (nI tp), .int xca, vfn, .ref mk0, .ref mk1, .ref mk2, .ref mk3, .int xfb]))]) [0] rfl
      have hDc := hD.sub (ws' := [(mx, .inr (5, [.ref c0, .ref y, .ref e0, .ref me, .ref nq0, .ref wq, .int xfu, .int xfa, .int xru, .int xne, .int xba, .int (nI tp), .int xca, vfn, .ref mk0, .ref mk1, .ref mk2, .ref mk3, .int xfb]))]) [0] (by decide) rfl
      have hKc := hK.sub (tys' := []) [] rfl
      have hFc := va_free (wc := [(mx, .inr (5, [.ref c0, .ref y, .ref e0, .ref me, .ref nq0, .ref wq, .int xfu, .int xfa, .int xru, .int xne, .int xba, .int (nI tp), .int xca, vfn, .ref mk0, .ref mk1, .ref mk2, .ref mk3, .int xfb]))]) hD hS hA [0] rfl
      refine va_callv (va_runV (As := [.int 7]) (rest := []) ⟨hx, hb, hml, hown, hts⟩ (c_stop l dC dI mx c0 y e0 me nq0 wq mk0 mk1 mk2 mk3 xfu xfa xru xne xba (nI tp) xca xfb vfn 7 H.size) (cwV 1 hts g_c_moper_c_stop_52 rfl rfl rfl (by decide +kernel) ⟨Nat.le_of_ble_eq_true rfl, Nat.le_of_ble_eq_true rfl⟩) ⟨fun a U g mk q => by obtain ⟨q0, q1, qP, qK, qD⟩ := q; exact ⟨q0, q1, qP, va_K.moved (u := U) (U := U.calling g mk a) (Vm.Alike.refl U.vm) qK, qD⟩, va_recv hKc hPc (ci := 5) (q0 := 0) rfl rfl, fun U hU hW => ⟨rfl, by rw [hU], by rw [hU]; exact hPc, va_K.moved hW.alike hKc, hDc.weaken (fun _ _ _ _ => trivial)⟩⟩ rfl rfl hl.1 rfl (lv_room (Nat.le_of_ble_eq_true rfl)) dX5_operate_52 ⟨(show 0 + 0 ≤ 0 by omega), (show 0 + 0 ≤ 0 by omega)⟩) hS (fun q _ h => hFc q h) hFc (fun u tS H1 locs ht hvm hw hB hz1 hk1 hS => ?_)
      obtain ⟨hP1, hK1, hD1⟩ := hB
      rw [ht] at hP1
      have hK1 := va_K.moved hvm.symm hK1
      obtain ⟨hP, hD⟩ := va_join (wr := [(me, .inr (6, [.ref y, .ref wq, .int (nI mh), .ref mc, .ref mt, .int mlo, .int miu, .int mmo, .ref md0, .ref md1, .ref md2, .int mdt])), (mc, .inl (kL, mln, .inr (.inl fc)))]) (w1 := [(mx, .inr (5, [.ref c0, .ref y, .ref e0, .ref me, .ref nq0, .ref wq, .int xfu, .int 7, .int 0, .int xne, .int xba, .int (nI tp), .int xca, vfn, .ref mk0, .ref mk1, .ref mk2, .ref mk3, .int xfb]))]) hP hD [0] [1, 2] rfl rfl (by decide) (by decide) hk1 hFc hP1 hD1
      generalize H1 = H at hP hS ⊢
      have hP : va_P (dC, dI) vwCl [(me, .inr (6, [.ref y, .ref wq, .int (nI mh), .ref mc, .ref mt, .int mlo, .int miu, .int mmo, .ref md0, .ref md1, .ref md2, .int mdt])), (mc, .inl (kL, mln, .inr (.inl fc))), (mx, .inr (5, [.ref c0, .ref y, .ref e0, .ref me, .ref nq0, .ref wq, .int xfu, .int 7, .int 0, .int xne, .int xba, .int (nI tp), .int xca, vfn, .ref mk0, .ref mk1, .ref mk2, .ref mk3, .int xfb]))] H := hP
      have hD : va_D A [(me, .inr (6, [.ref y, .ref wq, .int (nI mh), .ref mc, .ref mt, .int mlo, .int miu, .int mmo, .ref md0, .ref md1, .ref md2, .int mdt])), (mc, .inl (kL, mln, .inr (.inl fc))), (mx, .inr (5, [.ref c0, .ref y, .ref e0, .ref me, .ref nq0, .ref wq, .int xfu, .int 7, .int 0, .int xne, .int xba, .int (nI tp), .int xca, vfn, .ref mk0, .ref mk1, .ref mk2, .ref mk3, .int xfb]))] := hD
      have hK : va_K (dC, dI) vwCl [(kL, .long)] s := hK
      have hP9 := hP.sub (ws' := [(mx, .inr (5, [.ref c0, .ref y, .ref e0, .ref me, .ref nq0, .ref wq, .int xfu, .int 7, .int 0, .int xne, .int xba, .int (nI tp), .int xca, vfn, .ref mk0, .ref mk1, .ref mk2, .ref mk3, .int xfb])), (me, .inr (6, [.ref y, .ref wq, .int (nI mh), .ref mc, .ref mt, .int mlo, .int miu, .int mmo, .ref md0, .ref md1, .ref md2, .int mdt])), (mc, .inl (kL, mln, .inr (.inl fc)))]) [2, 0, 1] rfl
      have hD9 := hD.sub (ws' := [(mx, .inr (5, [.ref c0, .ref y, .ref e0, .ref me, .ref nq0, .ref wq, .int xfu, .int 7, .int 0, .int xne, .int xba, .int (nI tp), .int xca, vfn, .ref mk0, .ref mk1, .ref mk2, .ref mk3, .int xfb])), (me, .inr (6, [.ref y, .ref wq, .int (nI mh), .ref mc, .ref mt, .int mlo, .int miu, .int mmo, .ref md0, .ref md1, .ref md2, .int mdt])), (mc, .inl (kL, mln, .inr (.inl fc)))]) [2, 0, 1] (by decide) rfl
      have hK9 := hK.sub (tys' := [(kL, .long)]) [0] rfl
      exact W.vret hx hb hr (fun tS ht hW => ⟨⟨(), rfl, trivial, tp, 7, 0, fc, Or.inl ⟨rfl, rfl, rfl, rfl⟩, by rw [ht]; exact hP9, va_K.moved hW.alike hK9, hD9⟩, hS.F ht⟩) hS.2.2 dX5_operate_55
