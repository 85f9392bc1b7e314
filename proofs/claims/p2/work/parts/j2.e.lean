def wf_c_rwrB : List Cond := [.code yX23_written cX23_written 3 (some (.object "OwnedPlacesModel$Written")), .classLink RX23 107 RX22, .instantiable RX22 5, .initialized RX22, .code yX22_init cX22_init 1 none, .methodLink RX22 1 objectInit, .instanceMethod objectInit, .code objectInit ⟨#[0xb1]⟩ 1 none, .fieldLink RX22 7 "OwnedPlacesModel$Written" "life" "I", .instanceMethod yX22_init, .code yX23_ok cX23_ok 1 (some .boolean), .fieldLink RX23 80 "OwnedPlacesModel" "fault" "I", .methodLink RX23 89 yX23_ok, .instanceMethod yX23_ok, .selects RX23 yX23_ok yX23_ok, .initialized RX23]
def wp_c_rwrB : List Cond := wf_c_rwrB ++ (wsX220 ++ (wsX230 ++ []))
theorem in_c_rwrB_X22 : ∀ w ∈ wsX220, w ∈ wp_c_rwrB := fun w h => List.mem_append_right _ (List.mem_append_left _ h)
theorem in_c_rwrB_X23 : ∀ w ∈ wsX230, w ∈ wp_c_rwrB := fun w h => List.mem_append_right _ (List.mem_append_right _ (List.mem_append_left _ h))
theorem wg_c_rwrB : wf_c_rwrB.all goodWord = true := by decide +kernel
theorem wm_c_rwrB (k : Nat) {w : Cond} (h : wp_c_rwrB[k]? = some w) : w ∈ wp_c_rwrB := List.mem_of_getElem? h
set_option maxRecDepth 20000 in
theorem g_c_rwrB_c_nW_4 : GoodIn wp_c_rwrB wp_c_nW := goodIn_app (goodIn_f (wf_c_nW) [4, 5, 6, 7, 8] rfl wg_c_nW) (goodIn_app (goodIn_sub in_c_rwrB_X22 gd_X22) (goodIn_n))
set_option maxRecDepth 20000 in
theorem g_c_rwrB_c_rokB_9 : GoodIn wp_c_rwrB (wsV RX23 89 RX23 yX23_ok wp_c_rok0) := goodIn_app (goodIn_f [.methodLink RX23 89 yX23_ok, .instanceMethod yX23_ok, .selects RX23 yX23_ok yX23_ok, .initialized RX23] [12, 13, 14, 15] rfl (by decide +kernel)) (goodIn_app (goodIn_f (wf_c_rok0) [10, 11] rfl wg_c_rok0) (goodIn_app (goodIn_sub in_c_rwrB_X23 gd_X23) (goodIn_n)))
set_option maxHeartbeats 4000000 in
set_option maxRecDepth 100000 in
theorem c_rwrB (l : Launch) (dC : Nat → ClassId) (dI : Nat → Nat → Nat) (m9 : Nat) (mr : Nat → Nat) (mv : Nat → Int32) (vf : Value) (xl xa xi xt xn : Int32) (zs T pp ns vv bb : Nat) (kI : ClassId) (fk fa : Nat → Int32) (ff : Int32) (L : List Nat) (F : Nat → va_E) (sl : Nat) (sz : Nat) (hff : ff ≠ 0) : Met l yX23_written wp_c_rwrB ({ frames := 2, cells := 1, slots := 5, locals := 32 }) (va_Pc [.ref m9] (fun U => U.heap.size = sz ∧ va_P (dC, dI) vwCl (([(m9, .inr (23, mA mr mv vf xl (nI zs) ff xa (nI T) (nI pp) xi xt xn (nI ns) (nI vv) (nI bb))), (mr 5, .inl (kI, 3002, .inl fk)), (mr 6, .inl (kI, 3002, .inl fa))] : va_W) ++ (sT L F)) U.heap ∧ va_K (dC, dI) vwCl [(kI, .int)] U ∧ va_D (fun _ => True) (([(m9, .inr (23, mA mr mv vf xl (nI zs) ff xa (nI T) (nI pp) xi xt xn (nI ns) (nI vv) (nI bb))), (mr 5, .inl (kI, 3002, .inl fk)), (mr 6, .inl (kI, 3002, .inl fa))] : va_W) ++ (sT L F)) ∧ nsM U ∧ slN U.heap = sl)) (va_Qr (fun _ : Unit => True) (fun (_ : Unit) (rA : Nat) (tS : State) => ∃ (L2 : List Nat) (F2 : Nat → va_E), (exS L F L2 F2 ∧ rA ∈ L2) ∧ (∃ vs : List Value, F2 rA = .inr (22, vs)) ∧ (tS.heap.size ≤ sz + (1) ∧ slN tS.heap ≤ sl + (5)) ∧ va_P (dC, dI) vwCl (([(m9, .inr (23, mA mr mv vf xl (nI zs) ff xa (nI T) (nI pp) xi xt xn (nI ns) (nI vv) (nI bb))), (mr 5, .inl (kI, 3002, .inl fk)), (mr 6, .inl (kI, 3002, .inl fa))] : va_W) ++ (sT L2 F2)) tS.heap ∧ va_K (dC, dI) vwCl [(kI, .int)] tS ∧ va_D (va_A (([(m9, .inr (23, mA mr mv vf xl (nI zs) ff xa (nI T) (nI pp) xi xt xn (nI ns) (nI vv) (nI bb))), (mr 5, .inl (kI, 3002, .inl fk)), (mr 6, .inl (kI, 3002, .inl fa))] : va_W) ++ (sT L F)) sz) (([(m9, .inr (23, mA mr mv vf xl (nI zs) ff xa (nI T) (nI pp) xi xt xn (nI ns) (nI vv) (nI bb))), (mr 5, .inl (kI, 3002, .inl fk)), (mr 6, .inl (kI, 3002, .inl fa))] : va_W) ++ (sT L2 F2))) (va_A (([(m9, .inr (23, mA mr mv vf xl (nI zs) ff xa (nI T) (nI pp) xi xt xn (nI ns) (nI vv) (nI bb))), (mr 5, .inl (kI, 3002, .inl fk)), (mr 6, .inl (kI, 3002, .inl fa))] : va_W) ++ (sT L F)) sz)) 1 5 (va_A (([(m9, .inr (23, mA mr mv vf xl (nI zs) ff xa (nI T) (nI pp) xi xt xn (nI ns) (nI vv) (nI bb))), (mr 5, .inl (kI, 3002, .inl fk)), (mr 6, .inl (kI, 3002, .inl fa))] : va_W) ++ (sT L F)) sz) := by
  refine Met.ofW (cc := cX23_written) (maxL := 3) (ret := (some (.object "OwnedPlacesModel$Written"))) (by decide) rfl ?_
  intro p e s m args below meth c s₁ B hml hv
  obtain ⟨rfl, hsz, hP, hK, hD0, hpre0, hpre1⟩ := hv
  have hx := B.exec
  have hb := B.bytes
  have hr := B.returns
  have hts := atoms_spec (ws := wp_c_rwrB) B.pre
  have hown : s.vm.findClass RX23 = some m.cls := findClass_of_methodNamed B.named
  have hlocks := B.notSynchronized
  subst hsz
  have hD := hD0.self (sz := s.heap.size)
  generalize hAe : va_A (([(m9, .inr (23, mA mr mv vf xl (nI zs) ff xa (nI T) (nI pp) xi xt xn (nI ns) (nI vv) (nI bb))), (mr 5, .inl (kI, 3002, .inl fk)), (mr 6, .inl (kI, 3002, .inl fa))] : va_W) ++ (sT L F)) s.heap.size = A at hD ⊢
  have hA : ∀ q : Nat, s.heap.size ≤ q → A q := fun q h => by rw [← hAe]; exact Or.inr h
  have hS : va_S A s.heap s.heap [] := va_S.rf
  have hP : va_P (dC, dI) vwCl (([(m9, .inr (23, mA mr mv vf xl (nI zs) ff xa (nI T) (nI pp) xi xt xn (nI ns) (nI vv) (nI bb))), (mr 5, .inl (kI, 3002, .inl fk)), (mr 6, .inl (kI, 3002, .inl fa))] : va_W) ++ (sT L F)) s.heap := hP
  have hl := lv_entry ([.ref m9]) (n := 3) (Nat.le_of_ble_eq_true rfl)
  rw [lg_entry_eq]
  generalize (lg_sl ([.ref m9]) ++ List.replicate (3 - (lg_sl ([.ref m9])).length) Slot.unset).toArray = ls at hl ⊢
  have hl : lv_has ls 3 [(0, .ref m9)] := hl
  have hns := hpre0
  subst hpre1
  refine va_new (ci := 22) (fs := [.int 0, .int 0, .int 0, .int 0, .null]) (C := RX22) (T := TX22) (N := 5) hx hb hts in_c_rwrB_X22 tyX22 tyX22_ok hown (hts (.classLink RX23 107 RX22) (wm_c_rwrB 1 rfl)) (hts (.instantiable RX22 5) (wm_c_rwrB 2 rfl)) (hts (.initialized RX22) (wm_c_rwrB 3 rfl)) hK hP hD hS hA rfl dv_X22 (show 0 + 1 ≤ 1 by omega) (show 0 + 5 ≤ 5 by omega) dX23_written_0 (fun q_1 H hP hD hS => ?_)
  have hP := va_P.nt hP
  have hD := va_D.nt hD
  have hP : va_P (dC, dI) vwCl (([(m9, .inr (23, mA mr mv vf xl (nI zs) ff xa (nI T) (nI pp) xi xt xn (nI ns) (nI vv) (nI bb))), (mr 5, .inl (kI, 3002, .inl fk)), (mr 6, .inl (kI, 3002, .inl fa)), (q_1, .inr (22, [.int 0, .int 0, .int 0, .int 0, .null]))] : va_W) ++ (sT L F)) H := hP
  have hD : va_D A (([(m9, .inr (23, mA mr mv vf xl (nI zs) ff xa (nI T) (nI pp) xi xt xn (nI ns) (nI vv) (nI bb))), (mr 5, .inl (kI, 3002, .inl fk)), (mr 6, .inl (kI, 3002, .inl fa)), (q_1, .inr (22, [.int 0, .int 0, .int 0, .int 0, .null]))] : va_W) ++ (sT L F)) := hD
  refine W.widen (k := 1) (n := 5) (by omega) (by omega) ?_
  refine lv_dup hx hb dX23_written_3 rfl ?_
  have hPc := hP.subF (f' := [(q_1, .inr (22, [.int 0, .int 0, .int 0, .int 0, .null]))]) [3] rfl
  have hDc := hD.subF (f' := [(q_1, .inr (22, [.int 0, .int 0, .int 0, .int 0, .null]))]) [3] (by decide) rfl
  have hKc := hK.sub (tys' := []) [] rfl
  have hFc := va_freeT (wc := [(q_1, .inr (22, [.int 0, .int 0, .int 0, .int 0, .null]))]) hD hS hA [3] rfl
  refine va_callv (va_runIN (As := []) (rest := [.ref q_1]) ⟨hx, hb, hml, hown, hts⟩ (c_nW l dC dI q_1 H.size) ⟨va_cnB 0 hts g_c_rwrB_c_nW_4 rfl rfl rfl hns.1.1 (hts (.initialized RX22) (wm_c_rwrB 3 rfl)) (by decide +kernel) ⟨Nat.le_of_ble_eq_true rfl, Nat.le_of_ble_eq_true rfl⟩, rfl, (hts (.instanceMethod yX22_init) (wm_c_rwrB 9 rfl))⟩ ⟨fun a U g mk q => by obtain ⟨q0, q1, qP, qK, qD⟩ := q; exact ⟨q0, q1, qP, va_K.moved (u := U) (U := U.calling g mk a) (Vm.Alike.refl U.vm) qK, qD⟩, fun U hU hW => ⟨rfl, by rw [hU], by rw [hU]; exact hPc, va_K.moved hW.alike hKc, hDc.weaken (fun _ _ _ _ => trivial)⟩⟩ rfl rfl hl.1 rfl (lv_room (Nat.le_of_ble_eq_true rfl)) dX23_written_4 ⟨(show 1 + 0 ≤ 1 by omega), (show 5 + 0 ≤ 5 by omega)⟩) hS (fun q _ h => hFc q h) hFc (fun u tS H1 locs ht hvm hw hB hz1 hk1 hS => ?_)
  obtain ⟨hP1, hK1, hD1⟩ := hB
  rw [ht] at hP1
  have hK1 := va_K.moved hvm.symm hK1
  obtain ⟨hP, hD⟩ := va_joinT (wr := [(m9, .inr (23, mA mr mv vf xl (nI zs) ff xa (nI T) (nI pp) xi xt xn (nI ns) (nI vv) (nI bb))), (mr 5, .inl (kI, 3002, .inl fk)), (mr 6, .inl (kI, 3002, .inl fa))]) (w1 := [(q_1, .inr (22, [.int 0, .int 0, .int 0, .int (-1), .null]))]) hP hD [3] [0, 1, 2] rfl rfl (by decide) (by decide) hk1 hFc hP1 hD1
  generalize H1 = H at hP hS ⊢
  have hP : va_P (dC, dI) vwCl (([(m9, .inr (23, mA mr mv vf xl (nI zs) ff xa (nI T) (nI pp) xi xt xn (nI ns) (nI vv) (nI bb))), (mr 5, .inl (kI, 3002, .inl fk)), (mr 6, .inl (kI, 3002, .inl fa)), (q_1, .inr (22, [.int 0, .int 0, .int 0, .int (-1), .null]))] : va_W) ++ (sT L F)) H := hP
  have hD : va_D A (([(m9, .inr (23, mA mr mv vf xl (nI zs) ff xa (nI T) (nI pp) xi xt xn (nI ns) (nI vv) (nI bb))), (mr 5, .inl (kI, 3002, .inl fk)), (mr 6, .inl (kI, 3002, .inl fa)), (q_1, .inr (22, [.int 0, .int 0, .int 0, .int (-1), .null]))] : va_W) ++ (sT L F)) := hD
  have hK : va_K (dC, dI) vwCl [(kI, .int)] s := hK
  refine lv_astore_n (lv' := [(1, .ref q_1), (0, .ref m9)]) hx hb dX23_written_7 rfl hl (by decide) rfl (fun ls hl => ?_)
  refine lv_aload_n hx hb dX23_written_8 rfl (lv_at hl 1 rfl) ?_
  have hPc := hP.subF (f' := [(m9, .inr (23, mA mr mv vf xl (nI zs) ff xa (nI T) (nI pp) xi xt xn (nI ns) (nI vv) (nI bb)))]) [0] rfl
  have hDc := hD.subF (f' := [(m9, .inr (23, mA mr mv vf xl (nI zs) ff xa (nI T) (nI pp) xi xt xn (nI ns) (nI vv) (nI bb)))]) [0] (by decide) rfl
  have hKc := hK.sub (tys' := []) [] rfl
  have hFc := va_freeT (wc := [(m9, .inr (23, mA mr mv vf xl (nI zs) ff xa (nI T) (nI pp) xi xt xn (nI ns) (nI vv) (nI bb)))]) hD hS hA [0] rfl
  refine va_calli (va_runV (As := []) (rest := []) ⟨hx, hb, hml, hown, hts⟩ (c_rokB l dC dI m9 mr mv vf xl xa xi xt xn zs T pp ns vv bb kI fk fa ff H.size hff) (cwV 0 hts g_c_rwrB_c_rokB_9 rfl rfl rfl (by decide +kernel) ⟨Nat.le_of_ble_eq_true rfl, Nat.le_of_ble_eq_true rfl⟩) ⟨fun a U g mk q => by obtain ⟨q0, q1, qP, qK, qD⟩ := q; exact ⟨q0, q1, qP, va_K.moved (u := U) (U := U.calling g mk a) (Vm.Alike.refl U.vm) qK, qD⟩, va_recv hKc hPc (ci := 23) (q0 := 0) rfl rfl, fun U hU hW => ⟨rfl, by rw [hU], by rw [hU]; exact hPc, va_K.moved hW.alike hKc, hDc.weaken (fun _ _ _ _ => trivial)⟩⟩ rfl rfl hl.1 rfl (lv_room (Nat.le_of_ble_eq_true rfl)) dX23_written_9 ⟨(show 1 + 0 ≤ 1 by omega), (show 5 + 0 ≤ 5 by omega)⟩) hS (fun q _ h => hFc q h) hFc (fun r_3 u tS H1 locs ht hvm hw hB hz1 hk1 hS => ?_)
  obtain ⟨hP1, hK1, hD1⟩ := hB
  rw [ht] at hP1
  have hK1 := va_K.moved hvm.symm hK1
  obtain ⟨hP, hD⟩ := va_joinT (wr := [(mr 5, .inl (kI, 3002, .inl fk)), (mr 6, .inl (kI, 3002, .inl fa)), (q_1, .inr (22, [.int 0, .int 0, .int 0, .int (-1), .null]))]) (w1 := [(m9, .inr (23, mA mr mv vf xl (nI zs) ff xa (nI T) (nI pp) xi xt xn (nI ns) (nI vv) (nI bb)))]) hP hD [0] [1, 2, 3] rfl rfl (by decide) (by decide) hk1 hFc hP1 hD1
  generalize H1 = H at hP hS ⊢
  have hP : va_P (dC, dI) vwCl (([(mr 5, .inl (kI, 3002, .inl fk)), (mr 6, .inl (kI, 3002, .inl fa)), (q_1, .inr (22, [.int 0, .int 0, .int 0, .int (-1), .null])), (m9, .inr (23, mA mr mv vf xl (nI zs) ff xa (nI T) (nI pp) xi xt xn (nI ns) (nI vv) (nI bb)))] : va_W) ++ (sT L F)) H := hP
  have hD : va_D A (([(mr 5, .inl (kI, 3002, .inl fk)), (mr 6, .inl (kI, 3002, .inl fa)), (q_1, .inr (22, [.int 0, .int 0, .int 0, .int (-1), .null])), (m9, .inr (23, mA mr mv vf xl (nI zs) ff xa (nI T) (nI pp) xi xt xn (nI ns) (nI vv) (nI bb)))] : va_W) ++ (sT L F)) := hD
  have hK : va_K (dC, dI) vwCl [(kI, .int)] s := hK
  obtain rfl : r_3 = 0 := hw
  refine lv_if_ne (tgt := 17) hx hb dX23_written_12 (by decide) (fun c_4 => absurd c_4 (by decide)) (fun _ => ?_)
  refine lv_aload_n hx hb dX23_written_15 rfl (lv_at hl 0 rfl) ?_
  have hP : va_P (dC, dI) vwCl ((([(mr 5, .inl (kI, 3002, .inl fk)), (mr 6, .inl (kI, 3002, .inl fa)), (m9, .inr (23, mA mr mv vf xl (nI zs) ff xa (nI T) (nI pp) xi xt xn (nI ns) (nI vv) (nI bb)))] : va_W) ++ ([(q_1, .inr (22, [.int 0, .int 0, .int 0, .int (-1), .null]))] : va_W)) ++ sT L F) H := hP.subT (f' := [(mr 5, .inl (kI, 3002, .inl fk)), (mr 6, .inl (kI, 3002, .inl fa)), (m9, .inr (23, mA mr mv vf xl (nI zs) ff xa (nI T) (nI pp) xi xt xn (nI ns) (nI vv) (nI bb))), (q_1, .inr (22, [.int 0, .int 0, .int 0, .int (-1), .null]))]) [0, 1, 3, 2] rfl
  have hD : va_D A ((([(mr 5, .inl (kI, 3002, .inl fk)), (mr 6, .inl (kI, 3002, .inl fa)), (m9, .inr (23, mA mr mv vf xl (nI zs) ff xa (nI T) (nI pp) xi xt xn (nI ns) (nI vv) (nI bb)))] : va_W) ++ ([(q_1, .inr (22, [.int 0, .int 0, .int 0, .int (-1), .null]))] : va_W)) ++ sT L F) := hD.subT (f' := [(mr 5, .inl (kI, 3002, .inl fk)), (mr 6, .inl (kI, 3002, .inl fa)), (m9, .inr (23, mA mr mv vf xl (nI zs) ff xa (nI T) (nI pp) xi xt xn (nI ns) (nI vv) (nI bb))), (q_1, .inr (22, [.int 0, .int 0, .int 0, .int (-1), .null]))]) [0, 1, 3, 2] (by decide) rfl
  obtain ⟨L9, F9, hx9, hm9, hP, hD⟩ := st_fileL [(q_1, .inr (22, [.int 0, .int 0, .int 0, .int (-1), .null]))] hP hD
  have hm9_0 := hm9 _ (List.mem_of_getElem? (i := 0) rfl)
  refine W.grow (fun hgs0 hgs1 => ?_)
  have hP9 := hP.subT (f' := [(m9, .inr (23, mA mr mv vf xl (nI zs) ff xa (nI T) (nI pp) xi xt xn (nI ns) (nI vv) (nI bb))), (mr 5, .inl (kI, 3002, .inl fk)), (mr 6, .inl (kI, 3002, .inl fa))]) [2, 0, 1] rfl
  have hD9 := hD.subT (f' := [(m9, .inr (23, mA mr mv vf xl (nI zs) ff xa (nI T) (nI pp) xi xt xn (nI ns) (nI vv) (nI bb))), (mr 5, .inl (kI, 3002, .inl fk)), (mr 6, .inl (kI, 3002, .inl fa))]) [2, 0, 1] (by decide) rfl
  have hK9 := hK.sub (tys' := [(kI, .int)]) [0] rfl
  refine W.widen (k := 1) (n := 5) (by omega) (by omega) ?_
  exact W.aret hx hb hr (Or.inl ⟨_, rfl⟩) (Or.inr ⟨q_1, rfl⟩) (fun tS ht hW => ⟨⟨(), q_1, rfl, trivial, L9, F9, ⟨hx9, hm9_0.1⟩, ⟨_, hm9_0.2⟩, by rw [ht]; exact ⟨by omega, by omega⟩, by rw [ht]; exact hP9, va_K.moved hW.alike hK9, hD9⟩, hS.F ht⟩) hS.2.2 dX23_written_16
