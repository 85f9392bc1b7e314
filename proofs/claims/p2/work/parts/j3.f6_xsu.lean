set_option maxRecDepth 20000 in
theorem g_c_xsu_c_xpr_1 : GoodIn wp_c_xsu (wsV RX23 359 RX23 yX23_primary wp_c_xpr) := goodIn_app (goodIn_f [.methodLink RX23 359 yX23_primary, .instanceMethod yX23_primary, .selects RX23 yX23_primary yX23_primary, .initialized RX23] [82, 83, 84, 19] rfl (by decide +kernel)) (goodIn_app (goodIn_f (wf_c_xpr) [1, 2, 3, 4, 5, 6, 7, 8, 9, 10, 11, 12, 13, 14, 15, 16, 17, 18, 19, 20, 21, 22, 23, 24, 25, 26, 27, 28, 29, 30, 31, 32, 33, 34, 35, 36, 37, 38, 39, 40, 41, 42, 43, 44, 45, 46, 47, 48, 49, 50, 51, 52, 53, 54, 55, 56, 57, 58, 59, 60, 61, 62, 63, 64, 65, 66, 67, 68, 69, 70, 71, 72, 73, 74, 75, 76, 77, 78, 79, 80, 81, 0, 82, 83, 84, 85, 86, 87, 88, 89, 90, 91, 92, 93, 94, 95, 96, 97, 98, 99, 100, 101] rfl wg_c_xpr) (goodIn_app (goodIn_sub in_c_xsu_X15 gd_X15) (goodIn_app (goodIn_sub in_c_xsu_X23 gd_X23) (goodIn_n))))
set_option maxRecDepth 20000 in
theorem g_c_xsu_c_rok0_8 : GoodIn wp_c_xsu (wsV RX23 89 RX23 yX23_ok wp_c_rok0) := goodIn_app (goodIn_f [.methodLink RX23 89 yX23_ok, .instanceMethod yX23_ok, .selects RX23 yX23_ok yX23_ok, .initialized RX23] [24, 25, 26, 19] rfl (by decide +kernel)) (goodIn_app (goodIn_f (wf_c_rok0) [22, 23] rfl wg_c_rok0) (goodIn_app (goodIn_sub in_c_xsu_X23 gd_X23) (goodIn_n)))
set_option maxRecDepth 20000 in
theorem g_c_xsu_c_risY_17 : GoodIn wp_c_xsu (wsV RX23 93 RX23 yX23_is wp_c_risY) := goodIn_app (goodIn_f [.methodLink RX23 93 yX23_is, .instanceMethod yX23_is, .selects RX23 yX23_is yX23_is, .initialized RX23] [16, 17, 18, 19] rfl (by decide +kernel)) (goodIn_app (goodIn_f (wf_c_risY) [15, 12, 10] rfl wg_c_risY) (goodIn_app (goodIn_sub in_c_xsu_X23 gd_X23) (goodIn_n)))
set_option maxRecDepth 20000 in
theorem g_c_xsu_c_risN_17 : GoodIn wp_c_xsu (wsV RX23 93 RX23 yX23_is wp_c_risY) := goodIn_app (goodIn_f [.methodLink RX23 93 yX23_is, .instanceMethod yX23_is, .selects RX23 yX23_is yX23_is, .initialized RX23] [16, 17, 18, 19] rfl (by decide +kernel)) (goodIn_app (goodIn_f (wf_c_risY) [15, 12, 10] rfl wg_c_risY) (goodIn_app (goodIn_sub in_c_xsu_X23 gd_X23) (goodIn_n)))
set_option maxRecDepth 20000 in
theorem g_c_xsu_c_rfa0_35 : GoodIn wp_c_xsu (wsV RX23 96 RX23 yX23_fail wp_c_rfa0) := goodIn_app (goodIn_f [.methodLink RX23 96 yX23_fail, .instanceMethod yX23_fail, .selects RX23 yX23_fail yX23_fail, .initialized RX23] [32, 33, 34, 19] rfl (by decide +kernel)) (goodIn_app (goodIn_f (wf_c_rfa0) [29, 23, 30, 31] rfl wg_c_rfa0) (goodIn_app (goodIn_sub in_c_xsu_X23 gd_X23) (goodIn_n)))
set_option maxRecDepth 20000 in
theorem g_c_xsu_c_nX_55 : GoodIn wp_c_xsu wp_c_nX := goodIn_app (goodIn_f (wf_c_nX) [5, 6, 7, 8] rfl wg_c_nX) (goodIn_n)
set_option maxRecDepth 20000 in
theorem g_c_xsu_c_rnmB_80 : GoodIn wp_c_xsu (wsV RX23 150 RX23 yX23_name wp_c_rnmY) := goodIn_app (goodIn_f [.methodLink RX23 150 yX23_name, .instanceMethod yX23_name, .selects RX23 yX23_name yX23_name, .initialized RX23] [64, 65, 66, 19] rfl (by decide +kernel)) (goodIn_app (goodIn_f (wf_c_rnmY) [63, 38, 22, 23, 24, 25, 26, 19, 15, 12, 10, 16, 17, 18, 29, 30, 31, 32, 33, 34, 39, 40, 41] rfl wg_c_rnmY) (goodIn_app (goodIn_sub in_c_xsu_X23 gd_X23) (goodIn_n)))
set_option maxRecDepth 20000 in
theorem g_c_xsu_c_rnmY_80 : GoodIn wp_c_xsu (wsV RX23 150 RX23 yX23_name wp_c_rnmY) := goodIn_app (goodIn_f [.methodLink RX23 150 yX23_name, .instanceMethod yX23_name, .selects RX23 yX23_name yX23_name, .initialized RX23] [64, 65, 66, 19] rfl (by decide +kernel)) (goodIn_app (goodIn_f (wf_c_rnmY) [63, 38, 22, 23, 24, 25, 26, 19, 15, 12, 10, 16, 17, 18, 29, 30, 31, 32, 33, 34, 39, 40, 41] rfl wg_c_rnmY) (goodIn_app (goodIn_sub in_c_xsu_X23 gd_X23) (goodIn_n)))
set_option maxRecDepth 20000 in
theorem g_c_xsu_c_rnmN_80 : GoodIn wp_c_xsu (wsV RX23 150 RX23 yX23_name wp_c_rnmY) := goodIn_app (goodIn_f [.methodLink RX23 150 yX23_name, .instanceMethod yX23_name, .selects RX23 yX23_name yX23_name, .initialized RX23] [64, 65, 66, 19] rfl (by decide +kernel)) (goodIn_app (goodIn_f (wf_c_rnmY) [63, 38, 22, 23, 24, 25, 26, 19, 15, 12, 10, 16, 17, 18, 29, 30, 31, 32, 33, 34, 39, 40, 41] rfl wg_c_rnmY) (goodIn_app (goodIn_sub in_c_xsu_X23 gd_X23) (goodIn_n)))
set_option maxRecDepth 20000 in
theorem g_c_xsu_c_rokB_8 : GoodIn wp_c_xsu (wsV RX23 89 RX23 yX23_ok wp_c_rok0) := goodIn_app (goodIn_f [.methodLink RX23 89 yX23_ok, .instanceMethod yX23_ok, .selects RX23 yX23_ok yX23_ok, .initialized RX23] [24, 25, 26, 19] rfl (by decide +kernel)) (goodIn_app (goodIn_f (wf_c_rok0) [22, 23] rfl wg_c_rok0) (goodIn_app (goodIn_sub in_c_xsu_X23 gd_X23) (goodIn_n)))
set_option maxHeartbeats 4000000 in
set_option maxRecDepth 100000 in
theorem c_xsu (l : Launch) (dC : Nat → ClassId) (dI : Nat → Nat → Nat) (k : Nat) (ih : ∀ k1 : Nat, k = k1 + 1 → IH_gx l dC dI k1) : st_c_xsu l dC dI k := by
  intro m9 mr mv vf xl xa xi xt xn zs T pp ns vv bb kI fk fa kL kE fn L F sl sz hT hp hk0 hbb hnk
  refine Met.ofW (cc := cX23_suffixed) (maxL := 4) (ret := (some (.object "OwnedPlacesModel$Exp"))) (by decide) rfl ?_
  intro p e s m args below meth c s₁ B hml hv
  obtain ⟨rfl, hsz, hP, hK, hD0, hpre0, hpre1⟩ := hv
  have hx := B.exec
  have hb := B.bytes
  have hr := B.returns
  have hts := atoms_spec (ws := wp_c_xsu) B.pre
  have hown : s.vm.findClass RX23 = some m.cls := findClass_of_methodNamed B.named
  have hlocks := B.notSynchronized
  subst hsz
  replace hD := hD0.self (sz := s.heap.size)
  generalize hAe : va_A (([(m9, .inr (23, mA mr mv vf xl (nI zs) 0 xa (nI T) (nI pp) xi xt xn (nI ns) (nI vv) (nI bb))), (mr 5, .inl (kI, 3002, .inl fk)), (mr 6, .inl (kI, 3002, .inl fa)), (mr 8, .inl (kL, 3002, .inr (.inl fn)))] : va_W) ++ (sT L F)) s.heap.size = A at hD ⊢
  have hA : ∀ q : Nat, s.heap.size ≤ q → A q := fun q h => by rw [← hAe]; exact Or.inr h
  have hS : va_S A s.heap s.heap [] := va_S.rf
  replace hP : va_P (dC, dI) vwCl (([(m9, .inr (23, mA mr mv vf xl (nI zs) 0 xa (nI T) (nI pp) xi xt xn (nI ns) (nI vv) (nI bb))), (mr 5, .inl (kI, 3002, .inl fk)), (mr 6, .inl (kI, 3002, .inl fa)), (mr 8, .inl (kL, 3002, .inr (.inl fn)))] : va_W) ++ (sT L F)) s.heap := hP
  replace hl := lv_entry ([.ref m9]) (n := 4) (Nat.le_of_ble_eq_true rfl)
  rw [lg_entry_eq]
  generalize (lg_sl ([.ref m9]) ++ List.replicate (4 - (lg_sl ([.ref m9])).length) Slot.unset).toArray = ls at hl ⊢
  replace hl : lv_has ls 4 [(0, .ref m9)] := hl
  have hns := hpre0
  subst hpre1
  refine lv_aload_n hx hb dX23_suffixed_0 rfl (lv_at hl 0 rfl) ?_
  replace hPc := hP.subT (f' := [(m9, .inr (23, mA mr mv vf xl (nI zs) 0 xa (nI T) (nI pp) xi xt xn (nI ns) (nI vv) (nI bb))), (mr 5, .inl (kI, 3002, .inl fk)), (mr 6, .inl (kI, 3002, .inl fa)), (mr 8, .inl (kL, 3002, .inr (.inl fn)))]) [0, 1, 2, 3] rfl
  replace hDc := hD.subT (f' := [(m9, .inr (23, mA mr mv vf xl (nI zs) 0 xa (nI T) (nI pp) xi xt xn (nI ns) (nI vv) (nI bb))), (mr 5, .inl (kI, 3002, .inl fk)), (mr 6, .inl (kI, 3002, .inl fa)), (mr 8, .inl (kL, 3002, .inr (.inl fn)))]) [0, 1, 2, 3] (by decide) rfl
  replace hKc := hK.sub (tys' := [(kI, .int), (kL, .long), (kE, .object RX15)]) [0, 1, 2] rfl
  replace hFc := va_freeB (wc := [(m9, .inr (23, mA mr mv vf xl (nI zs) 0 xa (nI T) (nI pp) xi xt xn (nI ns) (nI vv) (nI bb))), (mr 5, .inl (kI, 3002, .inl fk)), (mr 6, .inl (kI, 3002, .inl fa)), (mr 8, .inl (kL, 3002, .inr (.inl fn)))]) hD hS hA [0, 1, 2, 3] rfl
  refine W.grow (fun hgs0 hgs1 => ?_)
  refine va_callr (va_runV (As := []) (rest := []) ⟨hx, hb, hml, hown, hts⟩ (c_xpr l dC dI k ih m9 mr mv vf xl xa xi xt xn zs T pp ns vv bb kI fk fa kL kE fn L F (slN s.heap) s.heap.size hT hp hk0 hbb (by omega)) (cwV 0 hts g_c_xsu_c_xpr_1 rfl rfl rfl (by decide +kernel) ⟨by show 4 + 12 * k + 1 ≤ 5 + 12 * k; omega, by show 8 + (2 + 11) + (86 + 279 * k) ≤ 107 + 279 * k; omega⟩) ⟨fun a U g mk q => by obtain ⟨q0, q1, qP, qK, qD, qx0, qx1⟩ := q; exact ⟨q0, q1, qP, va_K.moved (u := U) (U := U.calling g mk a) (Vm.Alike.refl U.vm) qK, qD, nsM.same (u := U) (U := U.calling g mk a) rfl qx0, qx1⟩, va_recv hKc hPc (ci := 23) (q0 := 0) rfl rfl, fun U hU hW => ⟨rfl, by rw [hU], by rw [hU]; exact hPc, va_K.moved hW.alike hKc, hDc.weaken (fun _ _ _ _ => trivial), nsM.warm hW hns, by rw [hU]⟩⟩ rfl rfl hl.1 rfl (lv_room (Nat.le_of_ble_eq_true rfl)) dX23_suffixed_1 ⟨(show 0 + (8 * (T - pp) + 4) ≤ (8 * (T - pp) + 5) by omega), (show 0 + (120 * (T - pp) + 300) ≤ (120 * (T - pp) + 320) by omega)⟩) hS (fun q _ h => hFc q h) hFc (fun u r_1 tS H1 locs ht hvm hw hB hz1 hk1 hS => ?_)
  obtain ⟨L8, F8, ff8, xa8, pp8, bb8, hf1_0, hf1_1, hf1_2, hf1_3, hP1, hK1, hD1⟩ := hB
  rw [ht] at hP1
  replace hK1 := va_K.moved hvm.symm hK1
  rw [ht] at hf1_3
  have hgz : H1.size ≤ s.heap.size + (8 * (pp8 - pp) + 1) ∧ slN H1 ≤ slN s.heap + (120 * (pp8 - pp) + 14) := ⟨by have := hf1_3.1; omega, by have := hf1_3.2; omega⟩
  obtain ⟨hPj, hDj⟩ := va_joinB (wr := []) (w1 := [(m9, .inr (23, mA mr mv vf xl (nI zs) ff8 xa8 (nI T) (nI pp8) xi xt xn (nI ns) (nI vv) (nI bb8))), (mr 5, .inl (kI, 3002, .inl fk)), (mr 6, .inl (kI, 3002, .inl fa)), (mr 8, .inl (kL, 3002, .inr (.inl fn)))]) hP hD [0, 1, 2, 3] [] rfl rfl (by decide) (by decide) hk1 hFc hP1 hD1
  replace hP := hPj
  replace hD := hDj
  clear hPj hDj
  replace hK := hK.app hK1
  generalize H1 = H at hP hS hgz ⊢
  replace hP : va_P (dC, dI) vwCl (([(m9, .inr (23, mA mr mv vf xl (nI zs) ff8 xa8 (nI T) (nI pp8) xi xt xn (nI ns) (nI vv) (nI bb8))), (mr 5, .inl (kI, 3002, .inl fk)), (mr 6, .inl (kI, 3002, .inl fa)), (mr 8, .inl (kL, 3002, .inr (.inl fn)))] : va_W) ++ (sT L8 F8)) H := hP
  replace hD : va_D A (([(m9, .inr (23, mA mr mv vf xl (nI zs) ff8 xa8 (nI T) (nI pp8) xi xt xn (nI ns) (nI vv) (nI bb8))), (mr 5, .inl (kI, 3002, .inl fk)), (mr 6, .inl (kI, 3002, .inl fa)), (mr 8, .inl (kL, 3002, .inr (.inl fn)))] : va_W) ++ (sT L8 F8)) := hD
  replace hK : va_K (dC, dI) vwCl [(kI, .int), (kL, .long), (kE, .object RX15), (kI, .int), (kL, .long), (kE, .object RX15)] s := hK
  replace hK := hK.sub (tys' := [(kI, .int), (kL, .long), (kE, .object RX15)]) [0, 1, 2] rfl
  refine W.tight (k := 8 * (pp8 - pp) + 1) (n := 120 * (pp8 - pp) + 14) hgz.1 hgz.2 ?_
  clear hz1 hk1 hPc hDc hKc hFc hP1 hD1 hK1
  refine lv_astore_n (lv' := [(1, .ref r_1), (0, .ref m9)]) hx hb dX23_suffixed_4 rfl hl (by decide) rfl (fun ls hl => ?_)
  refine lv_iconst (v := 0) hx hb dX23_suffixed_5 (by decide) ?_
  refine lv_istore_n (lv' := [(2, .int 0), (1, .ref r_1), (0, .ref m9)]) hx hb dX23_suffixed_6 rfl hl (by decide) rfl (fun ls hl => ?_)
  refine W_q (fun Q1 hQ1 => ?_)
  have key1 : ∀ (n1 : Nat) (pp1 bb1 x1 i : Nat) (ff1 xa1 : Int32) (L1 : List Nat) (F1 : Nat → va_E) (H : Heap) (locs : List Loc) (ls : Array Slot), (1 ≤ n1 ∧ pp ≤ pp1 ∧ pp1 < T ∧ bb ≤ bb1 ∧ bb1 ≤ bb + (pp1 - pp) ∧ i ≤ 17 ∧ T ≤ 3001) → (ff1 ≠ 0 ∨ (T + 1 ≤ pp1 + n1 ∧ i ≤ 16)) → (exS L F L1 F1 ∧ xO L1 F1 x1) → (ff1 = 0 → bb1 ≤ 54 ∧ isE L1 F1 kE kI (24 * k + 1 + i) x1 pp pp1 bb bb1) → va_P (dC, dI) vwCl (([(m9, .inr (23, mA mr mv vf xl (nI zs) ff1 xa1 (nI T) (nI pp1) xi xt xn (nI ns) (nI vv) (nI bb1))), (mr 5, .inl (kI, 3002, .inl fk)), (mr 6, .inl (kI, 3002, .inl fa)), (mr 8, .inl (kL, 3002, .inr (.inl fn)))] : va_W) ++ (sT L1 F1)) H → va_D A (([(m9, .inr (23, mA mr mv vf xl (nI zs) ff1 xa1 (nI T) (nI pp1) xi xt xn (nI ns) (nI vv) (nI bb1))), (mr 5, .inl (kI, 3002, .inl fk)), (mr 6, .inl (kI, 3002, .inl fa)), (mr 8, .inl (kL, 3002, .inr (.inl fn)))] : va_W) ++ (sT L1 F1)) → va_S A s.heap H locs → lv_has ls 4 [(2, .int (nI i)), (1, .ref x1), (0, .ref m9)] → W p l e (headSpec wp_c_xsu ({ frames := 5 + 12 * k, cells := (8 * (T - pp) + 5), slots := (120 * (T - pp) + 320), locals := 107 + 279 * k })).room s m ([.ref m9] : List Value).toArray below meth c H locs (8 * (pp1 - pp) + 1) (120 * (pp1 - pp) + 14) Q1 (F0 m 7 ls []) := by
    intro n1
    induction n1 with
    | zero => intro pp1 bb1 x1 i ff1 xa1 L1 F1 H locs ls hr0 hr1 hr2 hr3; exact absurd hr0 (by omega)
    | succ n1 ih1 =>
      intro pp1 bb1 x1 i ff1 xa1 L1 F1 H locs ls hr0 hr1 hr2 hr3 hP hD hS hl
      refine lv_aload_n hx hb dX23_suffixed_7 rfl (lv_at hl 2 rfl) ?_
      by_cases hz_2 : ff1 = 0
      · subst hz_2
        have hr9 := hr3 rfl
        replace hPc := hP.subF (f' := [(m9, .inr (23, mA mr mv vf xl (nI zs) 0 xa1 (nI T) (nI pp1) xi xt xn (nI ns) (nI vv) (nI bb1)))]) [0] rfl
        replace hDc := hD.subF (f' := [(m9, .inr (23, mA mr mv vf xl (nI zs) 0 xa1 (nI T) (nI pp1) xi xt xn (nI ns) (nI vv) (nI bb1)))]) [0] (by decide) rfl
        replace hKc := hK.sub (tys' := []) [] rfl
        replace hFc := va_freeT (wc := [(m9, .inr (23, mA mr mv vf xl (nI zs) 0 xa1 (nI T) (nI pp1) xi xt xn (nI ns) (nI vv) (nI bb1)))]) hD hS hA [0] rfl
        refine va_calli (va_runV (As := []) (rest := []) ⟨hx, hb, hml, hown, hts⟩ (c_rok0 l dC dI m9 mr mv vf xl xa1 xi xt xn zs T pp1 ns vv bb1 kI fk fa H.size) (cwV 0 hts g_c_xsu_c_rok0_8 rfl rfl rfl (by decide +kernel) ⟨by show 0 + 1 ≤ 5 + 12 * k; omega, by show 8 + (1 + 11) + (0) ≤ 107 + 279 * k; omega⟩) ⟨fun a U g mk q => by obtain ⟨q0, q1, qP, qK, qD⟩ := q; exact ⟨q0, q1, qP, va_K.moved (u := U) (U := U.calling g mk a) (Vm.Alike.refl U.vm) qK, qD⟩, va_recv hKc hPc (ci := 23) (q0 := 0) rfl rfl, fun U hU hW => ⟨rfl, by rw [hU], by rw [hU]; exact hPc, va_K.moved hW.alike hKc, hDc.weaken (fun _ _ _ _ => trivial)⟩⟩ rfl rfl hl.1 rfl (lv_room (Nat.le_of_ble_eq_true rfl)) dX23_suffixed_8 ⟨(show (8 * (pp1 - pp) + 1) + 0 ≤ (8 * (T - pp) + 5) by omega), (show (120 * (pp1 - pp) + 14) + 0 ≤ (120 * (T - pp) + 320) by omega)⟩) hS (fun q _ h => hFc q h) hFc (fun r_3 u tS H1 locs ht hvm hw hB hz1 hk1 hS => ?_)
        obtain ⟨hP1, hK1, hD1⟩ := hB
        rw [ht] at hP1
        replace hK1 := va_K.moved hvm.symm hK1
        obtain ⟨hPj, hDj⟩ := va_joinT (wr := [(mr 5, .inl (kI, 3002, .inl fk)), (mr 6, .inl (kI, 3002, .inl fa)), (mr 8, .inl (kL, 3002, .inr (.inl fn)))]) (w1 := [(m9, .inr (23, mA mr mv vf xl (nI zs) 0 xa1 (nI T) (nI pp1) xi xt xn (nI ns) (nI vv) (nI bb1)))]) hP hD [0] [1, 2, 3] rfl rfl (by decide) (by decide) hk1 hFc hP1 hD1
        replace hP := hPj
        replace hD := hDj
        clear hPj hDj
        generalize H1 = H at hP hS ⊢
        replace hP : va_P (dC, dI) vwCl (([(mr 5, .inl (kI, 3002, .inl fk)), (mr 6, .inl (kI, 3002, .inl fa)), (mr 8, .inl (kL, 3002, .inr (.inl fn))), (m9, .inr (23, mA mr mv vf xl (nI zs) 0 xa1 (nI T) (nI pp1) xi xt xn (nI ns) (nI vv) (nI bb1)))] : va_W) ++ (sT L1 F1)) H := hP
        replace hD : va_D A (([(mr 5, .inl (kI, 3002, .inl fk)), (mr 6, .inl (kI, 3002, .inl fa)), (mr 8, .inl (kL, 3002, .inr (.inl fn))), (m9, .inr (23, mA mr mv vf xl (nI zs) 0 xa1 (nI T) (nI pp1) xi xt xn (nI ns) (nI vv) (nI bb1)))] : va_W) ++ (sT L1 F1)) := hD
        replace hK : va_K (dC, dI) vwCl [(kI, .int), (kL, .long), (kE, .object RX15)] s := hK
        clear hz1 hk1 hPc hDc hKc hFc hP1 hD1 hK1
        obtain rfl : r_3 = 1 := hw
        refine lv_if_eq (tgt := 91) hx hb dX23_suffixed_11 (by decide) (fun c_4 => absurd c_4 (by decide)) (fun _ => ?_)
        refine lv_aload_n hx hb dX23_suffixed_14 rfl (lv_at hl 2 rfl) ?_
        refine lv_bipush (v := 56) hx hb dX23_suffixed_15 (by decide) ?_
        by_cases hk_5 : fk pp1 = 56
        · replace hPc := hP.subF (f' := [(m9, .inr (23, mA mr mv vf xl (nI zs) 0 xa1 (nI T) (nI pp1) xi xt xn (nI ns) (nI vv) (nI bb1))), (mr 5, .inl (kI, 3002, .inl fk))]) [3, 0] rfl
          replace hDc := hD.subF (f' := [(m9, .inr (23, mA mr mv vf xl (nI zs) 0 xa1 (nI T) (nI pp1) xi xt xn (nI ns) (nI vv) (nI bb1))), (mr 5, .inl (kI, 3002, .inl fk))]) [3, 0] (by decide) rfl
          replace hKc := hK.sub (tys' := [(kI, .int)]) [0] rfl
          replace hFc := va_freeT (wc := [(m9, .inr (23, mA mr mv vf xl (nI zs) 0 xa1 (nI T) (nI pp1) xi xt xn (nI ns) (nI vv) (nI bb1))), (mr 5, .inl (kI, 3002, .inl fk))]) hD hS hA [3, 0] rfl
          refine va_calli (va_runV (As := [.int 56]) (rest := []) ⟨hx, hb, hml, hown, hts⟩ (c_risY l dC dI m9 mr mv vf xl xa1 xi xt xn zs T pp1 ns vv bb1 kI fk fa 0 56 H.size hT hr0.2.2.1 hk_5) (cwV 1 hts g_c_xsu_c_risY_17 rfl rfl rfl (by decide +kernel) ⟨by show 0 + 1 ≤ 5 + 12 * k; omega, by show 8 + (2 + 11) + (0) ≤ 107 + 279 * k; omega⟩) ⟨fun a U g mk q => by obtain ⟨q0, q1, qP, qK, qD⟩ := q; exact ⟨q0, q1, qP, va_K.moved (u := U) (U := U.calling g mk a) (Vm.Alike.refl U.vm) qK, qD⟩, va_recv hKc hPc (ci := 23) (q0 := 0) rfl rfl, fun U hU hW => ⟨rfl, by rw [hU], by rw [hU]; exact hPc, va_K.moved hW.alike hKc, hDc.weaken (fun _ _ _ _ => trivial)⟩⟩ rfl rfl hl.1 rfl (lv_room (Nat.le_of_ble_eq_true rfl)) dX23_suffixed_17 ⟨(show (8 * (pp1 - pp) + 1) + 0 ≤ (8 * (T - pp) + 5) by omega), (show (120 * (pp1 - pp) + 14) + 0 ≤ (120 * (T - pp) + 320) by omega)⟩) hS (fun q _ h => hFc q h) hFc (fun r_6 u tS H1 locs ht hvm hw hB hz1 hk1 hS => ?_)
          obtain ⟨hP1, hK1, hD1⟩ := hB
          rw [ht] at hP1
          replace hK1 := va_K.moved hvm.symm hK1
          obtain ⟨hPj, hDj⟩ := va_joinT (wr := [(mr 6, .inl (kI, 3002, .inl fa)), (mr 8, .inl (kL, 3002, .inr (.inl fn)))]) (w1 := [(m9, .inr (23, mA mr mv vf xl (nI zs) 0 xa1 (nI T) (nI pp1) xi xt xn (nI ns) (nI vv) (nI bb1))), (mr 5, .inl (kI, 3002, .inl fk))]) hP hD [3, 0] [1, 2] rfl rfl (by decide) (by decide) hk1 hFc hP1 hD1
          replace hP := hPj
          replace hD := hDj
          clear hPj hDj
          replace hK := hK.app hK1
          generalize H1 = H at hP hS ⊢
          replace hP : va_P (dC, dI) vwCl (([(mr 6, .inl (kI, 3002, .inl fa)), (mr 8, .inl (kL, 3002, .inr (.inl fn))), (m9, .inr (23, mA mr mv vf xl (nI zs) 0 xa1 (nI T) (nI pp1) xi xt xn (nI ns) (nI vv) (nI bb1))), (mr 5, .inl (kI, 3002, .inl fk))] : va_W) ++ (sT L1 F1)) H := hP
          replace hD : va_D A (([(mr 6, .inl (kI, 3002, .inl fa)), (mr 8, .inl (kL, 3002, .inr (.inl fn))), (m9, .inr (23, mA mr mv vf xl (nI zs) 0 xa1 (nI T) (nI pp1) xi xt xn (nI ns) (nI vv) (nI bb1))), (mr 5, .inl (kI, 3002, .inl fk))] : va_W) ++ (sT L1 F1)) := hD
          replace hK : va_K (dC, dI) vwCl [(kI, .int), (kL, .long), (kE, .object RX15), (kI, .int)] s := hK
          replace hK := hK.sub (tys' := [(kI, .int), (kL, .long), (kE, .object RX15)]) [0, 1, 2] rfl
          clear hz1 hk1 hPc hDc hKc hFc hP1 hD1 hK1
          obtain rfl : r_6 = 1 := hw
          refine lv_if_eq (tgt := 91) hx hb dX23_suffixed_20 (by decide) (fun c_7 => absurd c_7 (by decide)) (fun _ => ?_)
          refine lv_iload_n hx hb dX23_suffixed_23 rfl (lv_at hl 0 rfl) ?_
          refine lv_bipush (v := 16) hx hb dX23_suffixed_24 (by decide) ?_
          replace hr1 := hr1.resolve_left (fun q => q rfl)
          by_cases hj_8 : i = 16
          · have hn16 : nI i = 16 := by rw [hj_8]; rfl
            refine lv_icmp_ne (tgt := 38) hx hb dX23_suffixed_26 (by decide) (fun c_9 => absurd c_9 (fun q9 => q9 hn16)) (fun _ => ?_)
            refine lv_aload_n hx hb dX23_suffixed_29 rfl (lv_at hl 2 rfl) ?_
            refine lv_iconst (v := 2) hx hb dX23_suffixed_30 (by decide) ?_
            refine lv_aload_n hx hb dX23_suffixed_31 rfl (lv_at hl 2 rfl) ?_
            refine va_get (D := (dC, dI)) (ci := 23) (v := .int (nI pp1)) (C := RX23) (T := TX23) (N := 89) hx hb hts in_c_xsu_X23 hown hK hP 2 rfl rfl 10 (by decide) (hts (.fieldLink RX23 86 "OwnedPlacesModel" "p" "I") (wm_c_xsu 10 rfl)) (fun _ h9 => h9) rfl dX23_suffixed_32 ?_
            replace hPc := hP.subF (f' := [(m9, .inr (23, mA mr mv vf xl (nI zs) 0 xa1 (nI T) (nI pp1) xi xt xn (nI ns) (nI vv) (nI bb1))), (mr 6, .inl (kI, 3002, .inl fa))]) [2, 0] rfl
            replace hDc := hD.subF (f' := [(m9, .inr (23, mA mr mv vf xl (nI zs) 0 xa1 (nI T) (nI pp1) xi xt xn (nI ns) (nI vv) (nI bb1))), (mr 6, .inl (kI, 3002, .inl fa))]) [2, 0] (by decide) rfl
            replace hKc := hK.sub (tys' := [(kI, .int)]) [0] rfl
            replace hFc := va_freeT (wc := [(m9, .inr (23, mA mr mv vf xl (nI zs) 0 xa1 (nI T) (nI pp1) xi xt xn (nI ns) (nI vv) (nI bb1))), (mr 6, .inl (kI, 3002, .inl fa))]) hD hS hA [2, 0] rfl
            refine va_callv (va_runV (As := [.int 2, .int (nI pp1)]) (rest := []) ⟨hx, hb, hml, hown, hts⟩ (c_rfa0 l dC dI m9 mr mv vf xl xa1 xi xt xn zs T pp1 ns vv bb1 kI fk fa 2 pp1 H.size (by omega)) (cwV 2 hts g_c_xsu_c_rfa0_35 rfl rfl rfl (by decide +kernel) ⟨by show 0 + 1 ≤ 5 + 12 * k; omega, by show 8 + (3 + 11) + (0) ≤ 107 + 279 * k; omega⟩) ⟨fun a U g mk q => by obtain ⟨q0, q1, qP, qK, qD⟩ := q; exact ⟨q0, q1, qP, va_K.moved (u := U) (U := U.calling g mk a) (Vm.Alike.refl U.vm) qK, qD⟩, va_recv hKc hPc (ci := 23) (q0 := 0) rfl rfl, fun U hU hW => ⟨rfl, by rw [hU], by rw [hU]; exact hPc, va_K.moved hW.alike hKc, hDc.weaken (fun _ _ _ _ => trivial)⟩⟩ rfl rfl hl.1 rfl (lv_room (Nat.le_of_ble_eq_true rfl)) dX23_suffixed_35 ⟨(show (8 * (pp1 - pp) + 1) + 0 ≤ (8 * (T - pp) + 5) by omega), (show (120 * (pp1 - pp) + 14) + 0 ≤ (120 * (T - pp) + 320) by omega)⟩) hS (fun q _ h => hFc q h) hFc (fun u tS H1 locs ht hvm hw hB hz1 hk1 hS => ?_)
            obtain ⟨hP1, hK1, hD1⟩ := hB
            rw [ht] at hP1
            replace hK1 := va_K.moved hvm.symm hK1
            obtain ⟨hPj, hDj⟩ := va_joinT (wr := [(mr 8, .inl (kL, 3002, .inr (.inl fn))), (mr 5, .inl (kI, 3002, .inl fk))]) (w1 := [(m9, .inr (23, mA mr mv vf xl (nI zs) 2 (fa pp1) (nI T) (nI pp1) xi xt xn (nI ns) (nI vv) (nI bb1))), (mr 6, .inl (kI, 3002, .inl fa))]) hP hD [2, 0] [1, 3] rfl rfl (by decide) (by decide) hk1 hFc hP1 hD1
            replace hP := hPj
            replace hD := hDj
            clear hPj hDj
            replace hK := hK.app hK1
            generalize H1 = H at hP hS ⊢
            replace hP : va_P (dC, dI) vwCl (([(mr 8, .inl (kL, 3002, .inr (.inl fn))), (mr 5, .inl (kI, 3002, .inl fk)), (m9, .inr (23, mA mr mv vf xl (nI zs) 2 (fa pp1) (nI T) (nI pp1) xi xt xn (nI ns) (nI vv) (nI bb1))), (mr 6, .inl (kI, 3002, .inl fa))] : va_W) ++ (sT L1 F1)) H := hP
            replace hD : va_D A (([(mr 8, .inl (kL, 3002, .inr (.inl fn))), (mr 5, .inl (kI, 3002, .inl fk)), (m9, .inr (23, mA mr mv vf xl (nI zs) 2 (fa pp1) (nI T) (nI pp1) xi xt xn (nI ns) (nI vv) (nI bb1))), (mr 6, .inl (kI, 3002, .inl fa))] : va_W) ++ (sT L1 F1)) := hD
            replace hK : va_K (dC, dI) vwCl [(kI, .int), (kL, .long), (kE, .object RX15), (kI, .int)] s := hK
            replace hK := hK.sub (tys' := [(kI, .int), (kL, .long), (kE, .object RX15)]) [0, 1, 2] rfl
            clear hz1 hk1 hPc hDc hKc hFc hP1 hD1 hK1
            obtain ⟨fq10, efq10⟩ : ∃ zZ : Int32, zZ = 2 := ⟨_, rfl⟩
            obtain ⟨fx10, efx10⟩ : ∃ zZ : Int32, zZ = fa pp1 := ⟨_, rfl⟩
            rw [← efx10] at hP hD
            have hhfq10 : fq10 ≠ 0 := by rw [efq10]; decide
            replace hP : va_P (dC, dI) vwCl (([(mr 8, .inl (kL, 3002, .inr (.inl fn))), (mr 5, .inl (kI, 3002, .inl fk)), (m9, .inr (23, mA mr mv vf xl (nI zs) fq10 fx10 (nI T) (nI pp1) xi xt xn (nI ns) (nI vv) (nI bb1))), (mr 6, .inl (kI, 3002, .inl fa))] : va_W) ++ (sT L1 F1)) H := by rw [efq10]; exact hP
            replace hD : va_D A (([(mr 8, .inl (kL, 3002, .inr (.inl fn))), (mr 5, .inl (kI, 3002, .inl fk)), (m9, .inr (23, mA mr mv vf xl (nI zs) fq10 fx10 (nI T) (nI pp1) xi xt xn (nI ns) (nI vv) (nI bb1))), (mr 6, .inl (kI, 3002, .inl fa))] : va_W) ++ (sT L1 F1)) := by rw [efq10]; exact hD
            clear efq10 efx10
            obtain ⟨x_11, ex_11⟩ : ∃ yY : Int32, yY = (nI i) + 1 := ⟨_, rfl⟩
            refine lv_iinc (v := x_11) (lv' := [(2, .int x_11), (1, .ref x1), (0, .ref m9)]) hx hb dX23_suffixed_38 hl (k := 0) rfl (by rw [ex_11]; rfl) (by decide) rfl (fun ls hl => ?_)
            obtain rfl : x_11 = nI (i + 1) := by rw [ex_11]; exact nI_1 i
            replace hl : lv_has ls 4 [(2, .int (nI (i + 1))), (1, .ref x1), (0, .ref m9)] := hl
            refine lv_aload_n hx hb dX23_suffixed_41 rfl (lv_at hl 2 rfl) ?_
            refine lv_dup hx hb dX23_suffixed_42 rfl ?_
            refine va_get (D := (dC, dI)) (ci := 23) (v := .int (nI pp1)) (C := RX23) (T := TX23) (N := 89) hx hb hts in_c_xsu_X23 hown hK hP 2 rfl rfl 10 (by decide) (hts (.fieldLink RX23 86 "OwnedPlacesModel" "p" "I") (wm_c_xsu 10 rfl)) (fun _ h9 => h9) rfl dX23_suffixed_43 ?_
            refine lv_iconst (v := 1) hx hb dX23_suffixed_46 (by decide) ?_
            refine lv_iadd hx hb dX23_suffixed_47 ?_
            refine lv_topi (fun f_12 ef_12 => ?_)
            obtain rfl : f_12 = nI (pp1 + 1) := ef_12.trans (nI_1 _)
            refine va_put (D := (dC, dI)) (ci := 23) (v := .int (nI (pp1 + 1))) (ty := .int) (C := RX23) (T := TX23) (N := 89) hx hb hts in_c_xsu_X23 tyX23 tyX23_ok nmX23 hown hK hP hD hS 2 rfl rfl 10 (by decide) (hts (.fieldLink RX23 86 "OwnedPlacesModel" "p" "I") (wm_c_xsu 10 rfl)) (fun _ h9 => h9) rfl (by decide +kernel) rfl rfl (Nat.le_of_ble_eq_true rfl) dX23_suffixed_48 (fun H locs hP hD hS => ?_)
            replace hP : va_P (dC, dI) vwCl (([(mr 8, .inl (kL, 3002, .inr (.inl fn))), (mr 5, .inl (kI, 3002, .inl fk)), (m9, .inr (23, mA mr mv vf xl (nI zs) fq10 fx10 (nI T) (nI (pp1 + 1)) xi xt xn (nI ns) (nI vv) (nI bb1))), (mr 6, .inl (kI, 3002, .inl fa))] : va_W) ++ (sT L1 F1)) H := hP
            replace hD : va_D A (([(mr 8, .inl (kL, 3002, .inr (.inl fn))), (mr 5, .inl (kI, 3002, .inl fk)), (m9, .inr (23, mA mr mv vf xl (nI zs) fq10 fx10 (nI T) (nI (pp1 + 1)) xi xt xn (nI ns) (nI vv) (nI bb1))), (mr 6, .inl (kI, 3002, .inl fa))] : va_W) ++ (sT L1 F1)) := hD
            have hp_13 : pp1 + 1 < T := kne3 hk0 hr0.2.2.1 hk_5 (by decide)
            refine va_new (ci := 15) (fs := [.int 0, .int 0, .int 0, .int 0, .int 0, .int 0, .long 0, .int 0, .null, .null, .null, .int 0, .null, .null]) (C := RX15) (T := TX15) (N := 14) hx hb hts in_c_xsu_X15 tyX15 tyX15_ok hown (hts (.classLink RX23 295 RX15) (wm_c_xsu 2 rfl)) (hts (.instantiable RX15 14) (wm_c_xsu 3 rfl)) (hts (.initialized RX15) (wm_c_xsu 4 rfl)) hK hP hD hS hA rfl dv_X15 (show (8 * (pp1 - pp) + 1) + 1 ≤ (8 * (T - pp) + 5) by omega) (show (120 * (pp1 - pp) + 14) + 14 ≤ (120 * (T - pp) + 320) by omega) dX23_suffixed_51 (fun q_14 H hP hD hS => ?_)
            replace hP := va_P.nt hP
            replace hD := va_D.nt hD
            replace hP : va_P (dC, dI) vwCl (([(mr 8, .inl (kL, 3002, .inr (.inl fn))), (mr 5, .inl (kI, 3002, .inl fk)), (m9, .inr (23, mA mr mv vf xl (nI zs) fq10 fx10 (nI T) (nI (pp1 + 1)) xi xt xn (nI ns) (nI vv) (nI bb1))), (mr 6, .inl (kI, 3002, .inl fa)), (q_14, .inr (15, [.int 0, .int 0, .int 0, .int 0, .int 0, .int 0, .long 0, .int 0, .null, .null, .null, .int 0, .null, .null]))] : va_W) ++ (sT L1 F1)) H := hP
            replace hD : va_D A (([(mr 8, .inl (kL, 3002, .inr (.inl fn))), (mr 5, .inl (kI, 3002, .inl fk)), (m9, .inr (23, mA mr mv vf xl (nI zs) fq10 fx10 (nI T) (nI (pp1 + 1)) xi xt xn (nI ns) (nI vv) (nI bb1))), (mr 6, .inl (kI, 3002, .inl fa)), (q_14, .inr (15, [.int 0, .int 0, .int 0, .int 0, .int 0, .int 0, .long 0, .int 0, .null, .null, .null, .int 0, .null, .null]))] : va_W) ++ (sT L1 F1)) := hD
            refine W.widen (k := ((8 * (pp1 - pp) + 1) + 1)) (n := ((120 * (pp1 - pp) + 14) + 14)) (by omega) (by omega) ?_
            refine lv_dup hx hb dX23_suffixed_54 rfl ?_
            replace hPc := hP.subF (f' := [(q_14, .inr (15, [.int 0, .int 0, .int 0, .int 0, .int 0, .int 0, .long 0, .int 0, .null, .null, .null, .int 0, .null, .null]))]) [4] rfl
            replace hDc := hD.subF (f' := [(q_14, .inr (15, [.int 0, .int 0, .int 0, .int 0, .int 0, .int 0, .long 0, .int 0, .null, .null, .null, .int 0, .null, .null]))]) [4] (by decide) rfl
            replace hKc := hK.sub (tys' := []) [] rfl
            replace hFc := va_freeT (wc := [(q_14, .inr (15, [.int 0, .int 0, .int 0, .int 0, .int 0, .int 0, .long 0, .int 0, .null, .null, .null, .int 0, .null, .null]))]) hD hS hA [4] rfl
            refine va_callv (va_runIN (As := []) (rest := [.ref q_14]) ⟨hx, hb, hml, hown, hts⟩ (c_nX l dC dI q_14 H.size) ⟨va_cnB 0 hts g_c_xsu_c_nX_55 rfl rfl rfl hns.1.2.2.2.2.2.2.1 (hts (.initialized RX15) (wm_c_xsu 4 rfl)) (by decide +kernel) ⟨by show 1 + 1 ≤ 5 + 12 * k; omega, by show 8 + (1 + 11) + (12) ≤ 107 + 279 * k; omega⟩, rfl, (hts (.instanceMethod yX15_init) (wm_c_xsu 9 rfl))⟩ ⟨fun a U g mk q => by obtain ⟨q0, q1, qP, qK, qD⟩ := q; exact ⟨q0, q1, qP, va_K.moved (u := U) (U := U.calling g mk a) (Vm.Alike.refl U.vm) qK, qD⟩, fun U hU hW => ⟨rfl, by rw [hU], by rw [hU]; exact hPc, va_K.moved hW.alike hKc, hDc.weaken (fun _ _ _ _ => trivial)⟩⟩ rfl rfl hl.1 rfl (lv_room (Nat.le_of_ble_eq_true rfl)) dX23_suffixed_55 ⟨(show ((8 * (pp1 - pp) + 1) + 1) + 0 ≤ (8 * (T - pp) + 5) by omega), (show ((120 * (pp1 - pp) + 14) + 14) + 0 ≤ (120 * (T - pp) + 320) by omega)⟩) hS (fun q _ h => hFc q h) hFc (fun u tS H1 locs ht hvm hw hB hz1 hk1 hS => ?_)
            obtain ⟨hP1, hK1, hD1⟩ := hB
            rw [ht] at hP1
            replace hK1 := va_K.moved hvm.symm hK1
            obtain ⟨hPj, hDj⟩ := va_joinT (wr := [(mr 8, .inl (kL, 3002, .inr (.inl fn))), (mr 5, .inl (kI, 3002, .inl fk)), (m9, .inr (23, mA mr mv vf xl (nI zs) fq10 fx10 (nI T) (nI (pp1 + 1)) xi xt xn (nI ns) (nI vv) (nI bb1))), (mr 6, .inl (kI, 3002, .inl fa))]) (w1 := [(q_14, .inr (15, [.int 0, .int 0, .int 0, .int 0, .int 0, .int 0, .long 0, .int 0, .null, .null, .null, .int 0, .null, .null]))]) hP hD [4] [0, 1, 2, 3] rfl rfl (by decide) (by decide) hk1 hFc hP1 hD1
            replace hP := hPj
            replace hD := hDj
            clear hPj hDj
            generalize H1 = H at hP hS ⊢
            replace hP : va_P (dC, dI) vwCl (([(mr 8, .inl (kL, 3002, .inr (.inl fn))), (mr 5, .inl (kI, 3002, .inl fk)), (m9, .inr (23, mA mr mv vf xl (nI zs) fq10 fx10 (nI T) (nI (pp1 + 1)) xi xt xn (nI ns) (nI vv) (nI bb1))), (mr 6, .inl (kI, 3002, .inl fa)), (q_14, .inr (15, [.int 0, .int 0, .int 0, .int 0, .int 0, .int 0, .long 0, .int 0, .null, .null, .null, .int 0, .null, .null]))] : va_W) ++ (sT L1 F1)) H := hP
            replace hD : va_D A (([(mr 8, .inl (kL, 3002, .inr (.inl fn))), (mr 5, .inl (kI, 3002, .inl fk)), (m9, .inr (23, mA mr mv vf xl (nI zs) fq10 fx10 (nI T) (nI (pp1 + 1)) xi xt xn (nI ns) (nI vv) (nI bb1))), (mr 6, .inl (kI, 3002, .inl fa)), (q_14, .inr (15, [.int 0, .int 0, .int 0, .int 0, .int 0, .int 0, .long 0, .int 0, .null, .null, .null, .int 0, .null, .null]))] : va_W) ++ (sT L1 F1)) := hD
            replace hK : va_K (dC, dI) vwCl [(kI, .int), (kL, .long), (kE, .object RX15)] s := hK
            clear hz1 hk1 hPc hDc hKc hFc hP1 hD1 hK1
            refine lv_astore_n (lv' := [(3, .ref q_14), (2, .int (nI (i + 1))), (1, .ref x1), (0, .ref m9)]) hx hb dX23_suffixed_58 rfl hl (by decide) rfl (fun ls hl => ?_)
            refine lv_aload_n hx hb dX23_suffixed_59 rfl (lv_at hl 0 rfl) ?_
            refine lv_bipush (v := 14) hx hb dX23_suffixed_60 (by decide) ?_
            refine va_put (D := (dC, dI)) (ci := 15) (v := .int 14) (ty := .int) (C := RX15) (T := TX15) (N := 14) hx hb hts in_c_xsu_X15 tyX15 tyX15_ok nmX15 hown hK hP hD hS 4 rfl rfl 0 (by decide) (hts (.fieldLink RX23 330 "OwnedPlacesModel$Exp" "kind" "I") (wm_c_xsu 20 rfl)) (fun _ h9 => h9) rfl (by decide +kernel) rfl rfl (Nat.le_of_ble_eq_true rfl) dX23_suffixed_62 (fun H locs hP hD hS => ?_)
            replace hP : va_P (dC, dI) vwCl (([(mr 8, .inl (kL, 3002, .inr (.inl fn))), (mr 5, .inl (kI, 3002, .inl fk)), (m9, .inr (23, mA mr mv vf xl (nI zs) fq10 fx10 (nI T) (nI (pp1 + 1)) xi xt xn (nI ns) (nI vv) (nI bb1))), (mr 6, .inl (kI, 3002, .inl fa)), (q_14, .inr (15, [.int 14, .int 0, .int 0, .int 0, .int 0, .int 0, .long 0, .int 0, .null, .null, .null, .int 0, .null, .null]))] : va_W) ++ (sT L1 F1)) H := hP
            replace hD : va_D A (([(mr 8, .inl (kL, 3002, .inr (.inl fn))), (mr 5, .inl (kI, 3002, .inl fk)), (m9, .inr (23, mA mr mv vf xl (nI zs) fq10 fx10 (nI T) (nI (pp1 + 1)) xi xt xn (nI ns) (nI vv) (nI bb1))), (mr 6, .inl (kI, 3002, .inl fa)), (q_14, .inr (15, [.int 14, .int 0, .int 0, .int 0, .int 0, .int 0, .long 0, .int 0, .null, .null, .null, .int 0, .null, .null]))] : va_W) ++ (sT L1 F1)) := hD
            refine lv_aload_n hx hb dX23_suffixed_65 rfl (lv_at hl 0 rfl) ?_
            refine lv_aload_n hx hb dX23_suffixed_66 rfl (lv_at hl 2 rfl) ?_
            obtain ⟨vs9, hF9, ht9⟩ := isE_tok hr9.2
            refine va_get (D := (dC, dI)) (ci := 15) (v := .int (nI pp)) (C := RX15) (T := TX15) (N := 14) hx hb hts in_c_xsu_X15 hown hK (va_P.st hP (isE_mem hr9.2).1 hF9) 0 rfl rfl 1 (by decide) (hts (.fieldLink RX23 350 "OwnedPlacesModel$Exp" "token" "I") (wm_c_xsu 11 rfl)) (fun _ h9 => h9) ht9 dX23_suffixed_67 ?_
            refine va_put (D := (dC, dI)) (ci := 15) (v := .int (nI pp)) (ty := .int) (C := RX15) (T := TX15) (N := 14) hx hb hts in_c_xsu_X15 tyX15 tyX15_ok nmX15 hown hK hP hD hS 4 rfl rfl 1 (by decide) (hts (.fieldLink RX23 350 "OwnedPlacesModel$Exp" "token" "I") (wm_c_xsu 11 rfl)) (fun _ h9 => h9) rfl (by decide +kernel) rfl rfl (Nat.le_of_ble_eq_true rfl) dX23_suffixed_70 (fun H locs hP hD hS => ?_)
            replace hP : va_P (dC, dI) vwCl (([(mr 8, .inl (kL, 3002, .inr (.inl fn))), (mr 5, .inl (kI, 3002, .inl fk)), (m9, .inr (23, mA mr mv vf xl (nI zs) fq10 fx10 (nI T) (nI (pp1 + 1)) xi xt xn (nI ns) (nI vv) (nI bb1))), (mr 6, .inl (kI, 3002, .inl fa)), (q_14, .inr (15, [.int 14, .int (nI pp), .int 0, .int 0, .int 0, .int 0, .long 0, .int 0, .null, .null, .null, .int 0, .null, .null]))] : va_W) ++ (sT L1 F1)) H := hP
            replace hD : va_D A (([(mr 8, .inl (kL, 3002, .inr (.inl fn))), (mr 5, .inl (kI, 3002, .inl fk)), (m9, .inr (23, mA mr mv vf xl (nI zs) fq10 fx10 (nI T) (nI (pp1 + 1)) xi xt xn (nI ns) (nI vv) (nI bb1))), (mr 6, .inl (kI, 3002, .inl fa)), (q_14, .inr (15, [.int 14, .int (nI pp), .int 0, .int 0, .int 0, .int 0, .long 0, .int 0, .null, .null, .null, .int 0, .null, .null]))] : va_W) ++ (sT L1 F1)) := hD
            refine lv_aload_n hx hb dX23_suffixed_73 rfl (lv_at hl 0 rfl) ?_
            refine lv_aload_n hx hb dX23_suffixed_74 rfl (lv_at hl 2 rfl) ?_
            refine va_put (D := (dC, dI)) (ci := 15) (v := .ref x1) (ty := (.object "OwnedPlacesModel$Exp")) (C := RX15) (T := TX15) (N := 14) hx hb hts in_c_xsu_X15 tyX15 tyX15_ok nmX15 hown hK hP hD hS 4 rfl rfl 8 (by decide) (hts (.fieldLink RX23 331 "OwnedPlacesModel$Exp" "of" "LOwnedPlacesModel$Exp;") (wm_c_xsu 78 rfl)) (fun _ h9 => h9) rfl (by decide +kernel) rfl rfl (Nat.le_of_ble_eq_true rfl) dX23_suffixed_75 (fun H locs hP hD hS => ?_)
            replace hP : va_P (dC, dI) vwCl (([(mr 8, .inl (kL, 3002, .inr (.inl fn))), (mr 5, .inl (kI, 3002, .inl fk)), (m9, .inr (23, mA mr mv vf xl (nI zs) fq10 fx10 (nI T) (nI (pp1 + 1)) xi xt xn (nI ns) (nI vv) (nI bb1))), (mr 6, .inl (kI, 3002, .inl fa)), (q_14, .inr (15, [.int 14, .int (nI pp), .int 0, .int 0, .int 0, .int 0, .long 0, .int 0, .ref x1, .null, .null, .int 0, .null, .null]))] : va_W) ++ (sT L1 F1)) H := hP
            replace hD : va_D A (([(mr 8, .inl (kL, 3002, .inr (.inl fn))), (mr 5, .inl (kI, 3002, .inl fk)), (m9, .inr (23, mA mr mv vf xl (nI zs) fq10 fx10 (nI T) (nI (pp1 + 1)) xi xt xn (nI ns) (nI vv) (nI bb1))), (mr 6, .inl (kI, 3002, .inl fa)), (q_14, .inr (15, [.int 14, .int (nI pp), .int 0, .int 0, .int 0, .int 0, .long 0, .int 0, .ref x1, .null, .null, .int 0, .null, .null]))] : va_W) ++ (sT L1 F1)) := hD
            refine lv_aload_n hx hb dX23_suffixed_78 rfl (lv_at hl 0 rfl) ?_
            refine lv_aload_n hx hb dX23_suffixed_79 rfl (lv_at hl 3 rfl) ?_
            replace hPc := hP.subF (f' := [(m9, .inr (23, mA mr mv vf xl (nI zs) fq10 fx10 (nI T) (nI (pp1 + 1)) xi xt xn (nI ns) (nI vv) (nI bb1))), (mr 5, .inl (kI, 3002, .inl fk)), (mr 6, .inl (kI, 3002, .inl fa))]) [2, 1, 3] rfl
            replace hDc := hD.subF (f' := [(m9, .inr (23, mA mr mv vf xl (nI zs) fq10 fx10 (nI T) (nI (pp1 + 1)) xi xt xn (nI ns) (nI vv) (nI bb1))), (mr 5, .inl (kI, 3002, .inl fk)), (mr 6, .inl (kI, 3002, .inl fa))]) [2, 1, 3] (by decide) rfl
            replace hKc := hK.sub (tys' := [(kI, .int)]) [0] rfl
            replace hFc := va_freeT (wc := [(m9, .inr (23, mA mr mv vf xl (nI zs) fq10 fx10 (nI T) (nI (pp1 + 1)) xi xt xn (nI ns) (nI vv) (nI bb1))), (mr 5, .inl (kI, 3002, .inl fk)), (mr 6, .inl (kI, 3002, .inl fa))]) hD hS hA [2, 1, 3] rfl
            refine va_calli (va_runV (As := []) (rest := [.ref q_14]) ⟨hx, hb, hml, hown, hts⟩ (c_rnmB l dC dI m9 mr mv vf xl fx10 xi xt xn zs T (pp1 + 1) ns vv bb1 kI fk fa fq10 H.size hhfq10) (cwV 0 hts g_c_xsu_c_rnmB_80 rfl rfl rfl (by decide +kernel) ⟨by show 2 + 1 ≤ 5 + 12 * k; omega, by show 8 + (1 + 11) + (41) ≤ 107 + 279 * k; omega⟩) ⟨fun a U g mk q => by obtain ⟨q0, q1, qP, qK, qD⟩ := q; exact ⟨q0, q1, qP, va_K.moved (u := U) (U := U.calling g mk a) (Vm.Alike.refl U.vm) qK, qD⟩, va_recv hKc hPc (ci := 23) (q0 := 0) rfl rfl, fun U hU hW => ⟨rfl, by rw [hU], by rw [hU]; exact hPc, va_K.moved hW.alike hKc, hDc.weaken (fun _ _ _ _ => trivial)⟩⟩ rfl rfl hl.1 rfl (lv_room (Nat.le_of_ble_eq_true rfl)) dX23_suffixed_80 ⟨(show ((8 * (pp1 - pp) + 1) + 1) + 0 ≤ (8 * (T - pp) + 5) by omega), (show ((120 * (pp1 - pp) + 14) + 14) + 0 ≤ (120 * (T - pp) + 320) by omega)⟩) hS (fun q _ h => hFc q h) hFc (fun r_16 u tS H1 locs ht hvm hw hB hz1 hk1 hS => ?_)
            obtain ⟨hP1, hK1, hD1⟩ := hB
            rw [ht] at hP1
            replace hK1 := va_K.moved hvm.symm hK1
            obtain ⟨hPj, hDj⟩ := va_joinT (wr := [(mr 8, .inl (kL, 3002, .inr (.inl fn))), (q_14, .inr (15, [.int 14, .int (nI pp), .int 0, .int 0, .int 0, .int 0, .long 0, .int 0, .ref x1, .null, .null, .int 0, .null, .null]))]) (w1 := [(m9, .inr (23, mA mr mv vf xl (nI zs) fq10 fx10 (nI T) (nI (pp1 + 1)) xi xt xn (nI ns) (nI vv) (nI bb1))), (mr 5, .inl (kI, 3002, .inl fk)), (mr 6, .inl (kI, 3002, .inl fa))]) hP hD [2, 1, 3] [0, 4] rfl rfl (by decide) (by decide) hk1 hFc hP1 hD1
            replace hP := hPj
            replace hD := hDj
            clear hPj hDj
            replace hK := hK.app hK1
            generalize H1 = H at hP hS ⊢
            replace hP : va_P (dC, dI) vwCl (([(mr 8, .inl (kL, 3002, .inr (.inl fn))), (q_14, .inr (15, [.int 14, .int (nI pp), .int 0, .int 0, .int 0, .int 0, .long 0, .int 0, .ref x1, .null, .null, .int 0, .null, .null])), (m9, .inr (23, mA mr mv vf xl (nI zs) fq10 fx10 (nI T) (nI (pp1 + 1)) xi xt xn (nI ns) (nI vv) (nI bb1))), (mr 5, .inl (kI, 3002, .inl fk)), (mr 6, .inl (kI, 3002, .inl fa))] : va_W) ++ (sT L1 F1)) H := hP
            replace hD : va_D A (([(mr 8, .inl (kL, 3002, .inr (.inl fn))), (q_14, .inr (15, [.int 14, .int (nI pp), .int 0, .int 0, .int 0, .int 0, .long 0, .int 0, .ref x1, .null, .null, .int 0, .null, .null])), (m9, .inr (23, mA mr mv vf xl (nI zs) fq10 fx10 (nI T) (nI (pp1 + 1)) xi xt xn (nI ns) (nI vv) (nI bb1))), (mr 5, .inl (kI, 3002, .inl fk)), (mr 6, .inl (kI, 3002, .inl fa))] : va_W) ++ (sT L1 F1)) := hD
            replace hK : va_K (dC, dI) vwCl [(kI, .int), (kL, .long), (kE, .object RX15), (kI, .int)] s := hK
            replace hK := hK.sub (tys' := [(kI, .int), (kL, .long), (kE, .object RX15)]) [0, 1, 2] rfl
            clear hz1 hk1 hPc hDc hKc hFc hP1 hD1 hK1
            refine va_put (D := (dC, dI)) (ci := 15) (v := .int r_16) (ty := .int) (C := RX15) (T := TX15) (N := 14) hx hb hts in_c_xsu_X15 tyX15 tyX15_ok nmX15 hown hK hP hD hS 1 rfl rfl 3 (by decide) (hts (.fieldLink RX23 362 "OwnedPlacesModel$Exp" "name" "I") (wm_c_xsu 14 rfl)) (fun _ h9 => h9) rfl (by decide +kernel) rfl rfl (Nat.le_of_ble_eq_true rfl) dX23_suffixed_83 (fun H locs hP hD hS => ?_)
            replace hP : va_P (dC, dI) vwCl (([(mr 8, .inl (kL, 3002, .inr (.inl fn))), (q_14, .inr (15, [.int 14, .int (nI pp), .int 0, .int r_16, .int 0, .int 0, .long 0, .int 0, .ref x1, .null, .null, .int 0, .null, .null])), (m9, .inr (23, mA mr mv vf xl (nI zs) fq10 fx10 (nI T) (nI (pp1 + 1)) xi xt xn (nI ns) (nI vv) (nI bb1))), (mr 5, .inl (kI, 3002, .inl fk)), (mr 6, .inl (kI, 3002, .inl fa))] : va_W) ++ (sT L1 F1)) H := hP
            replace hD : va_D A (([(mr 8, .inl (kL, 3002, .inr (.inl fn))), (q_14, .inr (15, [.int 14, .int (nI pp), .int 0, .int r_16, .int 0, .int 0, .long 0, .int 0, .ref x1, .null, .null, .int 0, .null, .null])), (m9, .inr (23, mA mr mv vf xl (nI zs) fq10 fx10 (nI T) (nI (pp1 + 1)) xi xt xn (nI ns) (nI vv) (nI bb1))), (mr 5, .inl (kI, 3002, .inl fk)), (mr 6, .inl (kI, 3002, .inl fa))] : va_W) ++ (sT L1 F1)) := hD
            refine lv_aload_n hx hb dX23_suffixed_86 rfl (lv_at hl 0 rfl) ?_
            refine lv_astore_n (lv' := [(1, .ref q_14), (3, .ref q_14), (2, .int (nI (i + 1))), (0, .ref m9)]) hx hb dX23_suffixed_87 rfl hl (by decide) rfl (fun ls hl => ?_)
            refine lv_goto (tgt := 7) hx hb dX23_suffixed_88 (by decide) ?_
            replace hP : va_P (dC, dI) vwCl ((([(mr 8, .inl (kL, 3002, .inr (.inl fn))), (m9, .inr (23, mA mr mv vf xl (nI zs) fq10 fx10 (nI T) (nI (pp1 + 1)) xi xt xn (nI ns) (nI vv) (nI bb1))), (mr 5, .inl (kI, 3002, .inl fk)), (mr 6, .inl (kI, 3002, .inl fa))] : va_W) ++ ([(q_14, .inr (15, [.int 14, .int (nI pp), .int 0, .int r_16, .int 0, .int 0, .long 0, .int 0, .ref x1, .null, .null, .int 0, .null, .null]))] : va_W)) ++ sT L1 F1) H := hP.subT (f' := [(mr 8, .inl (kL, 3002, .inr (.inl fn))), (m9, .inr (23, mA mr mv vf xl (nI zs) fq10 fx10 (nI T) (nI (pp1 + 1)) xi xt xn (nI ns) (nI vv) (nI bb1))), (mr 5, .inl (kI, 3002, .inl fk)), (mr 6, .inl (kI, 3002, .inl fa)), (q_14, .inr (15, [.int 14, .int (nI pp), .int 0, .int r_16, .int 0, .int 0, .long 0, .int 0, .ref x1, .null, .null, .int 0, .null, .null]))]) [0, 2, 3, 4, 1] rfl
            replace hD : va_D A ((([(mr 8, .inl (kL, 3002, .inr (.inl fn))), (m9, .inr (23, mA mr mv vf xl (nI zs) fq10 fx10 (nI T) (nI (pp1 + 1)) xi xt xn (nI ns) (nI vv) (nI bb1))), (mr 5, .inl (kI, 3002, .inl fk)), (mr 6, .inl (kI, 3002, .inl fa))] : va_W) ++ ([(q_14, .inr (15, [.int 14, .int (nI pp), .int 0, .int r_16, .int 0, .int 0, .long 0, .int 0, .ref x1, .null, .null, .int 0, .null, .null]))] : va_W)) ++ sT L1 F1) := hD.subT (f' := [(mr 8, .inl (kL, 3002, .inr (.inl fn))), (m9, .inr (23, mA mr mv vf xl (nI zs) fq10 fx10 (nI T) (nI (pp1 + 1)) xi xt xn (nI ns) (nI vv) (nI bb1))), (mr 5, .inl (kI, 3002, .inl fk)), (mr 6, .inl (kI, 3002, .inl fa)), (q_14, .inr (15, [.int 14, .int (nI pp), .int 0, .int r_16, .int 0, .int 0, .long 0, .int 0, .ref x1, .null, .null, .int 0, .null, .null]))]) [0, 2, 3, 4, 1] (by decide) rfl
            obtain ⟨L9, F9, hx9, hm9, hP, hD⟩ := st_fileL [(q_14, .inr (15, [.int 14, .int (nI pp), .int 0, .int r_16, .int 0, .int 0, .long 0, .int 0, .ref x1, .null, .null, .int 0, .null, .null]))] hP hD
            have hm9_0 := hm9 _ (List.mem_of_getElem? (i := 0) rfl)
            refine W.widen (k := (8 * ((pp1 + 1) - pp) + 1)) (n := (120 * ((pp1 + 1) - pp) + 14)) (by omega) (by omega) ?_
            exact ih1 (pp1 + 1) bb1 q_14 (i + 1) fq10 fx10 L9 F9 _ _ _ (⟨by omega, by omega, by omega, by omega, by omega, by omega, hT⟩) (Or.inl hhfq10) (⟨hr2.1.tr hx9, hm9_0.1, _, hm9_0.2⟩) (fun q9 => absurd q9 hhfq10) (hP.subT [1, 2, 3, 0] rfl) (hD.subT [1, 2, 3, 0] (by decide) rfl) hS (lv_sub hl [2, 0, 3] rfl)
          · have hn16 : ¬ nI i = 16 := fun q => hj_8 ((nI_eq (a := i) (b := 16) (by omega) (by decide)).mp q)
            refine lv_icmp_ne (tgt := 38) hx hb dX23_suffixed_26 (by decide) (fun _ => ?_) (fun c_9 => absurd c_9 hn16)
            obtain ⟨x_10, ex_10⟩ : ∃ yY : Int32, yY = (nI i) + 1 := ⟨_, rfl⟩
            refine lv_iinc (v := x_10) (lv' := [(2, .int x_10), (1, .ref x1), (0, .ref m9)]) hx hb dX23_suffixed_38 hl (k := 0) rfl (by rw [ex_10]; rfl) (by decide) rfl (fun ls hl => ?_)
            obtain rfl : x_10 = nI (i + 1) := by rw [ex_10]; exact nI_1 i
            replace hl : lv_has ls 4 [(2, .int (nI (i + 1))), (1, .ref x1), (0, .ref m9)] := hl
            refine lv_aload_n hx hb dX23_suffixed_41 rfl (lv_at hl 2 rfl) ?_
            refine lv_dup hx hb dX23_suffixed_42 rfl ?_
            refine va_get (D := (dC, dI)) (ci := 23) (v := .int (nI pp1)) (C := RX23) (T := TX23) (N := 89) hx hb hts in_c_xsu_X23 hown hK hP 2 rfl rfl 10 (by decide) (hts (.fieldLink RX23 86 "OwnedPlacesModel" "p" "I") (wm_c_xsu 10 rfl)) (fun _ h9 => h9) rfl dX23_suffixed_43 ?_
            refine lv_iconst (v := 1) hx hb dX23_suffixed_46 (by decide) ?_
            refine lv_iadd hx hb dX23_suffixed_47 ?_
            refine lv_topi (fun f_11 ef_11 => ?_)
            obtain rfl : f_11 = nI (pp1 + 1) := ef_11.trans (nI_1 _)
            refine va_put (D := (dC, dI)) (ci := 23) (v := .int (nI (pp1 + 1))) (ty := .int) (C := RX23) (T := TX23) (N := 89) hx hb hts in_c_xsu_X23 tyX23 tyX23_ok nmX23 hown hK hP hD hS 2 rfl rfl 10 (by decide) (hts (.fieldLink RX23 86 "OwnedPlacesModel" "p" "I") (wm_c_xsu 10 rfl)) (fun _ h9 => h9) rfl (by decide +kernel) rfl rfl (Nat.le_of_ble_eq_true rfl) dX23_suffixed_48 (fun H locs hP hD hS => ?_)
            replace hP : va_P (dC, dI) vwCl (([(mr 6, .inl (kI, 3002, .inl fa)), (mr 8, .inl (kL, 3002, .inr (.inl fn))), (m9, .inr (23, mA mr mv vf xl (nI zs) 0 xa1 (nI T) (nI (pp1 + 1)) xi xt xn (nI ns) (nI vv) (nI bb1))), (mr 5, .inl (kI, 3002, .inl fk))] : va_W) ++ (sT L1 F1)) H := hP
            replace hD : va_D A (([(mr 6, .inl (kI, 3002, .inl fa)), (mr 8, .inl (kL, 3002, .inr (.inl fn))), (m9, .inr (23, mA mr mv vf xl (nI zs) 0 xa1 (nI T) (nI (pp1 + 1)) xi xt xn (nI ns) (nI vv) (nI bb1))), (mr 5, .inl (kI, 3002, .inl fk))] : va_W) ++ (sT L1 F1)) := hD
            have hp_12 : pp1 + 1 < T := kne3 hk0 hr0.2.2.1 hk_5 (by decide)
            refine va_new (ci := 15) (fs := [.int 0, .int 0, .int 0, .int 0, .int 0, .int 0, .long 0, .int 0, .null, .null, .null, .int 0, .null, .null]) (C := RX15) (T := TX15) (N := 14) hx hb hts in_c_xsu_X15 tyX15 tyX15_ok hown (hts (.classLink RX23 295 RX15) (wm_c_xsu 2 rfl)) (hts (.instantiable RX15 14) (wm_c_xsu 3 rfl)) (hts (.initialized RX15) (wm_c_xsu 4 rfl)) hK hP hD hS hA rfl dv_X15 (show (8 * (pp1 - pp) + 1) + 1 ≤ (8 * (T - pp) + 5) by omega) (show (120 * (pp1 - pp) + 14) + 14 ≤ (120 * (T - pp) + 320) by omega) dX23_suffixed_51 (fun q_13 H hP hD hS => ?_)
            replace hP := va_P.nt hP
            replace hD := va_D.nt hD
            replace hP : va_P (dC, dI) vwCl (([(mr 6, .inl (kI, 3002, .inl fa)), (mr 8, .inl (kL, 3002, .inr (.inl fn))), (m9, .inr (23, mA mr mv vf xl (nI zs) 0 xa1 (nI T) (nI (pp1 + 1)) xi xt xn (nI ns) (nI vv) (nI bb1))), (mr 5, .inl (kI, 3002, .inl fk)), (q_13, .inr (15, [.int 0, .int 0, .int 0, .int 0, .int 0, .int 0, .long 0, .int 0, .null, .null, .null, .int 0, .null, .null]))] : va_W) ++ (sT L1 F1)) H := hP
            replace hD : va_D A (([(mr 6, .inl (kI, 3002, .inl fa)), (mr 8, .inl (kL, 3002, .inr (.inl fn))), (m9, .inr (23, mA mr mv vf xl (nI zs) 0 xa1 (nI T) (nI (pp1 + 1)) xi xt xn (nI ns) (nI vv) (nI bb1))), (mr 5, .inl (kI, 3002, .inl fk)), (q_13, .inr (15, [.int 0, .int 0, .int 0, .int 0, .int 0, .int 0, .long 0, .int 0, .null, .null, .null, .int 0, .null, .null]))] : va_W) ++ (sT L1 F1)) := hD
            refine W.widen (k := ((8 * (pp1 - pp) + 1) + 1)) (n := ((120 * (pp1 - pp) + 14) + 14)) (by omega) (by omega) ?_
            refine lv_dup hx hb dX23_suffixed_54 rfl ?_
            replace hPc := hP.subF (f' := [(q_13, .inr (15, [.int 0, .int 0, .int 0, .int 0, .int 0, .int 0, .long 0, .int 0, .null, .null, .null, .int 0, .null, .null]))]) [4] rfl
            replace hDc := hD.subF (f' := [(q_13, .inr (15, [.int 0, .int 0, .int 0, .int 0, .int 0, .int 0, .long 0, .int 0, .null, .null, .null, .int 0, .null, .null]))]) [4] (by decide) rfl
            replace hKc := hK.sub (tys' := []) [] rfl
            replace hFc := va_freeT (wc := [(q_13, .inr (15, [.int 0, .int 0, .int 0, .int 0, .int 0, .int 0, .long 0, .int 0, .null, .null, .null, .int 0, .null, .null]))]) hD hS hA [4] rfl
            refine va_callv (va_runIN (As := []) (rest := [.ref q_13]) ⟨hx, hb, hml, hown, hts⟩ (c_nX l dC dI q_13 H.size) ⟨va_cnB 0 hts g_c_xsu_c_nX_55 rfl rfl rfl hns.1.2.2.2.2.2.2.1 (hts (.initialized RX15) (wm_c_xsu 4 rfl)) (by decide +kernel) ⟨by show 1 + 1 ≤ 5 + 12 * k; omega, by show 8 + (1 + 11) + (12) ≤ 107 + 279 * k; omega⟩, rfl, (hts (.instanceMethod yX15_init) (wm_c_xsu 9 rfl))⟩ ⟨fun a U g mk q => by obtain ⟨q0, q1, qP, qK, qD⟩ := q; exact ⟨q0, q1, qP, va_K.moved (u := U) (U := U.calling g mk a) (Vm.Alike.refl U.vm) qK, qD⟩, fun U hU hW => ⟨rfl, by rw [hU], by rw [hU]; exact hPc, va_K.moved hW.alike hKc, hDc.weaken (fun _ _ _ _ => trivial)⟩⟩ rfl rfl hl.1 rfl (lv_room (Nat.le_of_ble_eq_true rfl)) dX23_suffixed_55 ⟨(show ((8 * (pp1 - pp) + 1) + 1) + 0 ≤ (8 * (T - pp) + 5) by omega), (show ((120 * (pp1 - pp) + 14) + 14) + 0 ≤ (120 * (T - pp) + 320) by omega)⟩) hS (fun q _ h => hFc q h) hFc (fun u tS H1 locs ht hvm hw hB hz1 hk1 hS => ?_)
            obtain ⟨hP1, hK1, hD1⟩ := hB
            rw [ht] at hP1
            replace hK1 := va_K.moved hvm.symm hK1
            obtain ⟨hPj, hDj⟩ := va_joinT (wr := [(mr 6, .inl (kI, 3002, .inl fa)), (mr 8, .inl (kL, 3002, .inr (.inl fn))), (m9, .inr (23, mA mr mv vf xl (nI zs) 0 xa1 (nI T) (nI (pp1 + 1)) xi xt xn (nI ns) (nI vv) (nI bb1))), (mr 5, .inl (kI, 3002, .inl fk))]) (w1 := [(q_13, .inr (15, [.int 0, .int 0, .int 0, .int 0, .int 0, .int 0, .long 0, .int 0, .null, .null, .null, .int 0, .null, .null]))]) hP hD [4] [0, 1, 2, 3] rfl rfl (by decide) (by decide) hk1 hFc hP1 hD1
            replace hP := hPj
            replace hD := hDj
            clear hPj hDj
            generalize H1 = H at hP hS ⊢
            replace hP : va_P (dC, dI) vwCl (([(mr 6, .inl (kI, 3002, .inl fa)), (mr 8, .inl (kL, 3002, .inr (.inl fn))), (m9, .inr (23, mA mr mv vf xl (nI zs) 0 xa1 (nI T) (nI (pp1 + 1)) xi xt xn (nI ns) (nI vv) (nI bb1))), (mr 5, .inl (kI, 3002, .inl fk)), (q_13, .inr (15, [.int 0, .int 0, .int 0, .int 0, .int 0, .int 0, .long 0, .int 0, .null, .null, .null, .int 0, .null, .null]))] : va_W) ++ (sT L1 F1)) H := hP
            replace hD : va_D A (([(mr 6, .inl (kI, 3002, .inl fa)), (mr 8, .inl (kL, 3002, .inr (.inl fn))), (m9, .inr (23, mA mr mv vf xl (nI zs) 0 xa1 (nI T) (nI (pp1 + 1)) xi xt xn (nI ns) (nI vv) (nI bb1))), (mr 5, .inl (kI, 3002, .inl fk)), (q_13, .inr (15, [.int 0, .int 0, .int 0, .int 0, .int 0, .int 0, .long 0, .int 0, .null, .null, .null, .int 0, .null, .null]))] : va_W) ++ (sT L1 F1)) := hD
            replace hK : va_K (dC, dI) vwCl [(kI, .int), (kL, .long), (kE, .object RX15)] s := hK
            clear hz1 hk1 hPc hDc hKc hFc hP1 hD1 hK1
            refine lv_astore_n (lv' := [(3, .ref q_13), (2, .int (nI (i + 1))), (1, .ref x1), (0, .ref m9)]) hx hb dX23_suffixed_58 rfl hl (by decide) rfl (fun ls hl => ?_)
            refine lv_aload_n hx hb dX23_suffixed_59 rfl (lv_at hl 0 rfl) ?_
            refine lv_bipush (v := 14) hx hb dX23_suffixed_60 (by decide) ?_
            refine va_put (D := (dC, dI)) (ci := 15) (v := .int 14) (ty := .int) (C := RX15) (T := TX15) (N := 14) hx hb hts in_c_xsu_X15 tyX15 tyX15_ok nmX15 hown hK hP hD hS 4 rfl rfl 0 (by decide) (hts (.fieldLink RX23 330 "OwnedPlacesModel$Exp" "kind" "I") (wm_c_xsu 20 rfl)) (fun _ h9 => h9) rfl (by decide +kernel) rfl rfl (Nat.le_of_ble_eq_true rfl) dX23_suffixed_62 (fun H locs hP hD hS => ?_)
            replace hP : va_P (dC, dI) vwCl (([(mr 6, .inl (kI, 3002, .inl fa)), (mr 8, .inl (kL, 3002, .inr (.inl fn))), (m9, .inr (23, mA mr mv vf xl (nI zs) 0 xa1 (nI T) (nI (pp1 + 1)) xi xt xn (nI ns) (nI vv) (nI bb1))), (mr 5, .inl (kI, 3002, .inl fk)), (q_13, .inr (15, [.int 14, .int 0, .int 0, .int 0, .int 0, .int 0, .long 0, .int 0, .null, .null, .null, .int 0, .null, .null]))] : va_W) ++ (sT L1 F1)) H := hP
            replace hD : va_D A (([(mr 6, .inl (kI, 3002, .inl fa)), (mr 8, .inl (kL, 3002, .inr (.inl fn))), (m9, .inr (23, mA mr mv vf xl (nI zs) 0 xa1 (nI T) (nI (pp1 + 1)) xi xt xn (nI ns) (nI vv) (nI bb1))), (mr 5, .inl (kI, 3002, .inl fk)), (q_13, .inr (15, [.int 14, .int 0, .int 0, .int 0, .int 0, .int 0, .long 0, .int 0, .null, .null, .null, .int 0, .null, .null]))] : va_W) ++ (sT L1 F1)) := hD
            refine lv_aload_n hx hb dX23_suffixed_65 rfl (lv_at hl 0 rfl) ?_
            refine lv_aload_n hx hb dX23_suffixed_66 rfl (lv_at hl 2 rfl) ?_
            obtain ⟨vs9, hF9, ht9⟩ := isE_tok hr9.2
            refine va_get (D := (dC, dI)) (ci := 15) (v := .int (nI pp)) (C := RX15) (T := TX15) (N := 14) hx hb hts in_c_xsu_X15 hown hK (va_P.st hP (isE_mem hr9.2).1 hF9) 0 rfl rfl 1 (by decide) (hts (.fieldLink RX23 350 "OwnedPlacesModel$Exp" "token" "I") (wm_c_xsu 11 rfl)) (fun _ h9 => h9) ht9 dX23_suffixed_67 ?_
            refine va_put (D := (dC, dI)) (ci := 15) (v := .int (nI pp)) (ty := .int) (C := RX15) (T := TX15) (N := 14) hx hb hts in_c_xsu_X15 tyX15 tyX15_ok nmX15 hown hK hP hD hS 4 rfl rfl 1 (by decide) (hts (.fieldLink RX23 350 "OwnedPlacesModel$Exp" "token" "I") (wm_c_xsu 11 rfl)) (fun _ h9 => h9) rfl (by decide +kernel) rfl rfl (Nat.le_of_ble_eq_true rfl) dX23_suffixed_70 (fun H locs hP hD hS => ?_)
            replace hP : va_P (dC, dI) vwCl (([(mr 6, .inl (kI, 3002, .inl fa)), (mr 8, .inl (kL, 3002, .inr (.inl fn))), (m9, .inr (23, mA mr mv vf xl (nI zs) 0 xa1 (nI T) (nI (pp1 + 1)) xi xt xn (nI ns) (nI vv) (nI bb1))), (mr 5, .inl (kI, 3002, .inl fk)), (q_13, .inr (15, [.int 14, .int (nI pp), .int 0, .int 0, .int 0, .int 0, .long 0, .int 0, .null, .null, .null, .int 0, .null, .null]))] : va_W) ++ (sT L1 F1)) H := hP
            replace hD : va_D A (([(mr 6, .inl (kI, 3002, .inl fa)), (mr 8, .inl (kL, 3002, .inr (.inl fn))), (m9, .inr (23, mA mr mv vf xl (nI zs) 0 xa1 (nI T) (nI (pp1 + 1)) xi xt xn (nI ns) (nI vv) (nI bb1))), (mr 5, .inl (kI, 3002, .inl fk)), (q_13, .inr (15, [.int 14, .int (nI pp), .int 0, .int 0, .int 0, .int 0, .long 0, .int 0, .null, .null, .null, .int 0, .null, .null]))] : va_W) ++ (sT L1 F1)) := hD
            refine lv_aload_n hx hb dX23_suffixed_73 rfl (lv_at hl 0 rfl) ?_
            refine lv_aload_n hx hb dX23_suffixed_74 rfl (lv_at hl 2 rfl) ?_
            refine va_put (D := (dC, dI)) (ci := 15) (v := .ref x1) (ty := (.object "OwnedPlacesModel$Exp")) (C := RX15) (T := TX15) (N := 14) hx hb hts in_c_xsu_X15 tyX15 tyX15_ok nmX15 hown hK hP hD hS 4 rfl rfl 8 (by decide) (hts (.fieldLink RX23 331 "OwnedPlacesModel$Exp" "of" "LOwnedPlacesModel$Exp;") (wm_c_xsu 78 rfl)) (fun _ h9 => h9) rfl (by decide +kernel) rfl rfl (Nat.le_of_ble_eq_true rfl) dX23_suffixed_75 (fun H locs hP hD hS => ?_)
            replace hP : va_P (dC, dI) vwCl (([(mr 6, .inl (kI, 3002, .inl fa)), (mr 8, .inl (kL, 3002, .inr (.inl fn))), (m9, .inr (23, mA mr mv vf xl (nI zs) 0 xa1 (nI T) (nI (pp1 + 1)) xi xt xn (nI ns) (nI vv) (nI bb1))), (mr 5, .inl (kI, 3002, .inl fk)), (q_13, .inr (15, [.int 14, .int (nI pp), .int 0, .int 0, .int 0, .int 0, .long 0, .int 0, .ref x1, .null, .null, .int 0, .null, .null]))] : va_W) ++ (sT L1 F1)) H := hP
            replace hD : va_D A (([(mr 6, .inl (kI, 3002, .inl fa)), (mr 8, .inl (kL, 3002, .inr (.inl fn))), (m9, .inr (23, mA mr mv vf xl (nI zs) 0 xa1 (nI T) (nI (pp1 + 1)) xi xt xn (nI ns) (nI vv) (nI bb1))), (mr 5, .inl (kI, 3002, .inl fk)), (q_13, .inr (15, [.int 14, .int (nI pp), .int 0, .int 0, .int 0, .int 0, .long 0, .int 0, .ref x1, .null, .null, .int 0, .null, .null]))] : va_W) ++ (sT L1 F1)) := hD
            refine lv_aload_n hx hb dX23_suffixed_78 rfl (lv_at hl 0 rfl) ?_
            refine lv_aload_n hx hb dX23_suffixed_79 rfl (lv_at hl 3 rfl) ?_
            by_cases hk_15 : fk (pp1 + 1) = 2
            · replace hPc := hP.subF (f' := [(m9, .inr (23, mA mr mv vf xl (nI zs) 0 xa1 (nI T) (nI (pp1 + 1)) xi xt xn (nI ns) (nI vv) (nI bb1))), (mr 5, .inl (kI, 3002, .inl fk)), (mr 6, .inl (kI, 3002, .inl fa))]) [2, 3, 0] rfl
              replace hDc := hD.subF (f' := [(m9, .inr (23, mA mr mv vf xl (nI zs) 0 xa1 (nI T) (nI (pp1 + 1)) xi xt xn (nI ns) (nI vv) (nI bb1))), (mr 5, .inl (kI, 3002, .inl fk)), (mr 6, .inl (kI, 3002, .inl fa))]) [2, 3, 0] (by decide) rfl
              replace hKc := hK.sub (tys' := [(kI, .int)]) [0] rfl
              replace hFc := va_freeT (wc := [(m9, .inr (23, mA mr mv vf xl (nI zs) 0 xa1 (nI T) (nI (pp1 + 1)) xi xt xn (nI ns) (nI vv) (nI bb1))), (mr 5, .inl (kI, 3002, .inl fk)), (mr 6, .inl (kI, 3002, .inl fa))]) hD hS hA [2, 3, 0] rfl
              refine va_calli (va_runV (As := []) (rest := [.ref q_13]) ⟨hx, hb, hml, hown, hts⟩ (c_rnmY l dC dI m9 mr mv vf xl xa1 xi xt xn zs T (pp1 + 1) ns vv bb1 kI fk fa H.size hT hp_12 hk0 hk_15) (cwV 0 hts g_c_xsu_c_rnmY_80 rfl rfl rfl (by decide +kernel) ⟨by show 2 + 1 ≤ 5 + 12 * k; omega, by show 8 + (1 + 11) + (42) ≤ 107 + 279 * k; omega⟩) ⟨fun a U g mk q => by obtain ⟨q0, q1, qP, qK, qD⟩ := q; exact ⟨q0, q1, qP, va_K.moved (u := U) (U := U.calling g mk a) (Vm.Alike.refl U.vm) qK, qD⟩, va_recv hKc hPc (ci := 23) (q0 := 0) rfl rfl, fun U hU hW => ⟨rfl, by rw [hU], by rw [hU]; exact hPc, va_K.moved hW.alike hKc, hDc.weaken (fun _ _ _ _ => trivial)⟩⟩ rfl rfl hl.1 rfl (lv_room (Nat.le_of_ble_eq_true rfl)) dX23_suffixed_80 ⟨(show ((8 * (pp1 - pp) + 1) + 1) + 0 ≤ (8 * (T - pp) + 5) by omega), (show ((120 * (pp1 - pp) + 14) + 14) + 0 ≤ (120 * (T - pp) + 320) by omega)⟩) hS (fun q _ h => hFc q h) hFc (fun r_16 u tS H1 locs ht hvm hw hB hz1 hk1 hS => ?_)
              obtain ⟨hP1, hK1, hD1⟩ := hB
              rw [ht] at hP1
              replace hK1 := va_K.moved hvm.symm hK1
              obtain ⟨hPj, hDj⟩ := va_joinT (wr := [(mr 8, .inl (kL, 3002, .inr (.inl fn))), (q_13, .inr (15, [.int 14, .int (nI pp), .int 0, .int 0, .int 0, .int 0, .long 0, .int 0, .ref x1, .null, .null, .int 0, .null, .null]))]) (w1 := [(m9, .inr (23, mA mr mv vf xl (nI zs) 0 xa1 (nI T) (nI ((pp1 + 1) + 1)) xi xt xn (nI ns) (nI vv) (nI bb1))), (mr 5, .inl (kI, 3002, .inl fk)), (mr 6, .inl (kI, 3002, .inl fa))]) hP hD [2, 3, 0] [1, 4] rfl rfl (by decide) (by decide) hk1 hFc hP1 hD1
              replace hP := hPj
              replace hD := hDj
              clear hPj hDj
              replace hK := hK.app hK1
              generalize H1 = H at hP hS ⊢
              replace hP : va_P (dC, dI) vwCl (([(mr 8, .inl (kL, 3002, .inr (.inl fn))), (q_13, .inr (15, [.int 14, .int (nI pp), .int 0, .int 0, .int 0, .int 0, .long 0, .int 0, .ref x1, .null, .null, .int 0, .null, .null])), (m9, .inr (23, mA mr mv vf xl (nI zs) 0 xa1 (nI T) (nI ((pp1 + 1) + 1)) xi xt xn (nI ns) (nI vv) (nI bb1))), (mr 5, .inl (kI, 3002, .inl fk)), (mr 6, .inl (kI, 3002, .inl fa))] : va_W) ++ (sT L1 F1)) H := hP
              replace hD : va_D A (([(mr 8, .inl (kL, 3002, .inr (.inl fn))), (q_13, .inr (15, [.int 14, .int (nI pp), .int 0, .int 0, .int 0, .int 0, .long 0, .int 0, .ref x1, .null, .null, .int 0, .null, .null])), (m9, .inr (23, mA mr mv vf xl (nI zs) 0 xa1 (nI T) (nI ((pp1 + 1) + 1)) xi xt xn (nI ns) (nI vv) (nI bb1))), (mr 5, .inl (kI, 3002, .inl fk)), (mr 6, .inl (kI, 3002, .inl fa))] : va_W) ++ (sT L1 F1)) := hD
              replace hK : va_K (dC, dI) vwCl [(kI, .int), (kL, .long), (kE, .object RX15), (kI, .int)] s := hK
              replace hK := hK.sub (tys' := [(kI, .int), (kL, .long), (kE, .object RX15)]) [0, 1, 2] rfl
              clear hz1 hk1 hPc hDc hKc hFc hP1 hD1 hK1
              obtain rfl : r_16 = nI (pp1 + 1) := hw
              have hp_17 : pp1 + 1 + 1 < T := kne3 hk0 hp_12 hk_15 (by decide)
              refine va_put (D := (dC, dI)) (ci := 15) (v := .int (nI (pp1 + 1))) (ty := .int) (C := RX15) (T := TX15) (N := 14) hx hb hts in_c_xsu_X15 tyX15 tyX15_ok nmX15 hown hK hP hD hS 1 rfl rfl 3 (by decide) (hts (.fieldLink RX23 362 "OwnedPlacesModel$Exp" "name" "I") (wm_c_xsu 14 rfl)) (fun _ h9 => h9) rfl (by decide +kernel) rfl rfl (Nat.le_of_ble_eq_true rfl) dX23_suffixed_83 (fun H locs hP hD hS => ?_)
              replace hP : va_P (dC, dI) vwCl (([(mr 8, .inl (kL, 3002, .inr (.inl fn))), (q_13, .inr (15, [.int 14, .int (nI pp), .int 0, .int (nI (pp1 + 1)), .int 0, .int 0, .long 0, .int 0, .ref x1, .null, .null, .int 0, .null, .null])), (m9, .inr (23, mA mr mv vf xl (nI zs) 0 xa1 (nI T) (nI (pp1 + 1 + 1)) xi xt xn (nI ns) (nI vv) (nI bb1))), (mr 5, .inl (kI, 3002, .inl fk)), (mr 6, .inl (kI, 3002, .inl fa))] : va_W) ++ (sT L1 F1)) H := hP
              replace hD : va_D A (([(mr 8, .inl (kL, 3002, .inr (.inl fn))), (q_13, .inr (15, [.int 14, .int (nI pp), .int 0, .int (nI (pp1 + 1)), .int 0, .int 0, .long 0, .int 0, .ref x1, .null, .null, .int 0, .null, .null])), (m9, .inr (23, mA mr mv vf xl (nI zs) 0 xa1 (nI T) (nI (pp1 + 1 + 1)) xi xt xn (nI ns) (nI vv) (nI bb1))), (mr 5, .inl (kI, 3002, .inl fk)), (mr 6, .inl (kI, 3002, .inl fa))] : va_W) ++ (sT L1 F1)) := hD
              refine lv_aload_n hx hb dX23_suffixed_86 rfl (lv_at hl 0 rfl) ?_
              refine lv_astore_n (lv' := [(1, .ref q_13), (3, .ref q_13), (2, .int (nI (i + 1))), (0, .ref m9)]) hx hb dX23_suffixed_87 rfl hl (by decide) rfl (fun ls hl => ?_)
              refine lv_goto (tgt := 7) hx hb dX23_suffixed_88 (by decide) ?_
              replace hP : va_P (dC, dI) vwCl ((([(mr 8, .inl (kL, 3002, .inr (.inl fn))), (m9, .inr (23, mA mr mv vf xl (nI zs) 0 xa1 (nI T) (nI (pp1 + 1 + 1)) xi xt xn (nI ns) (nI vv) (nI bb1))), (mr 5, .inl (kI, 3002, .inl fk)), (mr 6, .inl (kI, 3002, .inl fa))] : va_W) ++ ([(q_13, .inr (15, [.int 14, .int (nI pp), .int 0, .int (nI (pp1 + 1)), .int 0, .int 0, .long 0, .int 0, .ref x1, .null, .null, .int 0, .null, .null]))] : va_W)) ++ sT L1 F1) H := hP.subT (f' := [(mr 8, .inl (kL, 3002, .inr (.inl fn))), (m9, .inr (23, mA mr mv vf xl (nI zs) 0 xa1 (nI T) (nI (pp1 + 1 + 1)) xi xt xn (nI ns) (nI vv) (nI bb1))), (mr 5, .inl (kI, 3002, .inl fk)), (mr 6, .inl (kI, 3002, .inl fa)), (q_13, .inr (15, [.int 14, .int (nI pp), .int 0, .int (nI (pp1 + 1)), .int 0, .int 0, .long 0, .int 0, .ref x1, .null, .null, .int 0, .null, .null]))]) [0, 2, 3, 4, 1] rfl
              replace hD : va_D A ((([(mr 8, .inl (kL, 3002, .inr (.inl fn))), (m9, .inr (23, mA mr mv vf xl (nI zs) 0 xa1 (nI T) (nI (pp1 + 1 + 1)) xi xt xn (nI ns) (nI vv) (nI bb1))), (mr 5, .inl (kI, 3002, .inl fk)), (mr 6, .inl (kI, 3002, .inl fa))] : va_W) ++ ([(q_13, .inr (15, [.int 14, .int (nI pp), .int 0, .int (nI (pp1 + 1)), .int 0, .int 0, .long 0, .int 0, .ref x1, .null, .null, .int 0, .null, .null]))] : va_W)) ++ sT L1 F1) := hD.subT (f' := [(mr 8, .inl (kL, 3002, .inr (.inl fn))), (m9, .inr (23, mA mr mv vf xl (nI zs) 0 xa1 (nI T) (nI (pp1 + 1 + 1)) xi xt xn (nI ns) (nI vv) (nI bb1))), (mr 5, .inl (kI, 3002, .inl fk)), (mr 6, .inl (kI, 3002, .inl fa)), (q_13, .inr (15, [.int 14, .int (nI pp), .int 0, .int (nI (pp1 + 1)), .int 0, .int 0, .long 0, .int 0, .ref x1, .null, .null, .int 0, .null, .null]))]) [0, 2, 3, 4, 1] (by decide) rfl
              obtain ⟨L9, F9, hx9, hm9, hP, hD⟩ := st_fileL [(q_13, .inr (15, [.int 14, .int (nI pp), .int 0, .int (nI (pp1 + 1)), .int 0, .int 0, .long 0, .int 0, .ref x1, .null, .null, .int 0, .null, .null]))] hP hD
              have hm9_0 := hm9 _ (List.mem_of_getElem? (i := 0) rfl)
              refine W.widen (k := (8 * ((pp1 + 1 + 1) - pp) + 1)) (n := (120 * ((pp1 + 1 + 1) - pp) + 14)) (by omega) (by omega) ?_
              exact ih1 (pp1 + 1 + 1) bb1 q_13 (i + 1) 0 xa1 L9 F9 _ _ _ (⟨by omega, by omega, by omega, by omega, by omega, by omega, hT⟩) (Or.inr ⟨by omega, by omega⟩) (⟨hr2.1.tr hx9, hm9_0.1, _, hm9_0.2⟩) (fun _ => ⟨hr9.1, isE_5 hm9_0.1 (by omega) hm9_0.2 (by omega) (by omega) (isE_im hx9 _ (Nat.le_refl _) hr9.2)⟩) (hP.subT [1, 2, 3, 0] rfl) (hD.subT [1, 2, 3, 0] (by decide) rfl) hS (lv_sub hl [2, 0, 3] rfl)
            · replace hPc := hP.subF (f' := [(m9, .inr (23, mA mr mv vf xl (nI zs) 0 xa1 (nI T) (nI (pp1 + 1)) xi xt xn (nI ns) (nI vv) (nI bb1))), (mr 5, .inl (kI, 3002, .inl fk)), (mr 6, .inl (kI, 3002, .inl fa))]) [2, 3, 0] rfl
              replace hDc := hD.subF (f' := [(m9, .inr (23, mA mr mv vf xl (nI zs) 0 xa1 (nI T) (nI (pp1 + 1)) xi xt xn (nI ns) (nI vv) (nI bb1))), (mr 5, .inl (kI, 3002, .inl fk)), (mr 6, .inl (kI, 3002, .inl fa))]) [2, 3, 0] (by decide) rfl
              replace hKc := hK.sub (tys' := [(kI, .int)]) [0] rfl
              replace hFc := va_freeT (wc := [(m9, .inr (23, mA mr mv vf xl (nI zs) 0 xa1 (nI T) (nI (pp1 + 1)) xi xt xn (nI ns) (nI vv) (nI bb1))), (mr 5, .inl (kI, 3002, .inl fk)), (mr 6, .inl (kI, 3002, .inl fa))]) hD hS hA [2, 3, 0] rfl
              refine va_calli (va_runV (As := []) (rest := [.ref q_13]) ⟨hx, hb, hml, hown, hts⟩ (c_rnmN l dC dI m9 mr mv vf xl xa1 xi xt xn zs T (pp1 + 1) ns vv bb1 kI fk fa H.size hT hp_12 hk0 hk_15) (cwV 0 hts g_c_xsu_c_rnmN_80 rfl rfl rfl (by decide +kernel) ⟨by show 2 + 1 ≤ 5 + 12 * k; omega, by show 8 + (1 + 11) + (43) ≤ 107 + 279 * k; omega⟩) ⟨fun a U g mk q => by obtain ⟨q0, q1, qP, qK, qD⟩ := q; exact ⟨q0, q1, qP, va_K.moved (u := U) (U := U.calling g mk a) (Vm.Alike.refl U.vm) qK, qD⟩, va_recv hKc hPc (ci := 23) (q0 := 0) rfl rfl, fun U hU hW => ⟨rfl, by rw [hU], by rw [hU]; exact hPc, va_K.moved hW.alike hKc, hDc.weaken (fun _ _ _ _ => trivial)⟩⟩ rfl rfl hl.1 rfl (lv_room (Nat.le_of_ble_eq_true rfl)) dX23_suffixed_80 ⟨(show ((8 * (pp1 - pp) + 1) + 1) + 0 ≤ (8 * (T - pp) + 5) by omega), (show ((120 * (pp1 - pp) + 14) + 14) + 0 ≤ (120 * (T - pp) + 320) by omega)⟩) hS (fun q _ h => hFc q h) hFc (fun r_18 u tS H1 locs ht hvm hw hB hz1 hk1 hS => ?_)
              obtain ⟨ff_16, xa_17, hf18_0, hP1, hK1, hD1⟩ := hB
              rw [ht] at hP1
              replace hK1 := va_K.moved hvm.symm hK1
              obtain ⟨hPj, hDj⟩ := va_joinT (wr := [(mr 8, .inl (kL, 3002, .inr (.inl fn))), (q_13, .inr (15, [.int 14, .int (nI pp), .int 0, .int 0, .int 0, .int 0, .long 0, .int 0, .ref x1, .null, .null, .int 0, .null, .null]))]) (w1 := [(m9, .inr (23, mA mr mv vf xl (nI zs) ff_16 xa_17 (nI T) (nI (pp1 + 1)) xi xt xn (nI ns) (nI vv) (nI bb1))), (mr 5, .inl (kI, 3002, .inl fk)), (mr 6, .inl (kI, 3002, .inl fa))]) hP hD [2, 3, 0] [1, 4] rfl rfl (by decide) (by decide) hk1 hFc hP1 hD1
              replace hP := hPj
              replace hD := hDj
              clear hPj hDj
              replace hK := hK.app hK1
              generalize H1 = H at hP hS ⊢
              replace hP : va_P (dC, dI) vwCl (([(mr 8, .inl (kL, 3002, .inr (.inl fn))), (q_13, .inr (15, [.int 14, .int (nI pp), .int 0, .int 0, .int 0, .int 0, .long 0, .int 0, .ref x1, .null, .null, .int 0, .null, .null])), (m9, .inr (23, mA mr mv vf xl (nI zs) ff_16 xa_17 (nI T) (nI (pp1 + 1)) xi xt xn (nI ns) (nI vv) (nI bb1))), (mr 5, .inl (kI, 3002, .inl fk)), (mr 6, .inl (kI, 3002, .inl fa))] : va_W) ++ (sT L1 F1)) H := hP
              replace hD : va_D A (([(mr 8, .inl (kL, 3002, .inr (.inl fn))), (q_13, .inr (15, [.int 14, .int (nI pp), .int 0, .int 0, .int 0, .int 0, .long 0, .int 0, .ref x1, .null, .null, .int 0, .null, .null])), (m9, .inr (23, mA mr mv vf xl (nI zs) ff_16 xa_17 (nI T) (nI (pp1 + 1)) xi xt xn (nI ns) (nI vv) (nI bb1))), (mr 5, .inl (kI, 3002, .inl fk)), (mr 6, .inl (kI, 3002, .inl fa))] : va_W) ++ (sT L1 F1)) := hD
              replace hK : va_K (dC, dI) vwCl [(kI, .int), (kL, .long), (kE, .object RX15), (kI, .int)] s := hK
              replace hK := hK.sub (tys' := [(kI, .int), (kL, .long), (kE, .object RX15)]) [0, 1, 2] rfl
              clear hz1 hk1 hPc hDc hKc hFc hP1 hD1 hK1
              refine va_put (D := (dC, dI)) (ci := 15) (v := .int r_18) (ty := .int) (C := RX15) (T := TX15) (N := 14) hx hb hts in_c_xsu_X15 tyX15 tyX15_ok nmX15 hown hK hP hD hS 1 rfl rfl 3 (by decide) (hts (.fieldLink RX23 362 "OwnedPlacesModel$Exp" "name" "I") (wm_c_xsu 14 rfl)) (fun _ h9 => h9) rfl (by decide +kernel) rfl rfl (Nat.le_of_ble_eq_true rfl) dX23_suffixed_83 (fun H locs hP hD hS => ?_)
              replace hP : va_P (dC, dI) vwCl (([(mr 8, .inl (kL, 3002, .inr (.inl fn))), (q_13, .inr (15, [.int 14, .int (nI pp), .int 0, .int r_18, .int 0, .int 0, .long 0, .int 0, .ref x1, .null, .null, .int 0, .null, .null])), (m9, .inr (23, mA mr mv vf xl (nI zs) ff_16 xa_17 (nI T) (nI (pp1 + 1)) xi xt xn (nI ns) (nI vv) (nI bb1))), (mr 5, .inl (kI, 3002, .inl fk)), (mr 6, .inl (kI, 3002, .inl fa))] : va_W) ++ (sT L1 F1)) H := hP
              replace hD : va_D A (([(mr 8, .inl (kL, 3002, .inr (.inl fn))), (q_13, .inr (15, [.int 14, .int (nI pp), .int 0, .int r_18, .int 0, .int 0, .long 0, .int 0, .ref x1, .null, .null, .int 0, .null, .null])), (m9, .inr (23, mA mr mv vf xl (nI zs) ff_16 xa_17 (nI T) (nI (pp1 + 1)) xi xt xn (nI ns) (nI vv) (nI bb1))), (mr 5, .inl (kI, 3002, .inl fk)), (mr 6, .inl (kI, 3002, .inl fa))] : va_W) ++ (sT L1 F1)) := hD
              refine lv_aload_n hx hb dX23_suffixed_86 rfl (lv_at hl 0 rfl) ?_
              refine lv_astore_n (lv' := [(1, .ref q_13), (3, .ref q_13), (2, .int (nI (i + 1))), (0, .ref m9)]) hx hb dX23_suffixed_87 rfl hl (by decide) rfl (fun ls hl => ?_)
              refine lv_goto (tgt := 7) hx hb dX23_suffixed_88 (by decide) ?_
              replace hP : va_P (dC, dI) vwCl ((([(mr 8, .inl (kL, 3002, .inr (.inl fn))), (m9, .inr (23, mA mr mv vf xl (nI zs) ff_16 xa_17 (nI T) (nI (pp1 + 1)) xi xt xn (nI ns) (nI vv) (nI bb1))), (mr 5, .inl (kI, 3002, .inl fk)), (mr 6, .inl (kI, 3002, .inl fa))] : va_W) ++ ([(q_13, .inr (15, [.int 14, .int (nI pp), .int 0, .int r_18, .int 0, .int 0, .long 0, .int 0, .ref x1, .null, .null, .int 0, .null, .null]))] : va_W)) ++ sT L1 F1) H := hP.subT (f' := [(mr 8, .inl (kL, 3002, .inr (.inl fn))), (m9, .inr (23, mA mr mv vf xl (nI zs) ff_16 xa_17 (nI T) (nI (pp1 + 1)) xi xt xn (nI ns) (nI vv) (nI bb1))), (mr 5, .inl (kI, 3002, .inl fk)), (mr 6, .inl (kI, 3002, .inl fa)), (q_13, .inr (15, [.int 14, .int (nI pp), .int 0, .int r_18, .int 0, .int 0, .long 0, .int 0, .ref x1, .null, .null, .int 0, .null, .null]))]) [0, 2, 3, 4, 1] rfl
              replace hD : va_D A ((([(mr 8, .inl (kL, 3002, .inr (.inl fn))), (m9, .inr (23, mA mr mv vf xl (nI zs) ff_16 xa_17 (nI T) (nI (pp1 + 1)) xi xt xn (nI ns) (nI vv) (nI bb1))), (mr 5, .inl (kI, 3002, .inl fk)), (mr 6, .inl (kI, 3002, .inl fa))] : va_W) ++ ([(q_13, .inr (15, [.int 14, .int (nI pp), .int 0, .int r_18, .int 0, .int 0, .long 0, .int 0, .ref x1, .null, .null, .int 0, .null, .null]))] : va_W)) ++ sT L1 F1) := hD.subT (f' := [(mr 8, .inl (kL, 3002, .inr (.inl fn))), (m9, .inr (23, mA mr mv vf xl (nI zs) ff_16 xa_17 (nI T) (nI (pp1 + 1)) xi xt xn (nI ns) (nI vv) (nI bb1))), (mr 5, .inl (kI, 3002, .inl fk)), (mr 6, .inl (kI, 3002, .inl fa)), (q_13, .inr (15, [.int 14, .int (nI pp), .int 0, .int r_18, .int 0, .int 0, .long 0, .int 0, .ref x1, .null, .null, .int 0, .null, .null]))]) [0, 2, 3, 4, 1] (by decide) rfl
              obtain ⟨L9, F9, hx9, hm9, hP, hD⟩ := st_fileL [(q_13, .inr (15, [.int 14, .int (nI pp), .int 0, .int r_18, .int 0, .int 0, .long 0, .int 0, .ref x1, .null, .null, .int 0, .null, .null]))] hP hD
              have hm9_0 := hm9 _ (List.mem_of_getElem? (i := 0) rfl)
              refine W.widen (k := (8 * ((pp1 + 1) - pp) + 1)) (n := (120 * ((pp1 + 1) - pp) + 14)) (by omega) (by omega) ?_
              exact ih1 (pp1 + 1) bb1 q_13 (i + 1) ff_16 xa_17 L9 F9 _ _ _ (⟨by omega, by omega, by omega, by omega, by omega, by omega, hT⟩) (Or.inl hf18_0) (⟨hr2.1.tr hx9, hm9_0.1, _, hm9_0.2⟩) (fun q9 => absurd q9 hf18_0) (hP.subT [1, 2, 3, 0] rfl) (hD.subT [1, 2, 3, 0] (by decide) rfl) hS (lv_sub hl [2, 0, 3] rfl)
        · replace hPc := hP.subF (f' := [(m9, .inr (23, mA mr mv vf xl (nI zs) 0 xa1 (nI T) (nI pp1) xi xt xn (nI ns) (nI vv) (nI bb1))), (mr 5, .inl (kI, 3002, .inl fk))]) [3, 0] rfl
          replace hDc := hD.subF (f' := [(m9, .inr (23, mA mr mv vf xl (nI zs) 0 xa1 (nI T) (nI pp1) xi xt xn (nI ns) (nI vv) (nI bb1))), (mr 5, .inl (kI, 3002, .inl fk))]) [3, 0] (by decide) rfl
          replace hKc := hK.sub (tys' := [(kI, .int)]) [0] rfl
          replace hFc := va_freeT (wc := [(m9, .inr (23, mA mr mv vf xl (nI zs) 0 xa1 (nI T) (nI pp1) xi xt xn (nI ns) (nI vv) (nI bb1))), (mr 5, .inl (kI, 3002, .inl fk))]) hD hS hA [3, 0] rfl
          refine va_calli (va_runV (As := [.int 56]) (rest := []) ⟨hx, hb, hml, hown, hts⟩ (c_risN l dC dI m9 mr mv vf xl xa1 xi xt xn zs T pp1 ns vv bb1 kI fk fa 0 56 H.size hT hr0.2.2.1 hk_5) (cwV 1 hts g_c_xsu_c_risN_17 rfl rfl rfl (by decide +kernel) ⟨by show 0 + 1 ≤ 5 + 12 * k; omega, by show 8 + (2 + 11) + (0) ≤ 107 + 279 * k; omega⟩) ⟨fun a U g mk q => by obtain ⟨q0, q1, qP, qK, qD⟩ := q; exact ⟨q0, q1, qP, va_K.moved (u := U) (U := U.calling g mk a) (Vm.Alike.refl U.vm) qK, qD⟩, va_recv hKc hPc (ci := 23) (q0 := 0) rfl rfl, fun U hU hW => ⟨rfl, by rw [hU], by rw [hU]; exact hPc, va_K.moved hW.alike hKc, hDc.weaken (fun _ _ _ _ => trivial)⟩⟩ rfl rfl hl.1 rfl (lv_room (Nat.le_of_ble_eq_true rfl)) dX23_suffixed_17 ⟨(show (8 * (pp1 - pp) + 1) + 0 ≤ (8 * (T - pp) + 5) by omega), (show (120 * (pp1 - pp) + 14) + 0 ≤ (120 * (T - pp) + 320) by omega)⟩) hS (fun q _ h => hFc q h) hFc (fun r_6 u tS H1 locs ht hvm hw hB hz1 hk1 hS => ?_)
          obtain ⟨hP1, hK1, hD1⟩ := hB
          rw [ht] at hP1
          replace hK1 := va_K.moved hvm.symm hK1
          obtain ⟨hPj, hDj⟩ := va_joinT (wr := [(mr 6, .inl (kI, 3002, .inl fa)), (mr 8, .inl (kL, 3002, .inr (.inl fn)))]) (w1 := [(m9, .inr (23, mA mr mv vf xl (nI zs) 0 xa1 (nI T) (nI pp1) xi xt xn (nI ns) (nI vv) (nI bb1))), (mr 5, .inl (kI, 3002, .inl fk))]) hP hD [3, 0] [1, 2] rfl rfl (by decide) (by decide) hk1 hFc hP1 hD1
          replace hP := hPj
          replace hD := hDj
          clear hPj hDj
          replace hK := hK.app hK1
          generalize H1 = H at hP hS ⊢
          replace hP : va_P (dC, dI) vwCl (([(mr 6, .inl (kI, 3002, .inl fa)), (mr 8, .inl (kL, 3002, .inr (.inl fn))), (m9, .inr (23, mA mr mv vf xl (nI zs) 0 xa1 (nI T) (nI pp1) xi xt xn (nI ns) (nI vv) (nI bb1))), (mr 5, .inl (kI, 3002, .inl fk))] : va_W) ++ (sT L1 F1)) H := hP
          replace hD : va_D A (([(mr 6, .inl (kI, 3002, .inl fa)), (mr 8, .inl (kL, 3002, .inr (.inl fn))), (m9, .inr (23, mA mr mv vf xl (nI zs) 0 xa1 (nI T) (nI pp1) xi xt xn (nI ns) (nI vv) (nI bb1))), (mr 5, .inl (kI, 3002, .inl fk))] : va_W) ++ (sT L1 F1)) := hD
          replace hK : va_K (dC, dI) vwCl [(kI, .int), (kL, .long), (kE, .object RX15), (kI, .int)] s := hK
          replace hK := hK.sub (tys' := [(kI, .int), (kL, .long), (kE, .object RX15)]) [0, 1, 2] rfl
          clear hz1 hk1 hPc hDc hKc hFc hP1 hD1 hK1
          obtain rfl : r_6 = 0 := hw
          refine lv_if_eq (tgt := 91) hx hb dX23_suffixed_20 (by decide) (fun _ => ?_) (fun c_7 => absurd (by decide) c_7)
          refine lv_aload_n hx hb dX23_suffixed_91 rfl (lv_at hl 1 rfl) ?_
          refine W.grow (fun hgs0 hgs1 => ?_)
          have hP9 := hP.subT (f' := [(m9, .inr (23, mA mr mv vf xl (nI zs) 0 xa1 (nI T) (nI pp1) xi xt xn (nI ns) (nI vv) (nI bb1))), (mr 5, .inl (kI, 3002, .inl fk)), (mr 6, .inl (kI, 3002, .inl fa)), (mr 8, .inl (kL, 3002, .inr (.inl fn)))]) [2, 3, 0, 1] rfl
          have hD9 := hD.subT (f' := [(m9, .inr (23, mA mr mv vf xl (nI zs) 0 xa1 (nI T) (nI pp1) xi xt xn (nI ns) (nI vv) (nI bb1))), (mr 5, .inl (kI, 3002, .inl fk)), (mr 6, .inl (kI, 3002, .inl fa)), (mr 8, .inl (kL, 3002, .inr (.inl fn)))]) [2, 3, 0, 1] (by decide) rfl
          have hK9 := hK.sub (tys' := [(kI, .int), (kL, .long), (kE, .object RX15)]) [0, 1, 2] rfl
          refine W.widen (k := (8 * (T - pp) + 5)) (n := (120 * (T - pp) + 320)) (by omega) (by omega) ?_
          subst hQ1
          exact W.aret hx hb hr (Or.inl ⟨_, rfl⟩) (Or.inr ⟨x1, rfl⟩) (fun tS ht hW => ⟨⟨(), x1, rfl, trivial, L1, F1, 0, xa1, pp1, bb1, hr2, ⟨by omega, by omega, by omega, by omega⟩, (fun _ => ⟨hr9.1, isE_im exS.rf _ (by have := hr1.resolve_left (fun q => q rfl); omega) hr9.2⟩), by rw [ht]; exact ⟨by omega, by omega⟩, by rw [ht]; exact hP9, va_K.moved hW.alike hK9, hD9⟩, hS.F ht⟩) hS.2.2 dX23_suffixed_92
      · replace hPc := hP.subF (f' := [(m9, .inr (23, mA mr mv vf xl (nI zs) ff1 xa1 (nI T) (nI pp1) xi xt xn (nI ns) (nI vv) (nI bb1)))]) [0] rfl
        replace hDc := hD.subF (f' := [(m9, .inr (23, mA mr mv vf xl (nI zs) ff1 xa1 (nI T) (nI pp1) xi xt xn (nI ns) (nI vv) (nI bb1)))]) [0] (by decide) rfl
        replace hKc := hK.sub (tys' := []) [] rfl
        replace hFc := va_freeT (wc := [(m9, .inr (23, mA mr mv vf xl (nI zs) ff1 xa1 (nI T) (nI pp1) xi xt xn (nI ns) (nI vv) (nI bb1)))]) hD hS hA [0] rfl
        refine va_calli (va_runV (As := []) (rest := []) ⟨hx, hb, hml, hown, hts⟩ (c_rokB l dC dI m9 mr mv vf xl xa1 xi xt xn zs T pp1 ns vv bb1 kI fk fa ff1 H.size hz_2) (cwV 0 hts g_c_xsu_c_rokB_8 rfl rfl rfl (by decide +kernel) ⟨by show 0 + 1 ≤ 5 + 12 * k; omega, by show 8 + (1 + 11) + (0) ≤ 107 + 279 * k; omega⟩) ⟨fun a U g mk q => by obtain ⟨q0, q1, qP, qK, qD⟩ := q; exact ⟨q0, q1, qP, va_K.moved (u := U) (U := U.calling g mk a) (Vm.Alike.refl U.vm) qK, qD⟩, va_recv hKc hPc (ci := 23) (q0 := 0) rfl rfl, fun U hU hW => ⟨rfl, by rw [hU], by rw [hU]; exact hPc, va_K.moved hW.alike hKc, hDc.weaken (fun _ _ _ _ => trivial)⟩⟩ rfl rfl hl.1 rfl (lv_room (Nat.le_of_ble_eq_true rfl)) dX23_suffixed_8 ⟨(show (8 * (pp1 - pp) + 1) + 0 ≤ (8 * (T - pp) + 5) by omega), (show (120 * (pp1 - pp) + 14) + 0 ≤ (120 * (T - pp) + 320) by omega)⟩) hS (fun q _ h => hFc q h) hFc (fun r_3 u tS H1 locs ht hvm hw hB hz1 hk1 hS => ?_)
        obtain ⟨hP1, hK1, hD1⟩ := hB
        rw [ht] at hP1
        replace hK1 := va_K.moved hvm.symm hK1
        obtain ⟨hPj, hDj⟩ := va_joinT (wr := [(mr 5, .inl (kI, 3002, .inl fk)), (mr 6, .inl (kI, 3002, .inl fa)), (mr 8, .inl (kL, 3002, .inr (.inl fn)))]) (w1 := [(m9, .inr (23, mA mr mv vf xl (nI zs) ff1 xa1 (nI T) (nI pp1) xi xt xn (nI ns) (nI vv) (nI bb1)))]) hP hD [0] [1, 2, 3] rfl rfl (by decide) (by decide) hk1 hFc hP1 hD1
        replace hP := hPj
        replace hD := hDj
        clear hPj hDj
        generalize H1 = H at hP hS ⊢
        replace hP : va_P (dC, dI) vwCl (([(mr 5, .inl (kI, 3002, .inl fk)), (mr 6, .inl (kI, 3002, .inl fa)), (mr 8, .inl (kL, 3002, .inr (.inl fn))), (m9, .inr (23, mA mr mv vf xl (nI zs) ff1 xa1 (nI T) (nI pp1) xi xt xn (nI ns) (nI vv) (nI bb1)))] : va_W) ++ (sT L1 F1)) H := hP
        replace hD : va_D A (([(mr 5, .inl (kI, 3002, .inl fk)), (mr 6, .inl (kI, 3002, .inl fa)), (mr 8, .inl (kL, 3002, .inr (.inl fn))), (m9, .inr (23, mA mr mv vf xl (nI zs) ff1 xa1 (nI T) (nI pp1) xi xt xn (nI ns) (nI vv) (nI bb1)))] : va_W) ++ (sT L1 F1)) := hD
        replace hK : va_K (dC, dI) vwCl [(kI, .int), (kL, .long), (kE, .object RX15)] s := hK
        clear hz1 hk1 hPc hDc hKc hFc hP1 hD1 hK1
        obtain rfl : r_3 = 0 := hw
        refine lv_if_eq (tgt := 91) hx hb dX23_suffixed_11 (by decide) (fun _ => ?_) (fun c_4 => absurd (by decide) c_4)
        refine lv_aload_n hx hb dX23_suffixed_91 rfl (lv_at hl 1 rfl) ?_
        refine W.grow (fun hgs0 hgs1 => ?_)
        have hP9 := hP.subT (f' := [(m9, .inr (23, mA mr mv vf xl (nI zs) ff1 xa1 (nI T) (nI pp1) xi xt xn (nI ns) (nI vv) (nI bb1))), (mr 5, .inl (kI, 3002, .inl fk)), (mr 6, .inl (kI, 3002, .inl fa)), (mr 8, .inl (kL, 3002, .inr (.inl fn)))]) [3, 0, 1, 2] rfl
        have hD9 := hD.subT (f' := [(m9, .inr (23, mA mr mv vf xl (nI zs) ff1 xa1 (nI T) (nI pp1) xi xt xn (nI ns) (nI vv) (nI bb1))), (mr 5, .inl (kI, 3002, .inl fk)), (mr 6, .inl (kI, 3002, .inl fa)), (mr 8, .inl (kL, 3002, .inr (.inl fn)))]) [3, 0, 1, 2] (by decide) rfl
        have hK9 := hK.sub (tys' := [(kI, .int), (kL, .long), (kE, .object RX15)]) [0, 1, 2] rfl
        refine W.widen (k := (8 * (T - pp) + 5)) (n := (120 * (T - pp) + 320)) (by omega) (by omega) ?_
        subst hQ1
        exact W.aret hx hb hr (Or.inl ⟨_, rfl⟩) (Or.inr ⟨x1, rfl⟩) (fun tS ht hW => ⟨⟨(), x1, rfl, trivial, L1, F1, ff1, xa1, pp1, bb1, hr2, ⟨by omega, by omega, by omega, by omega⟩, (fun q9 => absurd q9 hz_2), by rw [ht]; exact ⟨by omega, by omega⟩, by rw [ht]; exact hP9, va_K.moved hW.alike hK9, hD9⟩, hS.F ht⟩) hS.2.2 dX23_suffixed_92
  refine W.widen (k := (8 * (pp8 - pp) + 1)) (n := (120 * (pp8 - pp) + 14)) (by omega) (by omega) ?_
  exact key1 (T + 1 - pp8 + 1) pp8 bb8 r_1 0 ff8 xa8 L8 F8 _ _ _ (⟨by omega, by omega, by omega, by omega, by omega, by omega, hT⟩) (Or.inr ⟨by omega, by omega⟩) hf1_0 hf1_2 (hP.subT [0, 1, 2, 3] rfl) (hD.subT [0, 1, 2, 3] (by decide) rfl) hS (lv_sub hl [0, 1, 2] rfl)
