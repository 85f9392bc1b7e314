set_option maxRecDepth 20000 in
theorem g_c_xc6_c_xuy_6 : GoodIn wp_c_xc6 (wsV RX23 343 RX23 yX23_unary wp_c_xuy) := goodIn_app (goodIn_f [.methodLink RX23 343 yX23_unary, .instanceMethod yX23_unary, .selects RX23 yX23_unary yX23_unary, .initialized RX23] [1, 2, 3, 4] rfl (by decide +kernel)) (goodIn_app (goodIn_f (wf_c_xuy) [89, 6, 7, 8, 9, 10, 11, 12, 13, 25, 26, 27, 28, 29, 4, 16, 14, 15, 23, 30, 31, 32, 33, 34, 35, 36, 37, 38, 39, 40, 1, 2, 3, 81, 90, 91, 92, 93, 94, 59, 19, 20, 21, 22, 60, 61, 62, 95, 85, 5, 17, 18, 24, 41, 42, 43, 44, 45, 46, 47, 48, 49, 50, 51, 52, 53, 54, 55, 56, 57, 58, 63, 64, 65, 66, 67, 68, 69, 70, 71, 72, 73, 74, 75, 76, 77, 78, 79, 80, 82, 83, 84, 86, 87, 88, 96, 97, 98, 0, 99, 100, 101] rfl wg_c_xuy) (goodIn_app (goodIn_sub in_c_xc6_X15 gd_X15) (goodIn_app (goodIn_sub in_c_xc6_X23 gd_X23) (goodIn_n))))
set_option maxHeartbeats 4000000 in
set_option maxRecDepth 100000 in
theorem c_xc6 (l : Launch) (dC : Nat → ClassId) (dI : Nat → Nat → Nat) (k : Nat) (ih : ∀ k1 : Nat, k = k1 + 1 → IH_gx l dC dI k1) : st_c_xc6 l dC dI k := by
  intro m9 mr mv vf xl xa xi xt xn zs T pp ns vv bb kI fk fa kL kE fn L F sl sz hT hp hk0 hbb hnk
  refine Met.ofW (cc := cX23_chain) (maxL := 6) (ret := (some (.object "OwnedPlacesModel$Exp"))) (by decide) rfl ?_
  intro p e s m args below meth c s₁ B hml hv
  obtain ⟨rfl, hsz, hP, hK, hD0, hpre0, hpre1⟩ := hv
  have hx := B.exec
  have hb := B.bytes
  have hr := B.returns
  have hts := atoms_spec (ws := wp_c_xc6) B.pre
  have hown : s.vm.findClass RX23 = some m.cls := findClass_of_methodNamed B.named
  have hlocks := B.notSynchronized
  subst hsz
  replace hD := hD0.self (sz := s.heap.size)
  generalize hAe : va_A (([(m9, .inr (23, mA mr mv vf xl (nI zs) 0 xa (nI T) (nI pp) xi xt xn (nI ns) (nI vv) (nI bb))), (mr 5, .inl (kI, 3002, .inl fk)), (mr 6, .inl (kI, 3002, .inl fa)), (mr 8, .inl (kL, 3002, .inr (.inl fn)))] : va_W) ++ (sT L F)) s.heap.size = A at hD ⊢
  have hA : ∀ q : Nat, s.heap.size ≤ q → A q := fun q h => by rw [← hAe]; exact Or.inr h
  have hS : va_S A s.heap s.heap [] := va_S.rf
  replace hP : va_P (dC, dI) vwCl (([(m9, .inr (23, mA mr mv vf xl (nI zs) 0 xa (nI T) (nI pp) xi xt xn (nI ns) (nI vv) (nI bb))), (mr 5, .inl (kI, 3002, .inl fk)), (mr 6, .inl (kI, 3002, .inl fa)), (mr 8, .inl (kL, 3002, .inr (.inl fn)))] : va_W) ++ (sT L F)) s.heap := hP
  replace hl := lv_entry ([.ref m9, .int 6]) (n := 6) (Nat.le_of_ble_eq_true rfl)
  rw [lg_entry_eq]
  generalize (lg_sl ([.ref m9, .int 6]) ++ List.replicate (6 - (lg_sl ([.ref m9, .int 6])).length) Slot.unset).toArray = ls at hl ⊢
  replace hl : lv_has ls 6 [(0, .ref m9), (1, .int 6)] := hl
  have hns := hpre0
  subst hpre1
  refine lv_iload_n hx hb dX23_chain_0 rfl (lv_at hl 1 rfl) ?_
  refine lv_iconst (v := 5) hx hb dX23_chain_1 (by decide) ?_
  refine lv_icmp_le (tgt := 12) hx hb dX23_chain_2 (by decide) (fun c_1 => absurd c_1 (by decide)) (fun _ => ?_)
  refine lv_aload_n hx hb dX23_chain_5 rfl (lv_at hl 0 rfl) ?_
  replace hPc := hP.subT (f' := [(m9, .inr (23, mA mr mv vf xl (nI zs) 0 xa (nI T) (nI pp) xi xt xn (nI ns) (nI vv) (nI bb))), (mr 5, .inl (kI, 3002, .inl fk)), (mr 6, .inl (kI, 3002, .inl fa)), (mr 8, .inl (kL, 3002, .inr (.inl fn)))]) [0, 1, 2, 3] rfl
  replace hDc := hD.subT (f' := [(m9, .inr (23, mA mr mv vf xl (nI zs) 0 xa (nI T) (nI pp) xi xt xn (nI ns) (nI vv) (nI bb))), (mr 5, .inl (kI, 3002, .inl fk)), (mr 6, .inl (kI, 3002, .inl fa)), (mr 8, .inl (kL, 3002, .inr (.inl fn)))]) [0, 1, 2, 3] (by decide) rfl
  replace hKc := hK.sub (tys' := [(kI, .int), (kL, .long), (kE, .object RX15)]) [0, 1, 2] rfl
  replace hFc := va_freeB (wc := [(m9, .inr (23, mA mr mv vf xl (nI zs) 0 xa (nI T) (nI pp) xi xt xn (nI ns) (nI vv) (nI bb))), (mr 5, .inl (kI, 3002, .inl fk)), (mr 6, .inl (kI, 3002, .inl fa)), (mr 8, .inl (kL, 3002, .inr (.inl fn)))]) hD hS hA [0, 1, 2, 3] rfl
  refine W.grow (fun hgs0 hgs1 => ?_)
  refine va_callr (va_runV (As := []) (rest := []) ⟨hx, hb, hml, hown, hts⟩ (c_xuy l dC dI k ih m9 mr mv vf xl xa xi xt xn zs T pp ns vv bb kI fk fa kL kE fn L F (slN s.heap) s.heap.size hT hp hk0 hbb (by omega)) (cwV 0 hts g_c_xc6_c_xuy_6 rfl rfl rfl (by decide +kernel) ⟨by show 6 + 12 * k + 1 ≤ 7 + 12 * k; omega, by show 8 + (3 + 11) + (130 + 279 * k) ≤ 152 + 279 * k; omega⟩) ⟨fun a U g mk q => by obtain ⟨q0, q1, qP, qK, qD, qx0, qx1⟩ := q; exact ⟨q0, q1, qP, va_K.moved (u := U) (U := U.calling g mk a) (Vm.Alike.refl U.vm) qK, qD, nsM.same (u := U) (U := U.calling g mk a) rfl qx0, qx1⟩, va_recv hKc hPc (ci := 23) (q0 := 0) rfl rfl, fun U hU hW => ⟨rfl, by rw [hU], by rw [hU]; exact hPc, va_K.moved hW.alike hKc, hDc.weaken (fun _ _ _ _ => trivial), nsM.warm hW hns, by rw [hU]⟩⟩ rfl rfl hl.1 rfl (lv_room (Nat.le_of_ble_eq_true rfl)) dX23_chain_6 ⟨(show 0 + (8 * (T - pp) + 7) ≤ (8 * (T - pp) + 8) by omega), (show 0 + (120 * (T - pp) + 340) ≤ (120 * (T - pp) + 360) by omega)⟩) hS (fun q _ h => hFc q h) hFc (fun u r_2 tS H1 locs ht hvm hw hB hz1 hk1 hS => ?_)
  obtain ⟨L1, F1, ff1, xa1, pp1, bb1, hf2_0, hf2_1, hf2_2, hf2_3, hP1, hK1, hD1⟩ := hB
  rw [ht] at hP1
  replace hK1 := va_K.moved hvm.symm hK1
  rw [ht] at hf2_3
  have hgz : H1.size ≤ s.heap.size + (8 * (pp1 - pp) + 3) ∧ slN H1 ≤ slN s.heap + (120 * (pp1 - pp) + 48) := ⟨by have := hf2_3.1; omega, by have := hf2_3.2; omega⟩
  obtain ⟨hPj, hDj⟩ := va_joinB (wr := []) (w1 := [(m9, .inr (23, mA mr mv vf xl (nI zs) ff1 xa1 (nI T) (nI pp1) xi xt xn (nI ns) (nI vv) (nI bb1))), (mr 5, .inl (kI, 3002, .inl fk)), (mr 6, .inl (kI, 3002, .inl fa)), (mr 8, .inl (kL, 3002, .inr (.inl fn)))]) hP hD [0, 1, 2, 3] [] rfl rfl (by decide) (by decide) hk1 hFc hP1 hD1
  replace hP := hPj
  replace hD := hDj
  clear hPj hDj
  replace hK := hK.app hK1
  generalize H1 = H at hP hS hgz ⊢
  replace hP : va_P (dC, dI) vwCl (([(m9, .inr (23, mA mr mv vf xl (nI zs) ff1 xa1 (nI T) (nI pp1) xi xt xn (nI ns) (nI vv) (nI bb1))), (mr 5, .inl (kI, 3002, .inl fk)), (mr 6, .inl (kI, 3002, .inl fa)), (mr 8, .inl (kL, 3002, .inr (.inl fn)))] : va_W) ++ (sT L1 F1)) H := hP
  replace hD : va_D A (([(m9, .inr (23, mA mr mv vf xl (nI zs) ff1 xa1 (nI T) (nI pp1) xi xt xn (nI ns) (nI vv) (nI bb1))), (mr 5, .inl (kI, 3002, .inl fk)), (mr 6, .inl (kI, 3002, .inl fa)), (mr 8, .inl (kL, 3002, .inr (.inl fn)))] : va_W) ++ (sT L1 F1)) := hD
  replace hK : va_K (dC, dI) vwCl [(kI, .int), (kL, .long), (kE, .object RX15), (kI, .int), (kL, .long), (kE, .object RX15)] s := hK
  replace hK := hK.sub (tys' := [(kI, .int), (kL, .long), (kE, .object RX15)]) [0, 1, 2] rfl
  refine W.tight (k := 8 * (pp1 - pp) + 3) (n := 120 * (pp1 - pp) + 48) hgz.1 hgz.2 ?_
  clear hz1 hk1 hPc hDc hKc hFc hP1 hD1 hK1
  refine lv_goto (tgt := 19) hx hb dX23_chain_9 (by decide) ?_
  refine lv_astore_n (lv' := [(2, .ref r_2), (0, .ref m9), (1, .int 6)]) hx hb dX23_chain_19 rfl hl (by decide) rfl (fun ls hl => ?_)
  refine lv_iload_n hx hb dX23_chain_20 rfl (lv_at hl 2 rfl) ?_
  refine lv_iconst (v := 5) hx hb dX23_chain_21 (by decide) ?_
  refine lv_icmp_le (tgt := 27) hx hb dX23_chain_22 (by decide) (fun c_3 => absurd c_3 (by decide)) (fun _ => ?_)
  refine lv_aload_n hx hb dX23_chain_25 rfl (lv_at hl 0 rfl) ?_
  refine W.grow (fun hgs0 hgs1 => ?_)
  have hP9 := hP.subT (f' := [(m9, .inr (23, mA mr mv vf xl (nI zs) ff1 xa1 (nI T) (nI pp1) xi xt xn (nI ns) (nI vv) (nI bb1))), (mr 5, .inl (kI, 3002, .inl fk)), (mr 6, .inl (kI, 3002, .inl fa)), (mr 8, .inl (kL, 3002, .inr (.inl fn)))]) [0, 1, 2, 3] rfl
  have hD9 := hD.subT (f' := [(m9, .inr (23, mA mr mv vf xl (nI zs) ff1 xa1 (nI T) (nI pp1) xi xt xn (nI ns) (nI vv) (nI bb1))), (mr 5, .inl (kI, 3002, .inl fk)), (mr 6, .inl (kI, 3002, .inl fa)), (mr 8, .inl (kL, 3002, .inr (.inl fn)))]) [0, 1, 2, 3] (by decide) rfl
  have hK9 := hK.sub (tys' := [(kI, .int), (kL, .long), (kE, .object RX15)]) [0, 1, 2] rfl
  refine W.widen (k := (8 * (T - pp) + 8)) (n := (120 * (T - pp) + 360)) (by omega) (by omega) ?_
  exact W.aret hx hb hr (Or.inl ⟨_, rfl⟩) (Or.inr ⟨r_2, rfl⟩) (fun tS ht hW => ⟨⟨(), r_2, rfl, trivial, L1, F1, ff1, xa1, pp1, bb1, hf2_0, hf2_1, hf2_2, by rw [ht]; exact ⟨by omega, by omega⟩, by rw [ht]; exact hP9, va_K.moved hW.alike hK9, hD9⟩, hS.F ht⟩) hS.2.2 dX23_chain_26
