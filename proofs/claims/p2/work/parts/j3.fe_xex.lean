set_option maxRecDepth 20000 in
theorem g_c_xex_c_xc1_2 : GoodIn wp_c_xex (wsV RX23 333 RX23 yX23_chain wp_c_xc1) := goodIn_app (goodIn_f [.methodLink RX23 333 yX23_chain, .instanceMethod yX23_chain, .selects RX23 yX23_chain yX23_chain, .initialized RX23] [1, 2, 3, 4] rfl (by decide +kernel)) (goodIn_app (goodIn_f (wf_c_xc1) [98, 86, 87, 88, 4, 1, 2, 3, 25, 26, 27, 28, 29, 16, 14, 99, 100, 101, 30, 31, 32, 33, 34, 35, 36, 37, 38, 39, 40, 85, 6, 7, 8, 9, 10, 11, 12, 13, 23, 15, 77, 48, 49, 50, 51, 52, 53, 54, 5, 17, 18, 19, 20, 21, 22, 24, 41, 42, 43, 44, 0, 45, 46, 47, 55, 56, 57, 58, 59, 60, 61, 62, 63, 64, 65, 66, 67, 68, 69, 70, 71, 72, 73, 74, 75, 76, 78, 79, 80, 81, 82, 83, 84, 89, 90, 91, 92, 93, 94, 95, 96, 97] rfl wg_c_xc1) (goodIn_app (goodIn_sub in_c_xex_X23 gd_X23) (goodIn_app (goodIn_sub in_c_xex_X15 gd_X15) (goodIn_n))))
set_option maxHeartbeats 4000000 in
set_option maxRecDepth 100000 in
theorem c_xex (l : Launch) (dC : Nat → ClassId) (dI : Nat → Nat → Nat) (k : Nat) (ih : ∀ k1 : Nat, k = k1 + 1 → IH_gx l dC dI k1) : st_c_xex l dC dI k := by
  intro m9 mr mv vf xl xa xi xt xn zs T pp ns vv bb kI fk fa kL kE fn L F sl sz hT hp hk0 hbb hnk
  refine Met.ofW (cc := cX23_exp) (maxL := 1) (ret := (some (.object "OwnedPlacesModel$Exp"))) (by decide) rfl ?_
  intro p e s m args below meth c s₁ B hml hv
  obtain ⟨rfl, hsz, hP, hK, hD0, hpre0, hpre1⟩ := hv
  have hx := B.exec
  have hb := B.bytes
  have hr := B.returns
  have hts := atoms_spec (ws := wp_c_xex) B.pre
  have hown : s.vm.findClass RX23 = some m.cls := findClass_of_methodNamed B.named
  have hlocks := B.notSynchronized
  subst hsz
  replace hD := hD0.self (sz := s.heap.size)
  generalize hAe : va_A (([(m9, .inr (23, mA mr mv vf xl (nI zs) 0 xa (nI T) (nI pp) xi xt xn (nI ns) (nI vv) (nI bb))), (mr 5, .inl (kI, 3002, .inl fk)), (mr 6, .inl (kI, 3002, .inl fa)), (mr 8, .inl (kL, 3002, .inr (.inl fn)))] : va_W) ++ (sT L F)) s.heap.size = A at hD ⊢
  have hA : ∀ q : Nat, s.heap.size ≤ q → A q := fun q h => by rw [← hAe]; exact Or.inr h
  have hS : va_S A s.heap s.heap [] := va_S.rf
  replace hP : va_P (dC, dI) vwCl (([(m9, .inr (23, mA mr mv vf xl (nI zs) 0 xa (nI T) (nI pp) xi xt xn (nI ns) (nI vv) (nI bb))), (mr 5, .inl (kI, 3002, .inl fk)), (mr 6, .inl (kI, 3002, .inl fa)), (mr 8, .inl (kL, 3002, .inr (.inl fn)))] : va_W) ++ (sT L F)) s.heap := hP
  replace hl := lv_entry ([.ref m9]) (n := 1) (Nat.le_of_ble_eq_true rfl)
  rw [lg_entry_eq]
  generalize (lg_sl ([.ref m9]) ++ List.replicate (1 - (lg_sl ([.ref m9])).length) Slot.unset).toArray = ls at hl ⊢
  replace hl : lv_has ls 1 [(0, .ref m9)] := hl
  have hns := hpre0
  subst hpre1
  refine lv_aload_n hx hb dX23_exp_0 rfl (lv_at hl 0 rfl) ?_
  refine lv_iconst (v := 1) hx hb dX23_exp_1 (by decide) ?_
  replace hPc := hP.subT (f' := [(m9, .inr (23, mA mr mv vf xl (nI zs) 0 xa (nI T) (nI pp) xi xt xn (nI ns) (nI vv) (nI bb))), (mr 5, .inl (kI, 3002, .inl fk)), (mr 6, .inl (kI, 3002, .inl fa)), (mr 8, .inl (kL, 3002, .inr (.inl fn)))]) [0, 1, 2, 3] rfl
  replace hDc := hD.subT (f' := [(m9, .inr (23, mA mr mv vf xl (nI zs) 0 xa (nI T) (nI pp) xi xt xn (nI ns) (nI vv) (nI bb))), (mr 5, .inl (kI, 3002, .inl fk)), (mr 6, .inl (kI, 3002, .inl fa)), (mr 8, .inl (kL, 3002, .inr (.inl fn)))]) [0, 1, 2, 3] (by decide) rfl
  replace hKc := hK.sub (tys' := [(kI, .int), (kL, .long), (kE, .object RX15)]) [0, 1, 2] rfl
  replace hFc := va_freeB (wc := [(m9, .inr (23, mA mr mv vf xl (nI zs) 0 xa (nI T) (nI pp) xi xt xn (nI ns) (nI vv) (nI bb))), (mr 5, .inl (kI, 3002, .inl fk)), (mr 6, .inl (kI, 3002, .inl fa)), (mr 8, .inl (kL, 3002, .inr (.inl fn)))]) hD hS hA [0, 1, 2, 3] rfl
  refine W.grow (fun hgs0 hgs1 => ?_)
  refine va_callr (va_runV (As := [.int 1]) (rest := []) ⟨hx, hb, hml, hown, hts⟩ (c_xc1 l dC dI k ih m9 mr mv vf xl xa xi xt xn zs T pp ns vv bb kI fk fa kL kE fn L F (slN s.heap) s.heap.size hT hp hk0 hbb (by omega)) (cwV 1 hts g_c_xex_c_xc1_2 rfl rfl rfl (by decide +kernel) ⟨by show 12 + 12 * k + 1 ≤ 13 + 12 * k; omega, by show 8 + (6 + 11) + (277 + 279 * k) ≤ 302 + 279 * k; omega⟩) ⟨fun a U g mk q => by obtain ⟨q0, q1, qP, qK, qD, qx0, qx1⟩ := q; exact ⟨q0, q1, qP, va_K.moved (u := U) (U := U.calling g mk a) (Vm.Alike.refl U.vm) qK, qD, nsM.same (u := U) (U := U.calling g mk a) rfl qx0, qx1⟩, va_recv hKc hPc (ci := 23) (q0 := 0) rfl rfl, fun U hU hW => ⟨rfl, by rw [hU], by rw [hU]; exact hPc, va_K.moved hW.alike hKc, hDc.weaken (fun _ _ _ _ => trivial), nsM.warm hW hns, by rw [hU]⟩⟩ rfl rfl hl.1 rfl (lv_room (Nat.le_of_ble_eq_true rfl)) dX23_exp_2 ⟨(show 0 + (8 * (T - pp) + 8) ≤ (8 * (T - pp) + 8) by omega), (show 0 + (120 * (T - pp) + 360) ≤ (120 * (T - pp) + 360) by omega)⟩) hS (fun q _ h => hFc q h) hFc (fun u r_1 tS H1 locs ht hvm hw hB hz1 hk1 hS => ?_)
  obtain ⟨L0, F0, ff0, xa0, pp0, bb0, hf1_0, hf1_1, hf1_2, hf1_3, hP1, hK1, hD1⟩ := hB
  rw [ht] at hP1
  replace hK1 := va_K.moved hvm.symm hK1
  rw [ht] at hf1_3
  have hgz : H1.size ≤ s.heap.size + (8 * (pp0 - pp) + 3) ∧ slN H1 ≤ slN s.heap + (120 * (pp0 - pp) + 48) := ⟨by have := hf1_3.1; omega, by have := hf1_3.2; omega⟩
  obtain ⟨hPj, hDj⟩ := va_joinB (wr := []) (w1 := [(m9, .inr (23, mA mr mv vf xl (nI zs) ff0 xa0 (nI T) (nI pp0) xi xt xn (nI ns) (nI vv) (nI bb0))), (mr 5, .inl (kI, 3002, .inl fk)), (mr 6, .inl (kI, 3002, .inl fa)), (mr 8, .inl (kL, 3002, .inr (.inl fn)))]) hP hD [0, 1, 2, 3] [] rfl rfl (by decide) (by decide) hk1 hFc hP1 hD1
  replace hP := hPj
  replace hD := hDj
  clear hPj hDj
  replace hK := hK.app hK1
  generalize H1 = H at hP hS hgz ⊢
  replace hP : va_P (dC, dI) vwCl (([(m9, .inr (23, mA mr mv vf xl (nI zs) ff0 xa0 (nI T) (nI pp0) xi xt xn (nI ns) (nI vv) (nI bb0))), (mr 5, .inl (kI, 3002, .inl fk)), (mr 6, .inl (kI, 3002, .inl fa)), (mr 8, .inl (kL, 3002, .inr (.inl fn)))] : va_W) ++ (sT L0 F0)) H := hP
  replace hD : va_D A (([(m9, .inr (23, mA mr mv vf xl (nI zs) ff0 xa0 (nI T) (nI pp0) xi xt xn (nI ns) (nI vv) (nI bb0))), (mr 5, .inl (kI, 3002, .inl fk)), (mr 6, .inl (kI, 3002, .inl fa)), (mr 8, .inl (kL, 3002, .inr (.inl fn)))] : va_W) ++ (sT L0 F0)) := hD
  replace hK : va_K (dC, dI) vwCl [(kI, .int), (kL, .long), (kE, .object RX15), (kI, .int), (kL, .long), (kE, .object RX15)] s := hK
  replace hK := hK.sub (tys' := [(kI, .int), (kL, .long), (kE, .object RX15)]) [0, 1, 2] rfl
  refine W.tight (k := 8 * (pp0 - pp) + 3) (n := 120 * (pp0 - pp) + 48) hgz.1 hgz.2 ?_
  clear hz1 hk1 hPc hDc hKc hFc hP1 hD1 hK1
  refine W.grow (fun hgs0 hgs1 => ?_)
  have hP9 := hP.subT (f' := [(m9, .inr (23, mA mr mv vf xl (nI zs) ff0 xa0 (nI T) (nI pp0) xi xt xn (nI ns) (nI vv) (nI bb0))), (mr 5, .inl (kI, 3002, .inl fk)), (mr 6, .inl (kI, 3002, .inl fa)), (mr 8, .inl (kL, 3002, .inr (.inl fn)))]) [0, 1, 2, 3] rfl
  have hD9 := hD.subT (f' := [(m9, .inr (23, mA mr mv vf xl (nI zs) ff0 xa0 (nI T) (nI pp0) xi xt xn (nI ns) (nI vv) (nI bb0))), (mr 5, .inl (kI, 3002, .inl fk)), (mr 6, .inl (kI, 3002, .inl fa)), (mr 8, .inl (kL, 3002, .inr (.inl fn)))]) [0, 1, 2, 3] (by decide) rfl
  have hK9 := hK.sub (tys' := [(kI, .int), (kL, .long), (kE, .object RX15)]) [0, 1, 2] rfl
  refine W.widen (k := (8 * (T - pp) + 8)) (n := (120 * (T - pp) + 360)) (by omega) (by omega) ?_
  exact W.aret hx hb hr (Or.inl ⟨_, rfl⟩) (Or.inr ⟨r_1, rfl⟩) (fun tS ht hW => ⟨⟨(), r_1, rfl, trivial, L0, F0, ff0, xa0, pp0, bb0, hf1_0, hf1_1, hf1_2, by rw [ht]; exact ⟨by omega, by omega⟩, by rw [ht]; exact hP9, va_K.moved hW.alike hK9, hD9⟩, hS.F ht⟩) hS.2.2 dX23_exp_5
