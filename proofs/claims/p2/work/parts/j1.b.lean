def wf_c_rblk : List Cond := [.code yX23_behindBlanks cX23_behindBlanks 4 (some .int), .code yX23_at cX23_at 2 (some .int), .fieldLink RX23 1 "OwnedPlacesModel" "size" "I", .fieldLink RX23 7 "OwnedPlacesModel" "text" "[I", .methodLink RX23 11 yX23_at, .instanceMethod yX23_at, .selects RX23 yX23_at yX23_at, .initialized RX23]
def wp_c_rblk : List Cond := wf_c_rblk ++ (wsX230 ++ [])
theorem in_c_rblk_X23 : ∀ w ∈ wsX230, w ∈ wp_c_rblk := fun w h => List.mem_append_right _ (List.mem_append_left _ h)
theorem wg_c_rblk : wf_c_rblk.all goodWord = true := by decide +kernel
theorem wm_c_rblk (k : Nat) {w : Cond} (h : wp_c_rblk[k]? = some w) : w ∈ wp_c_rblk := List.mem_of_getElem? h
set_option maxRecDepth 20000 in
theorem g_c_rblk_c_rat_12 : GoodIn wp_c_rblk (wsV RX23 11 RX23 yX23_at wp_c_rat) := goodIn_app (goodIn_f [.methodLink RX23 11 yX23_at, .instanceMethod yX23_at, .selects RX23 yX23_at yX23_at, .initialized RX23] [4, 5, 6, 7] rfl (by decide +kernel)) (goodIn_app (goodIn_f (wf_c_rat) [1, 2, 3] rfl wg_c_rat) (goodIn_app (goodIn_sub in_c_rblk_X23 gd_X23) (goodIn_n)))
set_option maxRecDepth 20000 in
theorem g_c_rblk_c_rat_22 : GoodIn wp_c_rblk (wsV RX23 11 RX23 yX23_at wp_c_rat) := goodIn_app (goodIn_f [.methodLink RX23 11 yX23_at, .instanceMethod yX23_at, .selects RX23 yX23_at yX23_at, .initialized RX23] [4, 5, 6, 7] rfl (by decide +kernel)) (goodIn_app (goodIn_f (wf_c_rat) [1, 2, 3] rfl wg_c_rat) (goodIn_app (goodIn_sub in_c_rblk_X23 gd_X23) (goodIn_n)))
set_option maxRecDepth 20000 in
theorem g_c_rblk_c_rat_32 : GoodIn wp_c_rblk (wsV RX23 11 RX23 yX23_at wp_c_rat) := goodIn_app (goodIn_f [.methodLink RX23 11 yX23_at, .instanceMethod yX23_at, .selects RX23 yX23_at yX23_at, .initialized RX23] [4, 5, 6, 7] rfl (by decide +kernel)) (goodIn_app (goodIn_f (wf_c_rat) [1, 2, 3] rfl wg_c_rat) (goodIn_app (goodIn_sub in_c_rblk_X23 gd_X23) (goodIn_n)))
set_option maxRecDepth 20000 in
theorem g_c_rblk_c_rat_42 : GoodIn wp_c_rblk (wsV RX23 11 RX23 yX23_at wp_c_rat) := goodIn_app (goodIn_f [.methodLink RX23 11 yX23_at, .instanceMethod yX23_at, .selects RX23 yX23_at yX23_at, .initialized RX23] [4, 5, 6, 7] rfl (by decide +kernel)) (goodIn_app (goodIn_f (wf_c_rat) [1, 2, 3] rfl wg_c_rat) (goodIn_app (goodIn_sub in_c_rblk_X23 gd_X23) (goodIn_n)))
set_option maxRecDepth 20000 in
theorem g_c_rblk_c_rat_58 : GoodIn wp_c_rblk (wsV RX23 11 RX23 yX23_at wp_c_rat) := goodIn_app (goodIn_f [.methodLink RX23 11 yX23_at, .instanceMethod yX23_at, .selects RX23 yX23_at yX23_at, .initialized RX23] [4, 5, 6, 7] rfl (by decide +kernel)) (goodIn_app (goodIn_f (wf_c_rat) [1, 2, 3] rfl wg_c_rat) (goodIn_app (goodIn_sub in_c_rblk_X23 gd_X23) (goodIn_n)))
set_option maxRecDepth 20000 in
theorem g_c_rblk_c_rat_70 : GoodIn wp_c_rblk (wsV RX23 11 RX23 yX23_at wp_c_rat) := goodIn_app (goodIn_f [.methodLink RX23 11 yX23_at, .instanceMethod yX23_at, .selects RX23 yX23_at yX23_at, .initialized RX23] [4, 5, 6, 7] rfl (by decide +kernel)) (goodIn_app (goodIn_f (wf_c_rat) [1, 2, 3] rfl wg_c_rat) (goodIn_app (goodIn_sub in_c_rblk_X23 gd_X23) (goodIn_n)))
set_option maxRecDepth 20000 in
theorem g_c_rblk_c_rat_88 : GoodIn wp_c_rblk (wsV RX23 11 RX23 yX23_at wp_c_rat) := goodIn_app (goodIn_f [.methodLink RX23 11 yX23_at, .instanceMethod yX23_at, .selects RX23 yX23_at yX23_at, .initialized RX23] [4, 5, 6, 7] rfl (by decide +kernel)) (goodIn_app (goodIn_f (wf_c_rat) [1, 2, 3] rfl wg_c_rat) (goodIn_app (goodIn_sub in_c_rblk_X23 gd_X23) (goodIn_n)))
set_option maxRecDepth 20000 in
theorem g_c_rblk_c_rat_98 : GoodIn wp_c_rblk (wsV RX23 11 RX23 yX23_at wp_c_rat) := goodIn_app (goodIn_f [.methodLink RX23 11 yX23_at, .instanceMethod yX23_at, .selects RX23 yX23_at yX23_at, .initialized RX23] [4, 5, 6, 7] rfl (by decide +kernel)) (goodIn_app (goodIn_f (wf_c_rat) [1, 2, 3] rfl wg_c_rat) (goodIn_app (goodIn_sub in_c_rblk_X23 gd_X23) (goodIn_n)))
set_option maxRecDepth 20000 in
theorem g_c_rblk_c_rat_108 : GoodIn wp_c_rblk (wsV RX23 11 RX23 yX23_at wp_c_rat) := goodIn_app (goodIn_f [.methodLink RX23 11 yX23_at, .instanceMethod yX23_at, .selects RX23 yX23_at yX23_at, .initialized RX23] [4, 5, 6, 7] rfl (by decide +kernel)) (goodIn_app (goodIn_f (wf_c_rat) [1, 2, 3] rfl wg_c_rat) (goodIn_app (goodIn_sub in_c_rblk_X23 gd_X23) (goodIn_n)))
set_option maxRecDepth 20000 in
theorem g_c_rblk_c_rat_118 : GoodIn wp_c_rblk (wsV RX23 11 RX23 yX23_at wp_c_rat) := goodIn_app (goodIn_f [.methodLink RX23 11 yX23_at, .instanceMethod yX23_at, .selects RX23 yX23_at yX23_at, .initialized RX23] [4, 5, 6, 7] rfl (by decide +kernel)) (goodIn_app (goodIn_f (wf_c_rat) [1, 2, 3] rfl wg_c_rat) (goodIn_app (goodIn_sub in_c_rblk_X23 gd_X23) (goodIn_n)))
set_option maxRecDepth 20000 in
theorem g_c_rblk_c_rat_128 : GoodIn wp_c_rblk (wsV RX23 11 RX23 yX23_at wp_c_rat) := goodIn_app (goodIn_f [.methodLink RX23 11 yX23_at, .instanceMethod yX23_at, .selects RX23 yX23_at yX23_at, .initialized RX23] [4, 5, 6, 7] rfl (by decide +kernel)) (goodIn_app (goodIn_f (wf_c_rat) [1, 2, 3] rfl wg_c_rat) (goodIn_app (goodIn_sub in_c_rblk_X23 gd_X23) (goodIn_n)))
set_option maxHeartbeats 4000000 in
set_option maxRecDepth 100000 in
theorem c_rblk (l : Launch) (dC : Nat → ClassId) (dI : Nat → Nat → Nat) (m9 : Nat) (mr : Nat → Nat) (mv : Nat → Int32) (vf : Value) (xl xf xa xp xi xt xn xe xv xb : Int32) (zs tk : Nat) (i0 : Nat) (kI : ClassId) (ft : Nat → Int32) (sz : Nat) (hzs : zs ≤ 3000) (hi : i0 ≤ zs) : Met l yX23_behindBlanks wp_c_rblk ({ frames := 1, cells := 0, slots := 0, locals := 21 }) (va_Pc [.ref m9, .int (nI i0)] (fun U => U.heap.size = sz ∧ va_P (dC, dI) vwCl [(m9, .inr (23, mA mr mv vf xl (nI zs) xf xa (nI tk) xp xi xt xn xe xv xb)), (mr 0, .inl (kI, 3000, .inl ft))] U.heap ∧ va_K (dC, dI) vwCl [(kI, .int)] U ∧ va_D (fun _ => True) [(m9, .inr (23, mA mr mv vf xl (nI zs) xf xa (nI tk) xp xi xt xn xe xv xb)), (mr 0, .inl (kI, 3000, .inl ft))])) (va_Qi (fun (r : Int32) (_ : Unit) => ∃ e1 : Nat, r = nI e1 ∧ i0 ≤ e1 ∧ e1 ≤ zs) (fun (_ : Unit) (tS : State) => va_P (dC, dI) vwCl [(m9, .inr (23, mA mr mv vf xl (nI zs) xf xa (nI tk) xp xi xt xn xe xv xb)), (mr 0, .inl (kI, 3000, .inl ft))] tS.heap ∧ va_K (dC, dI) vwCl [(kI, .int)] tS ∧ va_D (va_A [(m9, .inr (23, mA mr mv vf xl (nI zs) xf xa (nI tk) xp xi xt xn xe xv xb)), (mr 0, .inl (kI, 3000, .inl ft))] sz) [(m9, .inr (23, mA mr mv vf xl (nI zs) xf xa (nI tk) xp xi xt xn xe xv xb)), (mr 0, .inl (kI, 3000, .inl ft))]) (va_A [(m9, .inr (23, mA mr mv vf xl (nI zs) xf xa (nI tk) xp xi xt xn xe xv xb)), (mr 0, .inl (kI, 3000, .inl ft))] sz)) 0 0 (va_A [(m9, .inr (23, mA mr mv vf xl (nI zs) xf xa (nI tk) xp xi xt xn xe xv xb)), (mr 0, .inl (kI, 3000, .inl ft))] sz) := by
  refine Met.ofW (cc := cX23_behindBlanks) (maxL := 4) (ret := (some .int)) (by decide) rfl ?_
  intro p e s m args below meth c s₁ B hml hv
  obtain ⟨rfl, hsz, hP, hK, hD0⟩ := hv
  have hx := B.exec
  have hb := B.bytes
  have hr := B.returns
  have hts := atoms_spec (ws := wp_c_rblk) B.pre
  have hown : s.vm.findClass RX23 = some m.cls := findClass_of_methodNamed B.named
  have hlocks := B.notSynchronized
  subst hsz
  have hD := hD0.self (sz := s.heap.size)
  generalize hAe : va_A [(m9, .inr (23, mA mr mv vf xl (nI zs) xf xa (nI tk) xp xi xt xn xe xv xb)), (mr 0, .inl (kI, 3000, .inl ft))] s.heap.size = A at hD ⊢
  have hA : ∀ q : Nat, s.heap.size ≤ q → A q := fun q h => by rw [← hAe]; exact Or.inr h
  have hS : va_S A s.heap s.heap [] := va_S.rf
  have hP : va_P (dC, dI) vwCl [(m9, .inr (23, mA mr mv vf xl (nI zs) xf xa (nI tk) xp xi xt xn xe xv xb)), (mr 0, .inl (kI, 3000, .inl ft))] s.heap := hP
  have hl := lv_entry ([.ref m9, .int (nI i0)]) (n := 4) (Nat.le_of_ble_eq_true rfl)
  rw [lg_entry_eq]
  generalize (lg_sl ([.ref m9, .int (nI i0)]) ++ List.replicate (4 - (lg_sl ([.ref m9, .int (nI i0)])).length) Slot.unset).toArray = ls at hl ⊢
  have hl : lv_has ls 4 [(0, .ref m9), (1, .int (nI i0))] := hl
  refine lv_iload_n hx hb dX23_behindBlanks_0 rfl (lv_at hl 1 rfl) ?_
  refine lv_istore_n (lv' := [(2, .int (nI i0)), (0, .ref m9), (1, .int (nI i0))]) hx hb dX23_behindBlanks_1 rfl hl (by decide) rfl (fun ls hl => ?_)
  refine lv_iconst (v := 1) hx hb dX23_behindBlanks_2 (by decide) ?_
  refine lv_istore_n (lv' := [(3, .int 1), (2, .int (nI i0)), (0, .ref m9), (1, .int (nI i0))]) hx hb dX23_behindBlanks_3 rfl hl (by decide) rfl (fun ls hl => ?_)
  refine W_q (fun Q1 hQ1 => ?_)
  have key1 : ∀ (n1 : Nat) (i : Nat) (mo : Int32) (H : Heap) (locs : List Loc) (ls : Array Slot), (i0 ≤ i ∧ i ≤ zs ∧ 1 ≤ n1) → (mo = 0 ∨ 2 * (zs - i) + 2 ≤ n1) → va_P (dC, dI) vwCl [(m9, .inr (23, mA mr mv vf xl (nI zs) xf xa (nI tk) xp xi xt xn xe xv xb)), (mr 0, .inl (kI, 3000, .inl ft))] H → va_D A [(m9, .inr (23, mA mr mv vf xl (nI zs) xf xa (nI tk) xp xi xt xn xe xv xb)), (mr 0, .inl (kI, 3000, .inl ft))] → va_S A s.heap H locs → lv_has ls 4 [(3, .int mo), (2, .int (nI i)), (0, .ref m9), (1, .int (nI i0))] → W p l e (headSpec wp_c_rblk ({ frames := 1, cells := 0, slots := 0, locals := 21 })).room s m ([.ref m9, .int (nI i0)] : List Value).toArray below meth c H locs 0 0 Q1 (F0 m 4 ls []) := by
    intro n1
    induction n1 with
    | zero => intro i mo H locs ls ha0 ha1; exact absurd ha0 (by omega)
    | succ n1 ih1 =>
      intro i mo H locs ls ha0 ha1 hP hD hS hl
      refine lv_iload_n hx hb dX23_behindBlanks_4 rfl (lv_at hl 0 rfl) ?_
      refine lv_if_eq (tgt := 147) hx hb dX23_behindBlanks_5 (by decide) (fun hm => ?_) (fun hm => ?_)
      · refine lv_iload_n hx hb dX23_behindBlanks_147 rfl (lv_at hl 1 rfl) ?_
        have hP9 := hP.sub (ws' := [(m9, .inr (23, mA mr mv vf xl (nI zs) xf xa (nI tk) xp xi xt xn xe xv xb)), (mr 0, .inl (kI, 3000, .inl ft))]) [0, 1] rfl
        have hD9 := hD.sub (ws' := [(m9, .inr (23, mA mr mv vf xl (nI zs) xf xa (nI tk) xp xi xt xn xe xv xb)), (mr 0, .inl (kI, 3000, .inl ft))]) [0, 1] (by decide) rfl
        have hK9 := hK.sub (tys' := [(kI, .int)]) [0] rfl
        subst hQ1
        exact W.iret (v := nI i) hx hb hr (fun tS ht hW => ⟨⟨(nI i), (), rfl, ⟨i, rfl, by omega, by omega⟩, by rw [ht]; exact hP9, va_K.moved hW.alike hK9, hD9⟩, hS.F ht⟩) hS.2.2 dX23_behindBlanks_148
      · replace ha1 : 2 * (zs - i) + 2 ≤ n1 + 1 := ha1.resolve_left hm
        refine lv_iconst (v := 0) hx hb dX23_behindBlanks_8 (by decide) ?_
        refine lv_istore_n (lv' := [(3, .int 0), (2, .int (nI i)), (0, .ref m9), (1, .int (nI i0))]) hx hb dX23_behindBlanks_9 rfl hl (by decide) rfl (fun ls hl => ?_)
        refine W_q (fun Q2 hQ2 => ?_)
        have key2 : ∀ (n2 : Nat) (j : Nat) (H : Heap) (locs : List Loc) (ls : Array Slot), (j + n2 = zs + 1 ∧ j ≤ zs) → (i ≤ j) → va_P (dC, dI) vwCl [(m9, .inr (23, mA mr mv vf xl (nI zs) xf xa (nI tk) xp xi xt xn xe xv xb)), (mr 0, .inl (kI, 3000, .inl ft))] H → va_D A [(m9, .inr (23, mA mr mv vf xl (nI zs) xf xa (nI tk) xp xi xt xn xe xv xb)), (mr 0, .inl (kI, 3000, .inl ft))] → va_S A s.heap H locs → lv_has ls 4 [(2, .int (nI j)), (3, .int 0), (0, .ref m9), (1, .int (nI i0))] → W p l e (headSpec wp_c_rblk ({ frames := 1, cells := 0, slots := 0, locals := 21 })).room s m ([.ref m9, .int (nI i0)] : List Value).toArray below meth c H locs 0 0 Q2 (F0 m 10 ls []) := by
          intro n2
          induction n2 with
          | zero => intro j H locs ls hb0 hb1; exact absurd hb0 (by omega)
          | succ n2 ih2 =>
            intro j H locs ls hb0 hb1 hP hD hS hl
            refine lv_aload_n hx hb dX23_behindBlanks_10 rfl (lv_at hl 2 rfl) ?_
            refine lv_iload_n hx hb dX23_behindBlanks_11 rfl (lv_at hl 0 rfl) ?_
            have hPc := hP.sub (ws' := [(m9, .inr (23, mA mr mv vf xl (nI zs) xf xa (nI tk) xp xi xt xn xe xv xb)), (mr 0, .inl (kI, 3000, .inl ft))]) [0, 1] rfl
            have hDc := hD.sub (ws' := [(m9, .inr (23, mA mr mv vf xl (nI zs) xf xa (nI tk) xp xi xt xn xe xv xb)), (mr 0, .inl (kI, 3000, .inl ft))]) [0, 1] (by decide) rfl
            have hKc := hK.sub (tys' := [(kI, .int)]) [0] rfl
            have hFc := va_free (wc := [(m9, .inr (23, mA mr mv vf xl (nI zs) xf xa (nI tk) xp xi xt xn xe xv xb)), (mr 0, .inl (kI, 3000, .inl ft))]) hD hS hA [0, 1] rfl
            refine va_calli (va_runV (As := [.int (nI j)]) (rest := []) ⟨hx, hb, hml, hown, hts⟩ (c_rat l dC dI m9 mr mv vf xl xf xa xp xi xt xn xe xv xb zs tk j kI ft H.size hzs (by omega)) (cwV 1 hts g_c_rblk_c_rat_12 rfl rfl rfl (by decide +kernel) ⟨Nat.le_of_ble_eq_true rfl, Nat.le_of_ble_eq_true rfl⟩) ⟨fun a U g mk q => by obtain ⟨q0, q1, qP, qK, qD⟩ := q; exact ⟨q0, q1, qP, va_K.moved (u := U) (U := U.calling g mk a) (Vm.Alike.refl U.vm) qK, qD⟩, va_recv hKc hPc (ci := 23) (q0 := 0) rfl rfl, fun U hU hW => ⟨rfl, by rw [hU], by rw [hU]; exact hPc, va_K.moved hW.alike hKc, hDc.weaken (fun _ _ _ _ => trivial)⟩⟩ rfl rfl hl.1 rfl (lv_room (Nat.le_of_ble_eq_true rfl)) dX23_behindBlanks_12 ⟨(show 0 + 0 ≤ 0 by omega), (show 0 + 0 ≤ 0 by omega)⟩) hS (fun q _ h => hFc q h) hFc (fun r_1 u tS H1 locs ht hvm hw hB hz1 hk1 hS => ?_)
            obtain ⟨hP1, hK1, hD1⟩ := hB
            rw [ht] at hP1
            have hK1 := va_K.moved hvm.symm hK1
            obtain ⟨hP, hD⟩ := va_join (wr := []) (w1 := [(m9, .inr (23, mA mr mv vf xl (nI zs) xf xa (nI tk) xp xi xt xn xe xv xb)), (mr 0, .inl (kI, 3000, .inl ft))]) hP hD [0, 1] [] rfl rfl (by decide) (by decide) hk1 hFc hP1 hD1
            have hK := hK.app hK1
            generalize H1 = H at hP hS ⊢
            have hP : va_P (dC, dI) vwCl [(m9, .inr (23, mA mr mv vf xl (nI zs) xf xa (nI tk) xp xi xt xn xe xv xb)), (mr 0, .inl (kI, 3000, .inl ft))] H := hP
            have hD : va_D A [(m9, .inr (23, mA mr mv vf xl (nI zs) xf xa (nI tk) xp xi xt xn xe xv xb)), (mr 0, .inl (kI, 3000, .inl ft))] := hD
            have hK : va_K (dC, dI) vwCl [(kI, .int), (kI, .int)] s := hK
            have hK := hK.sub (tys' := [(kI, .int)]) [0] rfl
            have hP : va_P (dC, dI) vwCl [(m9, .inr (23, mA mr mv vf xl (nI zs) xf xa (nI tk) xp xi xt xn xe xv xb)), (mr 0, .inl (kI, 3000, .inl ft))] H := hP
            have hD : va_D A [(m9, .inr (23, mA mr mv vf xl (nI zs) xf xa (nI tk) xp xi xt xn xe xv xb)), (mr 0, .inl (kI, 3000, .inl ft))] := hD
            have hr_1 : r_1 = atF ft zs (j) := hw
            refine lv_bipush (v := 9) hx hb dX23_behindBlanks_15 (by decide) ?_
            refine lv_icmp_eq (tgt := 50) hx hb dX23_behindBlanks_17 (by decide) (fun hb1 => ?_) (fun hb1 => ?_)
            · have hj : j < zs := atF_lt (hr_1.symm.trans hb1) (by decide)
              obtain ⟨x_2, ex_2⟩ : ∃ yY : Int32, yY = (nI j) + 1 := ⟨_, rfl⟩
              refine lv_iinc (v := x_2) (lv' := [(2, .int x_2), (3, .int 0), (0, .ref m9), (1, .int (nI i0))]) hx hb dX23_behindBlanks_50 hl (k := 0) rfl (by rw [ex_2]; rfl) (by decide) rfl (fun ls hl => ?_)
              obtain rfl : x_2 = nI (j + 1) := by rw [ex_2]; exact nI_1 j
              have hl : lv_has ls 4 [(2, .int (nI (j + 1))), (3, .int 0), (0, .ref m9), (1, .int (nI i0))] := hl
              refine lv_goto (tgt := 10) hx hb dX23_behindBlanks_53 (by decide) ?_
              exact ih2 (j + 1) _ _ _ (by omega) (by omega) (hP.sub [0, 1] rfl) (hD.sub [0, 1] (by decide) rfl) hS (lv_sub hl [0, 1, 2, 3] rfl)
            · refine lv_aload_n hx hb dX23_behindBlanks_20 rfl (lv_at hl 2 rfl) ?_
              refine lv_iload_n hx hb dX23_behindBlanks_21 rfl (lv_at hl 0 rfl) ?_
              have hPc := hP.sub (ws' := [(m9, .inr (23, mA mr mv vf xl (nI zs) xf xa (nI tk) xp xi xt xn xe xv xb)), (mr 0, .inl (kI, 3000, .inl ft))]) [0, 1] rfl
              have hDc := hD.sub (ws' := [(m9, .inr (23, mA mr mv vf xl (nI zs) xf xa (nI tk) xp xi xt xn xe xv xb)), (mr 0, .inl (kI, 3000, .inl ft))]) [0, 1] (by decide) rfl
              have hKc := hK.sub (tys' := [(kI, .int)]) [0] rfl
              have hFc := va_free (wc := [(m9, .inr (23, mA mr mv vf xl (nI zs) xf xa (nI tk) xp xi xt xn xe xv xb)), (mr 0, .inl (kI, 3000, .inl ft))]) hD hS hA [0, 1] rfl
              refine va_calli (va_runV (As := [.int (nI j)]) (rest := []) ⟨hx, hb, hml, hown, hts⟩ (c_rat l dC dI m9 mr mv vf xl xf xa xp xi xt xn xe xv xb zs tk j kI ft H.size hzs (by omega)) (cwV 1 hts g_c_rblk_c_rat_22 rfl rfl rfl (by decide +kernel) ⟨Nat.le_of_ble_eq_true rfl, Nat.le_of_ble_eq_true rfl⟩) ⟨fun a U g mk q => by obtain ⟨q0, q1, qP, qK, qD⟩ := q; exact ⟨q0, q1, qP, va_K.moved (u := U) (U := U.calling g mk a) (Vm.Alike.refl U.vm) qK, qD⟩, va_recv hKc hPc (ci := 23) (q0 := 0) rfl rfl, fun U hU hW => ⟨rfl, by rw [hU], by rw [hU]; exact hPc, va_K.moved hW.alike hKc, hDc.weaken (fun _ _ _ _ => trivial)⟩⟩ rfl rfl hl.1 rfl (lv_room (Nat.le_of_ble_eq_true rfl)) dX23_behindBlanks_22 ⟨(show 0 + 0 ≤ 0 by omega), (show 0 + 0 ≤ 0 by omega)⟩) hS (fun q _ h => hFc q h) hFc (fun r_2 u tS H1 locs ht hvm hw hB hz1 hk1 hS => ?_)
              obtain ⟨hP1, hK1, hD1⟩ := hB
              rw [ht] at hP1
              have hK1 := va_K.moved hvm.symm hK1
              obtain ⟨hP, hD⟩ := va_join (wr := []) (w1 := [(m9, .inr (23, mA mr mv vf xl (nI zs) xf xa (nI tk) xp xi xt xn xe xv xb)), (mr 0, .inl (kI, 3000, .inl ft))]) hP hD [0, 1] [] rfl rfl (by decide) (by decide) hk1 hFc hP1 hD1
              have hK := hK.app hK1
              generalize H1 = H at hP hS ⊢
              have hP : va_P (dC, dI) vwCl [(m9, .inr (23, mA mr mv vf xl (nI zs) xf xa (nI tk) xp xi xt xn xe xv xb)), (mr 0, .inl (kI, 3000, .inl ft))] H := hP
              have hD : va_D A [(m9, .inr (23, mA mr mv vf xl (nI zs) xf xa (nI tk) xp xi xt xn xe xv xb)), (mr 0, .inl (kI, 3000, .inl ft))] := hD
              have hK : va_K (dC, dI) vwCl [(kI, .int), (kI, .int)] s := hK
              have hK := hK.sub (tys' := [(kI, .int)]) [0] rfl
              have hP : va_P (dC, dI) vwCl [(m9, .inr (23, mA mr mv vf xl (nI zs) xf xa (nI tk) xp xi xt xn xe xv xb)), (mr 0, .inl (kI, 3000, .inl ft))] H := hP
              have hD : va_D A [(m9, .inr (23, mA mr mv vf xl (nI zs) xf xa (nI tk) xp xi xt xn xe xv xb)), (mr 0, .inl (kI, 3000, .inl ft))] := hD
              have hr_2 : r_2 = atF ft zs (j) := hw
              refine lv_bipush (v := 10) hx hb dX23_behindBlanks_25 (by decide) ?_
              refine lv_icmp_eq (tgt := 50) hx hb dX23_behindBlanks_27 (by decide) (fun hb2 => ?_) (fun hb2 => ?_)
              · have hj : j < zs := atF_lt (hr_2.symm.trans hb2) (by decide)
                obtain ⟨x_3, ex_3⟩ : ∃ yY : Int32, yY = (nI j) + 1 := ⟨_, rfl⟩
                refine lv_iinc (v := x_3) (lv' := [(2, .int x_3), (3, .int 0), (0, .ref m9), (1, .int (nI i0))]) hx hb dX23_behindBlanks_50 hl (k := 0) rfl (by rw [ex_3]; rfl) (by decide) rfl (fun ls hl => ?_)
                obtain rfl : x_3 = nI (j + 1) := by rw [ex_3]; exact nI_1 j
                have hl : lv_has ls 4 [(2, .int (nI (j + 1))), (3, .int 0), (0, .ref m9), (1, .int (nI i0))] := hl
                refine lv_goto (tgt := 10) hx hb dX23_behindBlanks_53 (by decide) ?_
                exact ih2 (j + 1) _ _ _ (by omega) (by omega) (hP.sub [0, 1] rfl) (hD.sub [0, 1] (by decide) rfl) hS (lv_sub hl [0, 1, 2, 3] rfl)
              · refine lv_aload_n hx hb dX23_behindBlanks_30 rfl (lv_at hl 2 rfl) ?_
                refine lv_iload_n hx hb dX23_behindBlanks_31 rfl (lv_at hl 0 rfl) ?_
                have hPc := hP.sub (ws' := [(m9, .inr (23, mA mr mv vf xl (nI zs) xf xa (nI tk) xp xi xt xn xe xv xb)), (mr 0, .inl (kI, 3000, .inl ft))]) [0, 1] rfl
                have hDc := hD.sub (ws' := [(m9, .inr (23, mA mr mv vf xl (nI zs) xf xa (nI tk) xp xi xt xn xe xv xb)), (mr 0, .inl (kI, 3000, .inl ft))]) [0, 1] (by decide) rfl
                have hKc := hK.sub (tys' := [(kI, .int)]) [0] rfl
                have hFc := va_free (wc := [(m9, .inr (23, mA mr mv vf xl (nI zs) xf xa (nI tk) xp xi xt xn xe xv xb)), (mr 0, .inl (kI, 3000, .inl ft))]) hD hS hA [0, 1] rfl
                refine va_calli (va_runV (As := [.int (nI j)]) (rest := []) ⟨hx, hb, hml, hown, hts⟩ (c_rat l dC dI m9 mr mv vf xl xf xa xp xi xt xn xe xv xb zs tk j kI ft H.size hzs (by omega)) (cwV 1 hts g_c_rblk_c_rat_32 rfl rfl rfl (by decide +kernel) ⟨Nat.le_of_ble_eq_true rfl, Nat.le_of_ble_eq_true rfl⟩) ⟨fun a U g mk q => by obtain ⟨q0, q1, qP, qK, qD⟩ := q; exact ⟨q0, q1, qP, va_K.moved (u := U) (U := U.calling g mk a) (Vm.Alike.refl U.vm) qK, qD⟩, va_recv hKc hPc (ci := 23) (q0 := 0) rfl rfl, fun U hU hW => ⟨rfl, by rw [hU], by rw [hU]; exact hPc, va_K.moved hW.alike hKc, hDc.weaken (fun _ _ _ _ => trivial)⟩⟩ rfl rfl hl.1 rfl (lv_room (Nat.le_of_ble_eq_true rfl)) dX23_behindBlanks_32 ⟨(show 0 + 0 ≤ 0 by omega), (show 0 + 0 ≤ 0 by omega)⟩) hS (fun q _ h => hFc q h) hFc (fun r_3 u tS H1 locs ht hvm hw hB hz1 hk1 hS => ?_)
                obtain ⟨hP1, hK1, hD1⟩ := hB
                rw [ht] at hP1
                have hK1 := va_K.moved hvm.symm hK1
                obtain ⟨hP, hD⟩ := va_join (wr := []) (w1 := [(m9, .inr (23, mA mr mv vf xl (nI zs) xf xa (nI tk) xp xi xt xn xe xv xb)), (mr 0, .inl (kI, 3000, .inl ft))]) hP hD [0, 1] [] rfl rfl (by decide) (by decide) hk1 hFc hP1 hD1
                have hK := hK.app hK1
                generalize H1 = H at hP hS ⊢
                have hP : va_P (dC, dI) vwCl [(m9, .inr (23, mA mr mv vf xl (nI zs) xf xa (nI tk) xp xi xt xn xe xv xb)), (mr 0, .inl (kI, 3000, .inl ft))] H := hP
                have hD : va_D A [(m9, .inr (23, mA mr mv vf xl (nI zs) xf xa (nI tk) xp xi xt xn xe xv xb)), (mr 0, .inl (kI, 3000, .inl ft))] := hD
                have hK : va_K (dC, dI) vwCl [(kI, .int), (kI, .int)] s := hK
                have hK := hK.sub (tys' := [(kI, .int)]) [0] rfl
                have hP : va_P (dC, dI) vwCl [(m9, .inr (23, mA mr mv vf xl (nI zs) xf xa (nI tk) xp xi xt xn xe xv xb)), (mr 0, .inl (kI, 3000, .inl ft))] H := hP
                have hD : va_D A [(m9, .inr (23, mA mr mv vf xl (nI zs) xf xa (nI tk) xp xi xt xn xe xv xb)), (mr 0, .inl (kI, 3000, .inl ft))] := hD
                have hr_3 : r_3 = atF ft zs (j) := hw
                refine lv_bipush (v := 13) hx hb dX23_behindBlanks_35 (by decide) ?_
                refine lv_icmp_eq (tgt := 50) hx hb dX23_behindBlanks_37 (by decide) (fun hb3 => ?_) (fun hb3 => ?_)
                · have hj : j < zs := atF_lt (hr_3.symm.trans hb3) (by decide)
                  obtain ⟨x_4, ex_4⟩ : ∃ yY : Int32, yY = (nI j) + 1 := ⟨_, rfl⟩
                  refine lv_iinc (v := x_4) (lv' := [(2, .int x_4), (3, .int 0), (0, .ref m9), (1, .int (nI i0))]) hx hb dX23_behindBlanks_50 hl (k := 0) rfl (by rw [ex_4]; rfl) (by decide) rfl (fun ls hl => ?_)
                  obtain rfl : x_4 = nI (j + 1) := by rw [ex_4]; exact nI_1 j
                  have hl : lv_has ls 4 [(2, .int (nI (j + 1))), (3, .int 0), (0, .ref m9), (1, .int (nI i0))] := hl
                  refine lv_goto (tgt := 10) hx hb dX23_behindBlanks_53 (by decide) ?_
                  exact ih2 (j + 1) _ _ _ (by omega) (by omega) (hP.sub [0, 1] rfl) (hD.sub [0, 1] (by decide) rfl) hS (lv_sub hl [0, 1, 2, 3] rfl)
                · refine lv_aload_n hx hb dX23_behindBlanks_40 rfl (lv_at hl 2 rfl) ?_
                  refine lv_iload_n hx hb dX23_behindBlanks_41 rfl (lv_at hl 0 rfl) ?_
                  have hPc := hP.sub (ws' := [(m9, .inr (23, mA mr mv vf xl (nI zs) xf xa (nI tk) xp xi xt xn xe xv xb)), (mr 0, .inl (kI, 3000, .inl ft))]) [0, 1] rfl
                  have hDc := hD.sub (ws' := [(m9, .inr (23, mA mr mv vf xl (nI zs) xf xa (nI tk) xp xi xt xn xe xv xb)), (mr 0, .inl (kI, 3000, .inl ft))]) [0, 1] (by decide) rfl
                  have hKc := hK.sub (tys' := [(kI, .int)]) [0] rfl
                  have hFc := va_free (wc := [(m9, .inr (23, mA mr mv vf xl (nI zs) xf xa (nI tk) xp xi xt xn xe xv xb)), (mr 0, .inl (kI, 3000, .inl ft))]) hD hS hA [0, 1] rfl
                  refine va_calli (va_runV (As := [.int (nI j)]) (rest := []) ⟨hx, hb, hml, hown, hts⟩ (c_rat l dC dI m9 mr mv vf xl xf xa xp xi xt xn xe xv xb zs tk j kI ft H.size hzs (by omega)) (cwV 1 hts g_c_rblk_c_rat_42 rfl rfl rfl (by decide +kernel) ⟨Nat.le_of_ble_eq_true rfl, Nat.le_of_ble_eq_true rfl⟩) ⟨fun a U g mk q => by obtain ⟨q0, q1, qP, qK, qD⟩ := q; exact ⟨q0, q1, qP, va_K.moved (u := U) (U := U.calling g mk a) (Vm.Alike.refl U.vm) qK, qD⟩, va_recv hKc hPc (ci := 23) (q0 := 0) rfl rfl, fun U hU hW => ⟨rfl, by rw [hU], by rw [hU]; exact hPc, va_K.moved hW.alike hKc, hDc.weaken (fun _ _ _ _ => trivial)⟩⟩ rfl rfl hl.1 rfl (lv_room (Nat.le_of_ble_eq_true rfl)) dX23_behindBlanks_42 ⟨(show 0 + 0 ≤ 0 by omega), (show 0 + 0 ≤ 0 by omega)⟩) hS (fun q _ h => hFc q h) hFc (fun r_4 u tS H1 locs ht hvm hw hB hz1 hk1 hS => ?_)
                  obtain ⟨hP1, hK1, hD1⟩ := hB
                  rw [ht] at hP1
                  have hK1 := va_K.moved hvm.symm hK1
                  obtain ⟨hP, hD⟩ := va_join (wr := []) (w1 := [(m9, .inr (23, mA mr mv vf xl (nI zs) xf xa (nI tk) xp xi xt xn xe xv xb)), (mr 0, .inl (kI, 3000, .inl ft))]) hP hD [0, 1] [] rfl rfl (by decide) (by decide) hk1 hFc hP1 hD1
                  have hK := hK.app hK1
                  generalize H1 = H at hP hS ⊢
                  have hP : va_P (dC, dI) vwCl [(m9, .inr (23, mA mr mv vf xl (nI zs) xf xa (nI tk) xp xi xt xn xe xv xb)), (mr 0, .inl (kI, 3000, .inl ft))] H := hP
                  have hD : va_D A [(m9, .inr (23, mA mr mv vf xl (nI zs) xf xa (nI tk) xp xi xt xn xe xv xb)), (mr 0, .inl (kI, 3000, .inl ft))] := hD
                  have hK : va_K (dC, dI) vwCl [(kI, .int), (kI, .int)] s := hK
                  have hK := hK.sub (tys' := [(kI, .int)]) [0] rfl
                  have hP : va_P (dC, dI) vwCl [(m9, .inr (23, mA mr mv vf xl (nI zs) xf xa (nI tk) xp xi xt xn xe xv xb)), (mr 0, .inl (kI, 3000, .inl ft))] H := hP
                  have hD : va_D A [(m9, .inr (23, mA mr mv vf xl (nI zs) xf xa (nI tk) xp xi xt xn xe xv xb)), (mr 0, .inl (kI, 3000, .inl ft))] := hD
                  have hr_4 : r_4 = atF ft zs (j) := hw
                  refine lv_bipush (v := 32) hx hb dX23_behindBlanks_45 (by decide) ?_
                  refine lv_icmp_ne (tgt := 56) hx hb dX23_behindBlanks_47 (by decide) (fun hb4 => ?_) (fun hb4 => ?_)
                  · refine lv_aload_n hx hb dX23_behindBlanks_56 rfl (lv_at hl 2 rfl) ?_
                    refine lv_iload_n hx hb dX23_behindBlanks_57 rfl (lv_at hl 0 rfl) ?_
                    have hPc := hP.sub (ws' := [(m9, .inr (23, mA mr mv vf xl (nI zs) xf xa (nI tk) xp xi xt xn xe xv xb)), (mr 0, .inl (kI, 3000, .inl ft))]) [0, 1] rfl
                    have hDc := hD.sub (ws' := [(m9, .inr (23, mA mr mv vf xl (nI zs) xf xa (nI tk) xp xi xt xn xe xv xb)), (mr 0, .inl (kI, 3000, .inl ft))]) [0, 1] (by decide) rfl
                    have hKc := hK.sub (tys' := [(kI, .int)]) [0] rfl
                    have hFc := va_free (wc := [(m9, .inr (23, mA mr mv vf xl (nI zs) xf xa (nI tk) xp xi xt xn xe xv xb)), (mr 0, .inl (kI, 3000, .inl ft))]) hD hS hA [0, 1] rfl
                    refine va_calli (va_runV (As := [.int (nI j)]) (rest := []) ⟨hx, hb, hml, hown, hts⟩ (c_rat l dC dI m9 mr mv vf xl xf xa xp xi xt xn xe xv xb zs tk j kI ft H.size hzs (by omega)) (cwV 1 hts g_c_rblk_c_rat_58 rfl rfl rfl (by decide +kernel) ⟨Nat.le_of_ble_eq_true rfl, Nat.le_of_ble_eq_true rfl⟩) ⟨fun a U g mk q => by obtain ⟨q0, q1, qP, qK, qD⟩ := q; exact ⟨q0, q1, qP, va_K.moved (u := U) (U := U.calling g mk a) (Vm.Alike.refl U.vm) qK, qD⟩, va_recv hKc hPc (ci := 23) (q0 := 0) rfl rfl, fun U hU hW => ⟨rfl, by rw [hU], by rw [hU]; exact hPc, va_K.moved hW.alike hKc, hDc.weaken (fun _ _ _ _ => trivial)⟩⟩ rfl rfl hl.1 rfl (lv_room (Nat.le_of_ble_eq_true rfl)) dX23_behindBlanks_58 ⟨(show 0 + 0 ≤ 0 by omega), (show 0 + 0 ≤ 0 by omega)⟩) hS (fun q _ h => hFc q h) hFc (fun r_5 u tS H1 locs ht hvm hw hB hz1 hk1 hS => ?_)
                    obtain ⟨hP1, hK1, hD1⟩ := hB
                    rw [ht] at hP1
                    have hK1 := va_K.moved hvm.symm hK1
                    obtain ⟨hP, hD⟩ := va_join (wr := []) (w1 := [(m9, .inr (23, mA mr mv vf xl (nI zs) xf xa (nI tk) xp xi xt xn xe xv xb)), (mr 0, .inl (kI, 3000, .inl ft))]) hP hD [0, 1] [] rfl rfl (by decide) (by decide) hk1 hFc hP1 hD1
                    have hK := hK.app hK1
                    generalize H1 = H at hP hS ⊢
                    have hP : va_P (dC, dI) vwCl [(m9, .inr (23, mA mr mv vf xl (nI zs) xf xa (nI tk) xp xi xt xn xe xv xb)), (mr 0, .inl (kI, 3000, .inl ft))] H := hP
                    have hD : va_D A [(m9, .inr (23, mA mr mv vf xl (nI zs) xf xa (nI tk) xp xi xt xn xe xv xb)), (mr 0, .inl (kI, 3000, .inl ft))] := hD
                    have hK : va_K (dC, dI) vwCl [(kI, .int), (kI, .int)] s := hK
                    have hK := hK.sub (tys' := [(kI, .int)]) [0] rfl
                    have hP : va_P (dC, dI) vwCl [(m9, .inr (23, mA mr mv vf xl (nI zs) xf xa (nI tk) xp xi xt xn xe xv xb)), (mr 0, .inl (kI, 3000, .inl ft))] H := hP
                    have hD : va_D A [(m9, .inr (23, mA mr mv vf xl (nI zs) xf xa (nI tk) xp xi xt xn xe xv xb)), (mr 0, .inl (kI, 3000, .inl ft))] := hD
                    have hr_5 : r_5 = atF ft zs (j) := hw
                    refine lv_bipush (v := 47) hx hb dX23_behindBlanks_61 (by decide) ?_
                    refine lv_icmp_ne (tgt := 4) hx hb dX23_behindBlanks_63 (by decide) (fun hc47 => ?_) (fun hc47 => ?_)
                    · subst hQ2
                      exact ih1 j 0 _ _ _ (by omega) (Or.inl rfl) (hP.sub [0, 1] rfl) (hD.sub [0, 1] (by decide) rfl) hS (lv_sub hl [1, 0, 2, 3] rfl)
                    · have h47 : atF ft zs j = 47 := hr_5.symm.trans hc47
                      have hjs : j < zs := atF_lt h47 (by decide)
                      refine lv_aload_n hx hb dX23_behindBlanks_66 rfl (lv_at hl 2 rfl) ?_
                      refine lv_iload_n hx hb dX23_behindBlanks_67 rfl (lv_at hl 0 rfl) ?_
                      refine lv_iconst (v := 1) hx hb dX23_behindBlanks_68 (by decide) ?_
                      refine lv_iadd hx hb dX23_behindBlanks_69 ?_
                      refine lv_topi (fun f_6 ef_6 => ?_)
                      obtain rfl : f_6 = nI (j + 1) := ef_6.trans (nI_1 _)
                      have hPc := hP.sub (ws' := [(m9, .inr (23, mA mr mv vf xl (nI zs) xf xa (nI tk) xp xi xt xn xe xv xb)), (mr 0, .inl (kI, 3000, .inl ft))]) [0, 1] rfl
                      have hDc := hD.sub (ws' := [(m9, .inr (23, mA mr mv vf xl (nI zs) xf xa (nI tk) xp xi xt xn xe xv xb)), (mr 0, .inl (kI, 3000, .inl ft))]) [0, 1] (by decide) rfl
                      have hKc := hK.sub (tys' := [(kI, .int)]) [0] rfl
                      have hFc := va_free (wc := [(m9, .inr (23, mA mr mv vf xl (nI zs) xf xa (nI tk) xp xi xt xn xe xv xb)), (mr 0, .inl (kI, 3000, .inl ft))]) hD hS hA [0, 1] rfl
                      refine va_calli (va_runV (As := [.int (nI (j + 1))]) (rest := []) ⟨hx, hb, hml, hown, hts⟩ (c_rat l dC dI m9 mr mv vf xl xf xa xp xi xt xn xe xv xb zs tk (j + 1) kI ft H.size hzs (by omega)) (cwV 1 hts g_c_rblk_c_rat_70 rfl rfl rfl (by decide +kernel) ⟨Nat.le_of_ble_eq_true rfl, Nat.le_of_ble_eq_true rfl⟩) ⟨fun a U g mk q => by obtain ⟨q0, q1, qP, qK, qD⟩ := q; exact ⟨q0, q1, qP, va_K.moved (u := U) (U := U.calling g mk a) (Vm.Alike.refl U.vm) qK, qD⟩, va_recv hKc hPc (ci := 23) (q0 := 0) rfl rfl, fun U hU hW => ⟨rfl, by rw [hU], by rw [hU]; exact hPc, va_K.moved hW.alike hKc, hDc.weaken (fun _ _ _ _ => trivial)⟩⟩ rfl rfl hl.1 rfl (lv_room (Nat.le_of_ble_eq_true rfl)) dX23_behindBlanks_70 ⟨(show 0 + 0 ≤ 0 by omega), (show 0 + 0 ≤ 0 by omega)⟩) hS (fun q _ h => hFc q h) hFc (fun r_7 u tS H1 locs ht hvm hw hB hz1 hk1 hS => ?_)
                      obtain ⟨hP1, hK1, hD1⟩ := hB
                      rw [ht] at hP1
                      have hK1 := va_K.moved hvm.symm hK1
                      obtain ⟨hP, hD⟩ := va_join (wr := []) (w1 := [(m9, .inr (23, mA mr mv vf xl (nI zs) xf xa (nI tk) xp xi xt xn xe xv xb)), (mr 0, .inl (kI, 3000, .inl ft))]) hP hD [0, 1] [] rfl rfl (by decide) (by decide) hk1 hFc hP1 hD1
                      have hK := hK.app hK1
                      generalize H1 = H at hP hS ⊢
                      have hP : va_P (dC, dI) vwCl [(m9, .inr (23, mA mr mv vf xl (nI zs) xf xa (nI tk) xp xi xt xn xe xv xb)), (mr 0, .inl (kI, 3000, .inl ft))] H := hP
                      have hD : va_D A [(m9, .inr (23, mA mr mv vf xl (nI zs) xf xa (nI tk) xp xi xt xn xe xv xb)), (mr 0, .inl (kI, 3000, .inl ft))] := hD
                      have hK : va_K (dC, dI) vwCl [(kI, .int), (kI, .int)] s := hK
                      have hK := hK.sub (tys' := [(kI, .int)]) [0] rfl
                      have hP : va_P (dC, dI) vwCl [(m9, .inr (23, mA mr mv vf xl (nI zs) xf xa (nI tk) xp xi xt xn xe xv xb)), (mr 0, .inl (kI, 3000, .inl ft))] H := hP
                      have hD : va_D A [(m9, .inr (23, mA mr mv vf xl (nI zs) xf xa (nI tk) xp xi xt xn xe xv xb)), (mr 0, .inl (kI, 3000, .inl ft))] := hD
                      have hr_7 : r_7 = atF ft zs (j + 1) := hw
                      refine lv_bipush (v := 47) hx hb dX23_behindBlanks_73 (by decide) ?_
                      refine lv_icmp_ne (tgt := 4) hx hb dX23_behindBlanks_75 (by decide) (fun hc48 => ?_) (fun hc48 => ?_)
                      · subst hQ2
                        exact ih1 j 0 _ _ _ (by omega) (Or.inl rfl) (hP.sub [0, 1] rfl) (hD.sub [0, 1] (by decide) rfl) hS (lv_sub hl [1, 0, 2, 3] rfl)
                      · refine W_q (fun Q3 hQ3 => ?_)
                        have key3 : ∀ (n3 : Nat) (k : Nat) (H : Heap) (locs : List Loc) (ls : Array Slot), (k + n3 = zs + 1 ∧ k ≤ zs) → (j ≤ k) → va_P (dC, dI) vwCl [(m9, .inr (23, mA mr mv vf xl (nI zs) xf xa (nI tk) xp xi xt xn xe xv xb)), (mr 0, .inl (kI, 3000, .inl ft))] H → va_D A [(m9, .inr (23, mA mr mv vf xl (nI zs) xf xa (nI tk) xp xi xt xn xe xv xb)), (mr 0, .inl (kI, 3000, .inl ft))] → va_S A s.heap H locs → lv_has ls 4 [(2, .int (nI k)), (3, .int 0), (0, .ref m9), (1, .int (nI i0))] → W p l e (headSpec wp_c_rblk ({ frames := 1, cells := 0, slots := 0, locals := 21 })).room s m ([.ref m9, .int (nI i0)] : List Value).toArray below meth c H locs 0 0 Q3 (F0 m 78 ls []) := by
                          intro n3
                          induction n3 with
                          | zero => intro k H locs ls hc0 hc1; exact absurd hc0 (by omega)
                          | succ n3 ih3 =>
                            intro k H locs ls hc0 hc1 hP hD hS hl
                            refine lv_iload_n hx hb dX23_behindBlanks_78 rfl (lv_at hl 0 rfl) ?_
                            refine lv_aload_n hx hb dX23_behindBlanks_79 rfl (lv_at hl 2 rfl) ?_
                            refine va_get (D := (dC, dI)) (ci := 23) (v := .int (nI zs)) (C := RX23) (T := TX23) (N := 89) hx hb hts in_c_rblk_X23 hown hK hP 0 rfl rfl 2 (by decide) (hts (.fieldLink RX23 1 "OwnedPlacesModel" "size" "I") (wm_c_rblk 2 rfl)) (fun _ h9 => h9) rfl dX23_behindBlanks_80 ?_
                            refine lv_icmp_ge (tgt := 142) hx hb dX23_behindBlanks_83 (by decide) (fun hks0 => ?_) (fun hks0 => ?_)
                            · have hks : ¬ nI k < nI zs := fun q => absurd hks0 (fun z => absurd q (by exact Int32.not_lt.mpr z))
                              have hjk : j < k := by
                                have := (nI_leI (a := zs) (b := k) (by omega) (by omega)).mp hks0
                                omega
                              refine lv_iconst (v := 1) hx hb dX23_behindBlanks_142 (by decide) ?_
                              refine lv_istore_n (lv' := [(3, .int 1), (2, .int (nI k)), (0, .ref m9), (1, .int (nI i0))]) hx hb dX23_behindBlanks_143 rfl hl (by decide) rfl (fun ls hl => ?_)
                              refine lv_goto (tgt := 4) hx hb dX23_behindBlanks_144 (by decide) ?_
                              subst hQ3
                              subst hQ2
                              exact ih1 k 1 _ _ _ (by omega) (Or.inr (by omega)) (hP.sub [0, 1] rfl) (hD.sub [0, 1] (by decide) rfl) hS (lv_sub hl [0, 1, 2, 3] rfl)
                            · have hkz : k < zs := by rcases Nat.lt_or_ge k zs with z9 | z9; exact z9; exact absurd (nI_le z9 (by omega)) hks0
                              refine lv_aload_n hx hb dX23_behindBlanks_86 rfl (lv_at hl 2 rfl) ?_
                              refine lv_iload_n hx hb dX23_behindBlanks_87 rfl (lv_at hl 0 rfl) ?_
                              have hPc := hP.sub (ws' := [(m9, .inr (23, mA mr mv vf xl (nI zs) xf xa (nI tk) xp xi xt xn xe xv xb)), (mr 0, .inl (kI, 3000, .inl ft))]) [0, 1] rfl
                              have hDc := hD.sub (ws' := [(m9, .inr (23, mA mr mv vf xl (nI zs) xf xa (nI tk) xp xi xt xn xe xv xb)), (mr 0, .inl (kI, 3000, .inl ft))]) [0, 1] (by decide) rfl
                              have hKc := hK.sub (tys' := [(kI, .int)]) [0] rfl
                              have hFc := va_free (wc := [(m9, .inr (23, mA mr mv vf xl (nI zs) xf xa (nI tk) xp xi xt xn xe xv xb)), (mr 0, .inl (kI, 3000, .inl ft))]) hD hS hA [0, 1] rfl
                              refine va_calli (va_runV (As := [.int (nI k)]) (rest := []) ⟨hx, hb, hml, hown, hts⟩ (c_rat l dC dI m9 mr mv vf xl xf xa xp xi xt xn xe xv xb zs tk k kI ft H.size hzs (by omega)) (cwV 1 hts g_c_rblk_c_rat_88 rfl rfl rfl (by decide +kernel) ⟨Nat.le_of_ble_eq_true rfl, Nat.le_of_ble_eq_true rfl⟩) ⟨fun a U g mk q => by obtain ⟨q0, q1, qP, qK, qD⟩ := q; exact ⟨q0, q1, qP, va_K.moved (u := U) (U := U.calling g mk a) (Vm.Alike.refl U.vm) qK, qD⟩, va_recv hKc hPc (ci := 23) (q0 := 0) rfl rfl, fun U hU hW => ⟨rfl, by rw [hU], by rw [hU]; exact hPc, va_K.moved hW.alike hKc, hDc.weaken (fun _ _ _ _ => trivial)⟩⟩ rfl rfl hl.1 rfl (lv_room (Nat.le_of_ble_eq_true rfl)) dX23_behindBlanks_88 ⟨(show 0 + 0 ≤ 0 by omega), (show 0 + 0 ≤ 0 by omega)⟩) hS (fun q _ h => hFc q h) hFc (fun r_8 u tS H1 locs ht hvm hw hB hz1 hk1 hS => ?_)
                              obtain ⟨hP1, hK1, hD1⟩ := hB
                              rw [ht] at hP1
                              have hK1 := va_K.moved hvm.symm hK1
                              obtain ⟨hP, hD⟩ := va_join (wr := []) (w1 := [(m9, .inr (23, mA mr mv vf xl (nI zs) xf xa (nI tk) xp xi xt xn xe xv xb)), (mr 0, .inl (kI, 3000, .inl ft))]) hP hD [0, 1] [] rfl rfl (by decide) (by decide) hk1 hFc hP1 hD1
                              have hK := hK.app hK1
                              generalize H1 = H at hP hS ⊢
                              have hP : va_P (dC, dI) vwCl [(m9, .inr (23, mA mr mv vf xl (nI zs) xf xa (nI tk) xp xi xt xn xe xv xb)), (mr 0, .inl (kI, 3000, .inl ft))] H := hP
                              have hD : va_D A [(m9, .inr (23, mA mr mv vf xl (nI zs) xf xa (nI tk) xp xi xt xn xe xv xb)), (mr 0, .inl (kI, 3000, .inl ft))] := hD
                              have hK : va_K (dC, dI) vwCl [(kI, .int), (kI, .int)] s := hK
                              have hK := hK.sub (tys' := [(kI, .int)]) [0] rfl
                              have hP : va_P (dC, dI) vwCl [(m9, .inr (23, mA mr mv vf xl (nI zs) xf xa (nI tk) xp xi xt xn xe xv xb)), (mr 0, .inl (kI, 3000, .inl ft))] H := hP
                              have hD : va_D A [(m9, .inr (23, mA mr mv vf xl (nI zs) xf xa (nI tk) xp xi xt xn xe xv xb)), (mr 0, .inl (kI, 3000, .inl ft))] := hD
                              have hr_8 : r_8 = atF ft zs (k) := hw
                              refine lv_bipush (v := 10) hx hb dX23_behindBlanks_91 (by decide) ?_
                              refine lv_icmp_eq (tgt := 142) hx hb dX23_behindBlanks_93 (by decide) (fun hz1 => ?_) (fun hz1 => ?_)
                              · have hjk : j < k := by
                                  rcases Nat.lt_or_ge j k with z9 | z9
                                  · exact z9
                                  · exfalso
                                    obtain rfl : j = k := by omega
                                    rw [hr_8, h47] at hz1
                                    revert hz1; decide
                                refine lv_iconst (v := 1) hx hb dX23_behindBlanks_142 (by decide) ?_
                                refine lv_istore_n (lv' := [(3, .int 1), (2, .int (nI k)), (0, .ref m9), (1, .int (nI i0))]) hx hb dX23_behindBlanks_143 rfl hl (by decide) rfl (fun ls hl => ?_)
                                refine lv_goto (tgt := 4) hx hb dX23_behindBlanks_144 (by decide) ?_
                                subst hQ3
                                subst hQ2
                                exact ih1 k 1 _ _ _ (by omega) (Or.inr (by omega)) (hP.sub [0, 1] rfl) (hD.sub [0, 1] (by decide) rfl) hS (lv_sub hl [0, 1, 2, 3] rfl)
                              · refine lv_aload_n hx hb dX23_behindBlanks_96 rfl (lv_at hl 2 rfl) ?_
                                refine lv_iload_n hx hb dX23_behindBlanks_97 rfl (lv_at hl 0 rfl) ?_
                                have hPc := hP.sub (ws' := [(m9, .inr (23, mA mr mv vf xl (nI zs) xf xa (nI tk) xp xi xt xn xe xv xb)), (mr 0, .inl (kI, 3000, .inl ft))]) [0, 1] rfl
                                have hDc := hD.sub (ws' := [(m9, .inr (23, mA mr mv vf xl (nI zs) xf xa (nI tk) xp xi xt xn xe xv xb)), (mr 0, .inl (kI, 3000, .inl ft))]) [0, 1] (by decide) rfl
                                have hKc := hK.sub (tys' := [(kI, .int)]) [0] rfl
                                have hFc := va_free (wc := [(m9, .inr (23, mA mr mv vf xl (nI zs) xf xa (nI tk) xp xi xt xn xe xv xb)), (mr 0, .inl (kI, 3000, .inl ft))]) hD hS hA [0, 1] rfl
                                refine va_calli (va_runV (As := [.int (nI k)]) (rest := []) ⟨hx, hb, hml, hown, hts⟩ (c_rat l dC dI m9 mr mv vf xl xf xa xp xi xt xn xe xv xb zs tk k kI ft H.size hzs (by omega)) (cwV 1 hts g_c_rblk_c_rat_98 rfl rfl rfl (by decide +kernel) ⟨Nat.le_of_ble_eq_true rfl, Nat.le_of_ble_eq_true rfl⟩) ⟨fun a U g mk q => by obtain ⟨q0, q1, qP, qK, qD⟩ := q; exact ⟨q0, q1, qP, va_K.moved (u := U) (U := U.calling g mk a) (Vm.Alike.refl U.vm) qK, qD⟩, va_recv hKc hPc (ci := 23) (q0 := 0) rfl rfl, fun U hU hW => ⟨rfl, by rw [hU], by rw [hU]; exact hPc, va_K.moved hW.alike hKc, hDc.weaken (fun _ _ _ _ => trivial)⟩⟩ rfl rfl hl.1 rfl (lv_room (Nat.le_of_ble_eq_true rfl)) dX23_behindBlanks_98 ⟨(show 0 + 0 ≤ 0 by omega), (show 0 + 0 ≤ 0 by omega)⟩) hS (fun q _ h => hFc q h) hFc (fun r_9 u tS H1 locs ht hvm hw hB hz1 hk1 hS => ?_)
                                obtain ⟨hP1, hK1, hD1⟩ := hB
                                rw [ht] at hP1
                                have hK1 := va_K.moved hvm.symm hK1
                                obtain ⟨hP, hD⟩ := va_join (wr := []) (w1 := [(m9, .inr (23, mA mr mv vf xl (nI zs) xf xa (nI tk) xp xi xt xn xe xv xb)), (mr 0, .inl (kI, 3000, .inl ft))]) hP hD [0, 1] [] rfl rfl (by decide) (by decide) hk1 hFc hP1 hD1
                                have hK := hK.app hK1
                                generalize H1 = H at hP hS ⊢
                                have hP : va_P (dC, dI) vwCl [(m9, .inr (23, mA mr mv vf xl (nI zs) xf xa (nI tk) xp xi xt xn xe xv xb)), (mr 0, .inl (kI, 3000, .inl ft))] H := hP
                                have hD : va_D A [(m9, .inr (23, mA mr mv vf xl (nI zs) xf xa (nI tk) xp xi xt xn xe xv xb)), (mr 0, .inl (kI, 3000, .inl ft))] := hD
                                have hK : va_K (dC, dI) vwCl [(kI, .int), (kI, .int)] s := hK
                                have hK := hK.sub (tys' := [(kI, .int)]) [0] rfl
                                have hP : va_P (dC, dI) vwCl [(m9, .inr (23, mA mr mv vf xl (nI zs) xf xa (nI tk) xp xi xt xn xe xv xb)), (mr 0, .inl (kI, 3000, .inl ft))] H := hP
                                have hD : va_D A [(m9, .inr (23, mA mr mv vf xl (nI zs) xf xa (nI tk) xp xi xt xn xe xv xb)), (mr 0, .inl (kI, 3000, .inl ft))] := hD
                                have hr_9 : r_9 = atF ft zs (k) := hw
                                refine lv_bipush (v := 9) hx hb dX23_behindBlanks_101 (by decide) ?_
                                refine lv_icmp_eq (tgt := 136) hx hb dX23_behindBlanks_103 (by decide) (fun hz2 => ?_) (fun hz2 => ?_)
                                · obtain ⟨x_10, ex_10⟩ : ∃ yY : Int32, yY = (nI k) + 1 := ⟨_, rfl⟩
                                  refine lv_iinc (v := x_10) (lv' := [(2, .int x_10), (3, .int 0), (0, .ref m9), (1, .int (nI i0))]) hx hb dX23_behindBlanks_136 hl (k := 0) rfl (by rw [ex_10]; rfl) (by decide) rfl (fun ls hl => ?_)
                                  obtain rfl : x_10 = nI (k + 1) := by rw [ex_10]; exact nI_1 k
                                  have hl : lv_has ls 4 [(2, .int (nI (k + 1))), (3, .int 0), (0, .ref m9), (1, .int (nI i0))] := hl
                                  refine lv_goto (tgt := 78) hx hb dX23_behindBlanks_139 (by decide) ?_
                                  exact ih3 (k + 1) _ _ _ (by omega) (by omega) (hP.sub [0, 1] rfl) (hD.sub [0, 1] (by decide) rfl) hS (lv_sub hl [0, 1, 2, 3] rfl)
                                · refine lv_aload_n hx hb dX23_behindBlanks_106 rfl (lv_at hl 2 rfl) ?_
                                  refine lv_iload_n hx hb dX23_behindBlanks_107 rfl (lv_at hl 0 rfl) ?_
                                  have hPc := hP.sub (ws' := [(m9, .inr (23, mA mr mv vf xl (nI zs) xf xa (nI tk) xp xi xt xn xe xv xb)), (mr 0, .inl (kI, 3000, .inl ft))]) [0, 1] rfl
                                  have hDc := hD.sub (ws' := [(m9, .inr (23, mA mr mv vf xl (nI zs) xf xa (nI tk) xp xi xt xn xe xv xb)), (mr 0, .inl (kI, 3000, .inl ft))]) [0, 1] (by decide) rfl
                                  have hKc := hK.sub (tys' := [(kI, .int)]) [0] rfl
                                  have hFc := va_free (wc := [(m9, .inr (23, mA mr mv vf xl (nI zs) xf xa (nI tk) xp xi xt xn xe xv xb)), (mr 0, .inl (kI, 3000, .inl ft))]) hD hS hA [0, 1] rfl
                                  refine va_calli (va_runV (As := [.int (nI k)]) (rest := []) ⟨hx, hb, hml, hown, hts⟩ (c_rat l dC dI m9 mr mv vf xl xf xa xp xi xt xn xe xv xb zs tk k kI ft H.size hzs (by omega)) (cwV 1 hts g_c_rblk_c_rat_108 rfl rfl rfl (by decide +kernel) ⟨Nat.le_of_ble_eq_true rfl, Nat.le_of_ble_eq_true rfl⟩) ⟨fun a U g mk q => by obtain ⟨q0, q1, qP, qK, qD⟩ := q; exact ⟨q0, q1, qP, va_K.moved (u := U) (U := U.calling g mk a) (Vm.Alike.refl U.vm) qK, qD⟩, va_recv hKc hPc (ci := 23) (q0 := 0) rfl rfl, fun U hU hW => ⟨rfl, by rw [hU], by rw [hU]; exact hPc, va_K.moved hW.alike hKc, hDc.weaken (fun _ _ _ _ => trivial)⟩⟩ rfl rfl hl.1 rfl (lv_room (Nat.le_of_ble_eq_true rfl)) dX23_behindBlanks_108 ⟨(show 0 + 0 ≤ 0 by omega), (show 0 + 0 ≤ 0 by omega)⟩) hS (fun q _ h => hFc q h) hFc (fun r_10 u tS H1 locs ht hvm hw hB hz1 hk1 hS => ?_)
                                  obtain ⟨hP1, hK1, hD1⟩ := hB
                                  rw [ht] at hP1
                                  have hK1 := va_K.moved hvm.symm hK1
                                  obtain ⟨hP, hD⟩ := va_join (wr := []) (w1 := [(m9, .inr (23, mA mr mv vf xl (nI zs) xf xa (nI tk) xp xi xt xn xe xv xb)), (mr 0, .inl (kI, 3000, .inl ft))]) hP hD [0, 1] [] rfl rfl (by decide) (by decide) hk1 hFc hP1 hD1
                                  have hK := hK.app hK1
                                  generalize H1 = H at hP hS ⊢
                                  have hP : va_P (dC, dI) vwCl [(m9, .inr (23, mA mr mv vf xl (nI zs) xf xa (nI tk) xp xi xt xn xe xv xb)), (mr 0, .inl (kI, 3000, .inl ft))] H := hP
                                  have hD : va_D A [(m9, .inr (23, mA mr mv vf xl (nI zs) xf xa (nI tk) xp xi xt xn xe xv xb)), (mr 0, .inl (kI, 3000, .inl ft))] := hD
                                  have hK : va_K (dC, dI) vwCl [(kI, .int), (kI, .int)] s := hK
                                  have hK := hK.sub (tys' := [(kI, .int)]) [0] rfl
                                  have hP : va_P (dC, dI) vwCl [(m9, .inr (23, mA mr mv vf xl (nI zs) xf xa (nI tk) xp xi xt xn xe xv xb)), (mr 0, .inl (kI, 3000, .inl ft))] H := hP
                                  have hD : va_D A [(m9, .inr (23, mA mr mv vf xl (nI zs) xf xa (nI tk) xp xi xt xn xe xv xb)), (mr 0, .inl (kI, 3000, .inl ft))] := hD
                                  have hr_10 : r_10 = atF ft zs (k) := hw
                                  refine lv_bipush (v := 13) hx hb dX23_behindBlanks_111 (by decide) ?_
                                  refine lv_icmp_eq (tgt := 136) hx hb dX23_behindBlanks_113 (by decide) (fun hz3 => ?_) (fun hz3 => ?_)
                                  · obtain ⟨x_11, ex_11⟩ : ∃ yY : Int32, yY = (nI k) + 1 := ⟨_, rfl⟩
                                    refine lv_iinc (v := x_11) (lv' := [(2, .int x_11), (3, .int 0), (0, .ref m9), (1, .int (nI i0))]) hx hb dX23_behindBlanks_136 hl (k := 0) rfl (by rw [ex_11]; rfl) (by decide) rfl (fun ls hl => ?_)
                                    obtain rfl : x_11 = nI (k + 1) := by rw [ex_11]; exact nI_1 k
                                    have hl : lv_has ls 4 [(2, .int (nI (k + 1))), (3, .int 0), (0, .ref m9), (1, .int (nI i0))] := hl
                                    refine lv_goto (tgt := 78) hx hb dX23_behindBlanks_139 (by decide) ?_
                                    exact ih3 (k + 1) _ _ _ (by omega) (by omega) (hP.sub [0, 1] rfl) (hD.sub [0, 1] (by decide) rfl) hS (lv_sub hl [0, 1, 2, 3] rfl)
                                  · refine lv_aload_n hx hb dX23_behindBlanks_116 rfl (lv_at hl 2 rfl) ?_
                                    refine lv_iload_n hx hb dX23_behindBlanks_117 rfl (lv_at hl 0 rfl) ?_
                                    have hPc := hP.sub (ws' := [(m9, .inr (23, mA mr mv vf xl (nI zs) xf xa (nI tk) xp xi xt xn xe xv xb)), (mr 0, .inl (kI, 3000, .inl ft))]) [0, 1] rfl
                                    have hDc := hD.sub (ws' := [(m9, .inr (23, mA mr mv vf xl (nI zs) xf xa (nI tk) xp xi xt xn xe xv xb)), (mr 0, .inl (kI, 3000, .inl ft))]) [0, 1] (by decide) rfl
                                    have hKc := hK.sub (tys' := [(kI, .int)]) [0] rfl
                                    have hFc := va_free (wc := [(m9, .inr (23, mA mr mv vf xl (nI zs) xf xa (nI tk) xp xi xt xn xe xv xb)), (mr 0, .inl (kI, 3000, .inl ft))]) hD hS hA [0, 1] rfl
                                    refine va_calli (va_runV (As := [.int (nI k)]) (rest := []) ⟨hx, hb, hml, hown, hts⟩ (c_rat l dC dI m9 mr mv vf xl xf xa xp xi xt xn xe xv xb zs tk k kI ft H.size hzs (by omega)) (cwV 1 hts g_c_rblk_c_rat_118 rfl rfl rfl (by decide +kernel) ⟨Nat.le_of_ble_eq_true rfl, Nat.le_of_ble_eq_true rfl⟩) ⟨fun a U g mk q => by obtain ⟨q0, q1, qP, qK, qD⟩ := q; exact ⟨q0, q1, qP, va_K.moved (u := U) (U := U.calling g mk a) (Vm.Alike.refl U.vm) qK, qD⟩, va_recv hKc hPc (ci := 23) (q0 := 0) rfl rfl, fun U hU hW => ⟨rfl, by rw [hU], by rw [hU]; exact hPc, va_K.moved hW.alike hKc, hDc.weaken (fun _ _ _ _ => trivial)⟩⟩ rfl rfl hl.1 rfl (lv_room (Nat.le_of_ble_eq_true rfl)) dX23_behindBlanks_118 ⟨(show 0 + 0 ≤ 0 by omega), (show 0 + 0 ≤ 0 by omega)⟩) hS (fun q _ h => hFc q h) hFc (fun r_11 u tS H1 locs ht hvm hw hB hz1 hk1 hS => ?_)
                                    obtain ⟨hP1, hK1, hD1⟩ := hB
                                    rw [ht] at hP1
                                    have hK1 := va_K.moved hvm.symm hK1
                                    obtain ⟨hP, hD⟩ := va_join (wr := []) (w1 := [(m9, .inr (23, mA mr mv vf xl (nI zs) xf xa (nI tk) xp xi xt xn xe xv xb)), (mr 0, .inl (kI, 3000, .inl ft))]) hP hD [0, 1] [] rfl rfl (by decide) (by decide) hk1 hFc hP1 hD1
                                    have hK := hK.app hK1
                                    generalize H1 = H at hP hS ⊢
                                    have hP : va_P (dC, dI) vwCl [(m9, .inr (23, mA mr mv vf xl (nI zs) xf xa (nI tk) xp xi xt xn xe xv xb)), (mr 0, .inl (kI, 3000, .inl ft))] H := hP
                                    have hD : va_D A [(m9, .inr (23, mA mr mv vf xl (nI zs) xf xa (nI tk) xp xi xt xn xe xv xb)), (mr 0, .inl (kI, 3000, .inl ft))] := hD
                                    have hK : va_K (dC, dI) vwCl [(kI, .int), (kI, .int)] s := hK
                                    have hK := hK.sub (tys' := [(kI, .int)]) [0] rfl
                                    have hP : va_P (dC, dI) vwCl [(m9, .inr (23, mA mr mv vf xl (nI zs) xf xa (nI tk) xp xi xt xn xe xv xb)), (mr 0, .inl (kI, 3000, .inl ft))] H := hP
                                    have hD : va_D A [(m9, .inr (23, mA mr mv vf xl (nI zs) xf xa (nI tk) xp xi xt xn xe xv xb)), (mr 0, .inl (kI, 3000, .inl ft))] := hD
                                    have hr_11 : r_11 = atF ft zs (k) := hw
                                    refine lv_bipush (v := 32) hx hb dX23_behindBlanks_121 (by decide) ?_
                                    refine lv_icmp_lt (tgt := 142) hx hb dX23_behindBlanks_123 (by decide) (fun hz4 => ?_) (fun hz4 => ?_)
                                    · have hjk : j < k := by
                                        rcases Nat.lt_or_ge j k with z9 | z9
                                        · exact z9
                                        · exfalso
                                          obtain rfl : j = k := by omega
                                          rw [hr_11, h47] at hz4
                                          revert hz4; decide
                                      refine lv_iconst (v := 1) hx hb dX23_behindBlanks_142 (by decide) ?_
                                      refine lv_istore_n (lv' := [(3, .int 1), (2, .int (nI k)), (0, .ref m9), (1, .int (nI i0))]) hx hb dX23_behindBlanks_143 rfl hl (by decide) rfl (fun ls hl => ?_)
                                      refine lv_goto (tgt := 4) hx hb dX23_behindBlanks_144 (by decide) ?_
                                      subst hQ3
                                      subst hQ2
                                      exact ih1 k 1 _ _ _ (by omega) (Or.inr (by omega)) (hP.sub [0, 1] rfl) (hD.sub [0, 1] (by decide) rfl) hS (lv_sub hl [0, 1, 2, 3] rfl)
                                    · refine lv_aload_n hx hb dX23_behindBlanks_126 rfl (lv_at hl 2 rfl) ?_
                                      refine lv_iload_n hx hb dX23_behindBlanks_127 rfl (lv_at hl 0 rfl) ?_
                                      have hPc := hP.sub (ws' := [(m9, .inr (23, mA mr mv vf xl (nI zs) xf xa (nI tk) xp xi xt xn xe xv xb)), (mr 0, .inl (kI, 3000, .inl ft))]) [0, 1] rfl
                                      have hDc := hD.sub (ws' := [(m9, .inr (23, mA mr mv vf xl (nI zs) xf xa (nI tk) xp xi xt xn xe xv xb)), (mr 0, .inl (kI, 3000, .inl ft))]) [0, 1] (by decide) rfl
                                      have hKc := hK.sub (tys' := [(kI, .int)]) [0] rfl
                                      have hFc := va_free (wc := [(m9, .inr (23, mA mr mv vf xl (nI zs) xf xa (nI tk) xp xi xt xn xe xv xb)), (mr 0, .inl (kI, 3000, .inl ft))]) hD hS hA [0, 1] rfl
                                      refine va_calli (va_runV (As := [.int (nI k)]) (rest := []) ⟨hx, hb, hml, hown, hts⟩ (c_rat l dC dI m9 mr mv vf xl xf xa xp xi xt xn xe xv xb zs tk k kI ft H.size hzs (by omega)) (cwV 1 hts g_c_rblk_c_rat_128 rfl rfl rfl (by decide +kernel) ⟨Nat.le_of_ble_eq_true rfl, Nat.le_of_ble_eq_true rfl⟩) ⟨fun a U g mk q => by obtain ⟨q0, q1, qP, qK, qD⟩ := q; exact ⟨q0, q1, qP, va_K.moved (u := U) (U := U.calling g mk a) (Vm.Alike.refl U.vm) qK, qD⟩, va_recv hKc hPc (ci := 23) (q0 := 0) rfl rfl, fun U hU hW => ⟨rfl, by rw [hU], by rw [hU]; exact hPc, va_K.moved hW.alike hKc, hDc.weaken (fun _ _ _ _ => trivial)⟩⟩ rfl rfl hl.1 rfl (lv_room (Nat.le_of_ble_eq_true rfl)) dX23_behindBlanks_128 ⟨(show 0 + 0 ≤ 0 by omega), (show 0 + 0 ≤ 0 by omega)⟩) hS (fun q _ h => hFc q h) hFc (fun r_12 u tS H1 locs ht hvm hw hB hz1 hk1 hS => ?_)
                                      obtain ⟨hP1, hK1, hD1⟩ := hB
                                      rw [ht] at hP1
                                      have hK1 := va_K.moved hvm.symm hK1
                                      obtain ⟨hP, hD⟩ := va_join (wr := []) (w1 := [(m9, .inr (23, mA mr mv vf xl (nI zs) xf xa (nI tk) xp xi xt xn xe xv xb)), (mr 0, .inl (kI, 3000, .inl ft))]) hP hD [0, 1] [] rfl rfl (by decide) (by decide) hk1 hFc hP1 hD1
                                      have hK := hK.app hK1
                                      generalize H1 = H at hP hS ⊢
                                      have hP : va_P (dC, dI) vwCl [(m9, .inr (23, mA mr mv vf xl (nI zs) xf xa (nI tk) xp xi xt xn xe xv xb)), (mr 0, .inl (kI, 3000, .inl ft))] H := hP
                                      have hD : va_D A [(m9, .inr (23, mA mr mv vf xl (nI zs) xf xa (nI tk) xp xi xt xn xe xv xb)), (mr 0, .inl (kI, 3000, .inl ft))] := hD
                                      have hK : va_K (dC, dI) vwCl [(kI, .int), (kI, .int)] s := hK
                                      have hK := hK.sub (tys' := [(kI, .int)]) [0] rfl
                                      have hP : va_P (dC, dI) vwCl [(m9, .inr (23, mA mr mv vf xl (nI zs) xf xa (nI tk) xp xi xt xn xe xv xb)), (mr 0, .inl (kI, 3000, .inl ft))] H := hP
                                      have hD : va_D A [(m9, .inr (23, mA mr mv vf xl (nI zs) xf xa (nI tk) xp xi xt xn xe xv xb)), (mr 0, .inl (kI, 3000, .inl ft))] := hD
                                      have hr_12 : r_12 = atF ft zs (k) := hw
                                      refine lv_bipush (v := 126) hx hb dX23_behindBlanks_131 (by decide) ?_
                                      refine lv_icmp_gt (tgt := 142) hx hb dX23_behindBlanks_133 (by decide) (fun hz5 => ?_) (fun hz5 => ?_)
                                      · have hjk : j < k := by
                                          rcases Nat.lt_or_ge j k with z9 | z9
                                          · exact z9
                                          · exfalso
                                            obtain rfl : j = k := by omega
                                            rw [hr_12, h47] at hz5
                                            revert hz5; decide
                                        refine lv_iconst (v := 1) hx hb dX23_behindBlanks_142 (by decide) ?_
                                        refine lv_istore_n (lv' := [(3, .int 1), (2, .int (nI k)), (0, .ref m9), (1, .int (nI i0))]) hx hb dX23_behindBlanks_143 rfl hl (by decide) rfl (fun ls hl => ?_)
                                        refine lv_goto (tgt := 4) hx hb dX23_behindBlanks_144 (by decide) ?_
                                        subst hQ3
                                        subst hQ2
                                        exact ih1 k 1 _ _ _ (by omega) (Or.inr (by omega)) (hP.sub [0, 1] rfl) (hD.sub [0, 1] (by decide) rfl) hS (lv_sub hl [0, 1, 2, 3] rfl)
                                      · obtain ⟨x_13, ex_13⟩ : ∃ yY : Int32, yY = (nI k) + 1 := ⟨_, rfl⟩
                                        refine lv_iinc (v := x_13) (lv' := [(2, .int x_13), (3, .int 0), (0, .ref m9), (1, .int (nI i0))]) hx hb dX23_behindBlanks_136 hl (k := 0) rfl (by rw [ex_13]; rfl) (by decide) rfl (fun ls hl => ?_)
                                        obtain rfl : x_13 = nI (k + 1) := by rw [ex_13]; exact nI_1 k
                                        have hl : lv_has ls 4 [(2, .int (nI (k + 1))), (3, .int 0), (0, .ref m9), (1, .int (nI i0))] := hl
                                        refine lv_goto (tgt := 78) hx hb dX23_behindBlanks_139 (by decide) ?_
                                        exact ih3 (k + 1) _ _ _ (by omega) (by omega) (hP.sub [0, 1] rfl) (hD.sub [0, 1] (by decide) rfl) hS (lv_sub hl [0, 1, 2, 3] rfl)
                        exact key3 (zs + 1 - j) j _ _ _ (by omega) (Nat.le_refl _) (hP.sub [0, 1] rfl) (hD.sub [0, 1] (by decide) rfl) hS (lv_sub hl [0, 1, 2, 3] rfl)
                  · have hj : j < zs := atF_lt (hr_4.symm.trans hb4) (by decide)
                    obtain ⟨x_5, ex_5⟩ : ∃ yY : Int32, yY = (nI j) + 1 := ⟨_, rfl⟩
                    refine lv_iinc (v := x_5) (lv' := [(2, .int x_5), (3, .int 0), (0, .ref m9), (1, .int (nI i0))]) hx hb dX23_behindBlanks_50 hl (k := 0) rfl (by rw [ex_5]; rfl) (by decide) rfl (fun ls hl => ?_)
                    obtain rfl : x_5 = nI (j + 1) := by rw [ex_5]; exact nI_1 j
                    have hl : lv_has ls 4 [(2, .int (nI (j + 1))), (3, .int 0), (0, .ref m9), (1, .int (nI i0))] := hl
                    refine lv_goto (tgt := 10) hx hb dX23_behindBlanks_53 (by decide) ?_
                    exact ih2 (j + 1) _ _ _ (by omega) (by omega) (hP.sub [0, 1] rfl) (hD.sub [0, 1] (by decide) rfl) hS (lv_sub hl [0, 1, 2, 3] rfl)
        exact key2 (zs + 1 - i) i _ _ _ (by omega) (Nat.le_refl _) (hP.sub [0, 1] rfl) (hD.sub [0, 1] (by decide) rfl) hS (lv_sub hl [1, 0, 2, 3] rfl)
  exact key1 (2 * (zs - i0) + 2) i0 1 _ _ _ (by omega) (Or.inr (by omega)) (hP.sub [0, 1] rfl) (hD.sub [0, 1] (by decide) rfl) hS (lv_sub hl [0, 1, 2, 3] rfl)
