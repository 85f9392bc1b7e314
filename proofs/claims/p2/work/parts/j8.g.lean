def wf_c_lvs : List Cond := [.code yX23_lives cX23_lives 4 none, .fieldLink RX23 184 "OwnedPlacesModel$Item" "lives" "I", .code yX23_ok cX23_ok 1 (some .boolean), .fieldLink RX23 80 "OwnedPlacesModel" "fault" "I", .methodLink RX23 89 yX23_ok, .instanceMethod yX23_ok, .selects RX23 yX23_ok yX23_ok, .initialized RX23, .fieldLink RX23 187 "OwnedPlacesModel$Item" "life" "[I", .code yX23_sameName cX23_sameName 5 (some .boolean), .fieldLink RX23 34 "OwnedPlacesModel" "tokenEnd" "[I", .fieldLink RX23 31 "OwnedPlacesModel" "tokenAt" "[I", .fieldLink RX23 7 "OwnedPlacesModel" "text" "[I", .methodLink RX23 401 yX23_sameName, .instanceMethod yX23_sameName, .selects RX23 yX23_sameName yX23_sameName, .code yX23_fail cX23_fail 3 none, .fieldLink RX23 83 "OwnedPlacesModel" "faultAt" "I", .methodLink RX23 96 yX23_fail, .instanceMethod yX23_fail, .selects RX23 yX23_fail yX23_fail]
def wp_c_lvs : List Cond := wf_c_lvs ++ (wsX160 ++ (wsX230 ++ []))
theorem in_c_lvs_X16 : ∀ w ∈ wsX160, w ∈ wp_c_lvs := fun w h => List.mem_append_right _ (List.mem_append_left _ h)
theorem in_c_lvs_X23 : ∀ w ∈ wsX230, w ∈ wp_c_lvs := fun w h => List.mem_append_right _ (List.mem_append_right _ (List.mem_append_left _ h))
theorem wg_c_lvs : wf_c_lvs.all goodWord = true := by decide +kernel
theorem wm_c_lvs (k : Nat) {w : Cond} (h : wp_c_lvs[k]? = some w) : w ∈ wp_c_lvs := List.mem_of_getElem? h
set_option maxRecDepth 20000 in
theorem g_c_lvs_c_tok0_11 : GoodIn wp_c_lvs (wsV RX23 89 RX23 yX23_ok wp_c_tok0) := goodIn_app (goodIn_f [.methodLink RX23 89 yX23_ok, .instanceMethod yX23_ok, .selects RX23 yX23_ok yX23_ok, .initialized RX23] [4, 5, 6, 7] rfl (by decide +kernel)) (goodIn_app (goodIn_f (wf_c_tok0) [2, 3] rfl wg_c_tok0) (goodIn_app (goodIn_sub in_c_lvs_X23 gd_X23) (goodIn_n)))
set_option maxRecDepth 20000 in
theorem g_c_lvs_c_sam_37 : GoodIn wp_c_lvs (wsV RX23 401 RX23 yX23_sameName wp_c_sam) := goodIn_app (goodIn_f [.methodLink RX23 401 yX23_sameName, .instanceMethod yX23_sameName, .selects RX23 yX23_sameName yX23_sameName, .initialized RX23] [13, 14, 15, 7] rfl (by decide +kernel)) (goodIn_app (goodIn_f (wf_c_sam) [9, 10, 11, 12] rfl wg_c_sam) (goodIn_app (goodIn_sub in_c_lvs_X23 gd_X23) (goodIn_n)))
set_option maxRecDepth 20000 in
theorem g_c_lvs_c_tfa0_51 : GoodIn wp_c_lvs (wsV RX23 96 RX23 yX23_fail wp_c_tfa0) := goodIn_app (goodIn_f [.methodLink RX23 96 yX23_fail, .instanceMethod yX23_fail, .selects RX23 yX23_fail yX23_fail, .initialized RX23] [18, 19, 20, 7] rfl (by decide +kernel)) (goodIn_app (goodIn_f (wf_c_tfa0) [16, 3, 11, 17] rfl wg_c_tfa0) (goodIn_app (goodIn_sub in_c_lvs_X23 gd_X23) (goodIn_n)))
set_option maxRecDepth 20000 in
theorem g_c_lvs_c_tfaB_51 : GoodIn wp_c_lvs (wsV RX23 96 RX23 yX23_fail wp_c_tfa0) := goodIn_app (goodIn_f [.methodLink RX23 96 yX23_fail, .instanceMethod yX23_fail, .selects RX23 yX23_fail yX23_fail, .initialized RX23] [18, 19, 20, 7] rfl (by decide +kernel)) (goodIn_app (goodIn_f (wf_c_tfa0) [16, 3, 11, 17] rfl wg_c_tfa0) (goodIn_app (goodIn_sub in_c_lvs_X23 gd_X23) (goodIn_n)))
set_option maxRecDepth 20000 in
theorem g_c_lvs_c_tokB_11 : GoodIn wp_c_lvs (wsV RX23 89 RX23 yX23_ok wp_c_tok0) := goodIn_app (goodIn_f [.methodLink RX23 89 yX23_ok, .instanceMethod yX23_ok, .selects RX23 yX23_ok yX23_ok, .initialized RX23] [4, 5, 6, 7] rfl (by decide +kernel)) (goodIn_app (goodIn_f (wf_c_tok0) [2, 3] rfl wg_c_tok0) (goodIn_app (goodIn_sub in_c_lvs_X23 gd_X23) (goodIn_n)))
set_option maxHeartbeats 4000000 in
set_option maxRecDepth 100000 in
theorem c_lvs (l : Launch) (dC : Nat → ClassId) (dI : Nat → Nat → Nat) (m9 : Nat) (mr : Nat → Nat) (mv : Nat → Int32) (vf : Value) (ff xa xm : Int32) (T im tm sc vm : Nat) (kI : ClassId) (fk fa fe ft : Nat → Int32) (zs : Nat) (L : List Nat) (F : Nat → va_E) (G : Nat → va_E) (kT : ClassId) (fy : Nat → Option Nat) (Y : Nat → Int32 × Int32 × Option Nat) (ad : Nat → Nat) (kE kS kB kA kV kW kP kM : ClassId) (fi : Nat → Option Nat) (xI ps ms : Nat → Nat) (ik : Nat → Int32) (qz : Nat) (ii : Nat) (sz : Nat) (htg : tgd L F G fk fa fe T zs kE kI kS kB kA kV kW kT kP fi im xI ps ms ik qz fy tm Y ad) (hii : ii < im) (hk12 : ik ii = 12) : Met l yX23_lives wp_c_lvs ({ frames := 1, cells := 0, slots := 0, locals := 24 }) (va_Pc [.ref m9, .ref (xI ii)] (fun U => U.heap.size = sz ∧ va_P (dC, dI) vwCl (([(m9, .inr (23, mT mr mv vf 0 xa (nI T) (nI im) (nI tm) xm (nI sc) (nI vm))), (mr 6, .inl (kI, 3002, .inl fa)), (mr 7, .inl (kI, 3002, .inl fe)), (mr 0, .inl (kI, 3000, .inl ft))] : va_W) ++ (sT L F)) U.heap ∧ va_K (dC, dI) vwCl [(kI, .int)] U ∧ va_D (fun _ => True) (([(m9, .inr (23, mT mr mv vf 0 xa (nI T) (nI im) (nI tm) xm (nI sc) (nI vm))), (mr 6, .inl (kI, 3002, .inl fa)), (mr 7, .inl (kI, 3002, .inl fe)), (mr 0, .inl (kI, 3000, .inl ft))] : va_W) ++ (sT L F)))) (va_Qv (fun _ : Unit => True) (fun (_ : Unit) (tS : State) => ∃ (ff2 : Int32) (xa2 : Int32), va_P (dC, dI) vwCl (([(m9, .inr (23, mT mr mv vf ff2 xa2 (nI T) (nI im) (nI tm) xm (nI sc) (nI vm))), (mr 6, .inl (kI, 3002, .inl fa)), (mr 7, .inl (kI, 3002, .inl fe)), (mr 0, .inl (kI, 3000, .inl ft))] : va_W) ++ (sT L F)) tS.heap ∧ va_K (dC, dI) vwCl [(kI, .int)] tS ∧ va_D (va_A (([(m9, .inr (23, mT mr mv vf 0 xa (nI T) (nI im) (nI tm) xm (nI sc) (nI vm))), (mr 6, .inl (kI, 3002, .inl fa)), (mr 7, .inl (kI, 3002, .inl fe)), (mr 0, .inl (kI, 3000, .inl ft))] : va_W) ++ (sT L F)) sz) (([(m9, .inr (23, mT mr mv vf ff2 xa2 (nI T) (nI im) (nI tm) xm (nI sc) (nI vm))), (mr 6, .inl (kI, 3002, .inl fa)), (mr 7, .inl (kI, 3002, .inl fe)), (mr 0, .inl (kI, 3000, .inl ft))] : va_W) ++ (sT L F))) (va_A (([(m9, .inr (23, mT mr mv vf 0 xa (nI T) (nI im) (nI tm) xm (nI sc) (nI vm))), (mr 6, .inl (kI, 3002, .inl fa)), (mr 7, .inl (kI, 3002, .inl fe)), (mr 0, .inl (kI, 3000, .inl ft))] : va_W) ++ (sT L F)) sz)) 0 0 (va_A (([(m9, .inr (23, mT mr mv vf 0 xa (nI T) (nI im) (nI tm) xm (nI sc) (nI vm))), (mr 6, .inl (kI, 3002, .inl fa)), (mr 7, .inl (kI, 3002, .inl fe)), (mr 0, .inl (kI, 3000, .inl ft))] : va_W) ++ (sT L F)) sz) := by
  refine Met.ofW (cc := cX23_lives) (maxL := 4) (ret := none) (by decide) rfl ?_
  intro p e s m args below meth c s₁ B hml hv
  obtain ⟨rfl, hsz, hP, hK, hD0⟩ := hv
  have hx := B.exec
  have hb := B.bytes
  have hr := B.returns
  have hts := atoms_spec (ws := wp_c_lvs) B.pre
  have hown : s.vm.findClass RX23 = some m.cls := findClass_of_methodNamed B.named
  have hlocks := B.notSynchronized
  subst hsz
  have hD := hD0.self (sz := s.heap.size)
  generalize hAe : va_A (([(m9, .inr (23, mT mr mv vf 0 xa (nI T) (nI im) (nI tm) xm (nI sc) (nI vm))), (mr 6, .inl (kI, 3002, .inl fa)), (mr 7, .inl (kI, 3002, .inl fe)), (mr 0, .inl (kI, 3000, .inl ft))] : va_W) ++ (sT L F)) s.heap.size = A at hD ⊢
  have hA : ∀ q : Nat, s.heap.size ≤ q → A q := fun q h => by rw [← hAe]; exact Or.inr h
  have hS : va_S A s.heap s.heap [] := va_S.rf
  have hP : va_P (dC, dI) vwCl (([(m9, .inr (23, mT mr mv vf 0 xa (nI T) (nI im) (nI tm) xm (nI sc) (nI vm))), (mr 6, .inl (kI, 3002, .inl fa)), (mr 7, .inl (kI, 3002, .inl fe)), (mr 0, .inl (kI, 3000, .inl ft))] : va_W) ++ (sT L F)) s.heap := hP
  have hl := lv_entry ([.ref m9, .ref (xI ii)]) (n := 4) (Nat.le_of_ble_eq_true rfl)
  rw [lg_entry_eq]
  generalize (lg_sl ([.ref m9, .ref (xI ii)]) ++ List.replicate (4 - (lg_sl ([.ref m9, .ref (xI ii)])).length) Slot.unset).toArray = ls at hl ⊢
  have hl : lv_has ls 4 [(0, .ref m9), (1, .ref (xI ii))] := hl
  have hT9 := tgd_T htg
  obtain ⟨lv, lf, gl, gs, hg1, hg2, hg3, hg4, hg5, hg6, hg7⟩ := it_lv htg hii hk12
  have hxm : xI ii ∈ L := (it_nm htg hii).1
  refine lv_iconst (v := 0) hx hb dX23_lives_0 (by decide) ?_
  refine lv_istore_n (lv' := [(2, .int 0), (0, .ref m9), (1, .ref (xI ii))]) hx hb dX23_lives_1 rfl hl (by decide) rfl (fun ls hl => ?_)
  refine W_q (fun Q1 hQ1 => ?_)
  have key1 : ∀ (n1 : Nat) (i : Nat) (ff1 xa1 : Int32) (H : Heap) (locs : List Loc) (ls : Array Slot), (i + n1 = lv + 1 ∧ i ≤ lv) → va_P (dC, dI) vwCl (([(m9, .inr (23, mT mr mv vf ff1 xa1 (nI T) (nI im) (nI tm) xm (nI sc) (nI vm))), (mr 6, .inl (kI, 3002, .inl fa)), (mr 7, .inl (kI, 3002, .inl fe)), (mr 0, .inl (kI, 3000, .inl ft))] : va_W) ++ (sT L F)) H → va_D A (([(m9, .inr (23, mT mr mv vf ff1 xa1 (nI T) (nI im) (nI tm) xm (nI sc) (nI vm))), (mr 6, .inl (kI, 3002, .inl fa)), (mr 7, .inl (kI, 3002, .inl fe)), (mr 0, .inl (kI, 3000, .inl ft))] : va_W) ++ (sT L F)) → va_S A s.heap H locs → lv_has ls 4 [(2, .int (nI i)), (0, .ref m9), (1, .ref (xI ii))] → W p l e (headSpec wp_c_lvs ({ frames := 1, cells := 0, slots := 0, locals := 24 })).room s m ([.ref m9, .ref (xI ii)] : List Value).toArray below meth c H locs 0 0 Q1 (F0 m 2 ls []) := by
    intro n1
    induction n1 with
    | zero => intro i ff1 xa1 H locs ls hr0; exact absurd hr0 (by omega)
    | succ n1 ih1 =>
      intro i ff1 xa1 H locs ls hr0 hP hD hS hl
      refine lv_iload_n hx hb dX23_lives_2 rfl (lv_at hl 0 rfl) ?_
      refine lv_aload_n hx hb dX23_lives_3 rfl (lv_at hl 2 rfl) ?_
      refine va_get (D := (dC, dI)) (ci := 16) (v := .int (nI lv)) (C := RX16) (T := TX16) (N := 22) hx hb hts in_c_lvs_X16 hown hK (va_P.st hP hxm hg1) 0 rfl rfl 6 (by decide) (hts (.fieldLink RX23 184 "OwnedPlacesModel$Item" "lives" "I") (wm_c_lvs 1 rfl)) (fun _ h9 => h9) hg2 dX23_lives_4 ?_
      refine lv_icmp_ge (tgt := 66) hx hb dX23_lives_7 (by decide) (fun hk => ?_) (fun hk => ?_)
      · have hP9 := hP.subT (f' := [(m9, .inr (23, mT mr mv vf ff1 xa1 (nI T) (nI im) (nI tm) xm (nI sc) (nI vm))), (mr 6, .inl (kI, 3002, .inl fa)), (mr 7, .inl (kI, 3002, .inl fe)), (mr 0, .inl (kI, 3000, .inl ft))]) [0, 1, 2, 3] rfl
        have hD9 := hD.subT (f' := [(m9, .inr (23, mT mr mv vf ff1 xa1 (nI T) (nI im) (nI tm) xm (nI sc) (nI vm))), (mr 6, .inl (kI, 3002, .inl fa)), (mr 7, .inl (kI, 3002, .inl fe)), (mr 0, .inl (kI, 3000, .inl ft))]) [0, 1, 2, 3] (by decide) rfl
        have hK9 := hK.sub (tys' := [(kI, .int)]) [0] rfl
        subst hQ1
        exact W.vret hx hb hr (fun tS ht hW => ⟨⟨(), rfl, trivial, ff1, xa1, by rw [ht]; exact hP9, va_K.moved hW.alike hK9, hD9⟩, hS.F ht⟩) hS.2.2 dX23_lives_66
      · have hin_i : i < lv := by rcases Nat.lt_or_ge i (lv) with z9 | z9; exact z9; exact absurd (nI_le z9 (by omega)) hk
        refine lv_aload_n hx hb dX23_lives_10 rfl (lv_at hl 1 rfl) ?_
        by_cases hz_1 : ff1 = 0
        · subst hz_1
          have hPc := hP.subF (f' := [(m9, .inr (23, mT mr mv vf 0 xa1 (nI T) (nI im) (nI tm) xm (nI sc) (nI vm)))]) [0] rfl
          have hDc := hD.subF (f' := [(m9, .inr (23, mT mr mv vf 0 xa1 (nI T) (nI im) (nI tm) xm (nI sc) (nI vm)))]) [0] (by decide) rfl
          have hKc := hK.sub (tys' := []) [] rfl
          have hFc := va_freeT (wc := [(m9, .inr (23, mT mr mv vf 0 xa1 (nI T) (nI im) (nI tm) xm (nI sc) (nI vm)))]) hD hS hA [0] rfl
          refine va_calli (va_runV (As := []) (rest := []) ⟨hx, hb, hml, hown, hts⟩ (c_tok0 l dC dI m9 mr mv vf xa1 xm T im tm sc vm kI H.size) (cwV 0 hts g_c_lvs_c_tok0_11 rfl rfl rfl (by decide +kernel) ⟨Nat.le_of_ble_eq_true rfl, Nat.le_of_ble_eq_true rfl⟩) ⟨fun a U g mk q => by obtain ⟨q0, q1, qP, qK, qD⟩ := q; exact ⟨q0, q1, qP, va_K.moved (u := U) (U := U.calling g mk a) (Vm.Alike.refl U.vm) qK, qD⟩, va_recv hKc hPc (ci := 23) (q0 := 0) rfl rfl, fun U hU hW => ⟨rfl, by rw [hU], by rw [hU]; exact hPc, va_K.moved hW.alike hKc, hDc.weaken (fun _ _ _ _ => trivial)⟩⟩ rfl rfl hl.1 rfl (lv_room (Nat.le_of_ble_eq_true rfl)) dX23_lives_11 ⟨(show 0 + 0 ≤ 0 by omega), (show 0 + 0 ≤ 0 by omega)⟩) hS (fun q _ h => hFc q h) hFc (fun r_2 u tS H1 locs ht hvm hw hB hz1 hk1 hS => ?_)
          obtain ⟨hP1, hK1, hD1⟩ := hB
          rw [ht] at hP1
          have hK1 := va_K.moved hvm.symm hK1
          obtain ⟨hP, hD⟩ := va_joinT (wr := [(mr 6, .inl (kI, 3002, .inl fa)), (mr 7, .inl (kI, 3002, .inl fe)), (mr 0, .inl (kI, 3000, .inl ft))]) (w1 := [(m9, .inr (23, mT mr mv vf 0 xa1 (nI T) (nI im) (nI tm) xm (nI sc) (nI vm)))]) hP hD [0] [1, 2, 3] rfl rfl (by decide) (by decide) hk1 hFc hP1 hD1
          generalize H1 = H at hP hS ⊢
          have hP : va_P (dC, dI) vwCl (([(mr 6, .inl (kI, 3002, .inl fa)), (mr 7, .inl (kI, 3002, .inl fe)), (mr 0, .inl (kI, 3000, .inl ft)), (m9, .inr (23, mT mr mv vf 0 xa1 (nI T) (nI im) (nI tm) xm (nI sc) (nI vm)))] : va_W) ++ (sT L F)) H := hP
          have hD : va_D A (([(mr 6, .inl (kI, 3002, .inl fa)), (mr 7, .inl (kI, 3002, .inl fe)), (mr 0, .inl (kI, 3000, .inl ft)), (m9, .inr (23, mT mr mv vf 0 xa1 (nI T) (nI im) (nI tm) xm (nI sc) (nI vm)))] : va_W) ++ (sT L F)) := hD
          have hK : va_K (dC, dI) vwCl [(kI, .int)] s := hK
          clear hz1 hk1 hPc hDc hKc hFc hP1 hD1 hK1
          obtain rfl : r_2 = 1 := hw
          refine lv_if_eq (tgt := 66) hx hb dX23_lives_14 (by decide) (fun c_3 => absurd c_3 (by decide)) (fun _ => ?_)
          refine lv_iconst (v := 0) hx hb dX23_lives_17 (by decide) ?_
          refine lv_istore_n (lv' := [(3, .int 0), (2, .int (nI i)), (0, .ref m9), (1, .ref (xI ii))]) hx hb dX23_lives_18 rfl hl (by decide) rfl (fun ls hl => ?_)
          have hgl := hg6 (by omega)
          obtain ⟨s1, hs1, hs2⟩ := hg7 i hin_i
          refine W_q (fun Q2 hQ2 => ?_)
          have key2 : ∀ (n2 : Nat) (j : Nat) (ff3 xa3 : Int32) (H : Heap) (locs : List Loc) (ls : Array Slot), (j + n2 = i + 1 ∧ j ≤ i) → va_P (dC, dI) vwCl (([(m9, .inr (23, mT mr mv vf ff3 xa3 (nI T) (nI im) (nI tm) xm (nI sc) (nI vm))), (mr 6, .inl (kI, 3002, .inl fa)), (mr 7, .inl (kI, 3002, .inl fe)), (mr 0, .inl (kI, 3000, .inl ft))] : va_W) ++ (sT L F)) H → va_D A (([(m9, .inr (23, mT mr mv vf ff3 xa3 (nI T) (nI im) (nI tm) xm (nI sc) (nI vm))), (mr 6, .inl (kI, 3002, .inl fa)), (mr 7, .inl (kI, 3002, .inl fe)), (mr 0, .inl (kI, 3000, .inl ft))] : va_W) ++ (sT L F)) → va_S A s.heap H locs → lv_has ls 4 [(3, .int (nI j)), (2, .int (nI i)), (0, .ref m9), (1, .ref (xI ii))] → W p l e (headSpec wp_c_lvs ({ frames := 1, cells := 0, slots := 0, locals := 24 })).room s m ([.ref m9, .ref (xI ii)] : List Value).toArray below meth c H locs 0 0 Q2 (F0 m 19 ls []) := by
            intro n2
            induction n2 with
            | zero => intro j ff3 xa3 H locs ls hs0; exact absurd hs0 (by omega)
            | succ n2 ih2 =>
              intro j ff3 xa3 H locs ls hs0 hP hD hS hl
              refine lv_iload_n hx hb dX23_lives_19 rfl (lv_at hl 0 rfl) ?_
              refine lv_iload_n hx hb dX23_lives_20 rfl (lv_at hl 1 rfl) ?_
              refine lv_icmp_ge (tgt := 60) hx hb dX23_lives_21 (by decide) (fun hk2 => ?_) (fun hk2 => ?_)
              · subst hQ2
                obtain ⟨x_4, ex_4⟩ : ∃ yY : Int32, yY = (nI i) + 1 := ⟨_, rfl⟩
                refine lv_iinc (v := x_4) (lv' := [(2, .int x_4), (3, .int (nI j)), (0, .ref m9), (1, .ref (xI ii))]) hx hb dX23_lives_60 hl (k := 1) rfl (by rw [ex_4]; rfl) (by decide) rfl (fun ls hl => ?_)
                obtain rfl : x_4 = nI (i + 1) := by rw [ex_4]; exact nI_1 i
                have hl : lv_has ls 4 [(2, .int (nI (i + 1))), (3, .int (nI j)), (0, .ref m9), (1, .ref (xI ii))] := hl
                refine lv_goto (tgt := 2) hx hb dX23_lives_63 (by decide) ?_
                exact ih1 (i + 1) ff3 xa3 _ _ _ (by omega) (hP.subT [0, 1, 2, 3] rfl) (hD.subT [0, 1, 2, 3] (by decide) rfl) hS (lv_sub hl [0, 2, 3] rfl)
              · have hin_j : j < i := by rcases Nat.lt_or_ge j (i) with z9 | z9; exact z9; exact absurd (nI_le z9 (by omega)) hk2
                refine lv_aload_n hx hb dX23_lives_24 rfl (lv_at hl 2 rfl) ?_
                refine lv_aload_n hx hb dX23_lives_25 rfl (lv_at hl 3 rfl) ?_
                refine va_get (D := (dC, dI)) (ci := 16) (v := .ref lf) (C := RX16) (T := TX16) (N := 22) hx hb hts in_c_lvs_X16 hown hK (va_P.st hP hxm hg1) 0 rfl rfl 12 (by decide) (hts (.fieldLink RX23 187 "OwnedPlacesModel$Item" "life" "[I") (wm_c_lvs 8 rfl)) (fun _ h9 => h9) hg3 dX23_lives_26 ?_
                refine lv_iload_n hx hb dX23_lives_29 rfl (lv_at hl 0 rfl) ?_
                obtain ⟨s3, hs3, hs4⟩ := hg7 j (by omega)
                refine va_iald hx hb hK (va_P.st hP hg4 hgl) 0 0 rfl rfl (vp_in_nI (show j < 8 by omega) (by decide)) dX23_lives_30 ?_
                refine lv_topi (fun v_4 ev_4 => ?_)
                obtain rfl : v_4 = nI s3 := ev_4.trans (by rw [nI_clamp (by omega)]; exact hs3)
                refine lv_aload_n hx hb dX23_lives_31 rfl (lv_at hl 3 rfl) ?_
                refine va_get (D := (dC, dI)) (ci := 16) (v := .ref lf) (C := RX16) (T := TX16) (N := 22) hx hb hts in_c_lvs_X16 hown hK (va_P.st hP hxm hg1) 0 rfl rfl 12 (by decide) (hts (.fieldLink RX23 187 "OwnedPlacesModel$Item" "life" "[I") (wm_c_lvs 8 rfl)) (fun _ h9 => h9) hg3 dX23_lives_32 ?_
                refine lv_iload_n hx hb dX23_lives_35 rfl (lv_at hl 1 rfl) ?_
                refine va_iald hx hb hK (va_P.st hP hg4 hgl) 0 0 rfl rfl (vp_in_nI (show i < 8 by omega) (by decide)) dX23_lives_36 ?_
                refine lv_topi (fun v_5 ev_5 => ?_)
                obtain rfl : v_5 = nI s1 := ev_5.trans (by rw [nI_clamp (by omega)]; exact hs1)
                have hPc := hP.subF (f' := [(m9, .inr (23, mT mr mv vf ff3 xa3 (nI T) (nI im) (nI tm) xm (nI sc) (nI vm))), (mr 6, .inl (kI, 3002, .inl fa)), (mr 7, .inl (kI, 3002, .inl fe)), (mr 0, .inl (kI, 3000, .inl ft))]) [0, 1, 2, 3] rfl
                have hDc := hD.subF (f' := [(m9, .inr (23, mT mr mv vf ff3 xa3 (nI T) (nI im) (nI tm) xm (nI sc) (nI vm))), (mr 6, .inl (kI, 3002, .inl fa)), (mr 7, .inl (kI, 3002, .inl fe)), (mr 0, .inl (kI, 3000, .inl ft))]) [0, 1, 2, 3] (by decide) rfl
                have hKc := hK.sub (tys' := [(kI, .int)]) [0] rfl
                have hFc := va_freeT (wc := [(m9, .inr (23, mT mr mv vf ff3 xa3 (nI T) (nI im) (nI tm) xm (nI sc) (nI vm))), (mr 6, .inl (kI, 3002, .inl fa)), (mr 7, .inl (kI, 3002, .inl fe)), (mr 0, .inl (kI, 3000, .inl ft))]) hD hS hA [0, 1, 2, 3] rfl
                refine va_calli (va_runV (As := [.int (nI s3), .int (nI s1)]) (rest := []) ⟨hx, hb, hml, hown, hts⟩ (c_sam l dC dI m9 mr mv vf ff3 xa3 xm T im tm sc vm kI fk fa fe ft zs s3 s1 H.size htg.1.1 htg.1.2.1 hs4 hs2) (cwV 2 hts g_c_lvs_c_sam_37 rfl rfl rfl (by decide +kernel) ⟨Nat.le_of_ble_eq_true rfl, Nat.le_of_ble_eq_true rfl⟩) ⟨fun a U g mk q => by obtain ⟨q0, q1, qP, qK, qD⟩ := q; exact ⟨q0, q1, qP, va_K.moved (u := U) (U := U.calling g mk a) (Vm.Alike.refl U.vm) qK, qD⟩, va_recv hKc hPc (ci := 23) (q0 := 0) rfl rfl, fun U hU hW => ⟨rfl, by rw [hU], by rw [hU]; exact hPc, va_K.moved hW.alike hKc, hDc.weaken (fun _ _ _ _ => trivial)⟩⟩ rfl rfl hl.1 rfl (lv_room (Nat.le_of_ble_eq_true rfl)) dX23_lives_37 ⟨(show 0 + 0 ≤ 0 by omega), (show 0 + 0 ≤ 0 by omega)⟩) hS (fun q _ h => hFc q h) hFc (fun r_6 u tS H1 locs ht hvm hw hB hz1 hk1 hS => ?_)
                obtain ⟨hP1, hK1, hD1⟩ := hB
                rw [ht] at hP1
                have hK1 := va_K.moved hvm.symm hK1
                obtain ⟨hP, hD⟩ := va_joinT (wr := []) (w1 := [(m9, .inr (23, mT mr mv vf ff3 xa3 (nI T) (nI im) (nI tm) xm (nI sc) (nI vm))), (mr 6, .inl (kI, 3002, .inl fa)), (mr 7, .inl (kI, 3002, .inl fe)), (mr 0, .inl (kI, 3000, .inl ft))]) hP hD [0, 1, 2, 3] [] rfl rfl (by decide) (by decide) hk1 hFc hP1 hD1
                have hK := hK.app hK1
                generalize H1 = H at hP hS ⊢
                have hP : va_P (dC, dI) vwCl (([(m9, .inr (23, mT mr mv vf ff3 xa3 (nI T) (nI im) (nI tm) xm (nI sc) (nI vm))), (mr 6, .inl (kI, 3002, .inl fa)), (mr 7, .inl (kI, 3002, .inl fe)), (mr 0, .inl (kI, 3000, .inl ft))] : va_W) ++ (sT L F)) H := hP
                have hD : va_D A (([(m9, .inr (23, mT mr mv vf ff3 xa3 (nI T) (nI im) (nI tm) xm (nI sc) (nI vm))), (mr 6, .inl (kI, 3002, .inl fa)), (mr 7, .inl (kI, 3002, .inl fe)), (mr 0, .inl (kI, 3000, .inl ft))] : va_W) ++ (sT L F)) := hD
                have hK : va_K (dC, dI) vwCl [(kI, .int), (kI, .int)] s := hK
                have hK := hK.sub (tys' := [(kI, .int)]) [0] rfl
                clear hz1 hk1 hPc hDc hKc hFc hP1 hD1 hK1
                refine lv_if_eq (tgt := 54) hx hb dX23_lives_40 (by decide) (fun hb_7 => ?_) (fun hb_7 => ?_)
                · obtain ⟨x_8, ex_8⟩ : ∃ yY : Int32, yY = (nI j) + 1 := ⟨_, rfl⟩
                  refine lv_iinc (v := x_8) (lv' := [(3, .int x_8), (2, .int (nI i)), (0, .ref m9), (1, .ref (xI ii))]) hx hb dX23_lives_54 hl (k := 0) rfl (by rw [ex_8]; rfl) (by decide) rfl (fun ls hl => ?_)
                  obtain rfl : x_8 = nI (j + 1) := by rw [ex_8]; exact nI_1 j
                  have hl : lv_has ls 4 [(3, .int (nI (j + 1))), (2, .int (nI i)), (0, .ref m9), (1, .ref (xI ii))] := hl
                  refine lv_goto (tgt := 19) hx hb dX23_lives_57 (by decide) ?_
                  exact ih2 (j + 1) ff3 xa3 _ _ _ (by omega) (hP.subT [0, 1, 2, 3] rfl) (hD.subT [0, 1, 2, 3] (by decide) rfl) hS (lv_sub hl [0, 1, 2, 3] rfl)
                · refine lv_aload_n hx hb dX23_lives_43 rfl (lv_at hl 2 rfl) ?_
                  refine lv_iconst (v := 3) hx hb dX23_lives_44 (by decide) ?_
                  refine lv_aload_n hx hb dX23_lives_45 rfl (lv_at hl 3 rfl) ?_
                  refine va_get (D := (dC, dI)) (ci := 16) (v := .ref lf) (C := RX16) (T := TX16) (N := 22) hx hb hts in_c_lvs_X16 hown hK (va_P.st hP hxm hg1) 0 rfl rfl 12 (by decide) (hts (.fieldLink RX23 187 "OwnedPlacesModel$Item" "life" "[I") (wm_c_lvs 8 rfl)) (fun _ h9 => h9) hg3 dX23_lives_46 ?_
                  refine lv_iload_n hx hb dX23_lives_49 rfl (lv_at hl 1 rfl) ?_
                  refine va_iald hx hb hK (va_P.st hP hg4 hgl) 0 0 rfl rfl (vp_in_nI (show i < 8 by omega) (by decide)) dX23_lives_50 ?_
                  refine lv_topi (fun v_8 ev_8 => ?_)
                  obtain rfl : v_8 = nI s1 := ev_8.trans (by rw [nI_clamp (by omega)]; exact hs1)
                  by_cases hz_9 : ff3 = 0
                  · subst hz_9
                    have hPc := hP.subF (f' := [(m9, .inr (23, mT mr mv vf 0 xa3 (nI T) (nI im) (nI tm) xm (nI sc) (nI vm))), (mr 6, .inl (kI, 3002, .inl fa))]) [0, 1] rfl
                    have hDc := hD.subF (f' := [(m9, .inr (23, mT mr mv vf 0 xa3 (nI T) (nI im) (nI tm) xm (nI sc) (nI vm))), (mr 6, .inl (kI, 3002, .inl fa))]) [0, 1] (by decide) rfl
                    have hKc := hK.sub (tys' := [(kI, .int)]) [0] rfl
                    have hFc := va_freeT (wc := [(m9, .inr (23, mT mr mv vf 0 xa3 (nI T) (nI im) (nI tm) xm (nI sc) (nI vm))), (mr 6, .inl (kI, 3002, .inl fa))]) hD hS hA [0, 1] rfl
                    refine va_callv (va_runV (As := [.int 3, .int (nI s1)]) (rest := []) ⟨hx, hb, hml, hown, hts⟩ (c_tfa0 l dC dI m9 mr mv vf xa3 xm T im tm sc vm kI fa 3 s1 H.size (by omega)) (cwV 2 hts g_c_lvs_c_tfa0_51 rfl rfl rfl (by decide +kernel) ⟨Nat.le_of_ble_eq_true rfl, Nat.le_of_ble_eq_true rfl⟩) ⟨fun a U g mk q => by obtain ⟨q0, q1, qP, qK, qD⟩ := q; exact ⟨q0, q1, qP, va_K.moved (u := U) (U := U.calling g mk a) (Vm.Alike.refl U.vm) qK, qD⟩, va_recv hKc hPc (ci := 23) (q0 := 0) rfl rfl, fun U hU hW => ⟨rfl, by rw [hU], by rw [hU]; exact hPc, va_K.moved hW.alike hKc, hDc.weaken (fun _ _ _ _ => trivial)⟩⟩ rfl rfl hl.1 rfl (lv_room (Nat.le_of_ble_eq_true rfl)) dX23_lives_51 ⟨(show 0 + 0 ≤ 0 by omega), (show 0 + 0 ≤ 0 by omega)⟩) hS (fun q _ h => hFc q h) hFc (fun u tS H1 locs ht hvm hw hB hz1 hk1 hS => ?_)
                    obtain ⟨hP1, hK1, hD1⟩ := hB
                    rw [ht] at hP1
                    have hK1 := va_K.moved hvm.symm hK1
                    obtain ⟨hP, hD⟩ := va_joinT (wr := [(mr 7, .inl (kI, 3002, .inl fe)), (mr 0, .inl (kI, 3000, .inl ft))]) (w1 := [(m9, .inr (23, mT mr mv vf 3 (fa s1) (nI T) (nI im) (nI tm) xm (nI sc) (nI vm))), (mr 6, .inl (kI, 3002, .inl fa))]) hP hD [0, 1] [2, 3] rfl rfl (by decide) (by decide) hk1 hFc hP1 hD1
                    have hK := hK.app hK1
                    generalize H1 = H at hP hS ⊢
                    have hP : va_P (dC, dI) vwCl (([(mr 7, .inl (kI, 3002, .inl fe)), (mr 0, .inl (kI, 3000, .inl ft)), (m9, .inr (23, mT mr mv vf 3 (fa s1) (nI T) (nI im) (nI tm) xm (nI sc) (nI vm))), (mr 6, .inl (kI, 3002, .inl fa))] : va_W) ++ (sT L F)) H := hP
                    have hD : va_D A (([(mr 7, .inl (kI, 3002, .inl fe)), (mr 0, .inl (kI, 3000, .inl ft)), (m9, .inr (23, mT mr mv vf 3 (fa s1) (nI T) (nI im) (nI tm) xm (nI sc) (nI vm))), (mr 6, .inl (kI, 3002, .inl fa))] : va_W) ++ (sT L F)) := hD
                    have hK : va_K (dC, dI) vwCl [(kI, .int), (kI, .int)] s := hK
                    have hK := hK.sub (tys' := [(kI, .int)]) [0] rfl
                    clear hz1 hk1 hPc hDc hKc hFc hP1 hD1 hK1
                    obtain ⟨fq10, efq10⟩ : ∃ zZ : Int32, zZ = 3 := ⟨_, rfl⟩
                    obtain ⟨fx10, efx10⟩ : ∃ zZ : Int32, zZ = fa s1 := ⟨_, rfl⟩
                    rw [← efx10] at hP hD
                    have hhfq10 : fq10 ≠ 0 := by rw [efq10]; decide
                    have hP : va_P (dC, dI) vwCl (([(mr 7, .inl (kI, 3002, .inl fe)), (mr 0, .inl (kI, 3000, .inl ft)), (m9, .inr (23, mT mr mv vf fq10 fx10 (nI T) (nI im) (nI tm) xm (nI sc) (nI vm))), (mr 6, .inl (kI, 3002, .inl fa))] : va_W) ++ (sT L F)) H := by rw [efq10]; exact hP
                    have hD : va_D A (([(mr 7, .inl (kI, 3002, .inl fe)), (mr 0, .inl (kI, 3000, .inl ft)), (m9, .inr (23, mT mr mv vf fq10 fx10 (nI T) (nI im) (nI tm) xm (nI sc) (nI vm))), (mr 6, .inl (kI, 3002, .inl fa))] : va_W) ++ (sT L F)) := by rw [efq10]; exact hD
                    clear efq10 efx10
                    obtain ⟨x_11, ex_11⟩ : ∃ yY : Int32, yY = (nI j) + 1 := ⟨_, rfl⟩
                    refine lv_iinc (v := x_11) (lv' := [(3, .int x_11), (2, .int (nI i)), (0, .ref m9), (1, .ref (xI ii))]) hx hb dX23_lives_54 hl (k := 0) rfl (by rw [ex_11]; rfl) (by decide) rfl (fun ls hl => ?_)
                    obtain rfl : x_11 = nI (j + 1) := by rw [ex_11]; exact nI_1 j
                    have hl : lv_has ls 4 [(3, .int (nI (j + 1))), (2, .int (nI i)), (0, .ref m9), (1, .ref (xI ii))] := hl
                    refine lv_goto (tgt := 19) hx hb dX23_lives_57 (by decide) ?_
                    exact ih2 (j + 1) fq10 fx10 _ _ _ (by omega) (hP.subT [2, 3, 0, 1] rfl) (hD.subT [2, 3, 0, 1] (by decide) rfl) hS (lv_sub hl [0, 1, 2, 3] rfl)
                  · have hPc := hP.subF (f' := [(m9, .inr (23, mT mr mv vf ff3 xa3 (nI T) (nI im) (nI tm) xm (nI sc) (nI vm))), (mr 6, .inl (kI, 3002, .inl fa))]) [0, 1] rfl
                    have hDc := hD.subF (f' := [(m9, .inr (23, mT mr mv vf ff3 xa3 (nI T) (nI im) (nI tm) xm (nI sc) (nI vm))), (mr 6, .inl (kI, 3002, .inl fa))]) [0, 1] (by decide) rfl
                    have hKc := hK.sub (tys' := [(kI, .int)]) [0] rfl
                    have hFc := va_freeT (wc := [(m9, .inr (23, mT mr mv vf ff3 xa3 (nI T) (nI im) (nI tm) xm (nI sc) (nI vm))), (mr 6, .inl (kI, 3002, .inl fa))]) hD hS hA [0, 1] rfl
                    refine va_callv (va_runV (As := [.int 3, .int (nI s1)]) (rest := []) ⟨hx, hb, hml, hown, hts⟩ (c_tfaB l dC dI m9 mr mv vf ff3 xa3 xm T im tm sc vm kI fa 3 (nI s1) H.size hz_9) (cwV 2 hts g_c_lvs_c_tfaB_51 rfl rfl rfl (by decide +kernel) ⟨Nat.le_of_ble_eq_true rfl, Nat.le_of_ble_eq_true rfl⟩) ⟨fun a U g mk q => by obtain ⟨q0, q1, qP, qK, qD⟩ := q; exact ⟨q0, q1, qP, va_K.moved (u := U) (U := U.calling g mk a) (Vm.Alike.refl U.vm) qK, qD⟩, va_recv hKc hPc (ci := 23) (q0 := 0) rfl rfl, fun U hU hW => ⟨rfl, by rw [hU], by rw [hU]; exact hPc, va_K.moved hW.alike hKc, hDc.weaken (fun _ _ _ _ => trivial)⟩⟩ rfl rfl hl.1 rfl (lv_room (Nat.le_of_ble_eq_true rfl)) dX23_lives_51 ⟨(show 0 + 0 ≤ 0 by omega), (show 0 + 0 ≤ 0 by omega)⟩) hS (fun q _ h => hFc q h) hFc (fun u tS H1 locs ht hvm hw hB hz1 hk1 hS => ?_)
                    obtain ⟨hP1, hK1, hD1⟩ := hB
                    rw [ht] at hP1
                    have hK1 := va_K.moved hvm.symm hK1
                    obtain ⟨hP, hD⟩ := va_joinT (wr := [(mr 7, .inl (kI, 3002, .inl fe)), (mr 0, .inl (kI, 3000, .inl ft))]) (w1 := [(m9, .inr (23, mT mr mv vf ff3 xa3 (nI T) (nI im) (nI tm) xm (nI sc) (nI vm))), (mr 6, .inl (kI, 3002, .inl fa))]) hP hD [0, 1] [2, 3] rfl rfl (by decide) (by decide) hk1 hFc hP1 hD1
                    have hK := hK.app hK1
                    generalize H1 = H at hP hS ⊢
                    have hP : va_P (dC, dI) vwCl (([(mr 7, .inl (kI, 3002, .inl fe)), (mr 0, .inl (kI, 3000, .inl ft)), (m9, .inr (23, mT mr mv vf ff3 xa3 (nI T) (nI im) (nI tm) xm (nI sc) (nI vm))), (mr 6, .inl (kI, 3002, .inl fa))] : va_W) ++ (sT L F)) H := hP
                    have hD : va_D A (([(mr 7, .inl (kI, 3002, .inl fe)), (mr 0, .inl (kI, 3000, .inl ft)), (m9, .inr (23, mT mr mv vf ff3 xa3 (nI T) (nI im) (nI tm) xm (nI sc) (nI vm))), (mr 6, .inl (kI, 3002, .inl fa))] : va_W) ++ (sT L F)) := hD
                    have hK : va_K (dC, dI) vwCl [(kI, .int), (kI, .int)] s := hK
                    have hK := hK.sub (tys' := [(kI, .int)]) [0] rfl
                    clear hz1 hk1 hPc hDc hKc hFc hP1 hD1 hK1
                    obtain ⟨x_11, ex_11⟩ : ∃ yY : Int32, yY = (nI j) + 1 := ⟨_, rfl⟩
                    refine lv_iinc (v := x_11) (lv' := [(3, .int x_11), (2, .int (nI i)), (0, .ref m9), (1, .ref (xI ii))]) hx hb dX23_lives_54 hl (k := 0) rfl (by rw [ex_11]; rfl) (by decide) rfl (fun ls hl => ?_)
                    obtain rfl : x_11 = nI (j + 1) := by rw [ex_11]; exact nI_1 j
                    have hl : lv_has ls 4 [(3, .int (nI (j + 1))), (2, .int (nI i)), (0, .ref m9), (1, .ref (xI ii))] := hl
                    refine lv_goto (tgt := 19) hx hb dX23_lives_57 (by decide) ?_
                    exact ih2 (j + 1) ff3 xa3 _ _ _ (by omega) (hP.subT [2, 3, 0, 1] rfl) (hD.subT [2, 3, 0, 1] (by decide) rfl) hS (lv_sub hl [0, 1, 2, 3] rfl)
          exact key2 (i + 1) 0 0 xa1 _ _ _ (by omega) (hP.subT [3, 0, 1, 2] rfl) (hD.subT [3, 0, 1, 2] (by decide) rfl) hS (lv_sub hl [0, 1, 2, 3] rfl)
        · have hPc := hP.subF (f' := [(m9, .inr (23, mT mr mv vf ff1 xa1 (nI T) (nI im) (nI tm) xm (nI sc) (nI vm)))]) [0] rfl
          have hDc := hD.subF (f' := [(m9, .inr (23, mT mr mv vf ff1 xa1 (nI T) (nI im) (nI tm) xm (nI sc) (nI vm)))]) [0] (by decide) rfl
          have hKc := hK.sub (tys' := []) [] rfl
          have hFc := va_freeT (wc := [(m9, .inr (23, mT mr mv vf ff1 xa1 (nI T) (nI im) (nI tm) xm (nI sc) (nI vm)))]) hD hS hA [0] rfl
          refine va_calli (va_runV (As := []) (rest := []) ⟨hx, hb, hml, hown, hts⟩ (c_tokB l dC dI m9 mr mv vf ff1 xa1 xm T im tm sc vm kI H.size hz_1) (cwV 0 hts g_c_lvs_c_tokB_11 rfl rfl rfl (by decide +kernel) ⟨Nat.le_of_ble_eq_true rfl, Nat.le_of_ble_eq_true rfl⟩) ⟨fun a U g mk q => by obtain ⟨q0, q1, qP, qK, qD⟩ := q; exact ⟨q0, q1, qP, va_K.moved (u := U) (U := U.calling g mk a) (Vm.Alike.refl U.vm) qK, qD⟩, va_recv hKc hPc (ci := 23) (q0 := 0) rfl rfl, fun U hU hW => ⟨rfl, by rw [hU], by rw [hU]; exact hPc, va_K.moved hW.alike hKc, hDc.weaken (fun _ _ _ _ => trivial)⟩⟩ rfl rfl hl.1 rfl (lv_room (Nat.le_of_ble_eq_true rfl)) dX23_lives_11 ⟨(show 0 + 0 ≤ 0 by omega), (show 0 + 0 ≤ 0 by omega)⟩) hS (fun q _ h => hFc q h) hFc (fun r_2 u tS H1 locs ht hvm hw hB hz1 hk1 hS => ?_)
          obtain ⟨hP1, hK1, hD1⟩ := hB
          rw [ht] at hP1
          have hK1 := va_K.moved hvm.symm hK1
          obtain ⟨hP, hD⟩ := va_joinT (wr := [(mr 6, .inl (kI, 3002, .inl fa)), (mr 7, .inl (kI, 3002, .inl fe)), (mr 0, .inl (kI, 3000, .inl ft))]) (w1 := [(m9, .inr (23, mT mr mv vf ff1 xa1 (nI T) (nI im) (nI tm) xm (nI sc) (nI vm)))]) hP hD [0] [1, 2, 3] rfl rfl (by decide) (by decide) hk1 hFc hP1 hD1
          generalize H1 = H at hP hS ⊢
          have hP : va_P (dC, dI) vwCl (([(mr 6, .inl (kI, 3002, .inl fa)), (mr 7, .inl (kI, 3002, .inl fe)), (mr 0, .inl (kI, 3000, .inl ft)), (m9, .inr (23, mT mr mv vf ff1 xa1 (nI T) (nI im) (nI tm) xm (nI sc) (nI vm)))] : va_W) ++ (sT L F)) H := hP
          have hD : va_D A (([(mr 6, .inl (kI, 3002, .inl fa)), (mr 7, .inl (kI, 3002, .inl fe)), (mr 0, .inl (kI, 3000, .inl ft)), (m9, .inr (23, mT mr mv vf ff1 xa1 (nI T) (nI im) (nI tm) xm (nI sc) (nI vm)))] : va_W) ++ (sT L F)) := hD
          have hK : va_K (dC, dI) vwCl [(kI, .int)] s := hK
          clear hz1 hk1 hPc hDc hKc hFc hP1 hD1 hK1
          obtain rfl : r_2 = 0 := hw
          refine lv_if_eq (tgt := 66) hx hb dX23_lives_14 (by decide) (fun _ => ?_) (fun c_3 => absurd (by decide) c_3)
          have hP9 := hP.subT (f' := [(m9, .inr (23, mT mr mv vf ff1 xa1 (nI T) (nI im) (nI tm) xm (nI sc) (nI vm))), (mr 6, .inl (kI, 3002, .inl fa)), (mr 7, .inl (kI, 3002, .inl fe)), (mr 0, .inl (kI, 3000, .inl ft))]) [3, 0, 1, 2] rfl
          have hD9 := hD.subT (f' := [(m9, .inr (23, mT mr mv vf ff1 xa1 (nI T) (nI im) (nI tm) xm (nI sc) (nI vm))), (mr 6, .inl (kI, 3002, .inl fa)), (mr 7, .inl (kI, 3002, .inl fe)), (mr 0, .inl (kI, 3000, .inl ft))]) [3, 0, 1, 2] (by decide) rfl
          have hK9 := hK.sub (tys' := [(kI, .int)]) [0] rfl
          subst hQ1
          exact W.vret hx hb hr (fun tS ht hW => ⟨⟨(), rfl, trivial, ff1, xa1, by rw [ht]; exact hP9, va_K.moved hW.alike hK9, hD9⟩, hS.F ht⟩) hS.2.2 dX23_lives_66
  exact key1 (lv + 1) 0 0 xa _ _ _ (by omega) (hP.subT [0, 1, 2, 3] rfl) (hD.subT [0, 1, 2, 3] (by decide) rfl) hS (lv_sub hl [0, 1, 2] rfl)
