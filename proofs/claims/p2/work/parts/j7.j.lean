def wf_c_itn : List Cond := [.code yX23_itemNamed cX23_itemNamed 3 (some .int), .fieldLink RX23 221 "OwnedPlacesModel" "itemMany" "I", .fieldLink RX23 232 "OwnedPlacesModel" "items" "[LOwnedPlacesModel$Item;", .fieldLink RX23 176 "OwnedPlacesModel$Item" "name" "I", .code yX23_sameName cX23_sameName 5 (some .boolean), .fieldLink RX23 34 "OwnedPlacesModel" "tokenEnd" "[I", .fieldLink RX23 31 "OwnedPlacesModel" "tokenAt" "[I", .fieldLink RX23 7 "OwnedPlacesModel" "text" "[I", .methodLink RX23 401 yX23_sameName, .instanceMethod yX23_sameName, .selects RX23 yX23_sameName yX23_sameName, .initialized RX23]
def wp_c_itn : List Cond := wf_c_itn ++ (wsX230 ++ (wsX160 ++ []))
theorem in_c_itn_X23 : ∀ w ∈ wsX230, w ∈ wp_c_itn := fun w h => List.mem_append_right _ (List.mem_append_left _ h)
theorem in_c_itn_X16 : ∀ w ∈ wsX160, w ∈ wp_c_itn := fun w h => List.mem_append_right _ (List.mem_append_right _ (List.mem_append_left _ h))
theorem wg_c_itn : wf_c_itn.all goodWord = true := by decide +kernel
theorem wm_c_itn (k : Nat) {w : Cond} (h : wp_c_itn[k]? = some w) : w ∈ wp_c_itn := List.mem_of_getElem? h
set_option maxRecDepth 20000 in
theorem g_c_itn_c_sam_21 : GoodIn wp_c_itn (wsV RX23 401 RX23 yX23_sameName wp_c_sam) := goodIn_app (goodIn_f [.methodLink RX23 401 yX23_sameName, .instanceMethod yX23_sameName, .selects RX23 yX23_sameName yX23_sameName, .initialized RX23] [8, 9, 10, 11] rfl (by decide +kernel)) (goodIn_app (goodIn_f (wf_c_sam) [4, 5, 6, 7] rfl wg_c_sam) (goodIn_app (goodIn_sub in_c_itn_X23 gd_X23) (goodIn_n)))
set_option maxHeartbeats 4000000 in
set_option maxRecDepth 100000 in
theorem c_itn (l : Launch) (dC : Nat → ClassId) (dI : Nat → Nat → Nat) (m9 : Nat) (mr : Nat → Nat) (mv : Nat → Int32) (vf : Value) (ff xa xm : Int32) (T im tm sc vm : Nat) (kI : ClassId) (fk fa fe ft : Nat → Int32) (zs : Nat) (L : List Nat) (F : Nat → va_E) (G : Nat → va_E) (kT : ClassId) (fy : Nat → Option Nat) (Y : Nat → Int32 × Int32 × Option Nat) (ad : Nat → Nat) (kE kS kB kA kV kW kP kM : ClassId) (fi : Nat → Option Nat) (xI ps ms : Nat → Nat) (ik : Nat → Int32) (qz : Nat) (tj : Nat) (sz : Nat) (htg : tgd L F G fk fa fe T zs kE kI kS kB kA kV kW kT kP fi im xI ps ms ik qz fy tm Y ad) (htj : tj < T) : Met l yX23_itemNamed wp_c_itn ({ frames := 1, cells := 0, slots := 0, locals := 24 }) (va_Pc [.ref m9, .int (nI tj)] (fun U => U.heap.size = sz ∧ va_P (dC, dI) vwCl (([(m9, .inr (23, mT mr mv vf ff xa (nI T) (nI im) (nI tm) xm (nI sc) (nI vm))), (mr 6, .inl (kI, 3002, .inl fa)), (mr 7, .inl (kI, 3002, .inl fe)), (mr 0, .inl (kI, 3000, .inl ft)), (mr 11, .inl (kM, 70, .inr (.inr (.inr (.inr fi)))))] : va_W) ++ (sT L F)) U.heap ∧ va_K (dC, dI) vwCl [(kI, .int), (kM, .object RX16)] U ∧ va_D (fun _ => True) (([(m9, .inr (23, mT mr mv vf ff xa (nI T) (nI im) (nI tm) xm (nI sc) (nI vm))), (mr 6, .inl (kI, 3002, .inl fa)), (mr 7, .inl (kI, 3002, .inl fe)), (mr 0, .inl (kI, 3000, .inl ft)), (mr 11, .inl (kM, 70, .inr (.inr (.inr (.inr fi)))))] : va_W) ++ (sT L F)))) (va_Qi (fun (r : Int32) (_ : Unit) => r = -1 ∨ ∃ i : Nat, i < im ∧ r = nI i) (fun (_ : Unit) (tS : State) => va_P (dC, dI) vwCl (([(m9, .inr (23, mT mr mv vf ff xa (nI T) (nI im) (nI tm) xm (nI sc) (nI vm))), (mr 6, .inl (kI, 3002, .inl fa)), (mr 7, .inl (kI, 3002, .inl fe)), (mr 0, .inl (kI, 3000, .inl ft)), (mr 11, .inl (kM, 70, .inr (.inr (.inr (.inr fi)))))] : va_W) ++ (sT L F)) tS.heap ∧ va_K (dC, dI) vwCl [(kI, .int), (kM, .object RX16)] tS ∧ va_D (va_A (([(m9, .inr (23, mT mr mv vf ff xa (nI T) (nI im) (nI tm) xm (nI sc) (nI vm))), (mr 6, .inl (kI, 3002, .inl fa)), (mr 7, .inl (kI, 3002, .inl fe)), (mr 0, .inl (kI, 3000, .inl ft)), (mr 11, .inl (kM, 70, .inr (.inr (.inr (.inr fi)))))] : va_W) ++ (sT L F)) sz) (([(m9, .inr (23, mT mr mv vf ff xa (nI T) (nI im) (nI tm) xm (nI sc) (nI vm))), (mr 6, .inl (kI, 3002, .inl fa)), (mr 7, .inl (kI, 3002, .inl fe)), (mr 0, .inl (kI, 3000, .inl ft)), (mr 11, .inl (kM, 70, .inr (.inr (.inr (.inr fi)))))] : va_W) ++ (sT L F))) (va_A (([(m9, .inr (23, mT mr mv vf ff xa (nI T) (nI im) (nI tm) xm (nI sc) (nI vm))), (mr 6, .inl (kI, 3002, .inl fa)), (mr 7, .inl (kI, 3002, .inl fe)), (mr 0, .inl (kI, 3000, .inl ft)), (mr 11, .inl (kM, 70, .inr (.inr (.inr (.inr fi)))))] : va_W) ++ (sT L F)) sz)) 0 0 (va_A (([(m9, .inr (23, mT mr mv vf ff xa (nI T) (nI im) (nI tm) xm (nI sc) (nI vm))), (mr 6, .inl (kI, 3002, .inl fa)), (mr 7, .inl (kI, 3002, .inl fe)), (mr 0, .inl (kI, 3000, .inl ft)), (mr 11, .inl (kM, 70, .inr (.inr (.inr (.inr fi)))))] : va_W) ++ (sT L F)) sz) := by
  refine Met.ofW (cc := cX23_itemNamed) (maxL := 3) (ret := (some .int)) (by decide) rfl ?_
  intro p e s m args below meth c s₁ B hml hv
  obtain ⟨rfl, hsz, hP, hK, hD0⟩ := hv
  have hx := B.exec
  have hb := B.bytes
  have hr := B.returns
  have hts := atoms_spec (ws := wp_c_itn) B.pre
  have hown : s.vm.findClass RX23 = some m.cls := findClass_of_methodNamed B.named
  have hlocks := B.notSynchronized
  subst hsz
  have hD := hD0.self (sz := s.heap.size)
  generalize hAe : va_A (([(m9, .inr (23, mT mr mv vf ff xa (nI T) (nI im) (nI tm) xm (nI sc) (nI vm))), (mr 6, .inl (kI, 3002, .inl fa)), (mr 7, .inl (kI, 3002, .inl fe)), (mr 0, .inl (kI, 3000, .inl ft)), (mr 11, .inl (kM, 70, .inr (.inr (.inr (.inr fi)))))] : va_W) ++ (sT L F)) s.heap.size = A at hD ⊢
  have hA : ∀ q : Nat, s.heap.size ≤ q → A q := fun q h => by rw [← hAe]; exact Or.inr h
  have hS : va_S A s.heap s.heap [] := va_S.rf
  have hP : va_P (dC, dI) vwCl (([(m9, .inr (23, mT mr mv vf ff xa (nI T) (nI im) (nI tm) xm (nI sc) (nI vm))), (mr 6, .inl (kI, 3002, .inl fa)), (mr 7, .inl (kI, 3002, .inl fe)), (mr 0, .inl (kI, 3000, .inl ft)), (mr 11, .inl (kM, 70, .inr (.inr (.inr (.inr fi)))))] : va_W) ++ (sT L F)) s.heap := hP
  have hl := lv_entry ([.ref m9, .int (nI tj)]) (n := 3) (Nat.le_of_ble_eq_true rfl)
  rw [lg_entry_eq]
  generalize (lg_sl ([.ref m9, .int (nI tj)]) ++ List.replicate (3 - (lg_sl ([.ref m9, .int (nI tj)])).length) Slot.unset).toArray = ls at hl ⊢
  have hl : lv_has ls 3 [(0, .ref m9), (1, .int (nI tj))] := hl
  refine lv_iconst (v := 0) hx hb dX23_itemNamed_0 (by decide) ?_
  refine lv_istore_n (lv' := [(2, .int 0), (0, .ref m9), (1, .int (nI tj))]) hx hb dX23_itemNamed_1 rfl hl (by decide) rfl (fun ls hl => ?_)
  refine W_q (fun Q1 hQ1 => ?_)
  have key1 : ∀ (n1 : Nat) (i : Nat) (H : Heap) (locs : List Loc) (ls : Array Slot), (i + n1 = im + 1 ∧ i ≤ im ∧ im ≤ 70) → va_P (dC, dI) vwCl (([(m9, .inr (23, mT mr mv vf ff xa (nI T) (nI im) (nI tm) xm (nI sc) (nI vm))), (mr 6, .inl (kI, 3002, .inl fa)), (mr 7, .inl (kI, 3002, .inl fe)), (mr 0, .inl (kI, 3000, .inl ft)), (mr 11, .inl (kM, 70, .inr (.inr (.inr (.inr fi)))))] : va_W) ++ (sT L F)) H → va_D A (([(m9, .inr (23, mT mr mv vf ff xa (nI T) (nI im) (nI tm) xm (nI sc) (nI vm))), (mr 6, .inl (kI, 3002, .inl fa)), (mr 7, .inl (kI, 3002, .inl fe)), (mr 0, .inl (kI, 3000, .inl ft)), (mr 11, .inl (kM, 70, .inr (.inr (.inr (.inr fi)))))] : va_W) ++ (sT L F)) → va_S A s.heap H locs → lv_has ls 3 [(2, .int (nI i)), (0, .ref m9), (1, .int (nI tj))] → W p l e (headSpec wp_c_itn ({ frames := 1, cells := 0, slots := 0, locals := 24 })).room s m ([.ref m9, .int (nI tj)] : List Value).toArray below meth c H locs 0 0 Q1 (F0 m 2 ls []) := by
    intro n1
    induction n1 with
    | zero => intro i H locs ls hr0; exact absurd hr0 (by omega)
    | succ n1 ih1 =>
      intro i H locs ls hr0 hP hD hS hl
      refine lv_iload_n hx hb dX23_itemNamed_2 rfl (lv_at hl 0 rfl) ?_
      refine lv_aload_n hx hb dX23_itemNamed_3 rfl (lv_at hl 1 rfl) ?_
      refine va_get (D := (dC, dI)) (ci := 23) (v := .int (nI im)) (C := RX23) (T := TX23) (N := 89) hx hb hts in_c_itn_X23 hown hK hP 0 rfl rfl 12 (by decide) (hts (.fieldLink RX23 221 "OwnedPlacesModel" "itemMany" "I") (wm_c_itn 1 rfl)) (fun _ h9 => h9) rfl dX23_itemNamed_4 ?_
      refine lv_icmp_ge (tgt := 35) hx hb dX23_itemNamed_7 (by decide) (fun hk => ?_) (fun hk => ?_)
      · refine lv_iconst (v := (-1)) hx hb dX23_itemNamed_35 (by decide) ?_
        have hP9 := hP.subT (f' := [(m9, .inr (23, mT mr mv vf ff xa (nI T) (nI im) (nI tm) xm (nI sc) (nI vm))), (mr 6, .inl (kI, 3002, .inl fa)), (mr 7, .inl (kI, 3002, .inl fe)), (mr 0, .inl (kI, 3000, .inl ft)), (mr 11, .inl (kM, 70, .inr (.inr (.inr (.inr fi)))))]) [0, 1, 2, 3, 4] rfl
        have hD9 := hD.subT (f' := [(m9, .inr (23, mT mr mv vf ff xa (nI T) (nI im) (nI tm) xm (nI sc) (nI vm))), (mr 6, .inl (kI, 3002, .inl fa)), (mr 7, .inl (kI, 3002, .inl fe)), (mr 0, .inl (kI, 3000, .inl ft)), (mr 11, .inl (kM, 70, .inr (.inr (.inr (.inr fi)))))]) [0, 1, 2, 3, 4] (by decide) rfl
        have hK9 := hK.sub (tys' := [(kI, .int), (kM, .object RX16)]) [0, 1] rfl
        subst hQ1
        exact W.iret (v := (-1)) hx hb hr (fun tS ht hW => ⟨⟨(-1), (), rfl, Or.inl rfl, by rw [ht]; exact hP9, va_K.moved hW.alike hK9, hD9⟩, hS.F ht⟩) hS.2.2 dX23_itemNamed_36
      · have hin : i < im := by rcases Nat.lt_or_ge i im with z9 | z9; exact z9; exact absurd (nI_le z9 (by omega)) hk
        obtain ⟨hx1, hx2, hx3, hx4, gs, hg1, hg2, hg3⟩ := it_nm htg hin
        refine lv_aload_n hx hb dX23_itemNamed_10 rfl (lv_at hl 1 rfl) ?_
        refine lv_aload_n hx hb dX23_itemNamed_11 rfl (lv_at hl 1 rfl) ?_
        refine va_get (D := (dC, dI)) (ci := 23) (v := .ref (mr 11)) (C := RX23) (T := TX23) (N := 89) hx hb hts in_c_itn_X23 hown hK hP 0 rfl rfl 11 (by decide) (hts (.fieldLink RX23 232 "OwnedPlacesModel" "items" "[LOwnedPlacesModel$Item;") (wm_c_itn 2 rfl)) (fun _ h9 => h9) rfl dX23_itemNamed_12 ?_
        refine lv_iload_n hx hb dX23_itemNamed_15 rfl (lv_at hl 0 rfl) ?_
        refine va_aldq hx hb hK hP 4 1 rfl rfl (vp_in_nI (show i < 70 by omega) (by decide)) dX23_itemNamed_16 ?_
        refine W.eq (g2 := F0 m 17 ls (.ref (xI i) :: [.ref m9])) (by show F0 m _ ls (va_rf _ :: _) = _; rw [nI_clamp (show i < 2 ^ 31 by omega), hx3]; rfl) ?_
        refine va_get (D := (dC, dI)) (ci := 16) (v := .int (nI (ps i + 1))) (C := RX16) (T := TX16) (N := 22) hx hb hts in_c_itn_X16 hown hK (va_P.st hP hx1 hg1) 0 rfl rfl 1 (by decide) (hts (.fieldLink RX23 176 "OwnedPlacesModel$Item" "name" "I") (wm_c_itn 3 rfl)) (fun _ h9 => h9) hg2 dX23_itemNamed_17 ?_
        refine lv_iload_n hx hb dX23_itemNamed_20 rfl (lv_at hl 2 rfl) ?_
        have hPc := hP.subF (f' := [(m9, .inr (23, mT mr mv vf ff xa (nI T) (nI im) (nI tm) xm (nI sc) (nI vm))), (mr 6, .inl (kI, 3002, .inl fa)), (mr 7, .inl (kI, 3002, .inl fe)), (mr 0, .inl (kI, 3000, .inl ft))]) [0, 1, 2, 3] rfl
        have hDc := hD.subF (f' := [(m9, .inr (23, mT mr mv vf ff xa (nI T) (nI im) (nI tm) xm (nI sc) (nI vm))), (mr 6, .inl (kI, 3002, .inl fa)), (mr 7, .inl (kI, 3002, .inl fe)), (mr 0, .inl (kI, 3000, .inl ft))]) [0, 1, 2, 3] (by decide) rfl
        have hKc := hK.sub (tys' := [(kI, .int)]) [0] rfl
        have hFc := va_freeT (wc := [(m9, .inr (23, mT mr mv vf ff xa (nI T) (nI im) (nI tm) xm (nI sc) (nI vm))), (mr 6, .inl (kI, 3002, .inl fa)), (mr 7, .inl (kI, 3002, .inl fe)), (mr 0, .inl (kI, 3000, .inl ft))]) hD hS hA [0, 1, 2, 3] rfl
        refine va_calli (va_runV (As := [.int (nI (ps i + 1)), .int (nI tj)]) (rest := []) ⟨hx, hb, hml, hown, hts⟩ (c_sam l dC dI m9 mr mv vf ff xa xm T im tm sc vm kI fk fa fe ft zs (ps i + 1) tj H.size htg.1.1 htg.1.2.1 hx2 htj) (cwV 2 hts g_c_itn_c_sam_21 rfl rfl rfl (by decide +kernel) ⟨Nat.le_of_ble_eq_true rfl, Nat.le_of_ble_eq_true rfl⟩) ⟨fun a U g mk q => by obtain ⟨q0, q1, qP, qK, qD⟩ := q; exact ⟨q0, q1, qP, va_K.moved (u := U) (U := U.calling g mk a) (Vm.Alike.refl U.vm) qK, qD⟩, va_recv hKc hPc (ci := 23) (q0 := 0) rfl rfl, fun U hU hW => ⟨rfl, by rw [hU], by rw [hU]; exact hPc, va_K.moved hW.alike hKc, hDc.weaken (fun _ _ _ _ => trivial)⟩⟩ rfl rfl hl.1 rfl (lv_room (Nat.le_of_ble_eq_true rfl)) dX23_itemNamed_21 ⟨(show 0 + 0 ≤ 0 by omega), (show 0 + 0 ≤ 0 by omega)⟩) hS (fun q _ h => hFc q h) hFc (fun r_1 u tS H1 locs ht hvm hw hB hz1 hk1 hS => ?_)
        obtain ⟨hP1, hK1, hD1⟩ := hB
        rw [ht] at hP1
        have hK1 := va_K.moved hvm.symm hK1
        obtain ⟨hP, hD⟩ := va_joinT (wr := [(mr 11, .inl (kM, 70, .inr (.inr (.inr (.inr fi)))))]) (w1 := [(m9, .inr (23, mT mr mv vf ff xa (nI T) (nI im) (nI tm) xm (nI sc) (nI vm))), (mr 6, .inl (kI, 3002, .inl fa)), (mr 7, .inl (kI, 3002, .inl fe)), (mr 0, .inl (kI, 3000, .inl ft))]) hP hD [0, 1, 2, 3] [4] rfl rfl (by decide) (by decide) hk1 hFc hP1 hD1
        have hK := hK.app hK1
        generalize H1 = H at hP hS ⊢
        have hP : va_P (dC, dI) vwCl (([(mr 11, .inl (kM, 70, .inr (.inr (.inr (.inr fi))))), (m9, .inr (23, mT mr mv vf ff xa (nI T) (nI im) (nI tm) xm (nI sc) (nI vm))), (mr 6, .inl (kI, 3002, .inl fa)), (mr 7, .inl (kI, 3002, .inl fe)), (mr 0, .inl (kI, 3000, .inl ft))] : va_W) ++ (sT L F)) H := hP
        have hD : va_D A (([(mr 11, .inl (kM, 70, .inr (.inr (.inr (.inr fi))))), (m9, .inr (23, mT mr mv vf ff xa (nI T) (nI im) (nI tm) xm (nI sc) (nI vm))), (mr 6, .inl (kI, 3002, .inl fa)), (mr 7, .inl (kI, 3002, .inl fe)), (mr 0, .inl (kI, 3000, .inl ft))] : va_W) ++ (sT L F)) := hD
        have hK : va_K (dC, dI) vwCl [(kI, .int), (kM, .object RX16), (kI, .int)] s := hK
        have hK := hK.sub (tys' := [(kI, .int), (kM, .object RX16)]) [0, 1] rfl
        clear hz1 hk1 hPc hDc hKc hFc hP1 hD1 hK1
        refine lv_if_eq (tgt := 29) hx hb dX23_itemNamed_24 (by decide) (fun hs => ?_) (fun hs => ?_)
        · obtain ⟨x_2, ex_2⟩ : ∃ yY : Int32, yY = (nI i) + 1 := ⟨_, rfl⟩
          refine lv_iinc (v := x_2) (lv' := [(2, .int x_2), (0, .ref m9), (1, .int (nI tj))]) hx hb dX23_itemNamed_29 hl (k := 0) rfl (by rw [ex_2]; rfl) (by decide) rfl (fun ls hl => ?_)
          obtain rfl : x_2 = nI (i + 1) := by rw [ex_2]; exact nI_1 i
          have hl : lv_has ls 3 [(2, .int (nI (i + 1))), (0, .ref m9), (1, .int (nI tj))] := hl
          refine lv_goto (tgt := 2) hx hb dX23_itemNamed_32 (by decide) ?_
          exact ih1 (i + 1) _ _ _ (by omega) (hP.subT [1, 2, 3, 4, 0] rfl) (hD.subT [1, 2, 3, 4, 0] (by decide) rfl) hS (lv_sub hl [0, 1, 2] rfl)
        · refine lv_iload_n hx hb dX23_itemNamed_27 rfl (lv_at hl 0 rfl) ?_
          have hP9 := hP.subT (f' := [(m9, .inr (23, mT mr mv vf ff xa (nI T) (nI im) (nI tm) xm (nI sc) (nI vm))), (mr 6, .inl (kI, 3002, .inl fa)), (mr 7, .inl (kI, 3002, .inl fe)), (mr 0, .inl (kI, 3000, .inl ft)), (mr 11, .inl (kM, 70, .inr (.inr (.inr (.inr fi)))))]) [1, 2, 3, 4, 0] rfl
          have hD9 := hD.subT (f' := [(m9, .inr (23, mT mr mv vf ff xa (nI T) (nI im) (nI tm) xm (nI sc) (nI vm))), (mr 6, .inl (kI, 3002, .inl fa)), (mr 7, .inl (kI, 3002, .inl fe)), (mr 0, .inl (kI, 3000, .inl ft)), (mr 11, .inl (kM, 70, .inr (.inr (.inr (.inr fi)))))]) [1, 2, 3, 4, 0] (by decide) rfl
          have hK9 := hK.sub (tys' := [(kI, .int), (kM, .object RX16)]) [0, 1] rfl
          subst hQ1
          exact W.iret (v := nI i) hx hb hr (fun tS ht hW => ⟨⟨(nI i), (), rfl, Or.inr ⟨i, hin, rfl⟩, by rw [ht]; exact hP9, va_K.moved hW.alike hK9, hD9⟩, hS.F ht⟩) hS.2.2 dX23_itemNamed_28
  exact key1 (im + 1) 0 _ _ _ (⟨by omega, by omega, htg.2.2.1.1⟩) (hP.subT [0, 1, 2, 3, 4] rfl) (hD.subT [0, 1, 2, 3, 4] (by decide) rfl) hS (lv_sub hl [0, 1, 2] rfl)
