def wf_c_inm : List Cond := [.code yX23_itemNames cX23_itemNames 3 none, .fieldLink RX23 221 "OwnedPlacesModel" "itemMany" "I", .fieldLink RX23 232 "OwnedPlacesModel" "items" "[LOwnedPlacesModel$Item;", .fieldLink RX23 176 "OwnedPlacesModel$Item" "name" "I", .code yX23_sameName cX23_sameName 5 (some .boolean), .fieldLink RX23 34 "OwnedPlacesModel" "tokenEnd" "[I", .fieldLink RX23 31 "OwnedPlacesModel" "tokenAt" "[I", .fieldLink RX23 7 "OwnedPlacesModel" "text" "[I", .methodLink RX23 401 yX23_sameName, .instanceMethod yX23_sameName, .selects RX23 yX23_sameName yX23_sameName, .initialized RX23, .code yX23_fail cX23_fail 3 none, .fieldLink RX23 80 "OwnedPlacesModel" "fault" "I", .fieldLink RX23 83 "OwnedPlacesModel" "faultAt" "I", .methodLink RX23 96 yX23_fail, .instanceMethod yX23_fail, .selects RX23 yX23_fail yX23_fail]
def wp_c_inm : List Cond := wf_c_inm ++ (wsX230 ++ (wsX160 ++ []))
theorem in_c_inm_X23 : ∀ w ∈ wsX230, w ∈ wp_c_inm := fun w h => List.mem_append_right _ (List.mem_append_left _ h)
theorem in_c_inm_X16 : ∀ w ∈ wsX160, w ∈ wp_c_inm := fun w h => List.mem_append_right _ (List.mem_append_right _ (List.mem_append_left _ h))
theorem wg_c_inm : wf_c_inm.all goodWord = true := by decide +kernel
theorem wm_c_inm (k : Nat) {w : Cond} (h : wp_c_inm[k]? = some w) : w ∈ wp_c_inm := List.mem_of_getElem? h
set_option maxRecDepth 20000 in
theorem g_c_inm_c_sam_36 : GoodIn wp_c_inm (wsV RX23 401 RX23 yX23_sameName wp_c_sam) := goodIn_app (goodIn_f [.methodLink RX23 401 yX23_sameName, .instanceMethod yX23_sameName, .selects RX23 yX23_sameName yX23_sameName, .initialized RX23] [8, 9, 10, 11] rfl (by decide +kernel)) (goodIn_app (goodIn_f (wf_c_sam) [4, 5, 6, 7] rfl wg_c_sam) (goodIn_app (goodIn_sub in_c_inm_X23 gd_X23) (goodIn_n)))
set_option maxRecDepth 20000 in
theorem g_c_inm_c_tfa0_53 : GoodIn wp_c_inm (wsV RX23 96 RX23 yX23_fail wp_c_tfa0) := goodIn_app (goodIn_f [.methodLink RX23 96 yX23_fail, .instanceMethod yX23_fail, .selects RX23 yX23_fail yX23_fail, .initialized RX23] [15, 16, 17, 11] rfl (by decide +kernel)) (goodIn_app (goodIn_f (wf_c_tfa0) [12, 13, 6, 14] rfl wg_c_tfa0) (goodIn_app (goodIn_sub in_c_inm_X23 gd_X23) (goodIn_n)))
set_option maxRecDepth 20000 in
theorem g_c_inm_c_tfaB_53 : GoodIn wp_c_inm (wsV RX23 96 RX23 yX23_fail wp_c_tfa0) := goodIn_app (goodIn_f [.methodLink RX23 96 yX23_fail, .instanceMethod yX23_fail, .selects RX23 yX23_fail yX23_fail, .initialized RX23] [15, 16, 17, 11] rfl (by decide +kernel)) (goodIn_app (goodIn_f (wf_c_tfa0) [12, 13, 6, 14] rfl wg_c_tfa0) (goodIn_app (goodIn_sub in_c_inm_X23 gd_X23) (goodIn_n)))
set_option maxHeartbeats 4000000 in
set_option maxRecDepth 100000 in
theorem c_inm (l : Launch) (dC : Nat → ClassId) (dI : Nat → Nat → Nat) (m9 : Nat) (mr : Nat → Nat) (mv : Nat → Int32) (vf : Value) (ff xa xm : Int32) (T im tm sc vm : Nat) (kI : ClassId) (fk fa fe ft : Nat → Int32) (zs : Nat) (L : List Nat) (F : Nat → va_E) (G : Nat → va_E) (kT : ClassId) (fy : Nat → Option Nat) (Y : Nat → Int32 × Int32 × Option Nat) (ad : Nat → Nat) (kE kS kB kA kV kW kP kM : ClassId) (fi : Nat → Option Nat) (xI ps ms : Nat → Nat) (ik : Nat → Int32) (qz : Nat) (sz : Nat) (htg : tgd L F G fk fa fe T zs kE kI kS kB kA kV kW kT kP fi im xI ps ms ik qz fy tm Y ad) : Met l yX23_itemNames wp_c_inm ({ frames := 1, cells := 0, slots := 0, locals := 24 }) (va_Pc [.ref m9] (fun U => U.heap.size = sz ∧ va_P (dC, dI) vwCl (([(m9, .inr (23, mT mr mv vf 0 xa (nI T) (nI im) (nI tm) xm (nI sc) (nI vm))), (mr 6, .inl (kI, 3002, .inl fa)), (mr 7, .inl (kI, 3002, .inl fe)), (mr 0, .inl (kI, 3000, .inl ft)), (mr 11, .inl (kM, 70, .inr (.inr (.inr (.inr fi)))))] : va_W) ++ (sT L F)) U.heap ∧ va_K (dC, dI) vwCl [(kI, .int), (kM, .object RX16)] U ∧ va_D (fun _ => True) (([(m9, .inr (23, mT mr mv vf 0 xa (nI T) (nI im) (nI tm) xm (nI sc) (nI vm))), (mr 6, .inl (kI, 3002, .inl fa)), (mr 7, .inl (kI, 3002, .inl fe)), (mr 0, .inl (kI, 3000, .inl ft)), (mr 11, .inl (kM, 70, .inr (.inr (.inr (.inr fi)))))] : va_W) ++ (sT L F)))) (va_Qv (fun _ : Unit => True) (fun (_ : Unit) (tS : State) => ∃ (ff2 : Int32) (xa2 : Int32), va_P (dC, dI) vwCl (([(m9, .inr (23, mT mr mv vf ff2 xa2 (nI T) (nI im) (nI tm) xm (nI sc) (nI vm))), (mr 6, .inl (kI, 3002, .inl fa)), (mr 7, .inl (kI, 3002, .inl fe)), (mr 0, .inl (kI, 3000, .inl ft)), (mr 11, .inl (kM, 70, .inr (.inr (.inr (.inr fi)))))] : va_W) ++ (sT L F)) tS.heap ∧ va_K (dC, dI) vwCl [(kI, .int), (kM, .object RX16)] tS ∧ va_D (va_A (([(m9, .inr (23, mT mr mv vf 0 xa (nI T) (nI im) (nI tm) xm (nI sc) (nI vm))), (mr 6, .inl (kI, 3002, .inl fa)), (mr 7, .inl (kI, 3002, .inl fe)), (mr 0, .inl (kI, 3000, .inl ft)), (mr 11, .inl (kM, 70, .inr (.inr (.inr (.inr fi)))))] : va_W) ++ (sT L F)) sz) (([(m9, .inr (23, mT mr mv vf ff2 xa2 (nI T) (nI im) (nI tm) xm (nI sc) (nI vm))), (mr 6, .inl (kI, 3002, .inl fa)), (mr 7, .inl (kI, 3002, .inl fe)), (mr 0, .inl (kI, 3000, .inl ft)), (mr 11, .inl (kM, 70, .inr (.inr (.inr (.inr fi)))))] : va_W) ++ (sT L F))) (va_A (([(m9, .inr (23, mT mr mv vf 0 xa (nI T) (nI im) (nI tm) xm (nI sc) (nI vm))), (mr 6, .inl (kI, 3002, .inl fa)), (mr 7, .inl (kI, 3002, .inl fe)), (mr 0, .inl (kI, 3000, .inl ft)), (mr 11, .inl (kM, 70, .inr (.inr (.inr (.inr fi)))))] : va_W) ++ (sT L F)) sz)) 0 0 (va_A (([(m9, .inr (23, mT mr mv vf 0 xa (nI T) (nI im) (nI tm) xm (nI sc) (nI vm))), (mr 6, .inl (kI, 3002, .inl fa)), (mr 7, .inl (kI, 3002, .inl fe)), (mr 0, .inl (kI, 3000, .inl ft)), (mr 11, .inl (kM, 70, .inr (.inr (.inr (.inr fi)))))] : va_W) ++ (sT L F)) sz) := by
  refine Met.ofW (cc := cX23_itemNames) (maxL := 3) (ret := none) (by decide) rfl ?_
  intro p e s m args below meth c s₁ B hml hv
  obtain ⟨rfl, hsz, hP, hK, hD0⟩ := hv
  have hx := B.exec
  have hb := B.bytes
  have hr := B.returns
  have hts := atoms_spec (ws := wp_c_inm) B.pre
  have hown : s.vm.findClass RX23 = some m.cls := findClass_of_methodNamed B.named
  have hlocks := B.notSynchronized
  subst hsz
  have hD := hD0.self (sz := s.heap.size)
  generalize hAe : va_A (([(m9, .inr (23, mT mr mv vf 0 xa (nI T) (nI im) (nI tm) xm (nI sc) (nI vm))), (mr 6, .inl (kI, 3002, .inl fa)), (mr 7, .inl (kI, 3002, .inl fe)), (mr 0, .inl (kI, 3000, .inl ft)), (mr 11, .inl (kM, 70, .inr (.inr (.inr (.inr fi)))))] : va_W) ++ (sT L F)) s.heap.size = A at hD ⊢
  have hA : ∀ q : Nat, s.heap.size ≤ q → A q := fun q h => by rw [← hAe]; exact Or.inr h
  have hS : va_S A s.heap s.heap [] := va_S.rf
  have hP : va_P (dC, dI) vwCl (([(m9, .inr (23, mT mr mv vf 0 xa (nI T) (nI im) (nI tm) xm (nI sc) (nI vm))), (mr 6, .inl (kI, 3002, .inl fa)), (mr 7, .inl (kI, 3002, .inl fe)), (mr 0, .inl (kI, 3000, .inl ft)), (mr 11, .inl (kM, 70, .inr (.inr (.inr (.inr fi)))))] : va_W) ++ (sT L F)) s.heap := hP
  have hl := lv_entry ([.ref m9]) (n := 3) (Nat.le_of_ble_eq_true rfl)
  rw [lg_entry_eq]
  generalize (lg_sl ([.ref m9]) ++ List.replicate (3 - (lg_sl ([.ref m9])).length) Slot.unset).toArray = ls at hl ⊢
  have hl : lv_has ls 3 [(0, .ref m9)] := hl
  have hT9 := tgd_T htg
  have him9 := htg.2.2.1.1
  refine lv_iconst (v := 0) hx hb dX23_itemNames_0 (by decide) ?_
  refine lv_istore_n (lv' := [(1, .int 0), (0, .ref m9)]) hx hb dX23_itemNames_1 rfl hl (by decide) rfl (fun ls hl => ?_)
  refine W_q (fun Q1 hQ1 => ?_)
  have key1 : ∀ (n1 : Nat) (i : Nat) (ff1 xa1 : Int32) (H : Heap) (locs : List Loc) (ls : Array Slot), (i + n1 = im + 1 ∧ i ≤ im) → va_P (dC, dI) vwCl (([(m9, .inr (23, mT mr mv vf ff1 xa1 (nI T) (nI im) (nI tm) xm (nI sc) (nI vm))), (mr 6, .inl (kI, 3002, .inl fa)), (mr 7, .inl (kI, 3002, .inl fe)), (mr 0, .inl (kI, 3000, .inl ft)), (mr 11, .inl (kM, 70, .inr (.inr (.inr (.inr fi)))))] : va_W) ++ (sT L F)) H → va_D A (([(m9, .inr (23, mT mr mv vf ff1 xa1 (nI T) (nI im) (nI tm) xm (nI sc) (nI vm))), (mr 6, .inl (kI, 3002, .inl fa)), (mr 7, .inl (kI, 3002, .inl fe)), (mr 0, .inl (kI, 3000, .inl ft)), (mr 11, .inl (kM, 70, .inr (.inr (.inr (.inr fi)))))] : va_W) ++ (sT L F)) → va_S A s.heap H locs → lv_has ls 3 [(1, .int (nI i)), (0, .ref m9)] → W p l e (headSpec wp_c_inm ({ frames := 1, cells := 0, slots := 0, locals := 24 })).room s m ([.ref m9] : List Value).toArray below meth c H locs 0 0 Q1 (F0 m 2 ls []) := by
    intro n1
    induction n1 with
    | zero => intro i ff1 xa1 H locs ls hr0; exact absurd hr0 (by omega)
    | succ n1 ih1 =>
      intro i ff1 xa1 H locs ls hr0 hP hD hS hl
      refine lv_iload_n hx hb dX23_itemNames_2 rfl (lv_at hl 0 rfl) ?_
      refine lv_aload_n hx hb dX23_itemNames_3 rfl (lv_at hl 1 rfl) ?_
      refine va_get (D := (dC, dI)) (ci := 23) (v := .int (nI im)) (C := RX23) (T := TX23) (N := 89) hx hb hts in_c_inm_X23 hown hK hP 0 rfl rfl 12 (by decide) (hts (.fieldLink RX23 221 "OwnedPlacesModel" "itemMany" "I") (wm_c_inm 1 rfl)) (fun _ h9 => h9) rfl dX23_itemNames_4 ?_
      refine lv_icmp_ge (tgt := 68) hx hb dX23_itemNames_7 (by decide) (fun hk => ?_) (fun hk => ?_)
      · have hP9 := hP.subT (f' := [(m9, .inr (23, mT mr mv vf ff1 xa1 (nI T) (nI im) (nI tm) xm (nI sc) (nI vm))), (mr 6, .inl (kI, 3002, .inl fa)), (mr 7, .inl (kI, 3002, .inl fe)), (mr 0, .inl (kI, 3000, .inl ft)), (mr 11, .inl (kM, 70, .inr (.inr (.inr (.inr fi)))))]) [0, 1, 2, 3, 4] rfl
        have hD9 := hD.subT (f' := [(m9, .inr (23, mT mr mv vf ff1 xa1 (nI T) (nI im) (nI tm) xm (nI sc) (nI vm))), (mr 6, .inl (kI, 3002, .inl fa)), (mr 7, .inl (kI, 3002, .inl fe)), (mr 0, .inl (kI, 3000, .inl ft)), (mr 11, .inl (kM, 70, .inr (.inr (.inr (.inr fi)))))]) [0, 1, 2, 3, 4] (by decide) rfl
        have hK9 := hK.sub (tys' := [(kI, .int), (kM, .object RX16)]) [0, 1] rfl
        subst hQ1
        exact W.vret hx hb hr (fun tS ht hW => ⟨⟨(), rfl, trivial, ff1, xa1, by rw [ht]; exact hP9, va_K.moved hW.alike hK9, hD9⟩, hS.F ht⟩) hS.2.2 dX23_itemNames_68
      · have hin_i : i < im := by rcases Nat.lt_or_ge i (im) with z9 | z9; exact z9; exact absurd (nI_le z9 (by omega)) hk
        refine lv_iconst (v := 0) hx hb dX23_itemNames_10 (by decide) ?_
        refine lv_istore_n (lv' := [(2, .int 0), (1, .int (nI i)), (0, .ref m9)]) hx hb dX23_itemNames_11 rfl hl (by decide) rfl (fun ls hl => ?_)
        refine W_q (fun Q2 hQ2 => ?_)
        have key2 : ∀ (n2 : Nat) (j : Nat) (ff3 xa3 : Int32) (H : Heap) (locs : List Loc) (ls : Array Slot), (j + n2 = i + 1 ∧ j ≤ i) → va_P (dC, dI) vwCl (([(m9, .inr (23, mT mr mv vf ff3 xa3 (nI T) (nI im) (nI tm) xm (nI sc) (nI vm))), (mr 6, .inl (kI, 3002, .inl fa)), (mr 7, .inl (kI, 3002, .inl fe)), (mr 0, .inl (kI, 3000, .inl ft)), (mr 11, .inl (kM, 70, .inr (.inr (.inr (.inr fi)))))] : va_W) ++ (sT L F)) H → va_D A (([(m9, .inr (23, mT mr mv vf ff3 xa3 (nI T) (nI im) (nI tm) xm (nI sc) (nI vm))), (mr 6, .inl (kI, 3002, .inl fa)), (mr 7, .inl (kI, 3002, .inl fe)), (mr 0, .inl (kI, 3000, .inl ft)), (mr 11, .inl (kM, 70, .inr (.inr (.inr (.inr fi)))))] : va_W) ++ (sT L F)) → va_S A s.heap H locs → lv_has ls 3 [(2, .int (nI j)), (1, .int (nI i)), (0, .ref m9)] → W p l e (headSpec wp_c_inm ({ frames := 1, cells := 0, slots := 0, locals := 24 })).room s m ([.ref m9] : List Value).toArray below meth c H locs 0 0 Q2 (F0 m 12 ls []) := by
          intro n2
          induction n2 with
          | zero => intro j ff3 xa3 H locs ls hs0; exact absurd hs0 (by omega)
          | succ n2 ih2 =>
            intro j ff3 xa3 H locs ls hs0 hP hD hS hl
            refine lv_iload_n hx hb dX23_itemNames_12 rfl (lv_at hl 0 rfl) ?_
            refine lv_iload_n hx hb dX23_itemNames_13 rfl (lv_at hl 1 rfl) ?_
            refine lv_icmp_ge (tgt := 62) hx hb dX23_itemNames_14 (by decide) (fun hk2 => ?_) (fun hk2 => ?_)
            · subst hQ2
              obtain ⟨x_1, ex_1⟩ : ∃ yY : Int32, yY = (nI i) + 1 := ⟨_, rfl⟩
              refine lv_iinc (v := x_1) (lv' := [(1, .int x_1), (2, .int (nI j)), (0, .ref m9)]) hx hb dX23_itemNames_62 hl (k := 1) rfl (by rw [ex_1]; rfl) (by decide) rfl (fun ls hl => ?_)
              obtain rfl : x_1 = nI (i + 1) := by rw [ex_1]; exact nI_1 i
              have hl : lv_has ls 3 [(1, .int (nI (i + 1))), (2, .int (nI j)), (0, .ref m9)] := hl
              refine lv_goto (tgt := 2) hx hb dX23_itemNames_65 (by decide) ?_
              exact ih1 (i + 1) ff3 xa3 _ _ _ (by omega) (hP.subT [0, 1, 2, 3, 4] rfl) (hD.subT [0, 1, 2, 3, 4] (by decide) rfl) hS (lv_sub hl [0, 2] rfl)
            · have hin_j : j < i := by rcases Nat.lt_or_ge j (i) with z9 | z9; exact z9; exact absurd (nI_le z9 (by omega)) hk2
              refine lv_aload_n hx hb dX23_itemNames_17 rfl (lv_at hl 2 rfl) ?_
              refine lv_aload_n hx hb dX23_itemNames_18 rfl (lv_at hl 2 rfl) ?_
              refine va_get (D := (dC, dI)) (ci := 23) (v := .ref (mr 11)) (C := RX23) (T := TX23) (N := 89) hx hb hts in_c_inm_X23 hown hK hP 0 rfl rfl 11 (by decide) (hts (.fieldLink RX23 232 "OwnedPlacesModel" "items" "[LOwnedPlacesModel$Item;") (wm_c_inm 2 rfl)) (fun _ h9 => h9) rfl dX23_itemNames_19 ?_
              refine lv_iload_n hx hb dX23_itemNames_22 rfl (lv_at hl 1 rfl) ?_
              obtain ⟨hi_1a, hi_1b, hi_1c, hi_1d, hi_1g, hi_1e, hi_1f, hi_1h⟩ := it_nm htg (show i < im by omega)
              refine va_aldq hx hb hK hP 4 1 rfl rfl (vp_in_nI (show i < 70 by omega) (by decide)) dX23_itemNames_23 ?_
              refine W.eq (g2 := F0 m 24 ls (.ref (xI i) :: [.ref m9])) (by show F0 m _ ls (va_rf _ :: _) = _; rw [nI_clamp (show i < 2 ^ 31 by omega), hi_1c]; rfl) ?_
              refine va_get (D := (dC, dI)) (ci := 16) (v := .int (nI (ps i + 1))) (C := RX16) (T := TX16) (N := 22) hx hb hts in_c_inm_X16 hown hK (va_P.st hP hi_1a hi_1e) 0 rfl rfl 1 (by decide) (hts (.fieldLink RX23 176 "OwnedPlacesModel$Item" "name" "I") (wm_c_inm 3 rfl)) (fun _ h9 => h9) hi_1f dX23_itemNames_24 ?_
              refine lv_aload_n hx hb dX23_itemNames_27 rfl (lv_at hl 2 rfl) ?_
              refine va_get (D := (dC, dI)) (ci := 23) (v := .ref (mr 11)) (C := RX23) (T := TX23) (N := 89) hx hb hts in_c_inm_X23 hown hK hP 0 rfl rfl 11 (by decide) (hts (.fieldLink RX23 232 "OwnedPlacesModel" "items" "[LOwnedPlacesModel$Item;") (wm_c_inm 2 rfl)) (fun _ h9 => h9) rfl dX23_itemNames_28 ?_
              refine lv_iload_n hx hb dX23_itemNames_31 rfl (lv_at hl 0 rfl) ?_
              obtain ⟨hi_2a, hi_2b, hi_2c, hi_2d, hi_2g, hi_2e, hi_2f, hi_2h⟩ := it_nm htg (show j < im by omega)
              refine va_aldq hx hb hK hP 4 1 rfl rfl (vp_in_nI (show j < 70 by omega) (by decide)) dX23_itemNames_32 ?_
              refine W.eq (g2 := F0 m 33 ls (.ref (xI j) :: [.int (nI (ps i + 1)), .ref m9])) (by show F0 m _ ls (va_rf _ :: _) = _; rw [nI_clamp (show j < 2 ^ 31 by omega), hi_2c]; rfl) ?_
              refine va_get (D := (dC, dI)) (ci := 16) (v := .int (nI (ps j + 1))) (C := RX16) (T := TX16) (N := 22) hx hb hts in_c_inm_X16 hown hK (va_P.st hP hi_2a hi_2e) 0 rfl rfl 1 (by decide) (hts (.fieldLink RX23 176 "OwnedPlacesModel$Item" "name" "I") (wm_c_inm 3 rfl)) (fun _ h9 => h9) hi_2f dX23_itemNames_33 ?_
              have hPc := hP.subF (f' := [(m9, .inr (23, mT mr mv vf ff3 xa3 (nI T) (nI im) (nI tm) xm (nI sc) (nI vm))), (mr 6, .inl (kI, 3002, .inl fa)), (mr 7, .inl (kI, 3002, .inl fe)), (mr 0, .inl (kI, 3000, .inl ft))]) [0, 1, 2, 3] rfl
              have hDc := hD.subF (f' := [(m9, .inr (23, mT mr mv vf ff3 xa3 (nI T) (nI im) (nI tm) xm (nI sc) (nI vm))), (mr 6, .inl (kI, 3002, .inl fa)), (mr 7, .inl (kI, 3002, .inl fe)), (mr 0, .inl (kI, 3000, .inl ft))]) [0, 1, 2, 3] (by decide) rfl
              have hKc := hK.sub (tys' := [(kI, .int)]) [0] rfl
              have hFc := va_freeT (wc := [(m9, .inr (23, mT mr mv vf ff3 xa3 (nI T) (nI im) (nI tm) xm (nI sc) (nI vm))), (mr 6, .inl (kI, 3002, .inl fa)), (mr 7, .inl (kI, 3002, .inl fe)), (mr 0, .inl (kI, 3000, .inl ft))]) hD hS hA [0, 1, 2, 3] rfl
              refine va_calli (va_runV (As := [.int (nI (ps i + 1)), .int (nI (ps j + 1))]) (rest := []) ⟨hx, hb, hml, hown, hts⟩ (c_sam l dC dI m9 mr mv vf ff3 xa3 xm T im tm sc vm kI fk fa fe ft zs (ps i + 1) (ps j + 1) H.size htg.1.1 htg.1.2.1 hi_1b hi_2b) (cwV 2 hts g_c_inm_c_sam_36 rfl rfl rfl (by decide +kernel) ⟨Nat.le_of_ble_eq_true rfl, Nat.le_of_ble_eq_true rfl⟩) ⟨fun a U g mk q => by obtain ⟨q0, q1, qP, qK, qD⟩ := q; exact ⟨q0, q1, qP, va_K.moved (u := U) (U := U.calling g mk a) (Vm.Alike.refl U.vm) qK, qD⟩, va_recv hKc hPc (ci := 23) (q0 := 0) rfl rfl, fun U hU hW => ⟨rfl, by rw [hU], by rw [hU]; exact hPc, va_K.moved hW.alike hKc, hDc.weaken (fun _ _ _ _ => trivial)⟩⟩ rfl rfl hl.1 rfl (lv_room (Nat.le_of_ble_eq_true rfl)) dX23_itemNames_36 ⟨(show 0 + 0 ≤ 0 by omega), (show 0 + 0 ≤ 0 by omega)⟩) hS (fun q _ h => hFc q h) hFc (fun r_3 u tS H1 locs ht hvm hw hB hz1 hk1 hS => ?_)
              obtain ⟨hP1, hK1, hD1⟩ := hB
              rw [ht] at hP1
              have hK1 := va_K.moved hvm.symm hK1
              obtain ⟨hP, hD⟩ := va_joinT (wr := [(mr 11, .inl (kM, 70, .inr (.inr (.inr (.inr fi)))))]) (w1 := [(m9, .inr (23, mT mr mv vf ff3 xa3 (nI T) (nI im) (nI tm) xm (nI sc) (nI vm))), (mr 6, .inl (kI, 3002, .inl fa)), (mr 7, .inl (kI, 3002, .inl fe)), (mr 0, .inl (kI, 3000, .inl ft))]) hP hD [0, 1, 2, 3] [4] rfl rfl (by decide) (by decide) hk1 hFc hP1 hD1
              have hK := hK.app hK1
              generalize H1 = H at hP hS ⊢
              have hP : va_P (dC, dI) vwCl (([(mr 11, .inl (kM, 70, .inr (.inr (.inr (.inr fi))))), (m9, .inr (23, mT mr mv vf ff3 xa3 (nI T) (nI im) (nI tm) xm (nI sc) (nI vm))), (mr 6, .inl (kI, 3002, .inl fa)), (mr 7, .inl (kI, 3002, .inl fe)), (mr 0, .inl (kI, 3000, .inl ft))] : va_W) ++ (sT L F)) H := hP
              have hD : va_D A (([(mr 11, .inl (kM, 70, .inr (.inr (.inr (.inr fi))))), (m9, .inr (23, mT mr mv vf ff3 xa3 (nI T) (nI im) (nI tm) xm (nI sc) (nI vm))), (mr 6, .inl (kI, 3002, .inl fa)), (mr 7, .inl (kI, 3002, .inl fe)), (mr 0, .inl (kI, 3000, .inl ft))] : va_W) ++ (sT L F)) := hD
              have hK : va_K (dC, dI) vwCl [(kI, .int), (kM, .object RX16), (kI, .int)] s := hK
              have hK := hK.sub (tys' := [(kI, .int), (kM, .object RX16)]) [0, 1] rfl
              clear hz1 hk1 hPc hDc hKc hFc hP1 hD1 hK1
              refine lv_if_eq (tgt := 56) hx hb dX23_itemNames_39 (by decide) (fun hb_4 => ?_) (fun hb_4 => ?_)
              · obtain ⟨x_5, ex_5⟩ : ∃ yY : Int32, yY = (nI j) + 1 := ⟨_, rfl⟩
                refine lv_iinc (v := x_5) (lv' := [(2, .int x_5), (1, .int (nI i)), (0, .ref m9)]) hx hb dX23_itemNames_56 hl (k := 0) rfl (by rw [ex_5]; rfl) (by decide) rfl (fun ls hl => ?_)
                obtain rfl : x_5 = nI (j + 1) := by rw [ex_5]; exact nI_1 j
                have hl : lv_has ls 3 [(2, .int (nI (j + 1))), (1, .int (nI i)), (0, .ref m9)] := hl
                refine lv_goto (tgt := 12) hx hb dX23_itemNames_59 (by decide) ?_
                exact ih2 (j + 1) ff3 xa3 _ _ _ (by omega) (hP.subT [1, 2, 3, 4, 0] rfl) (hD.subT [1, 2, 3, 4, 0] (by decide) rfl) hS (lv_sub hl [0, 1, 2] rfl)
              · refine lv_aload_n hx hb dX23_itemNames_42 rfl (lv_at hl 2 rfl) ?_
                refine lv_iconst (v := 3) hx hb dX23_itemNames_43 (by decide) ?_
                refine lv_aload_n hx hb dX23_itemNames_44 rfl (lv_at hl 2 rfl) ?_
                refine va_get (D := (dC, dI)) (ci := 23) (v := .ref (mr 11)) (C := RX23) (T := TX23) (N := 89) hx hb hts in_c_inm_X23 hown hK hP 1 rfl rfl 11 (by decide) (hts (.fieldLink RX23 232 "OwnedPlacesModel" "items" "[LOwnedPlacesModel$Item;") (wm_c_inm 2 rfl)) (fun _ h9 => h9) rfl dX23_itemNames_45 ?_
                refine lv_iload_n hx hb dX23_itemNames_48 rfl (lv_at hl 1 rfl) ?_
                obtain ⟨hi_5a, hi_5b, hi_5c, hi_5d, hi_5g, hi_5e, hi_5f, hi_5h⟩ := it_nm htg (show i < im by omega)
                refine va_aldq hx hb hK hP 0 1 rfl rfl (vp_in_nI (show i < 70 by omega) (by decide)) dX23_itemNames_49 ?_
                refine W.eq (g2 := F0 m 50 ls (.ref (xI i) :: [.int 3, .ref m9])) (by show F0 m _ ls (va_rf _ :: _) = _; rw [nI_clamp (show i < 2 ^ 31 by omega), hi_5c]; rfl) ?_
                refine va_get (D := (dC, dI)) (ci := 16) (v := .int (nI (ps i + 1))) (C := RX16) (T := TX16) (N := 22) hx hb hts in_c_inm_X16 hown hK (va_P.st hP hi_5a hi_5e) 0 rfl rfl 1 (by decide) (hts (.fieldLink RX23 176 "OwnedPlacesModel$Item" "name" "I") (wm_c_inm 3 rfl)) (fun _ h9 => h9) hi_5f dX23_itemNames_50 ?_
                by_cases hz_6 : ff3 = 0
                · subst hz_6
                  have hPc := hP.subF (f' := [(m9, .inr (23, mT mr mv vf 0 xa3 (nI T) (nI im) (nI tm) xm (nI sc) (nI vm))), (mr 6, .inl (kI, 3002, .inl fa))]) [1, 2] rfl
                  have hDc := hD.subF (f' := [(m9, .inr (23, mT mr mv vf 0 xa3 (nI T) (nI im) (nI tm) xm (nI sc) (nI vm))), (mr 6, .inl (kI, 3002, .inl fa))]) [1, 2] (by decide) rfl
                  have hKc := hK.sub (tys' := [(kI, .int)]) [0] rfl
                  have hFc := va_freeT (wc := [(m9, .inr (23, mT mr mv vf 0 xa3 (nI T) (nI im) (nI tm) xm (nI sc) (nI vm))), (mr 6, .inl (kI, 3002, .inl fa))]) hD hS hA [1, 2] rfl
                  refine va_callv (va_runV (As := [.int 3, .int (nI (ps i + 1))]) (rest := []) ⟨hx, hb, hml, hown, hts⟩ (c_tfa0 l dC dI m9 mr mv vf xa3 xm T im tm sc vm kI fa 3 (ps i + 1) H.size (by omega)) (cwV 2 hts g_c_inm_c_tfa0_53 rfl rfl rfl (by decide +kernel) ⟨Nat.le_of_ble_eq_true rfl, Nat.le_of_ble_eq_true rfl⟩) ⟨fun a U g mk q => by obtain ⟨q0, q1, qP, qK, qD⟩ := q; exact ⟨q0, q1, qP, va_K.moved (u := U) (U := U.calling g mk a) (Vm.Alike.refl U.vm) qK, qD⟩, va_recv hKc hPc (ci := 23) (q0 := 0) rfl rfl, fun U hU hW => ⟨rfl, by rw [hU], by rw [hU]; exact hPc, va_K.moved hW.alike hKc, hDc.weaken (fun _ _ _ _ => trivial)⟩⟩ rfl rfl hl.1 rfl (lv_room (Nat.le_of_ble_eq_true rfl)) dX23_itemNames_53 ⟨(show 0 + 0 ≤ 0 by omega), (show 0 + 0 ≤ 0 by omega)⟩) hS (fun q _ h => hFc q h) hFc (fun u tS H1 locs ht hvm hw hB hz1 hk1 hS => ?_)
                  obtain ⟨hP1, hK1, hD1⟩ := hB
                  rw [ht] at hP1
                  have hK1 := va_K.moved hvm.symm hK1
                  obtain ⟨hP, hD⟩ := va_joinT (wr := [(mr 11, .inl (kM, 70, .inr (.inr (.inr (.inr fi))))), (mr 7, .inl (kI, 3002, .inl fe)), (mr 0, .inl (kI, 3000, .inl ft))]) (w1 := [(m9, .inr (23, mT mr mv vf 3 (fa (ps i + 1)) (nI T) (nI im) (nI tm) xm (nI sc) (nI vm))), (mr 6, .inl (kI, 3002, .inl fa))]) hP hD [1, 2] [0, 3, 4] rfl rfl (by decide) (by decide) hk1 hFc hP1 hD1
                  have hK := hK.app hK1
                  generalize H1 = H at hP hS ⊢
                  have hP : va_P (dC, dI) vwCl (([(mr 11, .inl (kM, 70, .inr (.inr (.inr (.inr fi))))), (mr 7, .inl (kI, 3002, .inl fe)), (mr 0, .inl (kI, 3000, .inl ft)), (m9, .inr (23, mT mr mv vf 3 (fa (ps i + 1)) (nI T) (nI im) (nI tm) xm (nI sc) (nI vm))), (mr 6, .inl (kI, 3002, .inl fa))] : va_W) ++ (sT L F)) H := hP
                  have hD : va_D A (([(mr 11, .inl (kM, 70, .inr (.inr (.inr (.inr fi))))), (mr 7, .inl (kI, 3002, .inl fe)), (mr 0, .inl (kI, 3000, .inl ft)), (m9, .inr (23, mT mr mv vf 3 (fa (ps i + 1)) (nI T) (nI im) (nI tm) xm (nI sc) (nI vm))), (mr 6, .inl (kI, 3002, .inl fa))] : va_W) ++ (sT L F)) := hD
                  have hK : va_K (dC, dI) vwCl [(kI, .int), (kM, .object RX16), (kI, .int)] s := hK
                  have hK := hK.sub (tys' := [(kI, .int), (kM, .object RX16)]) [0, 1] rfl
                  clear hz1 hk1 hPc hDc hKc hFc hP1 hD1 hK1
                  obtain ⟨fq7, efq7⟩ : ∃ zZ : Int32, zZ = 3 := ⟨_, rfl⟩
                  obtain ⟨fx7, efx7⟩ : ∃ zZ : Int32, zZ = fa (ps i + 1) := ⟨_, rfl⟩
                  rw [← efx7] at hP hD
                  have hhfq7 : fq7 ≠ 0 := by rw [efq7]; decide
                  have hP : va_P (dC, dI) vwCl (([(mr 11, .inl (kM, 70, .inr (.inr (.inr (.inr fi))))), (mr 7, .inl (kI, 3002, .inl fe)), (mr 0, .inl (kI, 3000, .inl ft)), (m9, .inr (23, mT mr mv vf fq7 fx7 (nI T) (nI im) (nI tm) xm (nI sc) (nI vm))), (mr 6, .inl (kI, 3002, .inl fa))] : va_W) ++ (sT L F)) H := by rw [efq7]; exact hP
                  have hD : va_D A (([(mr 11, .inl (kM, 70, .inr (.inr (.inr (.inr fi))))), (mr 7, .inl (kI, 3002, .inl fe)), (mr 0, .inl (kI, 3000, .inl ft)), (m9, .inr (23, mT mr mv vf fq7 fx7 (nI T) (nI im) (nI tm) xm (nI sc) (nI vm))), (mr 6, .inl (kI, 3002, .inl fa))] : va_W) ++ (sT L F)) := by rw [efq7]; exact hD
                  clear efq7 efx7
                  obtain ⟨x_8, ex_8⟩ : ∃ yY : Int32, yY = (nI j) + 1 := ⟨_, rfl⟩
                  refine lv_iinc (v := x_8) (lv' := [(2, .int x_8), (1, .int (nI i)), (0, .ref m9)]) hx hb dX23_itemNames_56 hl (k := 0) rfl (by rw [ex_8]; rfl) (by decide) rfl (fun ls hl => ?_)
                  obtain rfl : x_8 = nI (j + 1) := by rw [ex_8]; exact nI_1 j
                  have hl : lv_has ls 3 [(2, .int (nI (j + 1))), (1, .int (nI i)), (0, .ref m9)] := hl
                  refine lv_goto (tgt := 12) hx hb dX23_itemNames_59 (by decide) ?_
                  exact ih2 (j + 1) fq7 fx7 _ _ _ (by omega) (hP.subT [3, 4, 1, 2, 0] rfl) (hD.subT [3, 4, 1, 2, 0] (by decide) rfl) hS (lv_sub hl [0, 1, 2] rfl)
                · have hPc := hP.subF (f' := [(m9, .inr (23, mT mr mv vf ff3 xa3 (nI T) (nI im) (nI tm) xm (nI sc) (nI vm))), (mr 6, .inl (kI, 3002, .inl fa))]) [1, 2] rfl
                  have hDc := hD.subF (f' := [(m9, .inr (23, mT mr mv vf ff3 xa3 (nI T) (nI im) (nI tm) xm (nI sc) (nI vm))), (mr 6, .inl (kI, 3002, .inl fa))]) [1, 2] (by decide) rfl
                  have hKc := hK.sub (tys' := [(kI, .int)]) [0] rfl
                  have hFc := va_freeT (wc := [(m9, .inr (23, mT mr mv vf ff3 xa3 (nI T) (nI im) (nI tm) xm (nI sc) (nI vm))), (mr 6, .inl (kI, 3002, .inl fa))]) hD hS hA [1, 2] rfl
                  refine va_callv (va_runV (As := [.int 3, .int (nI (ps i + 1))]) (rest := []) ⟨hx, hb, hml, hown, hts⟩ (c_tfaB l dC dI m9 mr mv vf ff3 xa3 xm T im tm sc vm kI fa 3 (nI (ps i + 1)) H.size hz_6) (cwV 2 hts g_c_inm_c_tfaB_53 rfl rfl rfl (by decide +kernel) ⟨Nat.le_of_ble_eq_true rfl, Nat.le_of_ble_eq_true rfl⟩) ⟨fun a U g mk q => by obtain ⟨q0, q1, qP, qK, qD⟩ := q; exact ⟨q0, q1, qP, va_K.moved (u := U) (U := U.calling g mk a) (Vm.Alike.refl U.vm) qK, qD⟩, va_recv hKc hPc (ci := 23) (q0 := 0) rfl rfl, fun U hU hW => ⟨rfl, by rw [hU], by rw [hU]; exact hPc, va_K.moved hW.alike hKc, hDc.weaken (fun _ _ _ _ => trivial)⟩⟩ rfl rfl hl.1 rfl (lv_room (Nat.le_of_ble_eq_true rfl)) dX23_itemNames_53 ⟨(show 0 + 0 ≤ 0 by omega), (show 0 + 0 ≤ 0 by omega)⟩) hS (fun q _ h => hFc q h) hFc (fun u tS H1 locs ht hvm hw hB hz1 hk1 hS => ?_)
                  obtain ⟨hP1, hK1, hD1⟩ := hB
                  rw [ht] at hP1
                  have hK1 := va_K.moved hvm.symm hK1
                  obtain ⟨hP, hD⟩ := va_joinT (wr := [(mr 11, .inl (kM, 70, .inr (.inr (.inr (.inr fi))))), (mr 7, .inl (kI, 3002, .inl fe)), (mr 0, .inl (kI, 3000, .inl ft))]) (w1 := [(m9, .inr (23, mT mr mv vf ff3 xa3 (nI T) (nI im) (nI tm) xm (nI sc) (nI vm))), (mr 6, .inl (kI, 3002, .inl fa))]) hP hD [1, 2] [0, 3, 4] rfl rfl (by decide) (by decide) hk1 hFc hP1 hD1
                  have hK := hK.app hK1
                  generalize H1 = H at hP hS ⊢
                  have hP : va_P (dC, dI) vwCl (([(mr 11, .inl (kM, 70, .inr (.inr (.inr (.inr fi))))), (mr 7, .inl (kI, 3002, .inl fe)), (mr 0, .inl (kI, 3000, .inl ft)), (m9, .inr (23, mT mr mv vf ff3 xa3 (nI T) (nI im) (nI tm) xm (nI sc) (nI vm))), (mr 6, .inl (kI, 3002, .inl fa))] : va_W) ++ (sT L F)) H := hP
                  have hD : va_D A (([(mr 11, .inl (kM, 70, .inr (.inr (.inr (.inr fi))))), (mr 7, .inl (kI, 3002, .inl fe)), (mr 0, .inl (kI, 3000, .inl ft)), (m9, .inr (23, mT mr mv vf ff3 xa3 (nI T) (nI im) (nI tm) xm (nI sc) (nI vm))), (mr 6, .inl (kI, 3002, .inl fa))] : va_W) ++ (sT L F)) := hD
                  have hK : va_K (dC, dI) vwCl [(kI, .int), (kM, .object RX16), (kI, .int)] s := hK
                  have hK := hK.sub (tys' := [(kI, .int), (kM, .object RX16)]) [0, 1] rfl
                  clear hz1 hk1 hPc hDc hKc hFc hP1 hD1 hK1
                  obtain ⟨x_8, ex_8⟩ : ∃ yY : Int32, yY = (nI j) + 1 := ⟨_, rfl⟩
                  refine lv_iinc (v := x_8) (lv' := [(2, .int x_8), (1, .int (nI i)), (0, .ref m9)]) hx hb dX23_itemNames_56 hl (k := 0) rfl (by rw [ex_8]; rfl) (by decide) rfl (fun ls hl => ?_)
                  obtain rfl : x_8 = nI (j + 1) := by rw [ex_8]; exact nI_1 j
                  have hl : lv_has ls 3 [(2, .int (nI (j + 1))), (1, .int (nI i)), (0, .ref m9)] := hl
                  refine lv_goto (tgt := 12) hx hb dX23_itemNames_59 (by decide) ?_
                  exact ih2 (j + 1) ff3 xa3 _ _ _ (by omega) (hP.subT [3, 4, 1, 2, 0] rfl) (hD.subT [3, 4, 1, 2, 0] (by decide) rfl) hS (lv_sub hl [0, 1, 2] rfl)
        exact key2 (i + 1) 0 ff1 xa1 _ _ _ (by omega) (hP.subT [0, 1, 2, 3, 4] rfl) (hD.subT [0, 1, 2, 3, 4] (by decide) rfl) hS (lv_sub hl [0, 1, 2] rfl)
  exact key1 (im + 1) 0 0 xa _ _ _ (by omega) (hP.subT [0, 1, 2, 3, 4] rfl) (hD.subT [0, 1, 2, 3, 4] (by decide) rfl) hS (lv_sub hl [0, 1] rfl)
