set_option maxRecDepth 20000 in
set_option maxHeartbeats 4000000 in
theorem k_X23_freeNode (l : Launch) (D : va_G) (K : Ky) (m9 : Nat) (mr : Nat → Nat) (S0 Sf : Sg) (x1 : Int32) (rf : Unit) (h : f_freeNode K S0 x1 = some (Sf, rf)) : CT l D K m9 mr yX23_freeNode (Cond.code yX23_freeNode cX23_freeNode 2 none) (1) (20) S0 Sf [.ref m9, .int x1] none := by
  refine x_start (cc := cX23_freeNode) (lv := [(0, .ref m9), (1, .int x1)]) rfl rfl (by decide) (by simp [lv_args, cat_rf, cat_i, cat_l, cat_a]) (by simp [lg_sl, cat_rf, cat_i, cat_l, cat_a]) (fun p e R s m args below meth c Q A C => ?_)
  unfold f_freeNode at h
  refine x_tload_n C eX23_freeNode_0 rfl 0 rfl ?_
  refine x_mV (k9 := 63) C (by decide) ww_739 eX23_freeNode_1 rfl ?_
  refine x_iload_n C eX23_freeNode_4 rfl 1 rfl ?_
  refine x_tload_n C eX23_freeNode_5 rfl 0 rfl ?_
  refine x_mV (k9 := 65) C (by decide) ww_738 eX23_freeNode_6 rfl ?_
  refine x_wI (r := 63) C (by decide) rfl eX23_freeNode_9 h (fun S1 h => ?_)
  refine x_tload_n C eX23_freeNode_10 rfl 0 rfl ?_
  refine x_iload_n C eX23_freeNode_11 rfl 1 rfl ?_
  refine x_pM (k9 := 65) C (by decide) rfl (by decide) ww_738 rfl (by decide +kernel) eX23_freeNode_12 h (fun S2 h => ?_)
  exact x_vret C rfl rfl eX23_freeNode_15 h
set_option maxRecDepth 20000 in
set_option maxHeartbeats 4000000 in
theorem k_X23_leavesOf (l : Launch) (D : va_G) (K : Ky) (m9 : Nat) (mr : Nat → Nat) (S0 Sf : Sg) (x1 : Option Nat) (rf : Int32) (h : f_leavesOf K S0 x1 = some (Sf, rf)) : CT l D K m9 mr yX23_leavesOf (Cond.code yX23_leavesOf cX23_leavesOf 2 (some .int)) (1) (20) S0 Sf [.ref m9, va_rf x1] (some (.int rf)) := by
  refine x_start (cc := cX23_leavesOf) (lv := [(0, .ref m9), (1, va_rf x1)]) rfl rfl (by decide) (by simp [lv_args, cat_rf, cat_i, cat_l, cat_a]) (by simp [lg_sl, cat_rf, cat_i, cat_l, cat_a]) (fun p e R s m args below meth c Q A C => ?_)
  have j_28 : ∀ (S : Sg) (y0 : Int32), f_leavesOf_28 K S y0 = some (Sf, rf) → WX p l e R s m args below meth c Q D A K m9 mr 2 S0 S 28 [] [.int y0] := by
    intro S y0 h
    unfold f_leavesOf_28 at h
    exact x_iret C rfl rfl eX23_leavesOf_28 h
  have j_27 : ∀ (S : Sg), f_leavesOf_27 K S = some (Sf, rf) → WX p l e R s m args below meth c Q D A K m9 mr 2 S0 S 27 [] [] := by
    intro S h
    unfold f_leavesOf_27 at h
    refine x_iconst (v := 1) C eX23_leavesOf_27 (by decide) ?_
    refine x_sub [] rfl ?_
    exact j_28 S 1 h
  unfold f_leavesOf at h
  refine x_aload_n C eX23_leavesOf_0 rfl 1 rfl ?_
  refine x_ifnull (tgt := 27) C eX23_leavesOf_1 (by decide) h (fun h => ?_) (fun h => ?_)
  · refine x_sub [] rfl ?_
    exact j_27 S0 h
  · refine x_aload_n C eX23_leavesOf_4 rfl 1 rfl ?_
    refine x_gI (o9 := x1) (ci := 20) (k9 := 0) (Cn := RX20) (T := TX20) (N := 4) C rfl wt_X20 (by decide) ww_247 eX23_leavesOf_5 h (fun v1 h => ?_)
    refine x_iconst (v := 3) C eX23_leavesOf_8 (by decide) ?_
    refine x_ic_ne (tgt := 27) C eX23_leavesOf_9 (by decide) h (fun h => ?_) (fun h => ?_)
    · refine x_sub [] rfl ?_
      exact j_27 S0 h
    · refine x_tload_n C eX23_leavesOf_12 rfl 0 rfl ?_
      refine x_mV (k9 := 11) C (by decide) ww_114 eX23_leavesOf_13 rfl ?_
      refine x_aload_n C eX23_leavesOf_16 rfl 1 rfl ?_
      refine x_gI (o9 := x1) (ci := 20) (k9 := 1) (Cn := RX20) (T := TX20) (N := 4) C rfl wt_X20 (by decide) ww_248 eX23_leavesOf_17 h (fun v2 h => ?_)
      refine x_rQ (r := 11) (t9 := 3) C (by decide) rfl (by decide) rfl eX23_leavesOf_20 h (fun v3 h => ?_)
      refine x_gI (o9 := v3) (ci := 16) (k9 := 20) (Cn := RX16) (T := TX16) (N := 22) C rfl wt_X16 (by decide) ww_311 eX23_leavesOf_21 h (fun v4 h => ?_)
      refine x_goto (tgt := 28) C eX23_leavesOf_24 (by decide) ?_
      refine x_sub [] rfl ?_
      exact j_28 S0 v4 h
set_option maxRecDepth 20000 in
set_option maxHeartbeats 4000000 in
theorem k_X23_newPlace (l : Launch) (D : va_G) (K : Ky) (m9 : Nat) (mr : Nat → Nat) (S0 Sf : Sg) (x1 : Option Nat) (rf : Int32) (h : f_newPlace K S0 x1 = some (Sf, rf)) : CT l D K m9 mr yX23_newPlace (Cond.code yX23_newPlace cX23_newPlace 6 (some .int)) (2) (41) S0 Sf [.ref m9, va_rf x1] (some (.int rf)) := by
  refine x_start (cc := cX23_newPlace) (lv := [(0, .ref m9), (1, va_rf x1)]) rfl rfl (by decide) (by simp [lv_args, cat_rf, cat_i, cat_l, cat_a]) (by simp [lg_sl, cat_rf, cat_i, cat_l, cat_a]) (fun p e R s m args below meth c Q A C => ?_)
  have j_14 : ∀ (n_14 : Nat) (S : Sg) (x2 : Int32) (x3 : Int32) (x4 : Int32), f_newPlace_14 K n_14 S x2 x3 x4 = some (Sf, rf) → WX p l e R s m args below meth c Q D A K m9 mr 6 S0 S 14 [(0, .ref m9), (2, .int x2), (3, .int x3), (4, .int x4)] [] := by
    intro n_14
    induction n_14 with
    | zero => intro S x2 x3 x4 h; unfold f_newPlace_14 at h; cases h
    | succ n_14 ih_14 =>
      intro S x2 x3 x4 h
      unfold f_newPlace_14 at h
      refine x_iload C eX23_newPlace_14 3 rfl ?_
      refine x_iconst (v := 1) C eX23_newPlace_16 (by decide) ?_
      refine x_ic_le (tgt := 43) C eX23_newPlace_17 (by decide) h (fun h => ?_) (fun h => ?_)
      · refine x_iload_n C eX23_newPlace_43 rfl 1 rfl ?_
        exact x_iret C rfl rfl eX23_newPlace_44 h
      · refine x_tload_n C eX23_newPlace_20 rfl 0 rfl ?_
        refine x_cVi (As := []) (st := []) (n := 0) (frc := 1) (loc := 20) C h (fun S9 r9 e9 => k_X23_node l D K m9 mr _ S9 r9 e9) ww_737 ww_746 ww_747 ww_748 ww_16 (by decide +kernel) rfl ⟨by omega, by omega⟩ (Nat.le_of_ble_eq_true rfl) eX23_newPlace_21 (fun S5 v6 h => ?_)
        refine x_istore (lv2 := [(0, .ref m9), (2, .int x2), (3, .int x3), (4, .int x4)]) C eX23_newPlace_24 (by decide) rfl (oky rfl (oky rfl (oky rfl (oky rfl ok0)))) ?_
        refine x_tload_n C eX23_newPlace_26 rfl 1 rfl ?_
        refine x_mV (k9 := 63) C (by decide) ww_739 eX23_newPlace_27 rfl ?_
        refine x_iload_n C eX23_newPlace_30 rfl 3 rfl ?_
        refine x_iload C eX23_newPlace_31 0 rfl ?_
        refine x_wI (r := 63) C (by decide) rfl eX23_newPlace_33 h (fun S7 h => ?_)
        refine x_iload C eX23_newPlace_34 0 rfl ?_
        refine x_istore_n (lv2 := [(5, .int v6), (0, .ref m9), (2, .int x2), (4, .int x4)]) C eX23_newPlace_36 rfl (by decide) rfl (oky rfl (oky rfl (oky rfl (oky rfl ok0)))) ?_
        refine x_iinc (j := 4) (v := (-1)) (lv2 := [(3, .int v6), (5, .int v6), (0, .ref m9), (2, .int x2)]) C eX23_newPlace_37 rfl (by decide) (by decide) rfl (oky rfl (oky rfl (oky rfl (oky rfl ok0)))) ?_
        refine x_goto (tgt := 14) C eX23_newPlace_40 (by decide) ?_
        refine x_sub [3, 4, 1, 0] rfl ?_
        exact ih_14 S7 x2 v6 (x4 + (-1)) h
  unfold f_newPlace at h
  refine x_tload_n C eX23_newPlace_0 rfl 0 rfl ?_
  refine x_cVi (As := []) (st := []) (n := 0) (frc := 1) (loc := 20) C h (fun S9 r9 e9 => k_X23_node l D K m9 mr _ S9 r9 e9) ww_737 ww_746 ww_747 ww_748 ww_16 (by decide +kernel) rfl ⟨by omega, by omega⟩ (Nat.le_of_ble_eq_true rfl) eX23_newPlace_1 (fun S1 v2 h => ?_)
  refine x_istore_n (lv2 := [(0, .ref m9), (1, va_rf x1)]) C eX23_newPlace_4 rfl (by decide) rfl (oky rfl (oky (cat_rf x1) ok0)) ?_
  refine x_iload_n C eX23_newPlace_5 rfl 0 rfl ?_
  refine x_istore_n (lv2 := [(2, .int v2), (0, .ref m9), (1, va_rf x1)]) C eX23_newPlace_6 rfl (by decide) rfl (oky rfl (oky rfl (oky (cat_rf x1) ok0))) ?_
  refine x_tload_n C eX23_newPlace_7 rfl 2 rfl ?_
  refine x_aload_n C eX23_newPlace_8 rfl 3 rfl ?_
  refine x_cVi (As := [va_rf x1]) (st := []) (n := 1) (frc := 1) (loc := 20) C h (fun S9 r9 e9 => k_X23_leavesOf l D K m9 mr _ S9 x1 r9 e9) ww_744 ww_749 ww_750 ww_751 ww_16 (by decide +kernel) rfl ⟨by omega, by omega⟩ (Nat.le_of_ble_eq_true rfl) eX23_newPlace_9 (fun S3 v4 h => ?_)
  refine x_istore (lv2 := [(3, .int v2), (2, .int v2), (0, .ref m9), (1, va_rf x1)]) C eX23_newPlace_12 (by decide) rfl (oky rfl (oky rfl (oky rfl (oky (cat_rf x1) ok0)))) ?_
  refine x_sub [3, 2, 1, 0] rfl ?_
  exact j_14 bigN S3 v2 v2 v4 h
set_option maxRecDepth 20000 in
set_option maxHeartbeats 4000000 in
theorem k_X23_along (l : Launch) (D : va_G) (K : Ky) (m9 : Nat) (mr : Nat → Nat) (S0 Sf : Sg) (x1 : Int32) (x2 : Int32) (rf : Int32) (h : f_along K S0 x1 x2 = some (Sf, rf)) : CT l D K m9 mr yX23_along (Cond.code yX23_along cX23_along 5 (some .int)) (1) (20) S0 Sf [.ref m9, .int x1, .int x2] (some (.int rf)) := by
  refine x_start (cc := cX23_along) (lv := [(0, .ref m9), (1, .int x1), (2, .int x2)]) rfl rfl (by decide) (by simp [lv_args, cat_rf, cat_i, cat_l, cat_a]) (by simp [lg_sl, cat_rf, cat_i, cat_l, cat_a]) (fun p e R s m args below meth c Q A C => ?_)
  have j_5 : ∀ (n_5 : Nat) (S : Sg) (x2 : Int32) (x3 : Int32) (x4 : Int32), f_along_5 K n_5 S x2 x3 x4 = some (Sf, rf) → WX p l e R s m args below meth c Q D A K m9 mr 5 S0 S 5 [(0, .ref m9), (2, .int x2), (3, .int x3), (4, .int x4)] [] := by
    intro n_5
    induction n_5 with
    | zero => intro S x2 x3 x4 h; unfold f_along_5 at h; cases h
    | succ n_5 ih_5 =>
      intro S x2 x3 x4 h
      unfold f_along_5 at h
      refine x_iload C eX23_along_5 3 rfl ?_
      refine x_iload_n C eX23_along_7 rfl 1 rfl ?_
      refine x_ic_ge (tgt := 24) C eX23_along_8 (by decide) h (fun h => ?_) (fun h => ?_)
      · refine x_iload_n C eX23_along_24 rfl 2 rfl ?_
        exact x_iret C rfl rfl eX23_along_25 h
      · refine x_tload_n C eX23_along_11 rfl 0 rfl ?_
        refine x_mV (k9 := 63) C (by decide) ww_739 eX23_along_12 rfl ?_
        refine x_iload_n C eX23_along_15 rfl 2 rfl ?_
        refine x_rI (r := 63) C (by decide) rfl eX23_along_16 h (fun v1 h => ?_)
        refine x_istore_n (lv2 := [(0, .ref m9), (2, .int x2), (4, .int x4)]) C eX23_along_17 rfl (by decide) rfl (oky rfl (oky rfl (oky rfl ok0))) ?_
        refine x_iinc (j := 3) (v := 1) (lv2 := [(3, .int v1), (0, .ref m9), (2, .int x2)]) C eX23_along_18 rfl (by decide) (by decide) rfl (oky rfl (oky rfl (oky rfl ok0))) ?_
        refine x_goto (tgt := 5) C eX23_along_21 (by decide) ?_
        refine x_sub [2, 3, 1, 0] rfl ?_
        exact ih_5 S x2 v1 (x4 + 1) h
  unfold f_along at h
  refine x_iload_n C eX23_along_0 rfl 1 rfl ?_
  refine x_istore_n (lv2 := [(0, .ref m9), (1, .int x1), (2, .int x2)]) C eX23_along_1 rfl (by decide) rfl (oky rfl (oky rfl (oky rfl ok0))) ?_
  refine x_iconst (v := 0) C eX23_along_2 (by decide) ?_
  refine x_istore (lv2 := [(3, .int x1), (0, .ref m9), (1, .int x1), (2, .int x2)]) C eX23_along_3 (by decide) rfl (oky rfl (oky rfl (oky rfl (oky rfl ok0)))) ?_
  refine x_sub [2, 4, 1, 0] rfl ?_
  exact j_5 bigN S0 x2 x1 0 h
set_option maxRecDepth 20000 in
set_option maxHeartbeats 4000000 in
theorem k_X23_partOf (l : Launch) (D : va_G) (K : Ky) (m9 : Nat) (mr : Nat → Nat) (S0 Sf : Sg) (x1 : Option Nat) (x2 : Int32) (x3 : Int32) (rf : Int32) (h : f_partOf K S0 x1 x2 x3 = some (Sf, rf)) : CT l D K m9 mr yX23_partOf (Cond.code yX23_partOf cX23_partOf 6 (some .int)) (2) (44) S0 Sf [.ref m9, va_rf x1, .int x2, .int x3] (some (.int rf)) := by
  refine x_start (cc := cX23_partOf) (lv := [(0, .ref m9), (1, va_rf x1), (2, .int x2), (3, .int x3)]) rfl rfl (by decide) (by simp [lv_args, cat_rf, cat_i, cat_l, cat_a]) (by simp [lg_sl, cat_rf, cat_i, cat_l, cat_a]) (fun p e R s m args below meth c Q A C => ?_)
  have j_6 : ∀ (n_6 : Nat) (S : Sg) (x1 : Option Nat) (x2 : Int32) (x3 : Int32) (x4 : Int32) (x5 : Int32), f_partOf_6 K n_6 S x1 x2 x3 x4 x5 = some (Sf, rf) → WX p l e R s m args below meth c Q D A K m9 mr 6 S0 S 6 [(0, .ref m9), (1, va_rf x1), (2, .int x2), (3, .int x3), (4, .int x4), (5, .int x5)] [] := by
    intro n_6
    induction n_6 with
    | zero => intro S x1 x2 x3 x4 x5 h; unfold f_partOf_6 at h; cases h
    | succ n_6 ih_6 =>
      intro S x1 x2 x3 x4 x5 h
      unfold f_partOf_6 at h
      refine x_iload C eX23_partOf_6 5 rfl ?_
      refine x_iload_n C eX23_partOf_8 rfl 3 rfl ?_
      refine x_ic_ge (tgt := 31) C eX23_partOf_9 (by decide) h (fun h => ?_) (fun h => ?_)
      · refine x_tload_n C eX23_partOf_31 rfl 0 rfl ?_
        refine x_iload_n C eX23_partOf_32 rfl 2 rfl ?_
        refine x_iload C eX23_partOf_33 4 rfl ?_
        refine x_cVi (As := [.int x2, .int x4]) (st := []) (n := 2) (frc := 1) (loc := 20) C h (fun S9 r9 e9 => k_X23_along l D K m9 mr _ S9 x2 x4 r9 e9) ww_752 ww_754 ww_755 ww_756 ww_16 (by decide +kernel) rfl ⟨by omega, by omega⟩ (Nat.le_of_ble_eq_true rfl) eX23_partOf_35 (fun S1 v2 h => ?_)
        exact x_iret C rfl rfl eX23_partOf_38 h
      · refine x_iload C eX23_partOf_12 4 rfl ?_
        refine x_tload_n C eX23_partOf_14 rfl 0 rfl ?_
        refine x_aload_n C eX23_partOf_15 rfl 1 rfl ?_
        refine x_iload C eX23_partOf_16 5 rfl ?_
        refine x_aQ (t9 := 4) C rfl eX23_partOf_18 h (fun v3 h => ?_)
        refine x_cVi (As := [va_rf v3]) (st := [.int x4]) (n := 1) (frc := 1) (loc := 20) C h (fun S9 r9 e9 => k_X23_leavesOf l D K m9 mr _ S9 v3 r9 e9) ww_744 ww_749 ww_750 ww_751 ww_16 (by decide +kernel) rfl ⟨by omega, by omega⟩ (Nat.le_of_ble_eq_true rfl) eX23_partOf_19 (fun S4 v5 h => ?_)
        refine x_iadd C eX23_partOf_22 ?_
        refine x_istore (lv2 := [(0, .ref m9), (1, va_rf x1), (2, .int x2), (3, .int x3), (5, .int x5)]) C eX23_partOf_23 (by decide) rfl (oky rfl (oky (cat_rf x1) (oky rfl (oky rfl (oky rfl ok0))))) ?_
        refine x_iinc (j := 5) (v := 1) (lv2 := [(4, .int (x4 + v5)), (0, .ref m9), (1, va_rf x1), (2, .int x2), (3, .int x3)]) C eX23_partOf_25 rfl (by decide) (by decide) rfl (oky rfl (oky rfl (oky (cat_rf x1) (oky rfl (oky rfl ok0))))) ?_
        refine x_goto (tgt := 6) C eX23_partOf_28 (by decide) ?_
        refine x_sub [2, 3, 4, 5, 1, 0] rfl ?_
        exact ih_6 S4 x1 x2 x3 (x4 + v5) (x5 + 1) h
  unfold f_partOf at h
  refine x_iconst (v := 0) C eX23_partOf_0 (by decide) ?_
  refine x_istore (lv2 := [(0, .ref m9), (1, va_rf x1), (2, .int x2), (3, .int x3)]) C eX23_partOf_1 (by decide) rfl (oky rfl (oky (cat_rf x1) (oky rfl (oky rfl ok0)))) ?_
  refine x_iconst (v := 0) C eX23_partOf_3 (by decide) ?_
  refine x_istore (lv2 := [(4, .int 0), (0, .ref m9), (1, va_rf x1), (2, .int x2), (3, .int x3)]) C eX23_partOf_4 (by decide) rfl (oky rfl (oky rfl (oky (cat_rf x1) (oky rfl (oky rfl ok0))))) ?_
  refine x_sub [2, 3, 4, 5, 1, 0] rfl ?_
  exact j_6 bigN S0 x1 x2 x3 0 0 h
set_option maxRecDepth 20000 in
set_option maxHeartbeats 4000000 in
theorem k_X23_freePlace (l : Launch) (D : va_G) (K : Ky) (m9 : Nat) (mr : Nat → Nat) (S0 Sf : Sg) (x1 : Option Nat) (x2 : Int32) (rf : Unit) (h : f_freePlace K S0 x1 x2 = some (Sf, rf)) : CT l D K m9 mr yX23_freePlace (Cond.code yX23_freePlace cX23_freePlace 6 none) (2) (41) S0 Sf [.ref m9, va_rf x1, .int x2] none := by
  refine x_start (cc := cX23_freePlace) (lv := [(0, .ref m9), (1, va_rf x1), (2, .int x2)]) rfl rfl (by decide) (by simp [lv_args, cat_rf, cat_i, cat_l, cat_a]) (by simp [lg_sl, cat_rf, cat_i, cat_l, cat_a]) (fun p e R s m args below meth c Q A C => ?_)
  have j_9 : ∀ (n_9 : Nat) (S : Sg) (x3 : Int32) (x4 : Int32), f_freePlace_9 K n_9 S x3 x4 = some (Sf, rf) → WX p l e R s m args below meth c Q D A K m9 mr 6 S0 S 9 [(0, .ref m9), (3, .int x3), (4, .int x4)] [] := by
    intro n_9
    induction n_9 with
    | zero => intro S x3 x4 h; unfold f_freePlace_9 at h; cases h
    | succ n_9 ih_9 =>
      intro S x3 x4 h
      unfold f_freePlace_9 at h
      refine x_iload C eX23_freePlace_9 2 rfl ?_
      refine x_if_le (tgt := 36) C eX23_freePlace_11 (by decide) h (fun h => ?_) (fun h => ?_)
      · exact x_vret C rfl rfl eX23_freePlace_36 h
      · refine x_tload_n C eX23_freePlace_14 rfl 0 rfl ?_
        refine x_mV (k9 := 63) C (by decide) ww_739 eX23_freePlace_15 rfl ?_
        refine x_iload_n C eX23_freePlace_18 rfl 1 rfl ?_
        refine x_rI (r := 63) C (by decide) rfl eX23_freePlace_19 h (fun v3 h => ?_)
        refine x_istore (lv2 := [(0, .ref m9), (3, .int x3), (4, .int x4)]) C eX23_freePlace_20 (by decide) rfl (oky rfl (oky rfl (oky rfl ok0))) ?_
        refine x_tload_n C eX23_freePlace_22 rfl 1 rfl ?_
        refine x_iload_n C eX23_freePlace_23 rfl 2 rfl ?_
        refine x_cVv (As := [.int x3]) (st := []) (n := 1) (frc := 1) (loc := 20) C h (fun S9 r9 e9 => k_X23_freeNode l D K m9 mr _ S9 x3 r9 e9) ww_743 ww_758 ww_759 ww_760 ww_16 (by decide +kernel) rfl ⟨by omega, by omega⟩ (Nat.le_of_ble_eq_true rfl) eX23_freePlace_24 (fun S4 v5 h => ?_)
        refine x_iload C eX23_freePlace_27 0 rfl ?_
        refine x_istore_n (lv2 := [(5, .int v3), (0, .ref m9), (4, .int x4)]) C eX23_freePlace_29 rfl (by decide) rfl (oky rfl (oky rfl (oky rfl ok0))) ?_
        refine x_iinc (j := 3) (v := (-1)) (lv2 := [(3, .int v3), (5, .int v3), (0, .ref m9)]) C eX23_freePlace_30 rfl (by decide) (by decide) rfl (oky rfl (oky rfl (oky rfl ok0))) ?_
        refine x_goto (tgt := 9) C eX23_freePlace_33 (by decide) ?_
        refine x_sub [3, 1, 0] rfl ?_
        exact ih_9 S4 v3 (x4 + (-1)) h
  unfold f_freePlace at h
  refine x_iload_n C eX23_freePlace_0 rfl 2 rfl ?_
  refine x_istore_n (lv2 := [(0, .ref m9), (1, va_rf x1), (2, .int x2)]) C eX23_freePlace_1 rfl (by decide) rfl (oky rfl (oky (cat_rf x1) (oky rfl ok0))) ?_
  refine x_tload_n C eX23_freePlace_2 rfl 1 rfl ?_
  refine x_aload_n C eX23_freePlace_3 rfl 2 rfl ?_
  refine x_cVi (As := [va_rf x1]) (st := []) (n := 1) (frc := 1) (loc := 20) C h (fun S9 r9 e9 => k_X23_leavesOf l D K m9 mr _ S9 x1 r9 e9) ww_744 ww_749 ww_750 ww_751 ww_16 (by decide +kernel) rfl ⟨by omega, by omega⟩ (Nat.le_of_ble_eq_true rfl) eX23_freePlace_4 (fun S1 v2 h => ?_)
  refine x_istore (lv2 := [(3, .int x2), (0, .ref m9), (1, va_rf x1), (2, .int x2)]) C eX23_freePlace_7 (by decide) rfl (oky rfl (oky rfl (oky (cat_rf x1) (oky rfl ok0)))) ?_
  refine x_sub [2, 1, 0] rfl ?_
  exact j_9 bigN S1 x2 v2 h
set_option maxRecDepth 20000 in
set_option maxHeartbeats 4000000 in
theorem k_X23_setPlace (l : Launch) (D : va_G) (K : Ky) (m9 : Nat) (mr : Nat → Nat) (S0 Sf : Sg) (x1 : Option Nat) (x2 : Int32) (x3 : Int64) (rf : Unit) (h : f_setPlace K S0 x1 x2 x3 = some (Sf, rf)) : CT l D K m9 mr yX23_setPlace (Cond.code yX23_setPlace cX23_setPlace 9 none) (2) (41) S0 Sf [.ref m9, va_rf x1, .int x2, .long x3] none := by
  refine x_start (cc := cX23_setPlace) (lv := [(0, .ref m9), (1, va_rf x1), (2, .int x2), (3, .long x3)]) rfl rfl (by decide) (by simp [lv_args, cat_rf, cat_i, cat_l, cat_a]) (by simp [lg_sl, cat_rf, cat_i, cat_l, cat_a]) (fun p e R s m args below meth c Q A C => ?_)
  have j_37 : ∀ (n_37 : Nat) (S : Sg) (x5 : Int32) (x6 : Int32) (x7 : Int32), f_setPlace_37 K n_37 S x5 x6 x7 = some (Sf, rf) → WX p l e R s m args below meth c Q D A K m9 mr 9 S0 S 37 [(0, .ref m9), (5, .int x5), (6, .int x6), (7, .int x7)] [] := by
    intro n_37
    induction n_37 with
    | zero => intro S x5 x6 x7 h; unfold f_setPlace_37 at h; cases h
    | succ n_37 ih_37 =>
      intro S x5 x6 x7 h
      unfold f_setPlace_37 at h
      refine x_iload C eX23_setPlace_37 3 rfl ?_
      refine x_if_le (tgt := 98) C eX23_setPlace_39 (by decide) h (fun h => ?_) (fun h => ?_)
      · exact x_vret C rfl rfl eX23_setPlace_98 h
      · refine x_tload_n C eX23_setPlace_42 rfl 0 rfl ?_
        refine x_mV (k9 := 61) C (by decide) ww_741 eX23_setPlace_43 rfl ?_
        refine x_iload C eX23_setPlace_46 2 rfl ?_
        refine x_tload_n C eX23_setPlace_48 rfl 0 rfl ?_
        refine x_mV (k9 := 61) C (by decide) ww_741 eX23_setPlace_49 rfl ?_
        refine x_iload C eX23_setPlace_52 1 rfl ?_
        refine x_rJ (r := 61) C (by decide) rfl eX23_setPlace_54 h (fun v6 h => ?_)
        refine x_wJ (r := 61) C (by decide) rfl eX23_setPlace_55 h (fun S7 h => ?_)
        refine x_tload_n C eX23_setPlace_56 rfl 0 rfl ?_
        refine x_mV (k9 := 62) C (by decide) ww_742 eX23_setPlace_57 rfl ?_
        refine x_iload C eX23_setPlace_60 2 rfl ?_
        refine x_iconst (v := 1) C eX23_setPlace_62 (by decide) ?_
        refine x_wZ (r := 62) C (by decide) rfl eX23_setPlace_63 h (fun S8 h => ?_)
        refine x_tload_n C eX23_setPlace_64 rfl 0 rfl ?_
        refine x_mV (k9 := 63) C (by decide) ww_739 eX23_setPlace_65 rfl ?_
        refine x_iload C eX23_setPlace_68 1 rfl ?_
        refine x_rI (r := 63) C (by decide) rfl eX23_setPlace_70 h (fun v9 h => ?_)
        refine x_istore (lv2 := [(0, .ref m9), (5, .int x5), (6, .int x6), (7, .int x7)]) C eX23_setPlace_71 (by decide) rfl (oky rfl (oky rfl (oky rfl (oky rfl ok0)))) ?_
        refine x_tload_n C eX23_setPlace_73 rfl 1 rfl ?_
        refine x_iload C eX23_setPlace_74 2 rfl ?_
        refine x_cVv (As := [.int x5]) (st := []) (n := 1) (frc := 1) (loc := 20) C h (fun S9 r9 e9 => k_X23_freeNode l D K m9 mr _ S9 x5 r9 e9) ww_743 ww_758 ww_759 ww_760 ww_16 (by decide +kernel) rfl ⟨by omega, by omega⟩ (Nat.le_of_ble_eq_true rfl) eX23_setPlace_76 (fun S10 v11 h => ?_)
        refine x_iload C eX23_setPlace_79 0 rfl ?_
        refine x_istore (lv2 := [(8, .int v9), (0, .ref m9), (6, .int x6), (7, .int x7)]) C eX23_setPlace_81 (by decide) rfl (oky rfl (oky rfl (oky rfl (oky rfl ok0)))) ?_
        refine x_tload_n C eX23_setPlace_83 rfl 2 rfl ?_
        refine x_mV (k9 := 63) C (by decide) ww_739 eX23_setPlace_84 rfl ?_
        refine x_iload C eX23_setPlace_87 3 rfl ?_
        refine x_rI (r := 63) C (by decide) rfl eX23_setPlace_89 h (fun v12 h => ?_)
        refine x_istore (lv2 := [(5, .int v9), (8, .int v9), (0, .ref m9), (7, .int x7)]) C eX23_setPlace_90 (by decide) rfl (oky rfl (oky rfl (oky rfl (oky rfl ok0)))) ?_
        refine x_iinc (j := 4) (v := (-1)) (lv2 := [(6, .int v12), (5, .int v9), (8, .int v9), (0, .ref m9)]) C eX23_setPlace_92 rfl (by decide) (by decide) rfl (oky rfl (oky rfl (oky rfl (oky rfl ok0)))) ?_
        refine x_goto (tgt := 37) C eX23_setPlace_95 (by decide) ?_
        refine x_sub [4, 2, 1, 0] rfl ?_
        exact ih_37 S10 v9 v12 (x7 + (-1)) h
  unfold f_setPlace at h
  refine x_aload_n C eX23_setPlace_0 rfl 1 rfl ?_
  refine x_gI (o9 := x1) (ci := 20) (k9 := 0) (Cn := RX20) (T := TX20) (N := 4) C rfl wt_X20 (by decide) ww_247 eX23_setPlace_1 h (fun v1 h => ?_)
  refine x_iconst (v := 3) C eX23_setPlace_4 (by decide) ?_
  refine x_ic_eq (tgt := 23) C eX23_setPlace_5 (by decide) h (fun h => ?_) (fun h => ?_)
  · refine x_lload_n C eX23_setPlace_23 rfl 3 rfl ?_
    refine x_l2i C eX23_setPlace_24 ?_
    refine x_istore (lv2 := [(0, .ref m9), (1, va_rf x1), (2, .int x2), (3, .long x3)]) C eX23_setPlace_25 (by decide) rfl (oky rfl (oky (cat_rf x1) (oky rfl (okn (Nat.ne_of_beq_eq_false rfl) ok0)))) ?_
    refine x_iload_n C eX23_setPlace_27 rfl 3 rfl ?_
    refine x_istore (lv2 := [(5, .int (Int64.toInt32 x3)), (0, .ref m9), (1, va_rf x1), (2, .int x2), (3, .long x3)]) C eX23_setPlace_28 (by decide) rfl (oky rfl (oky rfl (oky (cat_rf x1) (oky rfl (okn (Nat.ne_of_beq_eq_false rfl) ok0))))) ?_
    refine x_tload_n C eX23_setPlace_30 rfl 2 rfl ?_
    refine x_aload_n C eX23_setPlace_31 rfl 3 rfl ?_
    refine x_cVi (As := [va_rf x1]) (st := []) (n := 1) (frc := 1) (loc := 20) C h (fun S9 r9 e9 => k_X23_leavesOf l D K m9 mr _ S9 x1 r9 e9) ww_744 ww_749 ww_750 ww_751 ww_16 (by decide +kernel) rfl ⟨by omega, by omega⟩ (Nat.le_of_ble_eq_true rfl) eX23_setPlace_32 (fun S2 v3 h => ?_)
    refine x_istore (lv2 := [(6, .int x2), (5, .int (Int64.toInt32 x3)), (0, .ref m9), (1, va_rf x1), (2, .int x2), (3, .long x3)]) C eX23_setPlace_35 (by decide) rfl (oky rfl (oky rfl (oky rfl (oky (cat_rf x1) (oky rfl (okn (Nat.ne_of_beq_eq_false rfl) ok0)))))) ?_
    refine x_sub [3, 2, 1, 0] rfl ?_
    exact j_37 bigN S2 (Int64.toInt32 x3) x2 v3 h
  · refine x_tload_n C eX23_setPlace_8 rfl 0 rfl ?_
    refine x_mV (k9 := 61) C (by decide) ww_741 eX23_setPlace_9 rfl ?_
    refine x_iload_n C eX23_setPlace_12 rfl 2 rfl ?_
    refine x_lload_n C eX23_setPlace_13 rfl 3 rfl ?_
    refine x_wJ (r := 61) C (by decide) rfl eX23_setPlace_14 h (fun S4 h => ?_)
    refine x_tload_n C eX23_setPlace_15 rfl 0 rfl ?_
    refine x_mV (k9 := 62) C (by decide) ww_742 eX23_setPlace_16 rfl ?_
    refine x_iload_n C eX23_setPlace_19 rfl 2 rfl ?_
    refine x_iconst (v := 1) C eX23_setPlace_20 (by decide) ?_
    refine x_wZ (r := 62) C (by decide) rfl eX23_setPlace_21 h (fun S5 h => ?_)
    exact x_vret C rfl rfl eX23_setPlace_22 h
set_option maxRecDepth 20000 in
set_option maxHeartbeats 4000000 in
theorem k_X23_takePlace (l : Launch) (D : va_G) (K : Ky) (m9 : Nat) (mr : Nat → Nat) (S0 Sf : Sg) (x1 : Option Nat) (x2 : Int32) (rf : Int64) (h : f_takePlace K S0 x1 x2 = some (Sf, rf)) : CT l D K m9 mr yX23_takePlace (Cond.code yX23_takePlace cX23_takePlace 7 (some .long)) (3) (66) S0 Sf [.ref m9, va_rf x1, .int x2] (some (.long rf)) := by
  refine x_start (cc := cX23_takePlace) (lv := [(0, .ref m9), (1, va_rf x1), (2, .int x2)]) rfl rfl (by decide) (by simp [lv_args, cat_rf, cat_i, cat_l, cat_a]) (by simp [lg_sl, cat_rf, cat_i, cat_l, cat_a]) (fun p e R s m args below meth c Q A C => ?_)
  have j_41 : ∀ (n_41 : Nat) (S : Sg) (x3 : Int32) (x4 : Int32) (x5 : Int32) (x6 : Int32), f_takePlace_41 K n_41 S x3 x4 x5 x6 = some (Sf, rf) → WX p l e R s m args below meth c Q D A K m9 mr 7 S0 S 41 [(0, .ref m9), (3, .int x3), (4, .int x4), (5, .int x5), (6, .int x6)] [] := by
    intro n_41
    induction n_41 with
    | zero => intro S x3 x4 x5 x6 h; unfold f_takePlace_41 at h; cases h
    | succ n_41 ih_41 =>
      intro S x3 x4 x5 x6 h
      unfold f_takePlace_41 at h
      refine x_iload C eX23_takePlace_41 4 rfl ?_
      refine x_if_le (tgt := 100) C eX23_takePlace_43 (by decide) h (fun h => ?_) (fun h => ?_)
      · refine x_iload_n C eX23_takePlace_100 rfl 1 rfl ?_
        refine x_i2l C eX23_takePlace_101 ?_
        exact x_lret C rfl rfl eX23_takePlace_102 h
      · refine x_tload_n C eX23_takePlace_46 rfl 0 rfl ?_
        refine x_mV (k9 := 61) C (by decide) ww_741 eX23_takePlace_47 rfl ?_
        refine x_iload C eX23_takePlace_50 2 rfl ?_
        refine x_tload_n C eX23_takePlace_52 rfl 0 rfl ?_
        refine x_mV (k9 := 61) C (by decide) ww_741 eX23_takePlace_53 rfl ?_
        refine x_iload C eX23_takePlace_56 3 rfl ?_
        refine x_rJ (r := 61) C (by decide) rfl eX23_takePlace_58 h (fun v8 h => ?_)
        refine x_wJ (r := 61) C (by decide) rfl eX23_takePlace_59 h (fun S9 h => ?_)
        refine x_tload_n C eX23_takePlace_60 rfl 0 rfl ?_
        refine x_mV (k9 := 62) C (by decide) ww_742 eX23_takePlace_61 rfl ?_
        refine x_iload C eX23_takePlace_64 2 rfl ?_
        refine x_iconst (v := 1) C eX23_takePlace_66 (by decide) ?_
        refine x_wZ (r := 62) C (by decide) rfl eX23_takePlace_67 h (fun S10 h => ?_)
        refine x_tload_n C eX23_takePlace_68 rfl 0 rfl ?_
        refine x_mV (k9 := 62) C (by decide) ww_742 eX23_takePlace_69 rfl ?_
        refine x_iload C eX23_takePlace_72 3 rfl ?_
        refine x_iconst (v := 0) C eX23_takePlace_74 (by decide) ?_
        refine x_wZ (r := 62) C (by decide) rfl eX23_takePlace_75 h (fun S11 h => ?_)
        refine x_tload_n C eX23_takePlace_76 rfl 0 rfl ?_
        refine x_mV (k9 := 63) C (by decide) ww_739 eX23_takePlace_77 rfl ?_
        refine x_iload C eX23_takePlace_80 2 rfl ?_
        refine x_rI (r := 63) C (by decide) rfl eX23_takePlace_82 h (fun v12 h => ?_)
        refine x_istore (lv2 := [(0, .ref m9), (3, .int x3), (5, .int x5), (6, .int x6)]) C eX23_takePlace_83 (by decide) rfl (oky rfl (oky rfl (oky rfl (oky rfl ok0)))) ?_
        refine x_tload_n C eX23_takePlace_85 rfl 1 rfl ?_
        refine x_mV (k9 := 63) C (by decide) ww_739 eX23_takePlace_86 rfl ?_
        refine x_iload C eX23_takePlace_89 3 rfl ?_
        refine x_rI (r := 63) C (by decide) rfl eX23_takePlace_91 h (fun v13 h => ?_)
        refine x_istore (lv2 := [(4, .int v12), (0, .ref m9), (3, .int x3), (6, .int x6)]) C eX23_takePlace_92 (by decide) rfl (oky rfl (oky rfl (oky rfl (oky rfl ok0)))) ?_
        refine x_iinc (j := 4) (v := (-1)) (lv2 := [(5, .int v13), (4, .int v12), (0, .ref m9), (3, .int x3)]) C eX23_takePlace_94 rfl (by decide) (by decide) rfl (oky rfl (oky rfl (oky rfl (oky rfl ok0)))) ?_
        refine x_goto (tgt := 41) C eX23_takePlace_97 (by decide) ?_
        refine x_sub [3, 4, 2, 1, 0] rfl ?_
        exact ih_41 S11 x3 v12 v13 (x6 + (-1)) h
  unfold f_takePlace at h
  refine x_aload_n C eX23_takePlace_0 rfl 1 rfl ?_
  refine x_gI (o9 := x1) (ci := 20) (k9 := 0) (Cn := RX20) (T := TX20) (N := 4) C rfl wt_X20 (by decide) ww_247 eX23_takePlace_1 h (fun v1 h => ?_)
  refine x_iconst (v := 3) C eX23_takePlace_4 (by decide) ?_
  refine x_ic_eq (tgt := 22) C eX23_takePlace_5 (by decide) h (fun h => ?_) (fun h => ?_)
  · refine x_tload_n C eX23_takePlace_22 rfl 0 rfl ?_
    refine x_aload_n C eX23_takePlace_23 rfl 1 rfl ?_
    refine x_cVi (As := [va_rf x1]) (st := []) (n := 1) (frc := 2) (loc := 41) C h (fun S9 r9 e9 => k_X23_newPlace l D K m9 mr _ S9 x1 r9 e9) ww_745 ww_763 ww_764 ww_765 ww_16 (by decide +kernel) rfl ⟨by omega, by omega⟩ (Nat.le_of_ble_eq_true rfl) eX23_takePlace_24 (fun S2 v3 h => ?_)
    refine x_istore_n (lv2 := [(0, .ref m9), (1, va_rf x1), (2, .int x2)]) C eX23_takePlace_27 rfl (by decide) rfl (oky rfl (oky (cat_rf x1) (oky rfl ok0))) ?_
    refine x_iload_n C eX23_takePlace_28 rfl 0 rfl ?_
    refine x_istore (lv2 := [(3, .int v3), (0, .ref m9), (1, va_rf x1), (2, .int x2)]) C eX23_takePlace_29 (by decide) rfl (oky rfl (oky rfl (oky (cat_rf x1) (oky rfl ok0)))) ?_
    refine x_iload_n C eX23_takePlace_31 rfl 4 rfl ?_
    refine x_istore (lv2 := [(4, .int v3), (3, .int v3), (0, .ref m9), (1, va_rf x1), (2, .int x2)]) C eX23_takePlace_32 (by decide) rfl (oky rfl (oky rfl (oky rfl (oky (cat_rf x1) (oky rfl ok0))))) ?_
    refine x_tload_n C eX23_takePlace_34 rfl 3 rfl ?_
    refine x_aload_n C eX23_takePlace_35 rfl 4 rfl ?_
    refine x_cVi (As := [va_rf x1]) (st := []) (n := 1) (frc := 1) (loc := 20) C h (fun S9 r9 e9 => k_X23_leavesOf l D K m9 mr _ S9 x1 r9 e9) ww_744 ww_749 ww_750 ww_751 ww_16 (by decide +kernel) rfl ⟨by omega, by omega⟩ (Nat.le_of_ble_eq_true rfl) eX23_takePlace_36 (fun S4 v5 h => ?_)
    refine x_istore (lv2 := [(5, .int x2), (4, .int v3), (3, .int v3), (0, .ref m9), (1, va_rf x1), (2, .int x2)]) C eX23_takePlace_39 (by decide) rfl (oky rfl (oky rfl (oky rfl (oky rfl (oky (cat_rf x1) (oky rfl ok0)))))) ?_
    refine x_sub [4, 3, 2, 1, 0] rfl ?_
    exact j_41 bigN S4 v3 v3 x2 v5 h
  · refine x_tload_n C eX23_takePlace_8 rfl 0 rfl ?_
    refine x_mV (k9 := 62) C (by decide) ww_742 eX23_takePlace_9 rfl ?_
    refine x_iload_n C eX23_takePlace_12 rfl 2 rfl ?_
    refine x_iconst (v := 0) C eX23_takePlace_13 (by decide) ?_
    refine x_wZ (r := 62) C (by decide) rfl eX23_takePlace_14 h (fun S6 h => ?_)
    refine x_tload_n C eX23_takePlace_15 rfl 0 rfl ?_
    refine x_mV (k9 := 61) C (by decide) ww_741 eX23_takePlace_16 rfl ?_
    refine x_iload_n C eX23_takePlace_19 rfl 2 rfl ?_
    refine x_rJ (r := 61) C (by decide) rfl eX23_takePlace_20 h (fun v7 h => ?_)
    exact x_lret C rfl rfl eX23_takePlace_21 h
set_option maxRecDepth 20000 in
set_option maxHeartbeats 4000000 in
theorem k_X23_leaf (l : Launch) (D : va_G) (K : Ky) (m9 : Nat) (mr : Nat → Nat) (S0 Sf : Sg) (x1 : Int64) (rf : Int32) (h : f_leaf K S0 x1 = some (Sf, rf)) : CT l D K m9 mr yX23_leaf (Cond.code yX23_leaf cX23_leaf 4 (some .int)) (2) (41) S0 Sf [.ref m9, .long x1] (some (.int rf)) := by
  refine x_start (cc := cX23_leaf) (lv := [(0, .ref m9), (1, .long x1)]) rfl rfl (by decide) (by simp [lv_args, cat_rf, cat_i, cat_l, cat_a]) (by simp [lg_sl, cat_rf, cat_i, cat_l, cat_a]) (fun p e R s m args below meth c Q A C => ?_)
  unfold f_leaf at h
  refine x_tload_n C eX23_leaf_0 rfl 0 rfl ?_
  refine x_cVi (As := []) (st := []) (n := 0) (frc := 1) (loc := 20) C h (fun S9 r9 e9 => k_X23_node l D K m9 mr _ S9 r9 e9) ww_737 ww_746 ww_747 ww_748 ww_16 (by decide +kernel) rfl ⟨by omega, by omega⟩ (Nat.le_of_ble_eq_true rfl) eX23_leaf_1 (fun S1 v2 h => ?_)
  refine x_istore_n (lv2 := [(0, .ref m9), (1, .long x1)]) C eX23_leaf_4 rfl (by decide) rfl (oky rfl (okn (Nat.ne_of_beq_eq_false rfl) ok0)) ?_
  refine x_tload_n C eX23_leaf_5 rfl 1 rfl ?_
  refine x_mV (k9 := 61) C (by decide) ww_741 eX23_leaf_6 rfl ?_
  refine x_iload_n C eX23_leaf_9 rfl 0 rfl ?_
  refine x_lload_n C eX23_leaf_10 rfl 2 rfl ?_
  refine x_wJ (r := 61) C (by decide) rfl eX23_leaf_11 h (fun S3 h => ?_)
  refine x_tload_n C eX23_leaf_12 rfl 1 rfl ?_
  refine x_mV (k9 := 62) C (by decide) ww_742 eX23_leaf_13 rfl ?_
  refine x_iload_n C eX23_leaf_16 rfl 0 rfl ?_
  refine x_iconst (v := 1) C eX23_leaf_17 (by decide) ?_
  refine x_wZ (r := 62) C (by decide) rfl eX23_leaf_18 h (fun S4 h => ?_)
  refine x_iload_n C eX23_leaf_19 rfl 0 rfl ?_
  exact x_iret C rfl rfl eX23_leaf_20 h
set_option maxRecDepth 20000 in
set_option maxHeartbeats 4000000 in
theorem k_X23_freshPlace (l : Launch) (D : va_G) (K : Ky) (m9 : Nat) (mr : Nat → Nat) (S0 Sf : Sg) (x1 : Option Nat) (x2 : Int64) (rf : Int32) (h : f_freshPlace K S0 x1 x2 = some (Sf, rf)) : CT l D K m9 mr yX23_freshPlace (Cond.code yX23_freshPlace cX23_freshPlace 4 (some .int)) (3) (64) S0 Sf [.ref m9, va_rf x1, .long x2] (some (.int rf)) := by
  refine x_start (cc := cX23_freshPlace) (lv := [(0, .ref m9), (1, va_rf x1), (2, .long x2)]) rfl rfl (by decide) (by simp [lv_args, cat_rf, cat_i, cat_l, cat_a]) (by simp [lg_sl, cat_rf, cat_i, cat_l, cat_a]) (fun p e R s m args below meth c Q A C => ?_)
  have j_18 : ∀ (S : Sg) (y0 : Int32), f_freshPlace_18 K S y0 = some (Sf, rf) → WX p l e R s m args below meth c Q D A K m9 mr 4 S0 S 18 [] [.int y0] := by
    intro S y0 h
    unfold f_freshPlace_18 at h
    exact x_iret C rfl rfl eX23_freshPlace_18 h
  unfold f_freshPlace at h
  refine x_aload_n C eX23_freshPlace_0 rfl 1 rfl ?_
  refine x_gI (o9 := x1) (ci := 20) (k9 := 0) (Cn := RX20) (T := TX20) (N := 4) C rfl wt_X20 (by decide) ww_247 eX23_freshPlace_1 h (fun v1 h => ?_)
  refine x_iconst (v := 3) C eX23_freshPlace_4 (by decide) ?_
  refine x_ic_ne (tgt := 13) C eX23_freshPlace_5 (by decide) h (fun h => ?_) (fun h => ?_)
  · refine x_tload_n C eX23_freshPlace_13 rfl 0 rfl ?_
    refine x_lload_n C eX23_freshPlace_14 rfl 2 rfl ?_
    refine x_cVi (As := [.long x2]) (st := []) (n := 1) (frc := 2) (loc := 41) C h (fun S9 r9 e9 => k_X23_leaf l D K m9 mr _ S9 x2 r9 e9) ww_766 ww_768 ww_769 ww_770 ww_16 (by decide +kernel) rfl ⟨by omega, by omega⟩ (Nat.le_of_ble_eq_true rfl) eX23_freshPlace_15 (fun S2 v3 h => ?_)
    refine x_sub [] rfl ?_
    exact j_18 S2 v3 h
  · refine x_lload_n C eX23_freshPlace_8 rfl 2 rfl ?_
    refine x_l2i C eX23_freshPlace_9 ?_
    refine x_goto (tgt := 18) C eX23_freshPlace_10 (by decide) ?_
    refine x_sub [] rfl ?_
    exact j_18 S0 (Int64.toInt32 x2) h
set_option maxRecDepth 20000 in
set_option maxHeartbeats 4000000 in
theorem k_X23_kidOf (l : Launch) (D : va_G) (K : Ky) (m9 : Nat) (mr : Nat → Nat) (S0 Sf : Sg) (x1 : Int32) (rf : Int32) (h : f_kidOf K S0 x1 = some (Sf, rf)) : CT l D K m9 mr yX23_kidOf (Cond.code yX23_kidOf cX23_kidOf 2 (some .int)) (1) (20) S0 Sf [.ref m9, .int x1] (some (.int rf)) := by
  refine x_start (cc := cX23_kidOf) (lv := [(0, .ref m9), (1, .int x1)]) rfl rfl (by decide) (by simp [lv_args, cat_rf, cat_i, cat_l, cat_a]) (by simp [lg_sl, cat_rf, cat_i, cat_l, cat_a]) (fun p e R s m args below meth c Q A C => ?_)
  unfold f_kidOf at h
  refine x_tload_n C eX23_kidOf_0 rfl 0 rfl ?_
  refine x_mV (k9 := 61) C (by decide) ww_741 eX23_kidOf_1 rfl ?_
  refine x_iload_n C eX23_kidOf_4 rfl 1 rfl ?_
  refine x_rJ (r := 61) C (by decide) rfl eX23_kidOf_5 h (fun v1 h => ?_)
  refine x_ldc2 C eX23_kidOf_6 ww_772 ?_
  refine x_land C eX23_kidOf_9 ?_
  refine x_l2i C eX23_kidOf_10 ?_
  exact x_iret C rfl rfl eX23_kidOf_11 h
set_option maxRecDepth 20000 in
set_option maxHeartbeats 4000000 in
theorem k_X23_variantOf_ (l : Launch) (D : va_G) (K : Ky) (m9 : Nat) (mr : Nat → Nat) (S0 Sf : Sg) (x1 : Int32) (rf : Int32) (h : f_variantOf_ K S0 x1 = some (Sf, rf)) : CT l D K m9 mr yX23_variantOf_ (Cond.code yX23_variantOf_ cX23_variantOf_ 2 (some .int)) (1) (20) S0 Sf [.ref m9, .int x1] (some (.int rf)) := by
  refine x_start (cc := cX23_variantOf_) (lv := [(0, .ref m9), (1, .int x1)]) rfl rfl (by decide) (by simp [lv_args, cat_rf, cat_i, cat_l, cat_a]) (by simp [lg_sl, cat_rf, cat_i, cat_l, cat_a]) (fun p e R s m args below meth c Q A C => ?_)
  unfold f_variantOf_ at h
  refine x_tload_n C eX23_variantOf__0 rfl 0 rfl ?_
  refine x_mV (k9 := 61) C (by decide) ww_741 eX23_variantOf__1 rfl ?_
  refine x_iload_n C eX23_variantOf__4 rfl 1 rfl ?_
  refine x_rJ (r := 61) C (by decide) rfl eX23_variantOf__5 h (fun v1 h => ?_)
  refine x_bipush (v := 20) C eX23_variantOf__6 (by decide) ?_
  refine x_lshr C eX23_variantOf__8 ?_
  refine x_ldc2 C eX23_variantOf__9 ww_772 ?_
  refine x_land C eX23_variantOf__12 ?_
  refine x_l2i C eX23_variantOf__13 ?_
  exact x_iret C rfl rfl eX23_variantOf__14 h
